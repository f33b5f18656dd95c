set_option maxHeartbeats 4000000 in
set_option maxRecDepth 100000 in
theorem m_X6_matrixOf (l : Launch) (N : c_N) (h0 : Nat) (k0 : N.2.2.1 h0 = some 6) (p1 : Int32) (rp1 : ir p1 0 3) (p2 : Int32) (rp2 : ir p2 0 41) : cMr l yX6_matrixOf cX6_matrixOf 3 (.object "ThinCoats$Matrix") { frames := 0, cells := 0, slots := 0, locals := 0 } [.ref h0, .int p1, .int p2] N [] cT0 4 := by
  refine Met.ofW (cc := cX6_matrixOf) (maxL := 3) (ret := some (.object "ThinCoats$Matrix")) (by decide) rfl ?_
  intro p e s m args below meth c s₁ B hml hv
  obtain ⟨rfl, ⟨hK, hW, hT, hnn⟩, hB⟩ := hv
  have hx := B.exec
  have hb := B.bytes
  have hr := B.returns
  have hts : ∀ w ∈ lw_g, w.before _ s = true := fun w h => atoms_spec (ws := wc_ws yX6_matrixOf cX6_matrixOf 3 (some (.object "ThinCoats$Matrix"))) B.pre w (List.mem_cons_of_mem _ h)
  have hown : s.vm.findClass RX6 = some m.cls := findClass_of_methodNamed B.named
  have hlocks := B.notSynchronized
  have hS : va_S (cE N []) s.heap s.heap [] := va_S.rf
  have hl := lv_entry ([.ref h0, .int p1, .int p2]) (n := 3) (Nat.le_of_ble_eq_true rfl)
  rw [lg_entry_eq]
  generalize (lg_sl ([.ref h0, .int p1, .int p2]) ++ List.replicate (3 - (lg_sl ([.ref h0, .int p1, .int p2])).length) Slot.unset).toArray = ls at hl ⊢
  have hl : lv_has ls 3 [(0, .ref h0), (1, .int p1), (2, .int p2)] := hl
  refine wq_all ?_
  intro WW w1 w2
  refine lv_aload_n hx hb dX6_matrixOf_0 rfl (lv_at hl 0 rfl) ?_
  refine wt_get hx hb hts cfX6 hown hK hW (cg6 k0) rfl 0 (by decide) q209 dX6_matrixOf_1 (fun v hv => ?_)
  obtain ⟨x1, rfl, k1⟩ : gr N 34 v := hv
  refine lv_iload_n hx hb dX6_matrixOf_4 rfl (lv_at hl 1 rfl) ?_
  refine lv_bipush (v := 42) hx hb dX6_matrixOf_5 (by decide) ?_
  refine lv_imul hx hb dX6_matrixOf_7 ?_
  refine lv_topi (fun x7 e7 => ?_)
  have r7 : ir x7 0 126 := ir_w (it_mul e7 rp1 (ir_c (42) (by decide) : ir (42 : Int32) (42) (42)) (by decide) (by decide) (by decide)).2 (by decide) (by decide)
  refine lv_iload_n hx hb dX6_matrixOf_8 rfl (lv_at hl 2 rfl) ?_
  refine lv_iadd hx hb dX6_matrixOf_9 ?_
  refine lv_topi (fun x9 e9 => ?_)
  have t9 : x9.toInt = x7.toInt + p2.toInt := it_add e9 r7 rp2 (by decide) (by decide)
  have r9 : ir x9 0 167 := ir_w (ir_add e9 r7 rp2 (by decide) (by decide)) (by decide) (by decide)
  refine wt_aald hx hb hK hW 5 (cg34 k1) rfl (ir_in r9 (by decide) (by decide)) dX6_matrixOf_10 (fun v hv => ?_)
  obtain ⟨x10, rfl, k10⟩ : gr N 4 v := hv
  exact W.aret hx hb hr (Or.inl ⟨_, rfl⟩) (Or.inr ⟨_, rfl⟩) (fun t ht _ => ⟨⟨(), x10, rfl, trivial, k10, cW_at ht hW⟩, hS.F ht⟩) hS.2.2 dX6_matrixOf_11
set_option maxHeartbeats 4000000 in
set_option maxRecDepth 100000 in
theorem m_X6_fill (l : Launch) (N : c_N) (h0 : Nat) (k0 : N.2.2.1 h0 = some 6) (p1 : Nat) (kp1 : N.2.2.1 p1 = some 5) (p2 : Int32) (rp2 : ir p2 0 41) : cMv l yX6_fill cX6_fill 5 { frames := 3, cells := 0, slots := 0, locals := 84 } [.ref h0, .ref p1, .int p2] N [4, 8] cT0 cT0 := by
  refine Met.ofW (cc := cX6_fill) (maxL := 5) (ret := none) (by decide) rfl ?_
  intro p e s m args below meth c s₁ B hml hv
  obtain ⟨rfl, ⟨hK, hW, hT, hnn⟩, hB⟩ := hv
  have hx := B.exec
  have hb := B.bytes
  have hr := B.returns
  have hts : ∀ w ∈ lw_g, w.before _ s = true := fun w h => atoms_spec (ws := wc_ws yX6_fill cX6_fill 5 none) B.pre w (List.mem_cons_of_mem _ h)
  have hown : s.vm.findClass RX6 = some m.cls := findClass_of_methodNamed B.named
  have hlocks := B.notSynchronized
  have hS : va_S (cE N [4, 8]) s.heap s.heap [] := va_S.rf
  have hl := lv_entry ([.ref h0, .ref p1, .int p2]) (n := 5) (Nat.le_of_ble_eq_true rfl)
  rw [lg_entry_eq]
  generalize (lg_sl ([.ref h0, .ref p1, .int p2]) ++ List.replicate (5 - (lg_sl ([.ref h0, .ref p1, .int p2])).length) Slot.unset).toArray = ls at hl ⊢
  have hl : lv_has ls 5 [(0, .ref h0), (1, .ref p1), (2, .int p2)] := hl
  obtain ⟨s_THICK_P, hZ_THICK_P, hT_THICK_P⟩ := hT.1
  obtain ⟨s_THICK_Q, hZ_THICK_Q, hT_THICK_Q⟩ := hT.2.1
  refine wq_all ?_
  intro WW w1 w2
  have L8 : ∀ (n : Nat) (H : Heap) (locs : List Loc) (ls : Array Slot) (v8_3 : Int32) (v8_4 : Int32), cW N H → va_S (cE N [4, 8]) s.heap H locs → lv_has ls 5 [(0, .ref h0), (1, .ref p1), (2, .int p2), (3, .int v8_3), (4, .int v8_4)] → ir p2 0 41 → ir v8_3 0 6 → ir v8_4 0 4 → 4 - v8_4.toInt < (n : Int) → WW H locs (F0 m 8 ls []) := by
    intro n
    induction n with
    | zero =>
      intro H locs ls v8_3 v8_4 hW hS hl rv8_2 rv8_3 rv8_4 mu8
      exfalso
      omega
    | succ n ih8 =>
      intro H locs ls v8_3 v8_4 hW hS hl rv8_2 rv8_3 rv8_4 mu8
      have J75 : ∀ (H : Heap) (locs : List Loc) (ls : Array Slot) (u75_0 : Int32), cW N H → va_S (cE N [4, 8]) s.heap H locs → lv_has ls 5 [(0, .ref h0), (1, .ref p1), (2, .int p2), (3, .int v8_3), (4, .int v8_4)] → ir p2 0 41 → ir v8_3 0 6 → ir v8_4 0 3 → wt_pin N.1 vwCl h0 6 4 (.int u75_0) H → WW H locs (F0 m 75 ls []) := by
        intro H locs ls u75_0 hW hS hl rv75_2 rv75_3 rv75_4 nh0_4
        refine w1 _ _ _ ?_
        obtain ⟨x75, e75⟩ : ∃ y : Int32, y = v8_4 + 1 := ⟨_, rfl⟩
        have r75 : ir x75 1 4 := ir_w (ir_add e75 rv75_4 (ir_c (1) (by decide) : ir (1 : Int32) (1) (1)) (by decide) (by decide)) (by decide) (by decide)
        have t75 : x75.toInt = v8_4.toInt + (1) := it_add e75 rv75_4 (ir_c (1) (by decide) : ir (1 : Int32) (1) (1)) (by decide) (by decide)
        refine lv_iinc (v := x75) (lv' := [(4, .int x75), (0, .ref h0), (1, .ref p1), (2, .int p2), (3, .int v8_3)]) hx hb dX6_fill_75 hl (k := 4) rfl (by rw [e75]; rfl) (by decide) rfl (fun ls hl => ?_)
        refine lv_goto (tgt := 8) hx hb dX6_fill_78 (by decide) ?_
        exact w2 _ _ _ (ih8 _ _ _ v8_3 x75 hW hS (lv_sub hl [1, 2, 3, 4, 0] rfl) rv75_2 rv75_3 (ir_w (lo' := 0) (hi' := 4) r75 (by decide) (by decide)) (by have h9 := r75; omega))
      refine w1 _ _ _ ?_
      refine lv_iload hx hb dX6_fill_8 (lv_at hl 4 rfl) ?_
      refine lv_iconst (v := 4) hx hb dX6_fill_10 (by decide) ?_
      refine lv_icmp_ge (tgt := 81) hx hb dX6_fill_11 (by decide) (fun c11 => ?_) (fun c11 => ?_)
      · have rv8_4_11 : ir v8_4 4 4 := ⟨Int.le_trans (by decide) (rf_le c11 (ir_c (4) (by decide) : ir (4 : Int32) (4) (4)) rv8_4).2, (rv8_4).2⟩
        exact W.vret hx hb hr (fun t ht _ => ⟨⟨(), rfl, trivial, cW_at ht hW, trivial⟩, hS.F ht⟩) hS.2.2 dX6_fill_81
      · have rv8_4_11 : ir v8_4 0 3 := ⟨(rv8_4).1, Int.le_trans (rf_lt (rf_nle c11) rv8_4 (ir_c (4) (by decide) : ir (4 : Int32) (4) (4))).1 (by decide)⟩
        refine lv_aload_n hx hb dX6_fill_14 rfl (lv_at hl 0 rfl) ?_
        refine wt_getp hx hb hts cfX6 hown hK hW (cg6 k0) rfl 4 (by decide) (Or.inl (hts _ q217)) dX6_fill_15 (fun v hv nh0_4 => ?_)
        obtain ⟨x15, rfl⟩ : ga v := hv
        refine lv_iload hx hb dX6_fill_18 (lv_at hl 4 rfl) ?_
        refine cp_i (wt_runSN (As := [.int x15, .int v8_4]) (rest := []) ⟨hx, hb, hml, hown, hts⟩ hnn (m_X10_isInSet l x15 v8_4) wm_X10_isInSet q746 ⟨rfl, rfl⟩ ⟨Nat.le_of_ble_eq_true rfl, Nat.le_of_ble_eq_true rfl⟩ pS_pre rfl hl.1 rfl (Nat.le_of_ble_eq_true rfl) dX6_fill_20 ⟨Nat.zero_le _, Nat.zero_le _⟩) hW hS (fun x20 H locs hp hW hS oq => ?_)
        have nh0_4 := nh0_4.kept (oq _ nh0_4.lt (cE_not k0 (by decide)))
        have r20 : ir x20 0 1 := hp
        refine lv_if_eq (tgt := 75) hx hb dX6_fill_23 (by decide) (fun c23 => ?_) (fun c23 => ?_)
        · have rx20_23 : ir x20 0 0 := rf_eq c23 (ir_c (0) (by decide) : ir (0 : Int32) (0) (0))
          exact w2 _ _ _ (J75 _ _ _ x15 hW hS (lv_sub hl [0, 1, 2, 3, 4] rfl) rv8_2 rv8_3 rv8_4_11 nh0_4)
        · have rx20_23 : ir x20 1 1 := rf_ne0 c23 r20
          refine lv_aload_n hx hb dX6_fill_26 rfl (lv_at hl 0 rfl) ?_
          refine wt_get hx hb hts cfX6 hown hK hW (cg6 k0) rfl 1 (by decide) q210 dX6_fill_27 (fun v hv => ?_)
          obtain ⟨x27, rfl, k27⟩ : gr N 8 v := hv
          refine va_getsN hx hb hZ_THICK_P (hS.up cE_cA) hown (lw_n_use hnn q751) (fun _ h9 => h9) dX6_fill_30 ?_
          refine lv_iload_n hx hb dX6_fill_33 rfl (lv_at hl 3 rfl) ?_
          refine va_ti hx hb hT_THICK_P (hS.up cE_cA) (ir_in rv8_3 (by decide) (by decide)) rfl dX6_fill_34 ?_
          refine lv_topi (fun x34 e34 => ?_)
          have r34 : ir x34 1 3 := by rw [e34]; exact tkP_r (ir_in rv8_3 (by decide) (by decide))
          refine lv_i2l hx hb dX6_fill_35 rfl ?_
          refine lv_topl (fun x35 e35 => ?_)
          have r35 : lr x35 1 3 := by rw [e35]; exact i2l_r r34
          refine va_getsN hx hb hZ_THICK_Q (hS.up cE_cA) hown (lw_n_use hnn q753) (fun _ h9 => h9) dX6_fill_36 ?_
          refine lv_iload_n hx hb dX6_fill_39 rfl (lv_at hl 3 rfl) ?_
          refine va_ti hx hb hT_THICK_Q (hS.up cE_cA) (ir_in rv8_3 (by decide) (by decide)) rfl dX6_fill_40 ?_
          refine lv_topi (fun x40 e40 => ?_)
          have r40 : ir x40 1 3 := by rw [e40]; exact tkQ_r (ir_in rv8_3 (by decide) (by decide))
          refine lv_i2l hx hb dX6_fill_41 rfl ?_
          refine lv_topl (fun x41 e41 => ?_)
          have r41 : lr x41 1 3 := by rw [e41]; exact i2l_r r40
          refine cc_v (wt_runV (As := [.long x35, .long x41]) (rest := []) ⟨hx, hb, hml, hown, hts⟩ (m_X8_set l N x27 k27 x35 x41) wm_X8_set q755 ⟨rfl, rfl⟩ ⟨Nat.le_of_ble_eq_true rfl, Nat.le_of_ble_eq_true rfl⟩ (cS_preV hK hW hT hnn hS (cg8 k27) rfl rfl trivial) rfl hl.1 rfl (Nat.le_of_ble_eq_true rfl) dX6_fill_42 ⟨Nat.zero_le _, Nat.zero_le _⟩) hS (by decide) (fun H locs hW hS oq hB2 => ?_)
          have nh0_4 := nh0_4.kept (oq _ nh0_4.lt (cE_not k0 (by decide)))
          refine lv_aload_n hx hb dX6_fill_45 rfl (lv_at hl 0 rfl) ?_
          refine wt_get hx hb hts cfX6 hown hK hW (cg6 k0) rfl 1 (by decide) q210 dX6_fill_46 (fun v hv => ?_)
          obtain ⟨x46, rfl, k46⟩ : gr N 8 v := hv
          refine lv_iload hx hb dX6_fill_49 (lv_at hl 4 rfl) ?_
          refine lv_iconst (v := 1) hx hb dX6_fill_51 (by decide) ?_
          refine lv_iadd hx hb dX6_fill_52 ?_
          refine lv_topi (fun x52 e52 => ?_)
          have t52 : x52.toInt = v8_4.toInt + (1) := it_add e52 rv8_4_11 (ir_c (1) (by decide) : ir (1 : Int32) (1) (1)) (by decide) (by decide)
          have r52 : ir x52 1 4 := ir_w (ir_add e52 rv8_4_11 (ir_c (1) (by decide) : ir (1 : Int32) (1) (1)) (by decide) (by decide)) (by decide) (by decide)
          refine cc_v (wt_runV (As := [.int x52]) (rest := []) ⟨hx, hb, hml, hown, hts⟩ (m_X8_raise l N x46 k46 x52 r52) wm_X8_raise q756 ⟨rfl, rfl⟩ ⟨Nat.le_of_ble_eq_true rfl, Nat.le_of_ble_eq_true rfl⟩ (cS_preV hK hW hT hnn hS (cg8 k46) rfl rfl trivial) rfl hl.1 rfl (Nat.le_of_ble_eq_true rfl) dX6_fill_53 ⟨Nat.zero_le _, Nat.zero_le _⟩) hS (by decide) (fun H locs hW hS oq hB2 => ?_)
          have nh0_4 := nh0_4.kept (oq _ nh0_4.lt (cE_not k0 (by decide)))
          refine lv_aload_n hx hb dX6_fill_56 rfl (lv_at hl 0 rfl) ?_
          refine lv_iload hx hb dX6_fill_57 (lv_at hl 4 rfl) ?_
          refine lv_iload_n hx hb dX6_fill_59 rfl (lv_at hl 2 rfl) ?_
          refine cc_r (wt_runV (As := [.int v8_4, .int p2]) (rest := []) ⟨hx, hb, hml, hown, hts⟩ (m_X6_matrixOf l N h0 k0 v8_4 rv8_4_11 p2 rv8_2) wm_X6_matrixOf q757 ⟨rfl, rfl⟩ ⟨Nat.le_of_ble_eq_true rfl, Nat.le_of_ble_eq_true rfl⟩ (cS_preV hK hW hT hnn hS (cg6 k0) rfl rfl trivial) rfl hl.1 rfl (Nat.le_of_ble_eq_true rfl) dX6_fill_60 ⟨Nat.zero_le _, Nat.zero_le _⟩) hS (by decide) (fun x60 H locs k60 hW hS oq => ?_)
          have nh0_4 := nh0_4.kept (oq _ nh0_4.lt (cE_not k0 (by decide)))
          refine lv_aload_n hx hb dX6_fill_63 rfl (lv_at hl 1 rfl) ?_
          refine lv_iload_n hx hb dX6_fill_64 rfl (lv_at hl 2 rfl) ?_
          refine lv_bipush (v := 7) hx hb dX6_fill_65 (by decide) ?_
          refine lv_idiv hx hb dX6_fill_67 (by decide) ?_
          refine lv_topi (fun x67 e67 => ?_)
          have r67 : ir x67 0 5 := by have t := ir_divc e67 rv8_2 (by decide) 7 (by decide) (by decide) (by decide); have h9 := rv8_2; constructor <;> omega
          refine lv_aload_n hx hb dX6_fill_68 rfl (lv_at hl 0 rfl) ?_
          refine wt_get hx hb hts cfX6 hown hK hW (cg6 k0) rfl 1 (by decide) q210 dX6_fill_69 (fun v hv => ?_)
          obtain ⟨x69, rfl, k69⟩ : gr N 8 v := hv
          refine cc_v (wt_runV (As := [.ref p1, .int x67, .ref x69]) (rest := []) ⟨hx, hb, hml, hown, hts⟩ (m_X4_ofLayer l N x60 k60 p1 kp1 x67 r67 x69 k69) wm_X4_ofLayer q761 ⟨rfl, rfl⟩ ⟨Nat.le_of_ble_eq_true rfl, Nat.le_of_ble_eq_true rfl⟩ (cS_preV hK hW hT hnn hS (cg4 k60) rfl rfl trivial) rfl hl.1 rfl (Nat.le_of_ble_eq_true rfl) dX6_fill_72 ⟨Nat.zero_le _, Nat.zero_le _⟩) hS (by decide) (fun H locs hW hS oq hB2 => ?_)
          have nh0_4 := nh0_4.kept (oq _ nh0_4.lt (cE_not k0 (by decide)))
          exact w2 _ _ _ (J75 _ _ _ x15 hW hS (lv_sub hl [0, 1, 2, 3, 4] rfl) rv8_2 rv8_3 rv8_4_11 nh0_4)
  refine lv_iload_n hx hb dX6_fill_0 rfl (lv_at hl 2 rfl) ?_
  refine lv_bipush (v := 7) hx hb dX6_fill_1 (by decide) ?_
  refine lv_irem hx hb dX6_fill_3 (by decide) ?_
  refine lv_topi (fun x3 e3 => ?_)
  have r3 : ir x3 0 6 := ir_remr e3 rp2 (by decide) 7 (by decide) (by decide) (by decide) (by decide)
  refine lv_istore_n (lv' := [(3, .int x3), (0, .ref h0), (1, .ref p1), (2, .int p2)]) hx hb dX6_fill_4 rfl hl (by decide) rfl (fun ls hl => ?_)
  refine lv_iconst (v := 0) hx hb dX6_fill_5 (by decide) ?_
  refine lv_istore (lv' := [(4, .int (0 : Int32)), (3, .int x3), (0, .ref h0), (1, .ref p1), (2, .int p2)]) hx hb dX6_fill_6 hl (by decide) rfl (fun ls hl => ?_)
  exact w2 _ _ _ (L8 5 _ _ _ x3 (0 : Int32) hW hS (lv_sub hl [2, 3, 4, 1, 0] rfl) rp2 r3 (ir_w (lo' := 0) (hi' := 4) (ir_c (0) (by decide) : ir (0 : Int32) (0) (0)) (by decide) (by decide)) (by have h9 := (ir_c (0) (by decide) : ir (0 : Int32) (0) (0)); omega))
set_option maxHeartbeats 4000000 in
set_option maxRecDepth 100000 in
theorem m_X6_prepare (l : Launch) (N : c_N) (h0 : Nat) (k0 : N.2.2.1 h0 = some 6) (p1 : Nat) (kp1 : N.2.2.1 p1 = some 5) (p2 : Int32) (p3 : Int32) (p4 : Int32) : cMv l yX6_prepare cX6_prepare 8 { frames := 4, cells := 0, slots := 0, locals := 108 } [.ref h0, .ref p1, .int p2, .int p3, .int p4] N [4, 6, 8, 24] cT0 cT0 := by
  refine Met.ofW (cc := cX6_prepare) (maxL := 8) (ret := none) (by decide) rfl ?_
  intro p e s m args below meth c s₁ B hml hv
  obtain ⟨rfl, ⟨hK, hW, hT, hnn⟩, hB⟩ := hv
  have hx := B.exec
  have hb := B.bytes
  have hr := B.returns
  have hts : ∀ w ∈ lw_g, w.before _ s = true := fun w h => atoms_spec (ws := wc_ws yX6_prepare cX6_prepare 8 none) B.pre w (List.mem_cons_of_mem _ h)
  have hown : s.vm.findClass RX6 = some m.cls := findClass_of_methodNamed B.named
  have hlocks := B.notSynchronized
  have hS : va_S (cE N [4, 6, 8, 24]) s.heap s.heap [] := va_S.rf
  have hl := lv_entry ([.ref h0, .ref p1, .int p2, .int p3, .int p4]) (n := 8) (Nat.le_of_ble_eq_true rfl)
  rw [lg_entry_eq]
  generalize (lg_sl ([.ref h0, .ref p1, .int p2, .int p3, .int p4]) ++ List.replicate (8 - (lg_sl ([.ref h0, .ref p1, .int p2, .int p3, .int p4])).length) Slot.unset).toArray = ls at hl ⊢
  have hl : lv_has ls 8 [(0, .ref h0), (1, .ref p1), (2, .int p2), (3, .int p3), (4, .int p4)] := hl
  refine wq_all ?_
  intro WW w1 w2
  have L16 : ∀ (n : Nat) (H : Heap) (locs : List Loc) (ls : Array Slot) (v16_5 : Int32) (u16_0 : Int32) (u16_1 : Int32), cW N H → va_S (cE N [4, 6, 8, 24]) s.heap H locs → lv_has ls 8 [(0, .ref h0), (1, .ref p1), (3, .int p3), (4, .int p4), (5, .int v16_5)] → ir v16_5 0 42 → ir u16_0 0 42 → wt_pin N.1 vwCl h0 6 3 (.int u16_0) H → ir u16_1 0 15 → wt_pin N.1 vwCl h0 6 4 (.int u16_1) H → u16_0 ≤ v16_5 → 42 - v16_5.toInt < (n : Int) → WW H locs (F0 m 16 ls []) := by
    intro n
    induction n with
    | zero =>
      intro H locs ls v16_5 u16_0 u16_1 hW hS hl rv16_5 ru16_0 nh0_3 ru16_1 nh0_4 iv16_0 mu16
      exfalso
      omega
    | succ n ih16 =>
      intro H locs ls v16_5 u16_0 u16_1 hW hS hl rv16_5 ru16_0 nh0_3 ru16_1 nh0_4 iv16_0 mu16
      have jiv16_0 := Int32.le_iff_toInt_le.mp iv16_0
      refine w1 _ _ _ ?_
      refine lv_iload hx hb dX6_prepare_16 (lv_at hl 4 rfl) ?_
      refine lv_bipush (v := 42) hx hb dX6_prepare_18 (by decide) ?_
      refine lv_icmp_ge (tgt := 90) hx hb dX6_prepare_20 (by decide) (fun c20 => ?_) (fun c20 => ?_)
      · have rv16_5_20 : ir v16_5 42 42 := ⟨Int.le_trans (by decide) (rf_le c20 (ir_c (42) (by decide) : ir (42 : Int32) (42) (42)) rv16_5).2, (rv16_5).2⟩
        exact W.vret hx hb hr (fun t ht _ => ⟨⟨(), rfl, trivial, cW_at ht hW, trivial⟩, hS.F ht⟩) hS.2.2 dX6_prepare_90
      · have rv16_5_20 : ir v16_5 0 41 := ⟨(rv16_5).1, Int.le_trans (rf_lt (rf_nle c20) rv16_5 (ir_c (42) (by decide) : ir (42 : Int32) (42) (42))).1 (by decide)⟩
        have ru16_0_20_1 : ir u16_0 0 41 := ⟨(ru16_0).1, Int.le_trans (rf_le iv16_0 ru16_0 rv16_5_20).1 (by decide)⟩
        refine lv_iload hx hb dX6_prepare_23 (lv_at hl 4 rfl) ?_
        refine lv_bipush (v := 7) hx hb dX6_prepare_25 (by decide) ?_
        refine lv_idiv hx hb dX6_prepare_27 (by decide) ?_
        refine lv_topi (fun x27 e27 => ?_)
        have r27 : ir x27 0 5 := by have t := ir_divc e27 rv16_5_20 (by decide) 7 (by decide) (by decide) (by decide); have h9 := rv16_5_20; constructor <;> omega
        refine lv_istore (lv' := [(6, .int x27), (0, .ref h0), (1, .ref p1), (3, .int p3), (4, .int p4), (5, .int v16_5)]) hx hb dX6_prepare_28 hl (by decide) rfl (fun ls hl => ?_)
        refine lv_iload hx hb dX6_prepare_30 (lv_at hl 5 rfl) ?_
        refine lv_bipush (v := 7) hx hb dX6_prepare_32 (by decide) ?_
        refine lv_irem hx hb dX6_prepare_34 (by decide) ?_
        refine lv_topi (fun x34 e34 => ?_)
        have r34 : ir x34 0 6 := ir_remr e34 rv16_5_20 (by decide) 7 (by decide) (by decide) (by decide) (by decide)
        refine lv_istore (lv' := [(7, .int x34), (6, .int x27), (0, .ref h0), (1, .ref p1), (3, .int p3), (4, .int p4), (5, .int v16_5)]) hx hb dX6_prepare_35 hl (by decide) rfl (fun ls hl => ?_)
        refine lv_iload_n hx hb dX6_prepare_37 rfl (lv_at hl 4 rfl) ?_
        refine lv_iload hx hb dX6_prepare_38 (lv_at hl 1 rfl) ?_
        refine cp_i (wt_runSN (As := [.int p3, .int x27]) (rest := []) ⟨hx, hb, hml, hown, hts⟩ hnn (m_X10_isInSet l p3 x27) wm_X10_isInSet q746 ⟨rfl, rfl⟩ ⟨Nat.le_of_ble_eq_true rfl, Nat.le_of_ble_eq_true rfl⟩ pS_pre rfl hl.1 rfl (Nat.le_of_ble_eq_true rfl) dX6_prepare_40 ⟨Nat.zero_le _, Nat.zero_le _⟩) hW hS (fun x40 H locs hp hW hS oq => ?_)
        have nh0_3 := nh0_3.kept (oq _ nh0_3.lt (cE_not k0 (by decide)))
        have nh0_4 := nh0_4.kept (oq _ nh0_4.lt (cE_not k0 (by decide)))
        have r40 : ir x40 0 1 := hp
        refine lv_if_eq (tgt := 84) hx hb dX6_prepare_43 (by decide) (fun c43 => ?_) (fun c43 => ?_)
        · have rx40_43 : ir x40 0 0 := rf_eq c43 (ir_c (0) (by decide) : ir (0 : Int32) (0) (0))
          obtain ⟨x84, e84⟩ : ∃ y : Int32, y = v16_5 + 1 := ⟨_, rfl⟩
          have r84 : ir x84 1 42 := ir_w (ir_add e84 rv16_5_20 (ir_c (1) (by decide) : ir (1 : Int32) (1) (1)) (by decide) (by decide)) (by decide) (by decide)
          have t84 : x84.toInt = v16_5.toInt + (1) := it_add e84 rv16_5_20 (ir_c (1) (by decide) : ir (1 : Int32) (1) (1)) (by decide) (by decide)
          refine lv_iinc (v := x84) (lv' := [(5, .int x84), (7, .int x34), (6, .int x27), (0, .ref h0), (1, .ref p1), (3, .int p3), (4, .int p4)]) hx hb dX6_prepare_84 hl (k := 6) rfl (by rw [e84]; rfl) (by decide) rfl (fun ls hl => ?_)
          refine lv_goto (tgt := 16) hx hb dX6_prepare_87 (by decide) ?_
          exact w2 _ _ _ (ih16 _ _ _ x84 u16_0 u16_1 hW hS (lv_sub hl [3, 4, 5, 6, 0] rfl) (ir_w (lo' := 0) (hi' := 42) r84 (by decide) (by decide)) (ir_w (lo' := 0) (hi' := 42) ru16_0_20_1 (by decide) (by decide)) nh0_3 ru16_1 nh0_4 (Int32.le_iff_toInt_le.mpr (by have h6 := ru16_0_20_1; have h7 := r84; omega)) (by have h9 := r84; omega))
        · have rx40_43 : ir x40 1 1 := rf_ne0 c43 r40
          refine lv_iload hx hb dX6_prepare_46 (lv_at hl 5 rfl) ?_
          refine lv_iload hx hb dX6_prepare_48 (lv_at hl 0 rfl) ?_
          refine cp_i (wt_runSN (As := [.int p4, .int x34]) (rest := []) ⟨hx, hb, hml, hown, hts⟩ hnn (m_X10_isInSet l p4 x34) wm_X10_isInSet q746 ⟨rfl, rfl⟩ ⟨Nat.le_of_ble_eq_true rfl, Nat.le_of_ble_eq_true rfl⟩ pS_pre rfl hl.1 rfl (Nat.le_of_ble_eq_true rfl) dX6_prepare_50 ⟨Nat.zero_le _, Nat.zero_le _⟩) hW hS (fun x50 H locs hp hW hS oq => ?_)
          have nh0_3 := nh0_3.kept (oq _ nh0_3.lt (cE_not k0 (by decide)))
          have nh0_4 := nh0_4.kept (oq _ nh0_4.lt (cE_not k0 (by decide)))
          have r50 : ir x50 0 1 := hp
          refine lv_if_eq (tgt := 84) hx hb dX6_prepare_53 (by decide) (fun c53 => ?_) (fun c53 => ?_)
          · have rx50_53 : ir x50 0 0 := rf_eq c53 (ir_c (0) (by decide) : ir (0 : Int32) (0) (0))
            obtain ⟨x84, e84⟩ : ∃ y : Int32, y = v16_5 + 1 := ⟨_, rfl⟩
            have r84 : ir x84 1 42 := ir_w (ir_add e84 rv16_5_20 (ir_c (1) (by decide) : ir (1 : Int32) (1) (1)) (by decide) (by decide)) (by decide) (by decide)
            have t84 : x84.toInt = v16_5.toInt + (1) := it_add e84 rv16_5_20 (ir_c (1) (by decide) : ir (1 : Int32) (1) (1)) (by decide) (by decide)
            refine lv_iinc (v := x84) (lv' := [(5, .int x84), (7, .int x34), (6, .int x27), (0, .ref h0), (1, .ref p1), (3, .int p3), (4, .int p4)]) hx hb dX6_prepare_84 hl (k := 6) rfl (by rw [e84]; rfl) (by decide) rfl (fun ls hl => ?_)
            refine lv_goto (tgt := 16) hx hb dX6_prepare_87 (by decide) ?_
            exact w2 _ _ _ (ih16 _ _ _ x84 u16_0 u16_1 hW hS (lv_sub hl [3, 4, 5, 6, 0] rfl) (ir_w (lo' := 0) (hi' := 42) r84 (by decide) (by decide)) (ir_w (lo' := 0) (hi' := 42) ru16_0_20_1 (by decide) (by decide)) nh0_3 ru16_1 nh0_4 (Int32.le_iff_toInt_le.mpr (by have h6 := ru16_0_20_1; have h7 := r84; omega)) (by have h9 := r84; omega))
          · have rx50_53 : ir x50 1 1 := rf_ne0 c53 r50
            refine lv_aload_n hx hb dX6_prepare_56 rfl (lv_at hl 2 rfl) ?_
            refine wt_get hx hb hts cfX6 hown hK hW (cg6 k0) rfl 2 (by decide) q211 dX6_prepare_57 (fun v hv => ?_)
            obtain ⟨x57, rfl, k57⟩ : gr N 24 v := hv
            refine lv_aload_n hx hb dX6_prepare_60 rfl (lv_at hl 2 rfl) ?_
            refine wt_rel hx hb hts cfX6 hown hK nh0_3 rfl (by decide) (Or.inl (hts _ q214)) dX6_prepare_61 ?_
            refine lv_iload hx hb dX6_prepare_64 (lv_at hl 6 rfl) ?_
            refine wt_iastp hx hb hK hW hS 0 (cg24 k57) (ce k57 (by decide)) rfl (ir_in ru16_0_20_1 (by decide) (by decide)) (gi_mk rv16_5_20) dX6_prepare_66 (fun H locs hW hS oq => ?_)
            have nh0_3 := nh0_3.kept (oq _ (ne_kind k0 k57 (by decide)))
            have nh0_4 := nh0_4.kept (oq _ (ne_kind k0 k57 (by decide)))
            refine lv_aload_n hx hb dX6_prepare_67 rfl (lv_at hl 2 rfl) ?_
            refine lv_dup hx hb dX6_prepare_68 rfl ?_
            refine wt_rel hx hb hts cfX6 hown hK nh0_3 rfl (by decide) (Or.inl (hts _ q214)) dX6_prepare_69 ?_
            refine lv_iconst (v := 1) hx hb dX6_prepare_72 (by decide) ?_
            refine lv_iadd hx hb dX6_prepare_73 ?_
            refine lv_topi (fun x73 e73 => ?_)
            have t73 : x73.toInt = u16_0.toInt + (1) := it_add e73 ru16_0_20_1 (ir_c (1) (by decide) : ir (1 : Int32) (1) (1)) (by decide) (by decide)
            have r73 : ir x73 1 42 := ir_w (ir_add e73 ru16_0_20_1 (ir_c (1) (by decide) : ir (1 : Int32) (1) (1)) (by decide) (by decide)) (by decide) (by decide)
            refine wt_putp hx hb hts cfX6 tyX6 tyX6_ok nmX6 hown hK hW hS (cg6 k0) (ce k0 (by decide)) rfl 3 (by decide) (Or.inl (hts _ q214)) rfl rfl rfl (gi_mk (ir_w (lo' := 0) (hi' := 42) r73 (by decide) (by decide))) dX6_prepare_74 (fun H locs hW hS oq o2 np => ?_)
            have nh0_4 := o2 4 _ (by decide) (by decide) nh0_4
            have nh0_3 : wt_pin N.1 vwCl h0 6 3 (.int x73) H := np
            refine lv_aload_n hx hb dX6_prepare_77 rfl (lv_at hl 2 rfl) ?_
            refine lv_aload_n hx hb dX6_prepare_78 rfl (lv_at hl 3 rfl) ?_
            refine lv_iload hx hb dX6_prepare_79 (lv_at hl 6 rfl) ?_
            refine cc_v (wt_runV (As := [.ref p1, .int v16_5]) (rest := []) ⟨hx, hb, hml, hown, hts⟩ (m_X6_fill l N h0 k0 p1 kp1 v16_5 rv16_5_20) wm_X6_fill q747 ⟨rfl, rfl⟩ ⟨Nat.le_of_ble_eq_true rfl, Nat.le_of_ble_eq_true rfl⟩ (cS_preV hK hW hT hnn hS (cg6 k0) rfl rfl trivial) rfl hl.1 rfl (Nat.le_of_ble_eq_true rfl) dX6_prepare_81 ⟨Nat.zero_le _, Nat.zero_le _⟩) hS (by decide) (fun H locs hW hS oq hB2 => ?_)
            have nh0_4 := nh0_4.kept (oq _ nh0_4.lt (cE_not k0 (by decide)))
            have nh0_3 := nh0_3.kept (oq _ nh0_3.lt (cE_not k0 (by decide)))
            obtain ⟨x84, e84⟩ : ∃ y : Int32, y = v16_5 + 1 := ⟨_, rfl⟩
            have r84 : ir x84 1 42 := ir_w (ir_add e84 rv16_5_20 (ir_c (1) (by decide) : ir (1 : Int32) (1) (1)) (by decide) (by decide)) (by decide) (by decide)
            have t84 : x84.toInt = v16_5.toInt + (1) := it_add e84 rv16_5_20 (ir_c (1) (by decide) : ir (1 : Int32) (1) (1)) (by decide) (by decide)
            refine lv_iinc (v := x84) (lv' := [(5, .int x84), (7, .int x34), (6, .int x27), (0, .ref h0), (1, .ref p1), (3, .int p3), (4, .int p4)]) hx hb dX6_prepare_84 hl (k := 6) rfl (by rw [e84]; rfl) (by decide) rfl (fun ls hl => ?_)
            refine lv_goto (tgt := 16) hx hb dX6_prepare_87 (by decide) ?_
            exact w2 _ _ _ (ih16 _ _ _ x84 x73 u16_1 hW hS (lv_sub hl [3, 4, 5, 6, 0] rfl) (ir_w (lo' := 0) (hi' := 42) r84 (by decide) (by decide)) (ir_w (lo' := 0) (hi' := 42) r73 (by decide) (by decide)) nh0_3 ru16_1 nh0_4 (Int32.le_iff_toInt_le.mpr (by have h6 := r73; have h7 := r84; omega)) (by have h9 := r84; omega))
  refine lv_aload_n hx hb dX6_prepare_0 rfl (lv_at hl 0 rfl) ?_
  refine lv_iload_n hx hb dX6_prepare_1 rfl (lv_at hl 2 rfl) ?_
  refine lv_bipush (v := 15) hx hb dX6_prepare_2 (by decide) ?_
  refine lv_iand hx hb dX6_prepare_4 ?_
  refine lv_topi (fun x4 e4 => ?_)
  have r4 : ir x4 0 15 := ir_and e4 (ir_w (ir_c (15) (by decide) : ir (15 : Int32) (15) (15)) (by decide) (by decide))
  refine wt_putp hx hb hts cfX6 tyX6 tyX6_ok nmX6 hown hK hW hS (cg6 k0) (ce k0 (by decide)) rfl 4 (by decide) (Or.inl (hts _ q217)) rfl rfl rfl ga_mk dX6_prepare_5 (fun H locs hW hS oq o2 np => ?_)
  have nh0_4 : wt_pin N.1 vwCl h0 6 4 (.int x4) H := np
  refine lv_aload_n hx hb dX6_prepare_8 rfl (lv_at hl 0 rfl) ?_
  refine lv_iconst (v := 0) hx hb dX6_prepare_9 (by decide) ?_
  refine wt_putp hx hb hts cfX6 tyX6 tyX6_ok nmX6 hown hK hW hS (cg6 k0) (ce k0 (by decide)) rfl 3 (by decide) (Or.inl (hts _ q214)) rfl rfl rfl (gi_mk (ir_w (lo' := 0) (hi' := 42) (ir_c (0) (by decide) : ir (0 : Int32) (0) (0)) (by decide) (by decide))) dX6_prepare_10 (fun H locs hW hS oq o2 np => ?_)
  have nh0_4 := o2 4 _ (by decide) (by decide) nh0_4
  have nh0_3 : wt_pin N.1 vwCl h0 6 3 (.int (0 : Int32)) H := np
  refine lv_iconst (v := 0) hx hb dX6_prepare_13 (by decide) ?_
  refine lv_istore (lv' := [(5, .int (0 : Int32)), (0, .ref h0), (1, .ref p1), (2, .int p2), (3, .int p3), (4, .int p4)]) hx hb dX6_prepare_14 hl (by decide) rfl (fun ls hl => ?_)
  exact w2 _ _ _ (L16 43 _ _ _ (0 : Int32) (0 : Int32) x4 hW hS (lv_sub hl [1, 2, 4, 5, 0] rfl) (ir_w (lo' := 0) (hi' := 42) (ir_c (0) (by decide) : ir (0 : Int32) (0) (0)) (by decide) (by decide)) (ir_w (lo' := 0) (hi' := 42) (ir_c (0) (by decide) : ir (0 : Int32) (0) (0)) (by decide) (by decide)) nh0_3 r4 nh0_4 (Int32.le_iff_toInt_le.mpr (by have h6 := (ir_c (0) (by decide) : ir (0 : Int32) (0) (0)); have h7 := (ir_c (0) (by decide) : ir (0 : Int32) (0) (0)); omega)) (by have h9 := (ir_c (0) (by decide) : ir (0 : Int32) (0) (0)); omega))
set_option maxHeartbeats 4000000 in
set_option maxRecDepth 100000 in
theorem m_X7_rowOf (l : Launch) (N : c_N) (h0 : Nat) (k0 : N.2.2.1 h0 = some 7) (p1 : Int32) (rp1 : ir p1 0 3) (p2 : Int32) (rp2 : ir p2 0 3) : cMr l yX7_rowOf cX7_rowOf 3 (.object "ThinCoats$Matrix") { frames := 0, cells := 0, slots := 0, locals := 0 } [.ref h0, .int p1, .int p2] N [] cT0 4 := by
  refine Met.ofW (cc := cX7_rowOf) (maxL := 3) (ret := some (.object "ThinCoats$Matrix")) (by decide) rfl ?_
  intro p e s m args below meth c s₁ B hml hv
  obtain ⟨rfl, ⟨hK, hW, hT, hnn⟩, hB⟩ := hv
  have hx := B.exec
  have hb := B.bytes
  have hr := B.returns
  have hts : ∀ w ∈ lw_g, w.before _ s = true := fun w h => atoms_spec (ws := wc_ws yX7_rowOf cX7_rowOf 3 (some (.object "ThinCoats$Matrix"))) B.pre w (List.mem_cons_of_mem _ h)
  have hown : s.vm.findClass RX7 = some m.cls := findClass_of_methodNamed B.named
  have hlocks := B.notSynchronized
  have hS : va_S (cE N []) s.heap s.heap [] := va_S.rf
  have hl := lv_entry ([.ref h0, .int p1, .int p2]) (n := 3) (Nat.le_of_ble_eq_true rfl)
  rw [lg_entry_eq]
  generalize (lg_sl ([.ref h0, .int p1, .int p2]) ++ List.replicate (3 - (lg_sl ([.ref h0, .int p1, .int p2])).length) Slot.unset).toArray = ls at hl ⊢
  have hl : lv_has ls 3 [(0, .ref h0), (1, .int p1), (2, .int p2)] := hl
  refine wq_all ?_
  intro WW w1 w2
  refine lv_aload_n hx hb dX7_rowOf_0 rfl (lv_at hl 0 rfl) ?_
  refine wt_get hx hb hts cfX7 hown hK hW (cg7 k0) rfl 0 (by decide) q238 dX7_rowOf_1 (fun v hv => ?_)
  obtain ⟨x1, rfl, k1⟩ : gr N 35 v := hv
  refine lv_iload_n hx hb dX7_rowOf_4 rfl (lv_at hl 1 rfl) ?_
  refine lv_iconst (v := 4) hx hb dX7_rowOf_5 (by decide) ?_
  refine lv_imul hx hb dX7_rowOf_6 ?_
  refine lv_topi (fun x6 e6 => ?_)
  have r6 : ir x6 0 12 := ir_w (it_mul e6 rp1 (ir_c (4) (by decide) : ir (4 : Int32) (4) (4)) (by decide) (by decide) (by decide)).2 (by decide) (by decide)
  refine lv_iload_n hx hb dX7_rowOf_7 rfl (lv_at hl 2 rfl) ?_
  refine lv_iadd hx hb dX7_rowOf_8 ?_
  refine lv_topi (fun x8 e8 => ?_)
  have t8 : x8.toInt = x6.toInt + p2.toInt := it_add e8 r6 rp2 (by decide) (by decide)
  have r8 : ir x8 0 15 := ir_w (ir_add e8 r6 rp2 (by decide) (by decide)) (by decide) (by decide)
  refine wt_aald hx hb hK hW 5 (cg35 k1) rfl (ir_in r8 (by decide) (by decide)) dX7_rowOf_9 (fun v hv => ?_)
  obtain ⟨x9, rfl, k9⟩ : gr N 4 v := hv
  exact W.aret hx hb hr (Or.inl ⟨_, rfl⟩) (Or.inr ⟨_, rfl⟩) (fun t ht _ => ⟨⟨(), x9, rfl, trivial, k9, cW_at ht hW⟩, hS.F ht⟩) hS.2.2 dX7_rowOf_10
set_option maxHeartbeats 4000000 in
set_option maxRecDepth 100000 in
theorem m_X7_extend (l : Launch) (N : c_N) (h0 : Nat) (k0 : N.2.2.1 h0 = some 7) (p1 : Nat) (kp1 : N.2.2.1 p1 = some 6) (p2 : Int32) (rp2 : ir p2 0 2) (p3 : Int32) (rp3 : ir p3 0 41) : cMi l yX7_extend cX7_extend 6 .boolean { frames := 3, cells := 0, slots := 0, locals := 82 } [.ref h0, .ref p1, .int p2, .int p3] N [4] cT0 (fun r => ir r 0 1) := by
  refine Met.ofW (cc := cX7_extend) (maxL := 6) (ret := some .boolean) (by decide) rfl ?_
  intro p e s m args below meth c s₁ B hml hv
  obtain ⟨rfl, ⟨hK, hW, hT, hnn⟩, hB⟩ := hv
  have hx := B.exec
  have hb := B.bytes
  have hr := B.returns
  have hts : ∀ w ∈ lw_g, w.before _ s = true := fun w h => atoms_spec (ws := wc_ws yX7_extend cX7_extend 6 (some .boolean)) B.pre w (List.mem_cons_of_mem _ h)
  have hown : s.vm.findClass RX7 = some m.cls := findClass_of_methodNamed B.named
  have hlocks := B.notSynchronized
  have hS : va_S (cE N [4]) s.heap s.heap [] := va_S.rf
  have hl := lv_entry ([.ref h0, .ref p1, .int p2, .int p3]) (n := 6) (Nat.le_of_ble_eq_true rfl)
  rw [lg_entry_eq]
  generalize (lg_sl ([.ref h0, .ref p1, .int p2, .int p3]) ++ List.replicate (6 - (lg_sl ([.ref h0, .ref p1, .int p2, .int p3])).length) Slot.unset).toArray = ls at hl ⊢
  have hl : lv_has ls 6 [(0, .ref h0), (1, .ref p1), (2, .int p2), (3, .int p3)] := hl
  refine wq_all ?_
  intro WW w1 w2
  have L3 : ∀ (n : Nat) (H : Heap) (locs : List Loc) (ls : Array Slot) (v3_4 : Int32), cW N H → va_S (cE N [4]) s.heap H locs → lv_has ls 6 [(0, .ref h0), (1, .ref p1), (2, .int p2), (3, .int p3), (4, .int v3_4)] → ir p2 0 2 → ir p3 0 41 → ir v3_4 0 4 → 4 - v3_4.toInt < (n : Int) → WW H locs (F0 m 3 ls []) := by
    intro n
    induction n with
    | zero =>
      intro H locs ls v3_4 hW hS hl rv3_2 rv3_3 rv3_4 mu3
      exfalso
      omega
    | succ n ih3 =>
      intro H locs ls v3_4 hW hS hl rv3_2 rv3_3 rv3_4 mu3
      have J64 : ∀ (H : Heap) (locs : List Loc) (ls : Array Slot) (u64_0 : Int32), cW N H → va_S (cE N [4]) s.heap H locs → lv_has ls 6 [(0, .ref h0), (1, .ref p1), (2, .int p2), (3, .int p3), (4, .int v3_4)] → ir p2 0 2 → ir p3 0 41 → ir v3_4 0 3 → wt_pin N.1 vwCl p1 6 4 (.int u64_0) H → WW H locs (F0 m 64 ls []) := by
        intro H locs ls u64_0 hW hS hl rv64_2 rv64_3 rv64_4 np1_4
        refine w1 _ _ _ ?_
        obtain ⟨x64, e64⟩ : ∃ y : Int32, y = v3_4 + 1 := ⟨_, rfl⟩
        have r64 : ir x64 1 4 := ir_w (ir_add e64 rv64_4 (ir_c (1) (by decide) : ir (1 : Int32) (1) (1)) (by decide) (by decide)) (by decide) (by decide)
        have t64 : x64.toInt = v3_4.toInt + (1) := it_add e64 rv64_4 (ir_c (1) (by decide) : ir (1 : Int32) (1) (1)) (by decide) (by decide)
        refine lv_iinc (v := x64) (lv' := [(4, .int x64), (0, .ref h0), (1, .ref p1), (2, .int p2), (3, .int p3)]) hx hb dX7_extend_64 hl (k := 4) rfl (by rw [e64]; rfl) (by decide) rfl (fun ls hl => ?_)
        refine lv_goto (tgt := 3) hx hb dX7_extend_67 (by decide) ?_
        exact w2 _ _ _ (ih3 _ _ _ x64 hW hS (lv_sub hl [1, 2, 3, 4, 0] rfl) rv64_2 rv64_3 (ir_w (lo' := 0) (hi' := 4) r64 (by decide) (by decide)) (by have h9 := r64; omega))
      refine w1 _ _ _ ?_
      refine lv_iload hx hb dX7_extend_3 (lv_at hl 4 rfl) ?_
      refine lv_iconst (v := 4) hx hb dX7_extend_5 (by decide) ?_
      refine lv_icmp_ge (tgt := 70) hx hb dX7_extend_6 (by decide) (fun c6 => ?_) (fun c6 => ?_)
      · have rv3_4_6 : ir v3_4 4 4 := ⟨Int.le_trans (by decide) (rf_le c6 (ir_c (4) (by decide) : ir (4 : Int32) (4) (4)) rv3_4).2, (rv3_4).2⟩
        refine lv_iconst (v := 1) hx hb dX7_extend_70 (by decide) ?_
        exact W.zret (v := (1 : Int32)) hx hb hr rfl (fun t ht _ => ⟨⟨(1 : Int32), (), rfl, (⟨by decide, by decide⟩), cW_at ht hW⟩, hS.F ht⟩) hS.2.2 dX7_extend_71
      · have rv3_4_6 : ir v3_4 0 3 := ⟨(rv3_4).1, Int.le_trans (rf_lt (rf_nle c6) rv3_4 (ir_c (4) (by decide) : ir (4 : Int32) (4) (4))).1 (by decide)⟩
        refine lv_aload_n hx hb dX7_extend_9 rfl (lv_at hl 1 rfl) ?_
        refine wt_getp hx hb hts cfX6 hown hK hW (cg6 kp1) rfl 4 (by decide) (Or.inr ⟨_, lw_n_use hnn q218⟩) dX7_extend_10 (fun v hv np1_4 => ?_)
        obtain ⟨x10, rfl⟩ : ga v := hv
        refine lv_iload hx hb dX7_extend_13 (lv_at hl 4 rfl) ?_
        refine cp_i (wt_runSN (As := [.int x10, .int v3_4]) (rest := []) ⟨hx, hb, hml, hown, hts⟩ hnn (m_X10_isInSet l x10 v3_4) wm_X10_isInSet q770 ⟨rfl, rfl⟩ ⟨Nat.le_of_ble_eq_true rfl, Nat.le_of_ble_eq_true rfl⟩ pS_pre rfl hl.1 rfl (Nat.le_of_ble_eq_true rfl) dX7_extend_15 ⟨Nat.zero_le _, Nat.zero_le _⟩) hW hS (fun x15 H locs hp hW hS oq => ?_)
        have np1_4 := np1_4.kept (oq _ np1_4.lt (cE_not kp1 (by decide)))
        have r15 : ir x15 0 1 := hp
        refine lv_if_ne (tgt := 24) hx hb dX7_extend_18 (by decide) (fun c18 => ?_) (fun c18 => ?_)
        · have rx15_18 : ir x15 1 1 := rf_ne0 c18 r15
          refine lv_aload_n hx hb dX7_extend_24 rfl (lv_at hl 0 rfl) ?_
          refine lv_iload hx hb dX7_extend_25 (lv_at hl 4 rfl) ?_
          refine lv_iload_n hx hb dX7_extend_27 rfl (lv_at hl 2 rfl) ?_
          refine lv_iconst (v := 1) hx hb dX7_extend_28 (by decide) ?_
          refine lv_iadd hx hb dX7_extend_29 ?_
          refine lv_topi (fun x29 e29 => ?_)
          have t29 : x29.toInt = p2.toInt + (1) := it_add e29 rv3_2 (ir_c (1) (by decide) : ir (1 : Int32) (1) (1)) (by decide) (by decide)
          have r29 : ir x29 1 3 := ir_w (ir_add e29 rv3_2 (ir_c (1) (by decide) : ir (1 : Int32) (1) (1)) (by decide) (by decide)) (by decide) (by decide)
          refine cc_r (wt_runV (As := [.int v3_4, .int x29]) (rest := []) ⟨hx, hb, hml, hown, hts⟩ (m_X7_rowOf l N h0 k0 v3_4 rv3_4_6 x29 (ir_w (lo' := 0) (hi' := 3) r29 (by decide) (by decide))) wm_X7_rowOf q771 ⟨rfl, rfl⟩ ⟨Nat.le_of_ble_eq_true rfl, Nat.le_of_ble_eq_true rfl⟩ (cS_preV hK hW hT hnn hS (cg7 k0) rfl rfl trivial) rfl hl.1 rfl (Nat.le_of_ble_eq_true rfl) dX7_extend_30 ⟨Nat.zero_le _, Nat.zero_le _⟩) hS (by decide) (fun x30 H locs k30 hW hS oq => ?_)
          have np1_4 := np1_4.kept (oq _ np1_4.lt (cE_not kp1 (by decide)))
          refine lv_astore (lv' := [(5, .ref x30), (0, .ref h0), (1, .ref p1), (2, .int p2), (3, .int p3), (4, .int v3_4)]) hx hb dX7_extend_33 hl (by decide) rfl (fun ls hl => ?_)
          refine lv_aload hx hb dX7_extend_35 (lv_at hl 0 rfl) ?_
          refine lv_aload_n hx hb dX7_extend_37 rfl (lv_at hl 1 rfl) ?_
          refine lv_iload hx hb dX7_extend_38 (lv_at hl 5 rfl) ?_
          refine lv_iload_n hx hb dX7_extend_40 rfl (lv_at hl 3 rfl) ?_
          refine cc_r (wt_runV (As := [.int v3_4, .int p2]) (rest := [.ref x30]) ⟨hx, hb, hml, hown, hts⟩ (m_X7_rowOf l N h0 k0 v3_4 rv3_4_6 p2 (ir_w (lo' := 0) (hi' := 3) rv3_2 (by decide) (by decide))) wm_X7_rowOf q771 ⟨rfl, rfl⟩ ⟨Nat.le_of_ble_eq_true rfl, Nat.le_of_ble_eq_true rfl⟩ (cS_preV hK hW hT hnn hS (cg7 k0) rfl rfl trivial) rfl hl.1 rfl (Nat.le_of_ble_eq_true rfl) dX7_extend_41 ⟨Nat.zero_le _, Nat.zero_le _⟩) hS (by decide) (fun x41 H locs k41 hW hS oq => ?_)
          have np1_4 := np1_4.kept (oq _ np1_4.lt (cE_not kp1 (by decide)))
          refine lv_aload_n hx hb dX7_extend_44 rfl (lv_at hl 2 rfl) ?_
          refine lv_iload hx hb dX7_extend_45 (lv_at hl 5 rfl) ?_
          refine lv_iload_n hx hb dX7_extend_47 rfl (lv_at hl 4 rfl) ?_
          refine cc_r (wt_runV (As := [.int v3_4, .int p3]) (rest := [.ref x41, .ref x30]) ⟨hx, hb, hml, hown, hts⟩ (m_X6_matrixOf l N p1 kp1 v3_4 rv3_4_6 p3 rv3_3) wm_X6_matrixOf q775 ⟨rfl, rfl⟩ ⟨Nat.le_of_ble_eq_true rfl, Nat.le_of_ble_eq_true rfl⟩ (cS_preV hK hW hT hnn hS (cg6 kp1) rfl rfl trivial) rfl hl.1 rfl (Nat.le_of_ble_eq_true rfl) dX7_extend_48 ⟨Nat.zero_le _, Nat.zero_le _⟩) hS (by decide) (fun x48 H locs k48 hW hS oq => ?_)
          have np1_4 := np1_4.kept (oq _ np1_4.lt (cE_not kp1 (by decide)))
          refine cc_v (wt_runV (As := [.ref x41, .ref x48]) (rest := []) ⟨hx, hb, hml, hown, hts⟩ (m_X4_ofRowAndLayer l N x30 k30 x41 k41 x48 k48) wm_X4_ofRowAndLayer q784 ⟨rfl, rfl⟩ ⟨Nat.le_of_ble_eq_true rfl, Nat.le_of_ble_eq_true rfl⟩ (cS_preV hK hW hT hnn hS (cg4 k30) rfl rfl trivial) rfl hl.1 rfl (Nat.le_of_ble_eq_true rfl) dX7_extend_51 ⟨Nat.zero_le _, Nat.zero_le _⟩) hS (by decide) (fun H locs hW hS oq hB2 => ?_)
          have np1_4 := np1_4.kept (oq _ np1_4.lt (cE_not kp1 (by decide)))
          refine lv_aload hx hb dX7_extend_54 (lv_at hl 0 rfl) ?_
          refine wt_getp hx hb hts cfX4 hown hK hW (cg4 k30) rfl 4 (by decide) (Or.inr ⟨_, lw_n_use hnn q195⟩) dX7_extend_56 (fun v hv nx30_4 => ?_)
          obtain ⟨x56, rfl, r56⟩ : gi 0 1 v := hv
          refine lv_if_eq (tgt := 64) hx hb dX7_extend_59 (by decide) (fun c59 => ?_) (fun c59 => ?_)
          · have rx56_59 : ir x56 0 0 := rf_eq c59 (ir_c (0) (by decide) : ir (0 : Int32) (0) (0))
            exact w2 _ _ _ (J64 _ _ _ x10 hW hS (lv_sub hl [1, 2, 3, 4, 5] rfl) rv3_2 rv3_3 rv3_4_6 np1_4)
          · have rx56_59 : ir x56 1 1 := rf_ne0 c59 r56
            refine lv_iconst (v := 0) hx hb dX7_extend_62 (by decide) ?_
            exact W.zret (v := (0 : Int32)) hx hb hr rfl (fun t ht _ => ⟨⟨(0 : Int32), (), rfl, (⟨by decide, by decide⟩), cW_at ht hW⟩, hS.F ht⟩) hS.2.2 dX7_extend_63
        · have rx15_18 : ir x15 0 0 := rf_eq c18 (ir_c (0) (by decide) : ir (0 : Int32) (0) (0))
          refine lv_goto (tgt := 64) hx hb dX7_extend_21 (by decide) ?_
          exact w2 _ _ _ (J64 _ _ _ x10 hW hS (lv_sub hl [0, 1, 2, 3, 4] rfl) rv3_2 rv3_3 rv3_4_6 np1_4)
  refine lv_iconst (v := 0) hx hb dX7_extend_0 (by decide) ?_
  refine lv_istore (lv' := [(4, .int (0 : Int32)), (0, .ref h0), (1, .ref p1), (2, .int p2), (3, .int p3)]) hx hb dX7_extend_1 hl (by decide) rfl (fun ls hl => ?_)
  exact w2 _ _ _ (L3 5 _ _ _ (0 : Int32) hW hS (lv_sub hl [1, 2, 3, 4, 0] rfl) rp2 rp3 (ir_w (lo' := 0) (hi' := 4) (ir_c (0) (by decide) : ir (0 : Int32) (0) (0)) (by decide) (by decide)) (by have h9 := (ir_c (0) (by decide) : ir (0 : Int32) (0) (0)); omega))
set_option maxHeartbeats 4000000 in
set_option maxRecDepth 100000 in
theorem m_X7_holds (l : Launch) (N : c_N) (h0 : Nat) (k0 : N.2.2.1 h0 = some 7) (p1 : Nat) (kp1 : N.2.2.1 p1 = some 6) (p2 : Nat) (kp2 : N.2.2.1 p2 = some 5) (p3 : Int32) (rp3 : ir p3 0 2) (p4 : Int32) (rp4 : ir p4 0 41) : cMi l yX7_holds cX7_holds 6 .boolean { frames := 4, cells := 0, slots := 0, locals := 107 } [.ref h0, .ref p1, .ref p2, .int p3, .int p4] N [4] cT0 (fun r => ir r 0 1) := by
  refine Met.ofW (cc := cX7_holds) (maxL := 6) (ret := some .boolean) (by decide) rfl ?_
  intro p e s m args below meth c s₁ B hml hv
  obtain ⟨rfl, ⟨hK, hW, hT, hnn⟩, hB⟩ := hv
  have hx := B.exec
  have hb := B.bytes
  have hr := B.returns
  have hts : ∀ w ∈ lw_g, w.before _ s = true := fun w h => atoms_spec (ws := wc_ws yX7_holds cX7_holds 6 (some .boolean)) B.pre w (List.mem_cons_of_mem _ h)
  have hown : s.vm.findClass RX7 = some m.cls := findClass_of_methodNamed B.named
  have hlocks := B.notSynchronized
  have hS : va_S (cE N [4]) s.heap s.heap [] := va_S.rf
  have hl := lv_entry ([.ref h0, .ref p1, .ref p2, .int p3, .int p4]) (n := 6) (Nat.le_of_ble_eq_true rfl)
  rw [lg_entry_eq]
  generalize (lg_sl ([.ref h0, .ref p1, .ref p2, .int p3, .int p4]) ++ List.replicate (6 - (lg_sl ([.ref h0, .ref p1, .ref p2, .int p3, .int p4])).length) Slot.unset).toArray = ls at hl ⊢
  have hl : lv_has ls 6 [(0, .ref h0), (1, .ref p1), (2, .ref p2), (3, .int p3), (4, .int p4)] := hl
  refine wq_all ?_
  intro WW w1 w2
  have L3 : ∀ (n : Nat) (H : Heap) (locs : List Loc) (ls : Array Slot) (v3_5 : Int32), cW N H → va_S (cE N [4]) s.heap H locs → lv_has ls 6 [(0, .ref h0), (1, .ref p1), (2, .ref p2), (3, .int p3), (4, .int p4), (5, .int v3_5)] → ir p3 0 2 → ir p4 0 41 → ir v3_5 0 4 → 4 - v3_5.toInt < (n : Int) → WW H locs (F0 m 3 ls []) := by
    intro n
    induction n with
    | zero =>
      intro H locs ls v3_5 hW hS hl rv3_3 rv3_4 rv3_5 mu3
      exfalso
      omega
    | succ n ih3 =>
      intro H locs ls v3_5 hW hS hl rv3_3 rv3_4 rv3_5 mu3
      have J45 : ∀ (H : Heap) (locs : List Loc) (ls : Array Slot) (u45_0 : Int32), cW N H → va_S (cE N [4]) s.heap H locs → lv_has ls 6 [(0, .ref h0), (1, .ref p1), (2, .ref p2), (3, .int p3), (4, .int p4), (5, .int v3_5)] → ir p3 0 2 → ir p4 0 41 → ir v3_5 0 3 → wt_pin N.1 vwCl p1 6 4 (.int u45_0) H → WW H locs (F0 m 45 ls []) := by
        intro H locs ls u45_0 hW hS hl rv45_3 rv45_4 rv45_5 np1_4
        refine w1 _ _ _ ?_
        obtain ⟨x45, e45⟩ : ∃ y : Int32, y = v3_5 + 1 := ⟨_, rfl⟩
        have r45 : ir x45 1 4 := ir_w (ir_add e45 rv45_5 (ir_c (1) (by decide) : ir (1 : Int32) (1) (1)) (by decide) (by decide)) (by decide) (by decide)
        have t45 : x45.toInt = v3_5.toInt + (1) := it_add e45 rv45_5 (ir_c (1) (by decide) : ir (1 : Int32) (1) (1)) (by decide) (by decide)
        refine lv_iinc (v := x45) (lv' := [(5, .int x45), (0, .ref h0), (1, .ref p1), (2, .ref p2), (3, .int p3), (4, .int p4)]) hx hb dX7_holds_45 hl (k := 5) rfl (by rw [e45]; rfl) (by decide) rfl (fun ls hl => ?_)
        refine lv_goto (tgt := 3) hx hb dX7_holds_48 (by decide) ?_
        exact w2 _ _ _ (ih3 _ _ _ x45 hW hS (lv_sub hl [1, 2, 3, 4, 5, 0] rfl) rv45_3 rv45_4 (ir_w (lo' := 0) (hi' := 4) r45 (by decide) (by decide)) (by have h9 := r45; omega))
      refine w1 _ _ _ ?_
      refine lv_iload hx hb dX7_holds_3 (lv_at hl 5 rfl) ?_
      refine lv_iconst (v := 4) hx hb dX7_holds_5 (by decide) ?_
      refine lv_icmp_ge (tgt := 51) hx hb dX7_holds_6 (by decide) (fun c6 => ?_) (fun c6 => ?_)
      · have rv3_5_6 : ir v3_5 4 4 := ⟨Int.le_trans (by decide) (rf_le c6 (ir_c (4) (by decide) : ir (4 : Int32) (4) (4)) rv3_5).2, (rv3_5).2⟩
        refine lv_aload_n hx hb dX7_holds_51 rfl (lv_at hl 0 rfl) ?_
        refine lv_aload_n hx hb dX7_holds_52 rfl (lv_at hl 1 rfl) ?_
        refine lv_iload_n hx hb dX7_holds_53 rfl (lv_at hl 3 rfl) ?_
        refine lv_iload hx hb dX7_holds_54 (lv_at hl 4 rfl) ?_
        refine cc_i (wt_runV (As := [.ref p1, .int p3, .int p4]) (rest := []) ⟨hx, hb, hml, hown, hts⟩ (m_X7_extend l N h0 k0 p1 kp1 p3 rv3_3 p4 rv3_4) wm_X7_extend q780 ⟨rfl, rfl⟩ ⟨Nat.le_of_ble_eq_true rfl, Nat.le_of_ble_eq_true rfl⟩ (cS_preV hK hW hT hnn hS (cg7 k0) rfl rfl trivial) rfl hl.1 rfl (Nat.le_of_ble_eq_true rfl) dX7_holds_56 ⟨Nat.zero_le _, Nat.zero_le _⟩) hS (by decide) (fun x56 H locs hp hW hS oq => ?_)
        have r56 : ir x56 0 1 := hp
        exact W.zret (v := x56) hx hb hr (nar01 r56) (fun t ht _ => ⟨⟨x56, (), rfl, r56, cW_at ht hW⟩, hS.F ht⟩) hS.2.2 dX7_holds_59
      · have rv3_5_6 : ir v3_5 0 3 := ⟨(rv3_5).1, Int.le_trans (rf_lt (rf_nle c6) rv3_5 (ir_c (4) (by decide) : ir (4 : Int32) (4) (4))).1 (by decide)⟩
        refine lv_aload_n hx hb dX7_holds_9 rfl (lv_at hl 1 rfl) ?_
        refine wt_getp hx hb hts cfX6 hown hK hW (cg6 kp1) rfl 4 (by decide) (Or.inr ⟨_, lw_n_use hnn q218⟩) dX7_holds_10 (fun v hv np1_4 => ?_)
        obtain ⟨x10, rfl⟩ : ga v := hv
        refine lv_iload hx hb dX7_holds_13 (lv_at hl 5 rfl) ?_
        refine cp_i (wt_runSN (As := [.int x10, .int v3_5]) (rest := []) ⟨hx, hb, hml, hown, hts⟩ hnn (m_X10_isInSet l x10 v3_5) wm_X10_isInSet q770 ⟨rfl, rfl⟩ ⟨Nat.le_of_ble_eq_true rfl, Nat.le_of_ble_eq_true rfl⟩ pS_pre rfl hl.1 rfl (Nat.le_of_ble_eq_true rfl) dX7_holds_15 ⟨Nat.zero_le _, Nat.zero_le _⟩) hW hS (fun x15 H locs hp hW hS oq => ?_)
        have np1_4 := np1_4.kept (oq _ np1_4.lt (cE_not kp1 (by decide)))
        have r15 : ir x15 0 1 := hp
        refine lv_if_eq (tgt := 45) hx hb dX7_holds_18 (by decide) (fun c18 => ?_) (fun c18 => ?_)
        · have rx15_18 : ir x15 0 0 := rf_eq c18 (ir_c (0) (by decide) : ir (0 : Int32) (0) (0))
          exact w2 _ _ _ (J45 _ _ _ x10 hW hS (lv_sub hl [0, 1, 2, 3, 4, 5] rfl) rv3_3 rv3_4 rv3_5_6 np1_4)
        · have rx15_18 : ir x15 1 1 := rf_ne0 c18 r15
          refine lv_aload_n hx hb dX7_holds_21 rfl (lv_at hl 2 rfl) ?_
          refine lv_aload_n hx hb dX7_holds_22 rfl (lv_at hl 0 rfl) ?_
          refine lv_iload hx hb dX7_holds_23 (lv_at hl 5 rfl) ?_
          refine lv_iload_n hx hb dX7_holds_25 rfl (lv_at hl 3 rfl) ?_
          refine cc_r (wt_runV (As := [.int v3_5, .int p3]) (rest := [.ref p2]) ⟨hx, hb, hml, hown, hts⟩ (m_X7_rowOf l N h0 k0 v3_5 rv3_5_6 p3 (ir_w (lo' := 0) (hi' := 3) rv3_3 (by decide) (by decide))) wm_X7_rowOf q771 ⟨rfl, rfl⟩ ⟨Nat.le_of_ble_eq_true rfl, Nat.le_of_ble_eq_true rfl⟩ (cS_preV hK hW hT hnn hS (cg7 k0) rfl rfl trivial) rfl hl.1 rfl (Nat.le_of_ble_eq_true rfl) dX7_holds_26 ⟨Nat.zero_le _, Nat.zero_le _⟩) hS (by decide) (fun x26 H locs k26 hW hS oq => ?_)
          have np1_4 := np1_4.kept (oq _ np1_4.lt (cE_not kp1 (by decide)))
          refine lv_aload_n hx hb dX7_holds_29 rfl (lv_at hl 1 rfl) ?_
          refine lv_iload hx hb dX7_holds_30 (lv_at hl 5 rfl) ?_
          refine lv_iload hx hb dX7_holds_32 (lv_at hl 4 rfl) ?_
          refine cc_r (wt_runV (As := [.int v3_5, .int p4]) (rest := [.ref x26, .ref p2]) ⟨hx, hb, hml, hown, hts⟩ (m_X6_matrixOf l N p1 kp1 v3_5 rv3_5_6 p4 rv3_4) wm_X6_matrixOf q775 ⟨rfl, rfl⟩ ⟨Nat.le_of_ble_eq_true rfl, Nat.le_of_ble_eq_true rfl⟩ (cS_preV hK hW hT hnn hS (cg6 kp1) rfl rfl trivial) rfl hl.1 rfl (Nat.le_of_ble_eq_true rfl) dX7_holds_34 ⟨Nat.zero_le _, Nat.zero_le _⟩) hS (by decide) (fun x34 H locs k34 hW hS oq => ?_)
          have np1_4 := np1_4.kept (oq _ np1_4.lt (cE_not kp1 (by decide)))
          refine cc_i (wt_runV (As := [.ref x26, .ref x34]) (rest := []) ⟨hx, hb, hml, hown, hts⟩ (m_X5_throwsNothingBack l N p2 kp2 x26 k26 x34 k34) wm_X5_throwsNothingBack q776 ⟨rfl, rfl⟩ ⟨Nat.le_of_ble_eq_true rfl, Nat.le_of_ble_eq_true rfl⟩ (cS_preV hK hW hT hnn hS (cg5 kp2) rfl rfl trivial) rfl hl.1 rfl (Nat.le_of_ble_eq_true rfl) dX7_holds_37 ⟨Nat.zero_le _, Nat.zero_le _⟩) hS (by decide) (fun x37 H locs hp hW hS oq => ?_)
          have np1_4 := np1_4.kept (oq _ np1_4.lt (cE_not kp1 (by decide)))
          have r37 : ir x37 0 1 := hp
          refine lv_if_ne (tgt := 45) hx hb dX7_holds_40 (by decide) (fun c40 => ?_) (fun c40 => ?_)
          · have rx37_40 : ir x37 1 1 := rf_ne0 c40 r37
            exact w2 _ _ _ (J45 _ _ _ x10 hW hS (lv_sub hl [0, 1, 2, 3, 4, 5] rfl) rv3_3 rv3_4 rv3_5_6 np1_4)
          · have rx37_40 : ir x37 0 0 := rf_eq c40 (ir_c (0) (by decide) : ir (0 : Int32) (0) (0))
            refine lv_iconst (v := 0) hx hb dX7_holds_43 (by decide) ?_
            exact W.zret (v := (0 : Int32)) hx hb hr rfl (fun t ht _ => ⟨⟨(0 : Int32), (), rfl, (⟨by decide, by decide⟩), cW_at ht hW⟩, hS.F ht⟩) hS.2.2 dX7_holds_44
  refine lv_iconst (v := 0) hx hb dX7_holds_0 (by decide) ?_
  refine lv_istore (lv' := [(5, .int (0 : Int32)), (0, .ref h0), (1, .ref p1), (2, .ref p2), (3, .int p3), (4, .int p4)]) hx hb dX7_holds_1 hl (by decide) rfl (fun ls hl => ?_)
  exact w2 _ _ _ (L3 5 _ _ _ (0 : Int32) hW hS (lv_sub hl [1, 2, 3, 4, 5, 0] rfl) rp3 rp4 (ir_w (lo' := 0) (hi' := 4) (ir_c (0) (by decide) : ir (0 : Int32) (0) (0)) (by decide) (by decide)) (by have h9 := (ir_c (0) (by decide) : ir (0 : Int32) (0) (0)); omega))
