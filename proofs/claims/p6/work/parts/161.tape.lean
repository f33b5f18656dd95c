set_option maxHeartbeats 4000000 in
set_option maxRecDepth 100000 in
theorem m_X9_readNumber (l : Launch) (N : c_N) (h0 : Nat) (k0 : N.2.2.1 h0 = some 9) : cMv l yX9_readNumber cX9_readNumber 2 { frames := 1, cells := 0, slots := 0, locals := 23 } [.ref h0] N [9] cT0 cT0 := by
  refine Met.ofW (cc := cX9_readNumber) (maxL := 2) (ret := none) (by decide) rfl ?_
  intro p e s m args below meth c s₁ B hml hv
  obtain ⟨rfl, ⟨hK, hW, hT, hnn⟩, hB⟩ := hv
  have hx := B.exec
  have hb := B.bytes
  have hr := B.returns
  have hts : ∀ w ∈ lw_g, w.before _ s = true := fun w h => atoms_spec (ws := wc_ws yX9_readNumber cX9_readNumber 2 none) B.pre w (List.mem_cons_of_mem _ h)
  have hown : s.vm.findClass RX9 = some m.cls := findClass_of_methodNamed B.named
  have hlocks := B.notSynchronized
  have hS : va_S (cE N [9]) s.heap s.heap [] := va_S.rf
  have hl := lv_entry ([.ref h0]) (n := 2) (Nat.le_of_ble_eq_true rfl)
  rw [lg_entry_eq]
  generalize (lg_sl ([.ref h0]) ++ List.replicate (2 - (lg_sl ([.ref h0])).length) Slot.unset).toArray = ls at hl ⊢
  have hl : lv_has ls 2 [(0, .ref h0)] := hl
  refine wq_all ?_
  intro WW w1 w2
  have L7 : ∀ (n : Nat) (H : Heap) (locs : List Loc) (ls : Array Slot) (v7_1 : Int32) (u7_0 : Int32), cW N H → va_S (cE N [9]) s.heap H locs → lv_has ls 2 [(0, .ref h0), (1, .int v7_1)] → ir v7_1 0 200 → ir u7_0 0 1000 → wt_pin N.1 vwCl h0 9 9 (.int u7_0) H → 200 - v7_1.toInt < (n : Int) → WW H locs (F0 m 7 ls []) := by
    intro n
    induction n with
    | zero =>
      intro H locs ls v7_1 u7_0 hW hS hl rv7_1 ru7_0 nh0_9 mu7
      exfalso
      omega
    | succ n ih7 =>
      intro H locs ls v7_1 u7_0 hW hS hl rv7_1 ru7_0 nh0_9 mu7
      refine w1 _ _ _ ?_
      refine lv_iload_n hx hb dX9_readNumber_7 rfl (lv_at hl 1 rfl) ?_
      refine lv_sipush (v := 200) hx hb dX9_readNumber_8 (by decide) ?_
      refine lv_icmp_ge (tgt := 65) hx hb dX9_readNumber_11 (by decide) (fun c11 => ?_) (fun c11 => ?_)
      · have rv7_1_11 : ir v7_1 200 200 := ⟨Int.le_trans (by decide) (rf_le c11 (ir_c (200) (by decide) : ir (200 : Int32) (200) (200)) rv7_1).2, (rv7_1).2⟩
        exact W.vret hx hb hr (fun t ht _ => ⟨⟨(), rfl, trivial, cW_at ht hW, trivial⟩, hS.F ht⟩) hS.2.2 dX9_readNumber_65
      · have rv7_1_11 : ir v7_1 0 199 := ⟨(rv7_1).1, Int.le_trans (rf_lt (rf_nle c11) rv7_1 (ir_c (200) (by decide) : ir (200 : Int32) (200) (200))).1 (by decide)⟩
        obtain ⟨r0, hpk, rr0⟩ := pk_ex hW k0
        refine lv_aload_n hx hb dX9_readNumber_14 rfl (lv_at hl 0 rfl) ?_
        refine cc_i (wt_runV (As := []) (rest := []) ⟨hx, hb, hml, hown, hts⟩ (m_X9_peek_k l N h0 k0 r0) wm_X9_peek q360 ⟨rfl, rfl⟩ ⟨Nat.le_of_ble_eq_true rfl, Nat.le_of_ble_eq_true rfl⟩ (cS_preV hK hW hT hnn hS (cg9 k0) rfl rfl hpk) rfl hl.1 rfl (Nat.le_of_ble_eq_true rfl) dX9_readNumber_15 ⟨Nat.zero_le _, Nat.zero_le _⟩) hS (by decide) (fun x15 H locs hp hW hS oq => ?_)
        have hpk := hpk.kept (fun q hq => oq q hq (cE_nil q))
        have nh0_9 := nh0_9.kept (oq _ nh0_9.lt (cE_not k0 (by decide)))
        rw [show x15 = r0 from hp]
        refine cp_i (wt_runS (As := [.int r0]) (rest := []) ⟨hx, hb, hml, hown, hts⟩ (m_X9_isDigit l r0) wm_X9_isDigit q386 ⟨rfl, rfl⟩ ⟨Nat.le_of_ble_eq_true rfl, Nat.le_of_ble_eq_true rfl⟩ pS_pre rfl hl.1 rfl (Nat.le_of_ble_eq_true rfl) dX9_readNumber_18 ⟨Nat.zero_le _, Nat.zero_le _⟩) hW hS (fun x18 H locs hp hW hS oq => ?_)
        have hpk := hpk.kept (fun q hq => oq q hq (cE_nil q))
        have nh0_9 := nh0_9.kept (oq _ nh0_9.lt (cE_not k0 (by decide)))
        obtain ⟨r18, b18⟩ := hp
        refine lv_if_eq (tgt := 65) hx hb dX9_readNumber_21 (by decide) (fun c21 => ?_) (fun c21 => ?_)
        · have rx18_21 : ir x18 0 0 := rf_eq c21 (ir_c (0) (by decide) : ir (0 : Int32) (0) (0))
          exact W.vret hx hb hr (fun t ht _ => ⟨⟨(), rfl, trivial, cW_at ht hW, trivial⟩, hS.F ht⟩) hS.2.2 dX9_readNumber_65
        · have rx18_21 : ir x18 1 1 := rf_ne0 c21 r18
          have bx18_21 := b18 c21
          refine lv_aload_n hx hb dX9_readNumber_24 rfl (lv_at hl 0 rfl) ?_
          refine lv_aload_n hx hb dX9_readNumber_25 rfl (lv_at hl 0 rfl) ?_
          refine wt_rel hx hb hts cfX9 hown hK nh0_9 rfl (by decide) (Or.inl (hts _ q66)) dX9_readNumber_26 ?_
          refine lv_bipush (v := 10) hx hb dX9_readNumber_29 (by decide) ?_
          refine lv_imul hx hb dX9_readNumber_31 ?_
          refine lv_topi (fun x31 e31 => ?_)
          have r31 : ir x31 0 10000 := ir_w (it_mul e31 ru7_0 (ir_c (10) (by decide) : ir (10 : Int32) (10) (10)) (by decide) (by decide) (by decide)).2 (by decide) (by decide)
          refine lv_aload_n hx hb dX9_readNumber_32 rfl (lv_at hl 0 rfl) ?_
          refine cc_i (wt_runV (As := []) (rest := [.int x31, .ref h0]) ⟨hx, hb, hml, hown, hts⟩ (m_X9_peek_k l N h0 k0 r0) wm_X9_peek q360 ⟨rfl, rfl⟩ ⟨Nat.le_of_ble_eq_true rfl, Nat.le_of_ble_eq_true rfl⟩ (cS_preV hK hW hT hnn hS (cg9 k0) rfl rfl hpk) rfl hl.1 rfl (Nat.le_of_ble_eq_true rfl) dX9_readNumber_33 ⟨Nat.zero_le _, Nat.zero_le _⟩) hS (by decide) (fun x33 H locs hp hW hS oq => ?_)
          have hpk := hpk.kept (fun q hq => oq q hq (cE_nil q))
          have nh0_9 := nh0_9.kept (oq _ nh0_9.lt (cE_not k0 (by decide)))
          rw [show x33 = r0 from hp]
          refine lv_iadd hx hb dX9_readNumber_36 ?_
          refine lv_topi (fun x36 e36 => ?_)
          have t36 : x36.toInt = x31.toInt + r0.toInt := it_add e36 r31 bx18_21 (by decide) (by decide)
          have r36 : ir x36 48 10057 := ir_w (ir_add e36 r31 bx18_21 (by decide) (by decide)) (by decide) (by decide)
          refine lv_bipush (v := 48) hx hb dX9_readNumber_37 (by decide) ?_
          refine lv_isub hx hb dX9_readNumber_39 ?_
          refine lv_topi (fun x39 e39 => ?_)
          have t39 : x39.toInt = x36.toInt - (48) := it_sub e39 r36 (ir_c (48) (by decide) : ir (48 : Int32) (48) (48)) (by decide) (by decide)
          have r39 : ir x39 0 10009 := ir_w (ir_sub e39 r36 (ir_c (48) (by decide) : ir (48 : Int32) (48) (48)) (by decide) (by decide)) (by decide) (by decide)
          refine lv_sipush (v := 1000) hx hb dX9_readNumber_40 (by decide) ?_
          refine va_mmin hx hb (hml.trans hl.1.symm) hown (hts _ q397) (hts _ q398) (hts _ q13) (hts _ q399) (Nat.le_of_ble_eq_true rfl) (Nat.le_of_ble_eq_true rfl) (Nat.zero_le _) (Nat.zero_le _) dX9_readNumber_43 ?_
          refine lv_topi (fun x43 e43 => ?_)
          have r43 : ir x43 0 1000 := ir_min e43 r39 (ir_c (1000) (by decide) : ir (1000 : Int32) (1000) (1000)) (by decide) (by decide) (by decide) (by decide)
          refine wt_putp hx hb hts cfX9 tyX9 tyX9_ok nmX9 hown hK hW hS (cg9 k0) (ce k0 (by decide)) rfl 9 (by decide) (Or.inl (hts _ q66)) rfl rfl rfl (gi_mk r43) dX9_readNumber_46 (fun H locs hW hS oq o2 np => ?_)
          have nh0_9 : wt_pin N.1 vwCl h0 9 9 (.int x43) H := np
          refine lv_aload_n hx hb dX9_readNumber_49 rfl (lv_at hl 0 rfl) ?_
          refine lv_dup hx hb dX9_readNumber_50 rfl ?_
          refine wt_getp hx hb hts cfX9 hown hK hW (cg9 k0) rfl 8 (by decide) (Or.inl (hts _ q65)) dX9_readNumber_51 (fun v hv nh0_8 => ?_)
          obtain ⟨x51, rfl⟩ : ga v := hv
          refine lv_iconst (v := 1) hx hb dX9_readNumber_54 (by decide) ?_
          refine lv_iadd hx hb dX9_readNumber_55 ?_
          refine lv_topi (fun x55 e55 => ?_)
          refine wt_putp hx hb hts cfX9 tyX9 tyX9_ok nmX9 hown hK hW hS (cg9 k0) (ce k0 (by decide)) rfl 8 (by decide) (Or.inl (hts _ q65)) rfl rfl rfl ga_mk dX9_readNumber_56 (fun H locs hW hS oq o2 np => ?_)
          have nh0_9 := o2 9 _ (by decide) (by decide) nh0_9
          have nh0_8 : wt_pin N.1 vwCl h0 9 8 (.int x55) H := np
          obtain ⟨x59, e59⟩ : ∃ y : Int32, y = v7_1 + 1 := ⟨_, rfl⟩
          have r59 : ir x59 1 200 := ir_w (ir_add e59 rv7_1_11 (ir_c (1) (by decide) : ir (1 : Int32) (1) (1)) (by decide) (by decide)) (by decide) (by decide)
          have t59 : x59.toInt = v7_1.toInt + (1) := it_add e59 rv7_1_11 (ir_c (1) (by decide) : ir (1 : Int32) (1) (1)) (by decide) (by decide)
          refine lv_iinc (v := x59) (lv' := [(1, .int x59), (0, .ref h0)]) hx hb dX9_readNumber_59 hl (k := 1) rfl (by rw [e59]; rfl) (by decide) rfl (fun ls hl => ?_)
          refine lv_goto (tgt := 7) hx hb dX9_readNumber_62 (by decide) ?_
          exact w2 _ _ _ (ih7 _ _ _ x59 x43 hW hS (lv_sub hl [1, 0] rfl) (ir_w (lo' := 0) (hi' := 200) r59 (by decide) (by decide)) r43 nh0_9 (by have h9 := r59; omega))
  refine lv_aload_n hx hb dX9_readNumber_0 rfl (lv_at hl 0 rfl) ?_
  refine lv_iconst (v := 0) hx hb dX9_readNumber_1 (by decide) ?_
  refine wt_putp hx hb hts cfX9 tyX9 tyX9_ok nmX9 hown hK hW hS (cg9 k0) (ce k0 (by decide)) rfl 9 (by decide) (Or.inl (hts _ q66)) rfl rfl rfl (gi_mk (ir_w (lo' := 0) (hi' := 1000) (ir_c (0) (by decide) : ir (0 : Int32) (0) (0)) (by decide) (by decide))) dX9_readNumber_2 (fun H locs hW hS oq o2 np => ?_)
  have nh0_9 : wt_pin N.1 vwCl h0 9 9 (.int (0 : Int32)) H := np
  refine lv_iconst (v := 0) hx hb dX9_readNumber_5 (by decide) ?_
  refine lv_istore_n (lv' := [(1, .int (0 : Int32)), (0, .ref h0)]) hx hb dX9_readNumber_6 rfl hl (by decide) rfl (fun ls hl => ?_)
  exact w2 _ _ _ (L7 201 _ _ _ (0 : Int32) (0 : Int32) hW hS (lv_sub hl [1, 0] rfl) (ir_w (lo' := 0) (hi' := 200) (ir_c (0) (by decide) : ir (0 : Int32) (0) (0)) (by decide) (by decide)) (ir_w (lo' := 0) (hi' := 1000) (ir_c (0) (by decide) : ir (0 : Int32) (0) (0)) (by decide) (by decide)) nh0_9 (by have h9 := (ir_c (0) (by decide) : ir (0 : Int32) (0) (0)); omega))
set_option maxHeartbeats 4000000 in
set_option maxRecDepth 100000 in
theorem m_X9_openGroup (l : Launch) (N : c_N) (h0 : Nat) (k0 : N.2.2.1 h0 = some 9) (p1 : Int32) : cMv l yX9_openGroup cX9_openGroup 2 { frames := 1, cells := 0, slots := 0, locals := 22 } [.ref h0, .int p1] N [9, 22, 23] cT0 cT0 := by
  refine Met.ofW (cc := cX9_openGroup) (maxL := 2) (ret := none) (by decide) rfl ?_
  intro p e s m args below meth c s₁ B hml hv
  obtain ⟨rfl, ⟨hK, hW, hT, hnn⟩, hB⟩ := hv
  have hx := B.exec
  have hb := B.bytes
  have hr := B.returns
  have hts : ∀ w ∈ lw_g, w.before _ s = true := fun w h => atoms_spec (ws := wc_ws yX9_openGroup cX9_openGroup 2 none) B.pre w (List.mem_cons_of_mem _ h)
  have hown : s.vm.findClass RX9 = some m.cls := findClass_of_methodNamed B.named
  have hlocks := B.notSynchronized
  have hS : va_S (cE N [9, 22, 23]) s.heap s.heap [] := va_S.rf
  have hl := lv_entry ([.ref h0, .int p1]) (n := 2) (Nat.le_of_ble_eq_true rfl)
  rw [lg_entry_eq]
  generalize (lg_sl ([.ref h0, .int p1]) ++ List.replicate (2 - (lg_sl ([.ref h0, .int p1])).length) Slot.unset).toArray = ls at hl ⊢
  have hl : lv_has ls 2 [(0, .ref h0), (1, .int p1)] := hl
  refine wq_all ?_
  intro WW w1 w2
  have J17 : ∀ (H : Heap) (locs : List Loc) (ls : Array Slot) (u17_0 : Int32), cW N H → va_S (cE N [9, 22, 23]) s.heap H locs → lv_has ls 2 [(0, .ref h0), (1, .int p1)] → ir u17_0 0 1000 → wt_pin N.1 vwCl h0 9 9 (.int u17_0) H → WW H locs (F0 m 17 ls []) := by
    intro H locs ls u17_0 hW hS hl ru17_0 nh0_9
    refine w1 _ _ _ ?_
    refine lv_aload_n hx hb dX9_openGroup_17 rfl (lv_at hl 0 rfl) ?_
    refine lv_iconst (v := 2) hx hb dX9_openGroup_18 (by decide) ?_
    refine lv_iload_n hx hb dX9_openGroup_19 rfl (lv_at hl 1 rfl) ?_
    refine cc_v (wt_runV (As := [.int (2 : Int32), .int p1]) (rest := []) ⟨hx, hb, hml, hown, hts⟩ (m_X9_fail l N h0 k0 (2 : Int32) p1) wm_X9_fail q400 ⟨rfl, rfl⟩ ⟨Nat.le_of_ble_eq_true rfl, Nat.le_of_ble_eq_true rfl⟩ (cS_preV hK hW hT hnn hS (cg9 k0) rfl rfl trivial) rfl hl.1 rfl (Nat.le_of_ble_eq_true rfl) dX9_openGroup_20 ⟨Nat.zero_le _, Nat.zero_le _⟩) hS (by decide) (fun H locs hW hS oq hB2 => ?_)
    exact W.vret hx hb hr (fun t ht _ => ⟨⟨(), rfl, trivial, cW_at ht hW, trivial⟩, hS.F ht⟩) hS.2.2 dX9_openGroup_23
  refine lv_aload_n hx hb dX9_openGroup_0 rfl (lv_at hl 0 rfl) ?_
  refine wt_getp hx hb hts cfX9 hown hK hW (cg9 k0) rfl 9 (by decide) (Or.inl (hts _ q66)) dX9_openGroup_1 (fun v hv nh0_9 => ?_)
  obtain ⟨x1, rfl, r1⟩ : gi 0 1000 v := hv
  refine lv_iconst (v := 1) hx hb dX9_openGroup_4 (by decide) ?_
  refine lv_icmp_lt (tgt := 17) hx hb dX9_openGroup_5 (by decide) (fun c5 => ?_) (fun c5 => ?_)
  · have rx1_5 : ir x1 0 0 := ⟨(r1).1, Int.le_trans (rf_lt c5 r1 (ir_c (1) (by decide) : ir (1 : Int32) (1) (1))).1 (by decide)⟩
    exact w2 _ _ _ (J17 _ _ _ x1 hW hS (lv_sub hl [0, 1] rfl) (ir_w (lo' := 0) (hi' := 1000) rx1_5 (by decide) (by decide)) nh0_9)
  · have rx1_5 : ir x1 1 1000 := ⟨Int.le_trans (by decide) (rf_le (rf_nlt c5) (ir_c (1) (by decide) : ir (1 : Int32) (1) (1)) r1).2, (r1).2⟩
    refine lv_aload_n hx hb dX9_openGroup_8 rfl (lv_at hl 0 rfl) ?_
    refine wt_rel hx hb hts cfX9 hown hK nh0_9 rfl (by decide) (Or.inl (hts _ q66)) dX9_openGroup_9 ?_
    refine lv_bipush (v := 9) hx hb dX9_openGroup_12 (by decide) ?_
    refine lv_icmp_le (tgt := 24) hx hb dX9_openGroup_14 (by decide) (fun c14 => ?_) (fun c14 => ?_)
    · have rx1_14 : ir x1 1 9 := ⟨(rx1_5).1, Int.le_trans (rf_le c14 rx1_5 (ir_c (9) (by decide) : ir (9 : Int32) (9) (9))).1 (by decide)⟩
      refine lv_aload_n hx hb dX9_openGroup_24 rfl (lv_at hl 0 rfl) ?_
      refine wt_getp hx hb hts cfX9 hown hK hW (cg9 k0) rfl 7 (by decide) (Or.inl (hts _ q64)) dX9_openGroup_25 (fun v hv nh0_7 => ?_)
      obtain ⟨x25, rfl, r25⟩ : gi 0 4 v := hv
      refine lv_iconst (v := 4) hx hb dX9_openGroup_28 (by decide) ?_
      refine lv_icmp_lt (tgt := 42) hx hb dX9_openGroup_29 (by decide) (fun c29 => ?_) (fun c29 => ?_)
      · have rx25_29 : ir x25 0 3 := ⟨(r25).1, Int.le_trans (rf_lt c29 r25 (ir_c (4) (by decide) : ir (4 : Int32) (4) (4))).1 (by decide)⟩
        refine lv_aload_n hx hb dX9_openGroup_42 rfl (lv_at hl 0 rfl) ?_
        refine wt_get hx hb hts cfX9 hown hK hW (cg9 k0) rfl 5 (by decide) q62 dX9_openGroup_43 (fun v hv => ?_)
        obtain ⟨x43, rfl, k43⟩ : gr N 22 v := hv
        refine lv_aload_n hx hb dX9_openGroup_46 rfl (lv_at hl 0 rfl) ?_
        refine wt_rel hx hb hts cfX9 hown hK nh0_7 rfl (by decide) (Or.inl (hts _ q64)) dX9_openGroup_47 ?_
        refine lv_aload_n hx hb dX9_openGroup_50 rfl (lv_at hl 0 rfl) ?_
        refine wt_rel hx hb hts cfX9 hown hK nh0_9 rfl (by decide) (Or.inl (hts _ q66)) dX9_openGroup_51 ?_
        refine wt_iastp hx hb hK hW hS 0 (cg22 k43) (ce k43 (by decide)) rfl (ir_in rx25_29 (by decide) (by decide)) (gi_mk (ir_w (lo' := 0) (hi' := 9) rx1_14 (by decide) (by decide))) dX9_openGroup_54 (fun H locs hW hS oq => ?_)
        have nh0_9 := nh0_9.kept (oq _ (ne_kind k0 k43 (by decide)))
        have nh0_7 := nh0_7.kept (oq _ (ne_kind k0 k43 (by decide)))
        refine lv_aload_n hx hb dX9_openGroup_55 rfl (lv_at hl 0 rfl) ?_
        refine wt_get hx hb hts cfX9 hown hK hW (cg9 k0) rfl 6 (by decide) q63 dX9_openGroup_56 (fun v hv => ?_)
        obtain ⟨x56, rfl, k56⟩ : gr N 23 v := hv
        refine lv_aload_n hx hb dX9_openGroup_59 rfl (lv_at hl 0 rfl) ?_
        refine wt_rel hx hb hts cfX9 hown hK nh0_7 rfl (by decide) (Or.inl (hts _ q64)) dX9_openGroup_60 ?_
        refine lv_aload_n hx hb dX9_openGroup_63 rfl (lv_at hl 0 rfl) ?_
        refine wt_get hx hb hts cfX9 hown hK hW (cg9 k0) rfl 4 (by decide) q60 dX9_openGroup_64 (fun v hv => ?_)
        obtain ⟨x64, rfl, k64⟩ : gr N 3 v := hv
        refine wt_getp hx hb hts cfX3 hown hK hW (cg3 k64) rfl 1 (by decide) (Or.inr ⟨_, lw_n_use hnn q45⟩) dX9_openGroup_67 (fun v hv nx64_1 => ?_)
        obtain ⟨x67, rfl, r67⟩ : gi 0 24 v := hv
        refine wt_iastp hx hb hK hW hS 0 (cg23 k56) (ce k56 (by decide)) rfl (ir_in rx25_29 (by decide) (by decide)) (gi_mk r67) dX9_openGroup_70 (fun H locs hW hS oq => ?_)
        have nh0_9 := nh0_9.kept (oq _ (ne_kind k0 k56 (by decide)))
        have nh0_7 := nh0_7.kept (oq _ (ne_kind k0 k56 (by decide)))
        have nx64_1 := nx64_1.kept (oq _ (ne_kind k64 k56 (by decide)))
        refine lv_aload_n hx hb dX9_openGroup_71 rfl (lv_at hl 0 rfl) ?_
        refine lv_dup hx hb dX9_openGroup_72 rfl ?_
        refine wt_rel hx hb hts cfX9 hown hK nh0_7 rfl (by decide) (Or.inl (hts _ q64)) dX9_openGroup_73 ?_
        refine lv_iconst (v := 1) hx hb dX9_openGroup_76 (by decide) ?_
        refine lv_iadd hx hb dX9_openGroup_77 ?_
        refine lv_topi (fun x77 e77 => ?_)
        have t77 : x77.toInt = x25.toInt + (1) := it_add e77 rx25_29 (ir_c (1) (by decide) : ir (1 : Int32) (1) (1)) (by decide) (by decide)
        have r77 : ir x77 1 4 := ir_w (ir_add e77 rx25_29 (ir_c (1) (by decide) : ir (1 : Int32) (1) (1)) (by decide) (by decide)) (by decide) (by decide)
        refine wt_putp hx hb hts cfX9 tyX9 tyX9_ok nmX9 hown hK hW hS (cg9 k0) (ce k0 (by decide)) rfl 7 (by decide) (Or.inl (hts _ q64)) rfl rfl rfl (gi_mk (ir_w (lo' := 0) (hi' := 4) r77 (by decide) (by decide))) dX9_openGroup_78 (fun H locs hW hS oq o2 np => ?_)
        have nh0_9 := o2 9 _ (by decide) (by decide) nh0_9
        have nx64_1 := nx64_1.kept (oq _ (ne_kind k64 k0 (by decide)))
        have nh0_7 : wt_pin N.1 vwCl h0 9 7 (.int x77) H := np
        refine lv_aload_n hx hb dX9_openGroup_81 rfl (lv_at hl 0 rfl) ?_
        refine lv_dup hx hb dX9_openGroup_82 rfl ?_
        refine wt_getp hx hb hts cfX9 hown hK hW (cg9 k0) rfl 8 (by decide) (Or.inl (hts _ q65)) dX9_openGroup_83 (fun v hv nh0_8 => ?_)
        obtain ⟨x83, rfl⟩ : ga v := hv
        refine lv_iconst (v := 1) hx hb dX9_openGroup_86 (by decide) ?_
        refine lv_iadd hx hb dX9_openGroup_87 ?_
        refine lv_topi (fun x87 e87 => ?_)
        refine wt_putp hx hb hts cfX9 tyX9 tyX9_ok nmX9 hown hK hW hS (cg9 k0) (ce k0 (by decide)) rfl 8 (by decide) (Or.inl (hts _ q65)) rfl rfl rfl ga_mk dX9_openGroup_88 (fun H locs hW hS oq o2 np => ?_)
        have nh0_9 := o2 9 _ (by decide) (by decide) nh0_9
        have nx64_1 := nx64_1.kept (oq _ (ne_kind k64 k0 (by decide)))
        have nh0_7 := o2 7 _ (by decide) (by decide) nh0_7
        have nh0_8 : wt_pin N.1 vwCl h0 9 8 (.int x87) H := np
        exact W.vret hx hb hr (fun t ht _ => ⟨⟨(), rfl, trivial, cW_at ht hW, trivial⟩, hS.F ht⟩) hS.2.2 dX9_openGroup_91
      · have rx25_29 : ir x25 4 4 := ⟨Int.le_trans (by decide) (rf_le (rf_nlt c29) (ir_c (4) (by decide) : ir (4 : Int32) (4) (4)) r25).2, (r25).2⟩
        refine lv_aload_n hx hb dX9_openGroup_32 rfl (lv_at hl 0 rfl) ?_
        refine lv_iconst (v := 3) hx hb dX9_openGroup_33 (by decide) ?_
        refine lv_aload_n hx hb dX9_openGroup_34 rfl (lv_at hl 0 rfl) ?_
        refine wt_getp hx hb hts cfX9 hown hK hW (cg9 k0) rfl 8 (by decide) (Or.inl (hts _ q65)) dX9_openGroup_35 (fun v hv nh0_8 => ?_)
        obtain ⟨x35, rfl⟩ : ga v := hv
        refine cc_v (wt_runV (As := [.int (3 : Int32), .int x35]) (rest := []) ⟨hx, hb, hml, hown, hts⟩ (m_X9_fail l N h0 k0 (3 : Int32) x35) wm_X9_fail q400 ⟨rfl, rfl⟩ ⟨Nat.le_of_ble_eq_true rfl, Nat.le_of_ble_eq_true rfl⟩ (cS_preV hK hW hT hnn hS (cg9 k0) rfl rfl trivial) rfl hl.1 rfl (Nat.le_of_ble_eq_true rfl) dX9_openGroup_38 ⟨Nat.zero_le _, Nat.zero_le _⟩) hS (by decide) (fun H locs hW hS oq hB2 => ?_)
        exact W.vret hx hb hr (fun t ht _ => ⟨⟨(), rfl, trivial, cW_at ht hW, trivial⟩, hS.F ht⟩) hS.2.2 dX9_openGroup_41
    · have rx1_14 : ir x1 10 1000 := ⟨Int.le_trans (by decide) (rf_lt (rf_nle c14) (ir_c (9) (by decide) : ir (9 : Int32) (9) (9)) rx1_5).2, (rx1_5).2⟩
      exact w2 _ _ _ (J17 _ _ _ x1 hW hS (lv_sub hl [0, 1] rfl) (ir_w (lo' := 0) (hi' := 1000) rx1_14 (by decide) (by decide)) nh0_9)
set_option maxHeartbeats 4000000 in
set_option maxRecDepth 100000 in
theorem m_X9_closeGroup (l : Launch) (N : c_N) (h0 : Nat) (k0 : N.2.2.1 h0 = some 9) : cMv l yX9_closeGroup cX9_closeGroup 5 { frames := 2, cells := 0, slots := 0, locals := 44 } [.ref h0] N [3, 9, 20] cT0 cT0 := by
  refine Met.ofW (cc := cX9_closeGroup) (maxL := 5) (ret := none) (by decide) rfl ?_
  intro p e s m args below meth c s₁ B hml hv
  obtain ⟨rfl, ⟨hK, hW, hT, hnn⟩, hB⟩ := hv
  have hx := B.exec
  have hb := B.bytes
  have hr := B.returns
  have hts : ∀ w ∈ lw_g, w.before _ s = true := fun w h => atoms_spec (ws := wc_ws yX9_closeGroup cX9_closeGroup 5 none) B.pre w (List.mem_cons_of_mem _ h)
  have hown : s.vm.findClass RX9 = some m.cls := findClass_of_methodNamed B.named
  have hlocks := B.notSynchronized
  have hS : va_S (cE N [3, 9, 20]) s.heap s.heap [] := va_S.rf
  have hl := lv_entry ([.ref h0]) (n := 5) (Nat.le_of_ble_eq_true rfl)
  rw [lg_entry_eq]
  generalize (lg_sl ([.ref h0]) ++ List.replicate (5 - (lg_sl ([.ref h0])).length) Slot.unset).toArray = ls at hl ⊢
  have hl : lv_has ls 5 [(0, .ref h0)] := hl
  refine wq_all ?_
  intro WW w1 w2
  have L57 : ∀ (n : Nat) (H : Heap) (locs : List Loc) (ls : Array Slot) (v57_1 : Int32) (v57_2 : Int32) (v57_3 : Int32) (u57_0 : Int32), cW N H → va_S (cE N [3, 9, 20]) s.heap H locs → lv_has ls 5 [(0, .ref h0), (1, .int v57_1), (2, .int v57_2), (3, .int v57_3)] → ir v57_1 0 24 → ir v57_2 0 24 → ir v57_3 1 9 → ir u57_0 0 3 → wt_pin N.1 vwCl h0 9 7 (.int u57_0) H → 9 - v57_3.toInt < (n : Int) → WW H locs (F0 m 57 ls []) := by
    intro n
    induction n with
    | zero =>
      intro H locs ls v57_1 v57_2 v57_3 u57_0 hW hS hl rv57_1 rv57_2 rv57_3 ru57_0 nh0_7 mu57
      exfalso
      omega
    | succ n ih57 =>
      intro H locs ls v57_1 v57_2 v57_3 u57_0 hW hS hl rv57_1 rv57_2 rv57_3 ru57_0 nh0_7 mu57
      have L73 : ∀ (n : Nat) (H : Heap) (locs : List Loc) (ls : Array Slot) (v73_4 : Int32), cW N H → va_S (cE N [3, 9, 20]) s.heap H locs → lv_has ls 5 [(0, .ref h0), (1, .int v57_1), (2, .int v57_2), (3, .int v57_3), (4, .int v73_4)] → ir v57_1 0 24 → ir v57_2 0 24 → ir v57_3 1 8 → ir v73_4 0 24 → ir u57_0 0 3 → wt_pin N.1 vwCl h0 9 7 (.int u57_0) H → 24 - v73_4.toInt < (n : Int) → WW H locs (F0 m 73 ls []) := by
        intro n
        induction n with
        | zero =>
          intro H locs ls v73_4 hW hS hl rv73_1 rv73_2 rv73_3 rv73_4 ru73_0 nh0_7 mu73
          exfalso
          omega
        | succ n ih73 =>
          intro H locs ls v73_4 hW hS hl rv73_1 rv73_2 rv73_3 rv73_4 ru73_0 nh0_7 mu73
          refine w1 _ _ _ ?_
          refine lv_iload hx hb dX9_closeGroup_73 (lv_at hl 4 rfl) ?_
          refine lv_iload_n hx hb dX9_closeGroup_75 rfl (lv_at hl 2 rfl) ?_
          refine lv_icmp_ge (tgt := 99) hx hb dX9_closeGroup_76 (by decide) (fun c76 => ?_) (fun c76 => ?_)
          · obtain ⟨x99, e99⟩ : ∃ y : Int32, y = v57_3 + 1 := ⟨_, rfl⟩
            have r99 : ir x99 2 9 := ir_w (ir_add e99 rv73_3 (ir_c (1) (by decide) : ir (1 : Int32) (1) (1)) (by decide) (by decide)) (by decide) (by decide)
            have t99 : x99.toInt = v57_3.toInt + (1) := it_add e99 rv73_3 (ir_c (1) (by decide) : ir (1 : Int32) (1) (1)) (by decide) (by decide)
            refine lv_iinc (v := x99) (lv' := [(3, .int x99), (0, .ref h0), (1, .int v57_1), (2, .int v57_2), (4, .int v73_4)]) hx hb dX9_closeGroup_99 hl (k := 3) rfl (by rw [e99]; rfl) (by decide) rfl (fun ls hl => ?_)
            refine lv_goto (tgt := 57) hx hb dX9_closeGroup_102 (by decide) ?_
            exact w2 _ _ _ (ih57 _ _ _ v57_1 v57_2 x99 u57_0 hW hS (lv_sub hl [1, 2, 3, 0] rfl) rv73_1 rv73_2 (ir_w (lo' := 1) (hi' := 9) r99 (by decide) (by decide)) ru73_0 nh0_7 (by have h9 := r99; omega))
          · have rv73_4_76 : ir v73_4 0 23 := ⟨(rv73_4).1, Int.le_trans (rf_lt (rf_nle c76) rv73_4 rv73_2).1 (by decide)⟩
            have rv57_2_76 : ir v57_2 1 24 := ⟨Int.le_trans (by decide) (rf_lt (rf_nle c76) rv73_4 rv73_2).2, (rv73_2).2⟩
            refine lv_aload_n hx hb dX9_closeGroup_79 rfl (lv_at hl 0 rfl) ?_
            refine lv_aload_n hx hb dX9_closeGroup_80 rfl (lv_at hl 0 rfl) ?_
            refine wt_get hx hb hts cfX9 hown hK hW (cg9 k0) rfl 4 (by decide) q60 dX9_closeGroup_81 (fun v hv => ?_)
            obtain ⟨x81, rfl, k81⟩ : gr N 3 v := hv
            refine wt_getN hx hb hts cfX3 hown hK hW (cg3 k81) rfl 0 (by decide) hnn q42 dX9_closeGroup_84 (fun v hv => ?_)
            obtain ⟨x84, rfl, k84⟩ : gr N 20 v := hv
            refine lv_iload hx hb dX9_closeGroup_87 (lv_at hl 4 rfl) ?_
            refine wt_iald hx hb hK hW 0 (cg20 k84) rfl (ir_in rv73_4_76 (by decide) (by decide)) dX9_closeGroup_89 (fun v hv => ?_)
            obtain ⟨x89, rfl, r89⟩ : gi 0 383 v := hv
            refine cc_v (wt_runV (As := [.int x89]) (rest := []) ⟨hx, hb, hml, hown, hts⟩ (m_X9_lay l N h0 k0 x89 r89 u57_0) wm_X9_lay q378 ⟨rfl, rfl⟩ ⟨Nat.le_of_ble_eq_true rfl, Nat.le_of_ble_eq_true rfl⟩ (cS_preV hK hW hT hnn hS (cg9 k0) rfl rfl nh0_7) rfl hl.1 rfl (Nat.le_of_ble_eq_true rfl) dX9_closeGroup_90 ⟨Nat.zero_le _, Nat.zero_le _⟩) hS (by decide) (fun H locs hW hS oq hB2 => ?_)
            have nh0_7 := hB2
            obtain ⟨x93, e93⟩ : ∃ y : Int32, y = v73_4 + 1 := ⟨_, rfl⟩
            have r93 : ir x93 1 24 := ir_w (ir_add e93 rv73_4_76 (ir_c (1) (by decide) : ir (1 : Int32) (1) (1)) (by decide) (by decide)) (by decide) (by decide)
            have t93 : x93.toInt = v73_4.toInt + (1) := it_add e93 rv73_4_76 (ir_c (1) (by decide) : ir (1 : Int32) (1) (1)) (by decide) (by decide)
            refine lv_iinc (v := x93) (lv' := [(4, .int x93), (0, .ref h0), (1, .int v57_1), (2, .int v57_2), (3, .int v57_3)]) hx hb dX9_closeGroup_93 hl (k := 4) rfl (by rw [e93]; rfl) (by decide) rfl (fun ls hl => ?_)
            refine lv_goto (tgt := 73) hx hb dX9_closeGroup_96 (by decide) ?_
            exact w2 _ _ _ (ih73 _ _ _ x93 hW hS (lv_sub hl [1, 2, 3, 4, 0] rfl) rv73_1 (ir_w (lo' := 0) (hi' := 24) rv57_2_76 (by decide) (by decide)) rv73_3 (ir_w (lo' := 0) (hi' := 24) r93 (by decide) (by decide)) ru73_0 nh0_7 (by have h9 := r93; omega))
      refine w1 _ _ _ ?_
      refine lv_iload_n hx hb dX9_closeGroup_57 rfl (lv_at hl 3 rfl) ?_
      refine lv_aload_n hx hb dX9_closeGroup_58 rfl (lv_at hl 0 rfl) ?_
      refine wt_get hx hb hts cfX9 hown hK hW (cg9 k0) rfl 5 (by decide) q62 dX9_closeGroup_59 (fun v hv => ?_)
      obtain ⟨x59, rfl, k59⟩ : gr N 22 v := hv
      refine lv_aload_n hx hb dX9_closeGroup_62 rfl (lv_at hl 0 rfl) ?_
      refine wt_rel hx hb hts cfX9 hown hK nh0_7 rfl (by decide) (Or.inl (hts _ q64)) dX9_closeGroup_63 ?_
      refine wt_iald hx hb hK hW 0 (cg22 k59) rfl (ir_in ru57_0 (by decide) (by decide)) dX9_closeGroup_66 (fun v hv => ?_)
      obtain ⟨x66, rfl, r66⟩ : gi 0 9 v := hv
      refine lv_icmp_ge (tgt := 105) hx hb dX9_closeGroup_67 (by decide) (fun c67 => ?_) (fun c67 => ?_)
      · exact W.vret hx hb hr (fun t ht _ => ⟨⟨(), rfl, trivial, cW_at ht hW, trivial⟩, hS.F ht⟩) hS.2.2 dX9_closeGroup_105
      · have rv57_3_67 : ir v57_3 1 8 := ⟨(rv57_3).1, Int.le_trans (rf_lt (rf_nle c67) rv57_3 r66).1 (by decide)⟩
        have rx66_67 : ir x66 2 9 := ⟨Int.le_trans (by decide) (rf_lt (rf_nle c67) rv57_3 r66).2, (r66).2⟩
        refine lv_iload_n hx hb dX9_closeGroup_70 rfl (lv_at hl 1 rfl) ?_
        refine lv_istore (lv' := [(4, .int v57_1), (0, .ref h0), (1, .int v57_1), (2, .int v57_2), (3, .int v57_3)]) hx hb dX9_closeGroup_71 hl (by decide) rfl (fun ls hl => ?_)
        exact w2 _ _ _ (L73 25 _ _ _ v57_1 hW hS (lv_sub hl [1, 2, 3, 4, 0] rfl) rv57_1 rv57_2 rv57_3_67 rv57_1 ru57_0 nh0_7 (by have h9 := rv57_1; omega))
  refine lv_aload_n hx hb dX9_closeGroup_0 rfl (lv_at hl 0 rfl) ?_
  refine wt_getp hx hb hts cfX9 hown hK hW (cg9 k0) rfl 7 (by decide) (Or.inl (hts _ q64)) dX9_closeGroup_1 (fun v hv nh0_7 => ?_)
  obtain ⟨x1, rfl, r1⟩ : gi 0 4 v := hv
  refine lv_iconst (v := 1) hx hb dX9_closeGroup_4 (by decide) ?_
  refine lv_icmp_lt (tgt := 16) hx hb dX9_closeGroup_5 (by decide) (fun c5 => ?_) (fun c5 => ?_)
  · have rx1_5 : ir x1 0 0 := ⟨(r1).1, Int.le_trans (rf_lt c5 r1 (ir_c (1) (by decide) : ir (1 : Int32) (1) (1))).1 (by decide)⟩
    exact W.vret hx hb hr (fun t ht _ => ⟨⟨(), rfl, trivial, cW_at ht hW, trivial⟩, hS.F ht⟩) hS.2.2 dX9_closeGroup_16
  · have rx1_5 : ir x1 1 4 := ⟨Int.le_trans (by decide) (rf_le (rf_nlt c5) (ir_c (1) (by decide) : ir (1 : Int32) (1) (1)) r1).2, (r1).2⟩
    refine lv_aload_n hx hb dX9_closeGroup_8 rfl (lv_at hl 0 rfl) ?_
    refine wt_rel hx hb hts cfX9 hown hK nh0_7 rfl (by decide) (Or.inl (hts _ q64)) dX9_closeGroup_9 ?_
    refine lv_iconst (v := 4) hx hb dX9_closeGroup_12 (by decide) ?_
    refine lv_icmp_le (tgt := 17) hx hb dX9_closeGroup_13 (by decide) (fun c13 => ?_) (fun c13 => ?_)
    · refine lv_aload_n hx hb dX9_closeGroup_17 rfl (lv_at hl 0 rfl) ?_
      refine lv_dup hx hb dX9_closeGroup_18 rfl ?_
      refine wt_getp hx hb hts cfX9 hown hK hW (cg9 k0) rfl 8 (by decide) (Or.inl (hts _ q65)) dX9_closeGroup_19 (fun v hv nh0_8 => ?_)
      obtain ⟨x19, rfl⟩ : ga v := hv
      refine lv_iconst (v := 1) hx hb dX9_closeGroup_22 (by decide) ?_
      refine lv_iadd hx hb dX9_closeGroup_23 ?_
      refine lv_topi (fun x23 e23 => ?_)
      refine wt_putp hx hb hts cfX9 tyX9 tyX9_ok nmX9 hown hK hW hS (cg9 k0) (ce k0 (by decide)) rfl 8 (by decide) (Or.inl (hts _ q65)) rfl rfl rfl ga_mk dX9_closeGroup_24 (fun H locs hW hS oq o2 np => ?_)
      have nh0_7 := o2 7 _ (by decide) (by decide) nh0_7
      have nh0_8 : wt_pin N.1 vwCl h0 9 8 (.int x23) H := np
      refine lv_aload_n hx hb dX9_closeGroup_27 rfl (lv_at hl 0 rfl) ?_
      refine lv_dup hx hb dX9_closeGroup_28 rfl ?_
      refine wt_rel hx hb hts cfX9 hown hK nh0_7 rfl (by decide) (Or.inl (hts _ q64)) dX9_closeGroup_29 ?_
      refine lv_iconst (v := 1) hx hb dX9_closeGroup_32 (by decide) ?_
      refine lv_isub hx hb dX9_closeGroup_33 ?_
      refine lv_topi (fun x33 e33 => ?_)
      have t33 : x33.toInt = x1.toInt - (1) := it_sub e33 rx1_5 (ir_c (1) (by decide) : ir (1 : Int32) (1) (1)) (by decide) (by decide)
      have r33 : ir x33 0 3 := ir_w (ir_sub e33 rx1_5 (ir_c (1) (by decide) : ir (1 : Int32) (1) (1)) (by decide) (by decide)) (by decide) (by decide)
      refine wt_putp hx hb hts cfX9 tyX9 tyX9_ok nmX9 hown hK hW hS (cg9 k0) (ce k0 (by decide)) rfl 7 (by decide) (Or.inl (hts _ q64)) rfl rfl rfl (gi_mk (ir_w (lo' := 0) (hi' := 4) r33 (by decide) (by decide))) dX9_closeGroup_34 (fun H locs hW hS oq o2 np => ?_)
      have nh0_8 := o2 8 _ (by decide) (by decide) nh0_8
      have nh0_7 : wt_pin N.1 vwCl h0 9 7 (.int x33) H := np
      refine lv_aload_n hx hb dX9_closeGroup_37 rfl (lv_at hl 0 rfl) ?_
      refine wt_get hx hb hts cfX9 hown hK hW (cg9 k0) rfl 6 (by decide) q63 dX9_closeGroup_38 (fun v hv => ?_)
      obtain ⟨x38, rfl, k38⟩ : gr N 23 v := hv
      refine lv_aload_n hx hb dX9_closeGroup_41 rfl (lv_at hl 0 rfl) ?_
      refine wt_rel hx hb hts cfX9 hown hK nh0_7 rfl (by decide) (Or.inl (hts _ q64)) dX9_closeGroup_42 ?_
      refine wt_iald hx hb hK hW 0 (cg23 k38) rfl (ir_in r33 (by decide) (by decide)) dX9_closeGroup_45 (fun v hv => ?_)
      obtain ⟨x45, rfl, r45⟩ : gi 0 24 v := hv
      refine lv_istore_n (lv' := [(1, .int x45), (0, .ref h0)]) hx hb dX9_closeGroup_46 rfl hl (by decide) rfl (fun ls hl => ?_)
      refine lv_aload_n hx hb dX9_closeGroup_47 rfl (lv_at hl 1 rfl) ?_
      refine wt_get hx hb hts cfX9 hown hK hW (cg9 k0) rfl 4 (by decide) q60 dX9_closeGroup_48 (fun v hv => ?_)
      obtain ⟨x48, rfl, k48⟩ : gr N 3 v := hv
      refine wt_getp hx hb hts cfX3 hown hK hW (cg3 k48) rfl 1 (by decide) (Or.inr ⟨_, lw_n_use hnn q45⟩) dX9_closeGroup_51 (fun v hv nx48_1 => ?_)
      obtain ⟨x51, rfl, r51⟩ : gi 0 24 v := hv
      refine lv_istore_n (lv' := [(2, .int x51), (1, .int x45), (0, .ref h0)]) hx hb dX9_closeGroup_54 rfl hl (by decide) rfl (fun ls hl => ?_)
      refine lv_iconst (v := 1) hx hb dX9_closeGroup_55 (by decide) ?_
      refine lv_istore_n (lv' := [(3, .int (1 : Int32)), (2, .int x51), (1, .int x45), (0, .ref h0)]) hx hb dX9_closeGroup_56 rfl hl (by decide) rfl (fun ls hl => ?_)
      exact w2 _ _ _ (L57 9 _ _ _ x45 x51 (1 : Int32) x33 hW hS (lv_sub hl [3, 2, 1, 0] rfl) r45 r51 (ir_w (lo' := 1) (hi' := 9) (ir_c (1) (by decide) : ir (1 : Int32) (1) (1)) (by decide) (by decide)) r33 nh0_7 (by have h9 := (ir_c (1) (by decide) : ir (1 : Int32) (1) (1)); omega))
    · exact absurd (rf_lt (rf_nle c13) (ir_c (4) (by decide) : ir (4 : Int32) (4) (4)) rx1_5) (by have h8 := (ir_c (4) (by decide) : ir (4 : Int32) (4) (4)); have h9 := rx1_5; omega)
set_option maxHeartbeats 4000000 in
set_option maxRecDepth 100000 in
theorem m_X9_readOpening (l : Launch) (N : c_N) (h0 : Nat) (k0 : N.2.2.1 h0 = some 9) : cMv l yX9_readOpening cX9_readOpening 2 { frames := 2, cells := 0, slots := 0, locals := 44 } [.ref h0] N [9, 22, 23] cT0 cT0 := by
  refine Met.ofW (cc := cX9_readOpening) (maxL := 2) (ret := none) (by decide) rfl ?_
  intro p e s m args below meth c s₁ B hml hv
  obtain ⟨rfl, ⟨hK, hW, hT, hnn⟩, hB⟩ := hv
  have hx := B.exec
  have hb := B.bytes
  have hr := B.returns
  have hts : ∀ w ∈ lw_g, w.before _ s = true := fun w h => atoms_spec (ws := wc_ws yX9_readOpening cX9_readOpening 2 none) B.pre w (List.mem_cons_of_mem _ h)
  have hown : s.vm.findClass RX9 = some m.cls := findClass_of_methodNamed B.named
  have hlocks := B.notSynchronized
  have hS : va_S (cE N [9, 22, 23]) s.heap s.heap [] := va_S.rf
  have hl := lv_entry ([.ref h0]) (n := 2) (Nat.le_of_ble_eq_true rfl)
  rw [lg_entry_eq]
  generalize (lg_sl ([.ref h0]) ++ List.replicate (2 - (lg_sl ([.ref h0])).length) Slot.unset).toArray = ls at hl ⊢
  have hl : lv_has ls 2 [(0, .ref h0)] := hl
  refine wq_all ?_
  intro WW w1 w2
  have J57 : ∀ (H : Heap) (locs : List Loc) (ls : Array Slot) , cW N H → va_S (cE N [9, 22, 23]) s.heap H locs → lv_has ls 2 [(0, .ref h0)] → WW H locs (F0 m 57 ls []) := by
    intro H locs ls  hW hS hl
    refine w1 _ _ _ ?_
    refine lv_aload_n hx hb dX9_readOpening_57 rfl (lv_at hl 0 rfl) ?_
    refine lv_iconst (v := 1) hx hb dX9_readOpening_58 (by decide) ?_
    refine lv_aload_n hx hb dX9_readOpening_59 rfl (lv_at hl 0 rfl) ?_
    refine wt_getp hx hb hts cfX9 hown hK hW (cg9 k0) rfl 8 (by decide) (Or.inl (hts _ q65)) dX9_readOpening_60 (fun v hv nh0_8 => ?_)
    obtain ⟨x60, rfl⟩ : ga v := hv
    refine cc_v (wt_runV (As := [.int (1 : Int32), .int x60]) (rest := []) ⟨hx, hb, hml, hown, hts⟩ (m_X9_fail l N h0 k0 (1 : Int32) x60) wm_X9_fail q400 ⟨rfl, rfl⟩ ⟨Nat.le_of_ble_eq_true rfl, Nat.le_of_ble_eq_true rfl⟩ (cS_preV hK hW hT hnn hS (cg9 k0) rfl rfl trivial) rfl hl.1 rfl (Nat.le_of_ble_eq_true rfl) dX9_readOpening_63 ⟨Nat.zero_le _, Nat.zero_le _⟩) hS (by decide) (fun H locs hW hS oq hB2 => ?_)
    exact W.vret hx hb hr (fun t ht _ => ⟨⟨(), rfl, trivial, cW_at ht hW, trivial⟩, hS.F ht⟩) hS.2.2 dX9_readOpening_66
  refine lv_aload_n hx hb dX9_readOpening_0 rfl (lv_at hl 0 rfl) ?_
  refine wt_getp hx hb hts cfX9 hown hK hW (cg9 k0) rfl 8 (by decide) (Or.inl (hts _ q65)) dX9_readOpening_1 (fun v hv nh0_8 => ?_)
  obtain ⟨x1, rfl⟩ : ga v := hv
  refine lv_istore_n (lv' := [(1, .int x1), (0, .ref h0)]) hx hb dX9_readOpening_4 rfl hl (by decide) rfl (fun ls hl => ?_)
  refine lv_aload_n hx hb dX9_readOpening_5 rfl (lv_at hl 1 rfl) ?_
  refine cc_v (wt_runV (As := []) (rest := []) ⟨hx, hb, hml, hown, hts⟩ (m_X9_readNumber l N h0 k0) wm_X9_readNumber q393 ⟨rfl, rfl⟩ ⟨Nat.le_of_ble_eq_true rfl, Nat.le_of_ble_eq_true rfl⟩ (cS_preV hK hW hT hnn hS (cg9 k0) rfl rfl trivial) rfl hl.1 rfl (Nat.le_of_ble_eq_true rfl) dX9_readOpening_6 ⟨Nat.zero_le _, Nat.zero_le _⟩) hS (by decide) (fun H locs hW hS oq hB2 => ?_)
  refine lv_aload_n hx hb dX9_readOpening_9 rfl (lv_at hl 1 rfl) ?_
  refine cc_v (wt_runV (As := []) (rest := []) ⟨hx, hb, hml, hown, hts⟩ (m_X9_skipBlanks l N h0 k0) wm_X9_skipBlanks q356 ⟨rfl, rfl⟩ ⟨Nat.le_of_ble_eq_true rfl, Nat.le_of_ble_eq_true rfl⟩ (cS_preV hK hW hT hnn hS (cg9 k0) rfl rfl trivial) rfl hl.1 rfl (Nat.le_of_ble_eq_true rfl) dX9_readOpening_10 ⟨Nat.zero_le _, Nat.zero_le _⟩) hS (by decide) (fun H locs hW hS oq hB2 => ?_)
  refine lv_aload_n hx hb dX9_readOpening_13 rfl (lv_at hl 1 rfl) ?_
  refine cc_i (wt_runV (As := []) (rest := []) ⟨hx, hb, hml, hown, hts⟩ (m_X9_peek l N h0 k0) wm_X9_peek q360 ⟨rfl, rfl⟩ ⟨Nat.le_of_ble_eq_true rfl, Nat.le_of_ble_eq_true rfl⟩ (cS_preV hK hW hT hnn hS (cg9 k0) rfl rfl trivial) rfl hl.1 rfl (Nat.le_of_ble_eq_true rfl) dX9_readOpening_14 ⟨Nat.zero_le _, Nat.zero_le _⟩) hS (by decide) (fun x14 H locs hp hW hS oq => ?_)
  have r14 : ir x14 (-1) 255 := hp
  refine lv_bipush (v := 40) hx hb dX9_readOpening_17 (by decide) ?_
  refine lv_icmp_ne (tgt := 30) hx hb dX9_readOpening_19 (by decide) (fun c19 => ?_) (fun c19 => ?_)
  · refine lv_aload_n hx hb dX9_readOpening_30 rfl (lv_at hl 1 rfl) ?_
    refine cc_i (wt_runV (As := []) (rest := []) ⟨hx, hb, hml, hown, hts⟩ (m_X9_peek l N h0 k0) wm_X9_peek q360 ⟨rfl, rfl⟩ ⟨Nat.le_of_ble_eq_true rfl, Nat.le_of_ble_eq_true rfl⟩ (cS_preV hK hW hT hnn hS (cg9 k0) rfl rfl trivial) rfl hl.1 rfl (Nat.le_of_ble_eq_true rfl) dX9_readOpening_31 ⟨Nat.zero_le _, Nat.zero_le _⟩) hS (by decide) (fun x31 H locs hp hW hS oq => ?_)
    have r31 : ir x31 (-1) 255 := hp
    refine lv_bipush (v := 47) hx hb dX9_readOpening_34 (by decide) ?_
    refine lv_icmp_ne (tgt := 57) hx hb dX9_readOpening_36 (by decide) (fun c36 => ?_) (fun c36 => ?_)
    · exact w2 _ _ _ (J57 _ _ _  hW hS (lv_sub hl [1] rfl) )
    · have rx31_36 : ir x31 47 47 := rf_eq c36 (ir_c (47) (by decide) : ir (47 : Int32) (47) (47))
      refine lv_aload_n hx hb dX9_readOpening_39 rfl (lv_at hl 1 rfl) ?_
      refine wt_getp hx hb hts cfX9 hown hK hW (cg9 k0) rfl 9 (by decide) (Or.inl (hts _ q66)) dX9_readOpening_40 (fun v hv nh0_9 => ?_)
      obtain ⟨x40, rfl, r40⟩ : gi 0 1000 v := hv
      refine lv_bipush (v := 6) hx hb dX9_readOpening_43 (by decide) ?_
      refine lv_icmp_le (tgt := 57) hx hb dX9_readOpening_45 (by decide) (fun c45 => ?_) (fun c45 => ?_)
      · have rx40_45 : ir x40 0 6 := ⟨(r40).1, Int.le_trans (rf_le c45 r40 (ir_c (6) (by decide) : ir (6 : Int32) (6) (6))).1 (by decide)⟩
        exact w2 _ _ _ (J57 _ _ _  hW hS (lv_sub hl [1] rfl) )
      · have rx40_45 : ir x40 7 1000 := ⟨Int.le_trans (by decide) (rf_lt (rf_nle c45) (ir_c (6) (by decide) : ir (6 : Int32) (6) (6)) r40).2, (r40).2⟩
        refine lv_aload_n hx hb dX9_readOpening_48 rfl (lv_at hl 1 rfl) ?_
        refine lv_iconst (v := 2) hx hb dX9_readOpening_49 (by decide) ?_
        refine lv_iload_n hx hb dX9_readOpening_50 rfl (lv_at hl 0 rfl) ?_
        refine cc_v (wt_runV (As := [.int (2 : Int32), .int x1]) (rest := []) ⟨hx, hb, hml, hown, hts⟩ (m_X9_fail l N h0 k0 (2 : Int32) x1) wm_X9_fail q400 ⟨rfl, rfl⟩ ⟨Nat.le_of_ble_eq_true rfl, Nat.le_of_ble_eq_true rfl⟩ (cS_preV hK hW hT hnn hS (cg9 k0) rfl rfl trivial) rfl hl.1 rfl (Nat.le_of_ble_eq_true rfl) dX9_readOpening_51 ⟨Nat.zero_le _, Nat.zero_le _⟩) hS (by decide) (fun H locs hW hS oq hB2 => ?_)
        refine lv_goto (tgt := 66) hx hb dX9_readOpening_54 (by decide) ?_
        exact W.vret hx hb hr (fun t ht _ => ⟨⟨(), rfl, trivial, cW_at ht hW, trivial⟩, hS.F ht⟩) hS.2.2 dX9_readOpening_66
  · have rx14_19 : ir x14 40 40 := rf_eq c19 (ir_c (40) (by decide) : ir (40 : Int32) (40) (40))
    refine lv_aload_n hx hb dX9_readOpening_22 rfl (lv_at hl 1 rfl) ?_
    refine lv_iload_n hx hb dX9_readOpening_23 rfl (lv_at hl 0 rfl) ?_
    refine cc_v (wt_runV (As := [.int x1]) (rest := []) ⟨hx, hb, hml, hown, hts⟩ (m_X9_openGroup l N h0 k0 x1) wm_X9_openGroup q408 ⟨rfl, rfl⟩ ⟨Nat.le_of_ble_eq_true rfl, Nat.le_of_ble_eq_true rfl⟩ (cS_preV hK hW hT hnn hS (cg9 k0) rfl rfl trivial) rfl hl.1 rfl (Nat.le_of_ble_eq_true rfl) dX9_readOpening_24 ⟨Nat.zero_le _, Nat.zero_le _⟩) hS (by decide) (fun H locs hW hS oq hB2 => ?_)
    refine lv_goto (tgt := 66) hx hb dX9_readOpening_27 (by decide) ?_
    exact W.vret hx hb hr (fun t ht _ => ⟨⟨(), rfl, trivial, cW_at ht hW, trivial⟩, hS.F ht⟩) hS.2.2 dX9_readOpening_66
set_option maxHeartbeats 4000000 in
set_option maxRecDepth 100000 in
theorem m_X9_readThickOrNone (l : Launch) (N : c_N) (h0 : Nat) (k0 : N.2.2.1 h0 = some 9) (p1 : Int32) (rp1 : ir p1 0 5) : cMv l yX9_readThickOrNone cX9_readThickOrNone 4 { frames := 2, cells := 0, slots := 0, locals := 55 } [.ref h0, .int p1] N [3, 9, 20] cT0 cT0 := by
  refine Met.ofW (cc := cX9_readThickOrNone) (maxL := 4) (ret := none) (by decide) rfl ?_
  intro p e s m args below meth c s₁ B hml hv
  obtain ⟨rfl, ⟨hK, hW, hT, hnn⟩, hB⟩ := hv
  have hx := B.exec
  have hb := B.bytes
  have hr := B.returns
  have hts : ∀ w ∈ lw_g, w.before _ s = true := fun w h => atoms_spec (ws := wc_ws yX9_readThickOrNone cX9_readThickOrNone 4 none) B.pre w (List.mem_cons_of_mem _ h)
  have hown : s.vm.findClass RX9 = some m.cls := findClass_of_methodNamed B.named
  have hlocks := B.notSynchronized
  have hS : va_S (cE N [3, 9, 20]) s.heap s.heap [] := va_S.rf
  have hl := lv_entry ([.ref h0, .int p1]) (n := 4) (Nat.le_of_ble_eq_true rfl)
  rw [lg_entry_eq]
  generalize (lg_sl ([.ref h0, .int p1]) ++ List.replicate (4 - (lg_sl ([.ref h0, .int p1])).length) Slot.unset).toArray = ls at hl ⊢
  have hl : lv_has ls 4 [(0, .ref h0), (1, .int p1)] := hl
  refine wq_all ?_
  intro WW w1 w2
  have J138 : ∀ (H : Heap) (locs : List Loc) (ls : Array Slot) (v138_2 : Int32) (u138_0 : Int32), cW N H → va_S (cE N [3, 9, 20]) s.heap H locs → lv_has ls 4 [(0, .ref h0), (2, .int v138_2)] → ir u138_0 0 1000 → wt_pin N.1 vwCl h0 9 9 (.int u138_0) H → WW H locs (F0 m 138 ls []) := by
    intro H locs ls v138_2 u138_0 hW hS hl ru138_0 nh0_9
    refine w1 _ _ _ ?_
    refine lv_aload_n hx hb dX9_readThickOrNone_138 rfl (lv_at hl 0 rfl) ?_
    refine lv_iconst (v := 2) hx hb dX9_readThickOrNone_139 (by decide) ?_
    refine lv_iload_n hx hb dX9_readThickOrNone_140 rfl (lv_at hl 1 rfl) ?_
    refine cc_v (wt_runV (As := [.int (2 : Int32), .int v138_2]) (rest := []) ⟨hx, hb, hml, hown, hts⟩ (m_X9_fail l N h0 k0 (2 : Int32) v138_2) wm_X9_fail q400 ⟨rfl, rfl⟩ ⟨Nat.le_of_ble_eq_true rfl, Nat.le_of_ble_eq_true rfl⟩ (cS_preV hK hW hT hnn hS (cg9 k0) rfl rfl trivial) rfl hl.1 rfl (Nat.le_of_ble_eq_true rfl) dX9_readThickOrNone_141 ⟨Nat.zero_le _, Nat.zero_le _⟩) hS (by decide) (fun H locs hW hS oq hB2 => ?_)
    exact W.vret hx hb hr (fun t ht _ => ⟨⟨(), rfl, trivial, cW_at ht hW, trivial⟩, hS.F ht⟩) hS.2.2 dX9_readThickOrNone_144
  refine lv_aload_n hx hb dX9_readThickOrNone_0 rfl (lv_at hl 0 rfl) ?_
  refine wt_getp hx hb hts cfX9 hown hK hW (cg9 k0) rfl 8 (by decide) (Or.inl (hts _ q65)) dX9_readThickOrNone_1 (fun v hv nh0_8 => ?_)
  obtain ⟨x1, rfl⟩ : ga v := hv
  refine lv_istore_n (lv' := [(2, .int x1), (0, .ref h0), (1, .int p1)]) hx hb dX9_readThickOrNone_4 rfl hl (by decide) rfl (fun ls hl => ?_)
  refine lv_aload_n hx hb dX9_readThickOrNone_5 rfl (lv_at hl 1 rfl) ?_
  refine cc_v (wt_runV (As := []) (rest := []) ⟨hx, hb, hml, hown, hts⟩ (m_X9_readNumber l N h0 k0) wm_X9_readNumber q393 ⟨rfl, rfl⟩ ⟨Nat.le_of_ble_eq_true rfl, Nat.le_of_ble_eq_true rfl⟩ (cS_preV hK hW hT hnn hS (cg9 k0) rfl rfl trivial) rfl hl.1 rfl (Nat.le_of_ble_eq_true rfl) dX9_readThickOrNone_6 ⟨Nat.zero_le _, Nat.zero_le _⟩) hS (by decide) (fun H locs hW hS oq hB2 => ?_)
  refine lv_aload_n hx hb dX9_readThickOrNone_9 rfl (lv_at hl 1 rfl) ?_
  refine cc_v (wt_runV (As := []) (rest := []) ⟨hx, hb, hml, hown, hts⟩ (m_X9_skipBlanks l N h0 k0) wm_X9_skipBlanks q356 ⟨rfl, rfl⟩ ⟨Nat.le_of_ble_eq_true rfl, Nat.le_of_ble_eq_true rfl⟩ (cS_preV hK hW hT hnn hS (cg9 k0) rfl rfl trivial) rfl hl.1 rfl (Nat.le_of_ble_eq_true rfl) dX9_readThickOrNone_10 ⟨Nat.zero_le _, Nat.zero_le _⟩) hS (by decide) (fun H locs hW hS oq hB2 => ?_)
  refine lv_aload_n hx hb dX9_readThickOrNone_13 rfl (lv_at hl 1 rfl) ?_
  refine cc_i (wt_runV (As := []) (rest := []) ⟨hx, hb, hml, hown, hts⟩ (m_X9_peek l N h0 k0) wm_X9_peek q360 ⟨rfl, rfl⟩ ⟨Nat.le_of_ble_eq_true rfl, Nat.le_of_ble_eq_true rfl⟩ (cS_preV hK hW hT hnn hS (cg9 k0) rfl rfl trivial) rfl hl.1 rfl (Nat.le_of_ble_eq_true rfl) dX9_readThickOrNone_14 ⟨Nat.zero_le _, Nat.zero_le _⟩) hS (by decide) (fun x14 H locs hp hW hS oq => ?_)
  have r14 : ir x14 (-1) 255 := hp
  refine lv_bipush (v := 40) hx hb dX9_readThickOrNone_17 (by decide) ?_
  refine lv_icmp_ne (tgt := 38) hx hb dX9_readThickOrNone_19 (by decide) (fun c19 => ?_) (fun c19 => ?_)
  · refine lv_aload_n hx hb dX9_readThickOrNone_38 rfl (lv_at hl 1 rfl) ?_
    refine cc_i (wt_runV (As := []) (rest := []) ⟨hx, hb, hml, hown, hts⟩ (m_X9_peek l N h0 k0) wm_X9_peek q360 ⟨rfl, rfl⟩ ⟨Nat.le_of_ble_eq_true rfl, Nat.le_of_ble_eq_true rfl⟩ (cS_preV hK hW hT hnn hS (cg9 k0) rfl rfl trivial) rfl hl.1 rfl (Nat.le_of_ble_eq_true rfl) dX9_readThickOrNone_39 ⟨Nat.zero_le _, Nat.zero_le _⟩) hS (by decide) (fun x39 H locs hp hW hS oq => ?_)
    have r39 : ir x39 (-1) 255 := hp
    refine lv_bipush (v := 47) hx hb dX9_readThickOrNone_42 (by decide) ?_
    refine lv_icmp_eq (tgt := 57) hx hb dX9_readThickOrNone_44 (by decide) (fun c44 => ?_) (fun c44 => ?_)
    · have rx39_44 : ir x39 47 47 := rf_eq c44 (ir_c (47) (by decide) : ir (47 : Int32) (47) (47))
      refine lv_aload_n hx hb dX9_readThickOrNone_57 rfl (lv_at hl 1 rfl) ?_
      refine wt_getp hx hb hts cfX9 hown hK hW (cg9 k0) rfl 9 (by decide) (Or.inl (hts _ q66)) dX9_readThickOrNone_58 (fun v hv nh0_9 => ?_)
      obtain ⟨x58, rfl, r58⟩ : gi 0 1000 v := hv
      refine lv_bipush (v := 6) hx hb dX9_readThickOrNone_61 (by decide) ?_
      refine lv_icmp_le (tgt := 73) hx hb dX9_readThickOrNone_63 (by decide) (fun c63 => ?_) (fun c63 => ?_)
      · have rx58_63 : ir x58 0 6 := ⟨(r58).1, Int.le_trans (rf_le c63 r58 (ir_c (6) (by decide) : ir (6 : Int32) (6) (6))).1 (by decide)⟩
        refine lv_aload_n hx hb dX9_readThickOrNone_73 rfl (lv_at hl 1 rfl) ?_
        refine wt_rel hx hb hts cfX9 hown hK nh0_9 rfl (by decide) (Or.inl (hts _ q66)) dX9_readThickOrNone_74 ?_
        refine lv_istore_n (lv' := [(3, .int x58), (2, .int x1), (0, .ref h0), (1, .int p1)]) hx hb dX9_readThickOrNone_77 rfl hl (by decide) rfl (fun ls hl => ?_)
        refine lv_aload_n hx hb dX9_readThickOrNone_78 rfl (lv_at hl 2 rfl) ?_
        refine lv_dup hx hb dX9_readThickOrNone_79 rfl ?_
        refine wt_getp hx hb hts cfX9 hown hK hW (cg9 k0) rfl 8 (by decide) (Or.inl (hts _ q65)) dX9_readThickOrNone_80 (fun v hv nh0_8 => ?_)
        obtain ⟨x80, rfl⟩ : ga v := hv
        refine lv_iconst (v := 1) hx hb dX9_readThickOrNone_83 (by decide) ?_
        refine lv_iadd hx hb dX9_readThickOrNone_84 ?_
        refine lv_topi (fun x84 e84 => ?_)
        refine wt_putp hx hb hts cfX9 tyX9 tyX9_ok nmX9 hown hK hW hS (cg9 k0) (ce k0 (by decide)) rfl 8 (by decide) (Or.inl (hts _ q65)) rfl rfl rfl ga_mk dX9_readThickOrNone_85 (fun H locs hW hS oq o2 np => ?_)
        have nh0_9 := o2 9 _ (by decide) (by decide) nh0_9
        have nh0_8 : wt_pin N.1 vwCl h0 9 8 (.int x84) H := np
        refine lv_aload_n hx hb dX9_readThickOrNone_88 rfl (lv_at hl 2 rfl) ?_
        refine cc_v (wt_runV (As := []) (rest := []) ⟨hx, hb, hml, hown, hts⟩ (m_X9_skipBlanks l N h0 k0) wm_X9_skipBlanks q356 ⟨rfl, rfl⟩ ⟨Nat.le_of_ble_eq_true rfl, Nat.le_of_ble_eq_true rfl⟩ (cS_preV hK hW hT hnn hS (cg9 k0) rfl rfl trivial) rfl hl.1 rfl (Nat.le_of_ble_eq_true rfl) dX9_readThickOrNone_89 ⟨Nat.zero_le _, Nat.zero_le _⟩) hS (by decide) (fun H locs hW hS oq hB2 => ?_)
        refine lv_aload_n hx hb dX9_readThickOrNone_92 rfl (lv_at hl 2 rfl) ?_
        refine cc_i (wt_runV (As := []) (rest := []) ⟨hx, hb, hml, hown, hts⟩ (m_X9_peek l N h0 k0) wm_X9_peek q360 ⟨rfl, rfl⟩ ⟨Nat.le_of_ble_eq_true rfl, Nat.le_of_ble_eq_true rfl⟩ (cS_preV hK hW hT hnn hS (cg9 k0) rfl rfl trivial) rfl hl.1 rfl (Nat.le_of_ble_eq_true rfl) dX9_readThickOrNone_93 ⟨Nat.zero_le _, Nat.zero_le _⟩) hS (by decide) (fun x93 H locs hp hW hS oq => ?_)
        have r93 : ir x93 (-1) 255 := hp
        refine cp_i (wt_runS (As := [.int x93]) (rest := []) ⟨hx, hb, hml, hown, hts⟩ (m_X9_isDigit l x93) wm_X9_isDigit q386 ⟨rfl, rfl⟩ ⟨Nat.le_of_ble_eq_true rfl, Nat.le_of_ble_eq_true rfl⟩ pS_pre rfl hl.1 rfl (Nat.le_of_ble_eq_true rfl) dX9_readThickOrNone_96 ⟨Nat.zero_le _, Nat.zero_le _⟩) hW hS (fun x96 H locs hp hW hS oq => ?_)
        obtain ⟨r96, b96⟩ := hp
        refine lv_if_ne (tgt := 112) hx hb dX9_readThickOrNone_99 (by decide) (fun c99 => ?_) (fun c99 => ?_)
        · have rx96_99 : ir x96 1 1 := rf_ne0 c99 r96
          have bx96_99 := b96 c99
          refine lv_aload_n hx hb dX9_readThickOrNone_112 rfl (lv_at hl 2 rfl) ?_
          refine wt_getp hx hb hts cfX9 hown hK hW (cg9 k0) rfl 8 (by decide) (Or.inl (hts _ q65)) dX9_readThickOrNone_113 (fun v hv nh0_8 => ?_)
          obtain ⟨x113, rfl⟩ : ga v := hv
          refine lv_istore_n (lv' := [(2, .int x113), (3, .int x58), (0, .ref h0), (1, .int p1)]) hx hb dX9_readThickOrNone_116 rfl hl (by decide) rfl (fun ls hl => ?_)
          refine lv_aload_n hx hb dX9_readThickOrNone_117 rfl (lv_at hl 2 rfl) ?_
          refine cc_v (wt_runV (As := []) (rest := []) ⟨hx, hb, hml, hown, hts⟩ (m_X9_readNumber l N h0 k0) wm_X9_readNumber q393 ⟨rfl, rfl⟩ ⟨Nat.le_of_ble_eq_true rfl, Nat.le_of_ble_eq_true rfl⟩ (cS_preV hK hW hT hnn hS (cg9 k0) rfl rfl trivial) rfl hl.1 rfl (Nat.le_of_ble_eq_true rfl) dX9_readThickOrNone_118 ⟨Nat.zero_le _, Nat.zero_le _⟩) hS (by decide) (fun H locs hW hS oq hB2 => ?_)
          refine lv_aload_n hx hb dX9_readThickOrNone_121 rfl (lv_at hl 2 rfl) ?_
          refine wt_getp hx hb hts cfX9 hown hK hW (cg9 k0) rfl 9 (by decide) (Or.inl (hts _ q66)) dX9_readThickOrNone_122 (fun v hv nh0_9 => ?_)
          obtain ⟨x122, rfl, r122⟩ : gi 0 1000 v := hv
          refine lv_iconst (v := 1) hx hb dX9_readThickOrNone_125 (by decide) ?_
          refine lv_icmp_lt (tgt := 138) hx hb dX9_readThickOrNone_126 (by decide) (fun c126 => ?_) (fun c126 => ?_)
          · have rx122_126 : ir x122 0 0 := ⟨(r122).1, Int.le_trans (rf_lt c126 r122 (ir_c (1) (by decide) : ir (1 : Int32) (1) (1))).1 (by decide)⟩
            exact w2 _ _ _ (J138 _ _ _ x113 x122 hW hS (lv_sub hl [2, 0] rfl) (ir_w (lo' := 0) (hi' := 1000) rx122_126 (by decide) (by decide)) nh0_9)
          · have rx122_126 : ir x122 1 1000 := ⟨Int.le_trans (by decide) (rf_le (rf_nlt c126) (ir_c (1) (by decide) : ir (1 : Int32) (1) (1)) r122).2, (r122).2⟩
            refine lv_aload_n hx hb dX9_readThickOrNone_129 rfl (lv_at hl 2 rfl) ?_
            refine wt_rel hx hb hts cfX9 hown hK nh0_9 rfl (by decide) (Or.inl (hts _ q66)) dX9_readThickOrNone_130 ?_
            refine lv_bipush (v := 6) hx hb dX9_readThickOrNone_133 (by decide) ?_
            refine lv_icmp_le (tgt := 145) hx hb dX9_readThickOrNone_135 (by decide) (fun c135 => ?_) (fun c135 => ?_)
            · have rx122_135 : ir x122 1 6 := ⟨(rx122_126).1, Int.le_trans (rf_le c135 rx122_126 (ir_c (6) (by decide) : ir (6 : Int32) (6) (6))).1 (by decide)⟩
              refine lv_aload_n hx hb dX9_readThickOrNone_145 rfl (lv_at hl 2 rfl) ?_
              refine lv_iload_n hx hb dX9_readThickOrNone_146 rfl (lv_at hl 3 rfl) ?_
              refine lv_iload_n hx hb dX9_readThickOrNone_147 rfl (lv_at hl 1 rfl) ?_
              refine lv_aload_n hx hb dX9_readThickOrNone_148 rfl (lv_at hl 2 rfl) ?_
              refine wt_rel hx hb hts cfX9 hown hK nh0_9 rfl (by decide) (Or.inl (hts _ q66)) dX9_readThickOrNone_149 ?_
              refine cp_i (wt_runSN (As := [.int p1, .int x58, .int x122]) (rest := [.ref h0]) ⟨hx, hb, hml, hown, hts⟩ hnn (m_X10_codeOf l p1 rp1 x58 (ir_w (lo' := 0) (hi' := 7) rx58_63 (by decide) (by decide)) x122 (ir_w (lo' := 0) (hi' := 7) rx122_135 (by decide) (by decide))) wm_X10_codeOf q372 ⟨rfl, rfl⟩ ⟨Nat.le_of_ble_eq_true rfl, Nat.le_of_ble_eq_true rfl⟩ pS_pre rfl hl.1 rfl (Nat.le_of_ble_eq_true rfl) dX9_readThickOrNone_152 ⟨Nat.zero_le _, Nat.zero_le _⟩) hW hS (fun x152 H locs hp hW hS oq => ?_)
              have nh0_9 := nh0_9.kept (oq _ nh0_9.lt (cE_not k0 (by decide)))
              have r152 : ir x152 0 383 := hp
              obtain ⟨v, hv, nh0_7⟩ := cpin hW (cg9 k0) rfl 7 (by decide)
              obtain ⟨x155_7, rfl, r155_7⟩ : gi 0 4 v := hv
              refine cc_v (wt_runV (As := [.int x152]) (rest := []) ⟨hx, hb, hml, hown, hts⟩ (m_X9_lay l N h0 k0 x152 r152 x155_7) wm_X9_lay q378 ⟨rfl, rfl⟩ ⟨Nat.le_of_ble_eq_true rfl, Nat.le_of_ble_eq_true rfl⟩ (cS_preV hK hW hT hnn hS (cg9 k0) rfl rfl nh0_7) rfl hl.1 rfl (Nat.le_of_ble_eq_true rfl) dX9_readThickOrNone_155 ⟨Nat.zero_le _, Nat.zero_le _⟩) hS (by decide) (fun H locs hW hS oq hB2 => ?_)
              have nh0_7 := hB2
              exact W.vret hx hb hr (fun t ht _ => ⟨⟨(), rfl, trivial, cW_at ht hW, trivial⟩, hS.F ht⟩) hS.2.2 dX9_readThickOrNone_158
            · have rx122_135 : ir x122 7 1000 := ⟨Int.le_trans (by decide) (rf_lt (rf_nle c135) (ir_c (6) (by decide) : ir (6 : Int32) (6) (6)) rx122_126).2, (rx122_126).2⟩
              exact w2 _ _ _ (J138 _ _ _ x113 x122 hW hS (lv_sub hl [2, 0] rfl) (ir_w (lo' := 0) (hi' := 1000) rx122_135 (by decide) (by decide)) nh0_9)
        · have rx96_99 : ir x96 0 0 := rf_eq c99 (ir_c (0) (by decide) : ir (0 : Int32) (0) (0))
          refine lv_aload_n hx hb dX9_readThickOrNone_102 rfl (lv_at hl 2 rfl) ?_
          refine lv_iconst (v := 1) hx hb dX9_readThickOrNone_103 (by decide) ?_
          refine lv_aload_n hx hb dX9_readThickOrNone_104 rfl (lv_at hl 2 rfl) ?_
          refine wt_getp hx hb hts cfX9 hown hK hW (cg9 k0) rfl 8 (by decide) (Or.inl (hts _ q65)) dX9_readThickOrNone_105 (fun v hv nh0_8 => ?_)
          obtain ⟨x105, rfl⟩ : ga v := hv
          refine cc_v (wt_runV (As := [.int (1 : Int32), .int x105]) (rest := []) ⟨hx, hb, hml, hown, hts⟩ (m_X9_fail l N h0 k0 (1 : Int32) x105) wm_X9_fail q400 ⟨rfl, rfl⟩ ⟨Nat.le_of_ble_eq_true rfl, Nat.le_of_ble_eq_true rfl⟩ (cS_preV hK hW hT hnn hS (cg9 k0) rfl rfl trivial) rfl hl.1 rfl (Nat.le_of_ble_eq_true rfl) dX9_readThickOrNone_108 ⟨Nat.zero_le _, Nat.zero_le _⟩) hS (by decide) (fun H locs hW hS oq hB2 => ?_)
          exact W.vret hx hb hr (fun t ht _ => ⟨⟨(), rfl, trivial, cW_at ht hW, trivial⟩, hS.F ht⟩) hS.2.2 dX9_readThickOrNone_111
      · have rx58_63 : ir x58 7 1000 := ⟨Int.le_trans (by decide) (rf_lt (rf_nle c63) (ir_c (6) (by decide) : ir (6 : Int32) (6) (6)) r58).2, (r58).2⟩
        refine lv_aload_n hx hb dX9_readThickOrNone_66 rfl (lv_at hl 1 rfl) ?_
        refine lv_iconst (v := 2) hx hb dX9_readThickOrNone_67 (by decide) ?_
        refine lv_iload_n hx hb dX9_readThickOrNone_68 rfl (lv_at hl 0 rfl) ?_
        refine cc_v (wt_runV (As := [.int (2 : Int32), .int x1]) (rest := []) ⟨hx, hb, hml, hown, hts⟩ (m_X9_fail l N h0 k0 (2 : Int32) x1) wm_X9_fail q400 ⟨rfl, rfl⟩ ⟨Nat.le_of_ble_eq_true rfl, Nat.le_of_ble_eq_true rfl⟩ (cS_preV hK hW hT hnn hS (cg9 k0) rfl rfl trivial) rfl hl.1 rfl (Nat.le_of_ble_eq_true rfl) dX9_readThickOrNone_69 ⟨Nat.zero_le _, Nat.zero_le _⟩) hS (by decide) (fun H locs hW hS oq hB2 => ?_)
        exact W.vret hx hb hr (fun t ht _ => ⟨⟨(), rfl, trivial, cW_at ht hW, trivial⟩, hS.F ht⟩) hS.2.2 dX9_readThickOrNone_72
    · refine lv_aload_n hx hb dX9_readThickOrNone_47 rfl (lv_at hl 1 rfl) ?_
      refine lv_iconst (v := 1) hx hb dX9_readThickOrNone_48 (by decide) ?_
      refine lv_aload_n hx hb dX9_readThickOrNone_49 rfl (lv_at hl 1 rfl) ?_
      refine wt_getp hx hb hts cfX9 hown hK hW (cg9 k0) rfl 8 (by decide) (Or.inl (hts _ q65)) dX9_readThickOrNone_50 (fun v hv nh0_8 => ?_)
      obtain ⟨x50, rfl⟩ : ga v := hv
      refine cc_v (wt_runV (As := [.int (1 : Int32), .int x50]) (rest := []) ⟨hx, hb, hml, hown, hts⟩ (m_X9_fail l N h0 k0 (1 : Int32) x50) wm_X9_fail q400 ⟨rfl, rfl⟩ ⟨Nat.le_of_ble_eq_true rfl, Nat.le_of_ble_eq_true rfl⟩ (cS_preV hK hW hT hnn hS (cg9 k0) rfl rfl trivial) rfl hl.1 rfl (Nat.le_of_ble_eq_true rfl) dX9_readThickOrNone_53 ⟨Nat.zero_le _, Nat.zero_le _⟩) hS (by decide) (fun H locs hW hS oq hB2 => ?_)
      exact W.vret hx hb hr (fun t ht _ => ⟨⟨(), rfl, trivial, cW_at ht hW, trivial⟩, hS.F ht⟩) hS.2.2 dX9_readThickOrNone_56
  · have rx14_19 : ir x14 40 40 := rf_eq c19 (ir_c (40) (by decide) : ir (40 : Int32) (40) (40))
    refine lv_aload_n hx hb dX9_readThickOrNone_22 rfl (lv_at hl 1 rfl) ?_
    refine lv_iload_n hx hb dX9_readThickOrNone_23 rfl (lv_at hl 0 rfl) ?_
    refine wt_putp hx hb hts cfX9 tyX9 tyX9_ok nmX9 hown hK hW hS (cg9 k0) (ce k0 (by decide)) rfl 8 (by decide) (Or.inl (hts _ q65)) rfl rfl rfl ga_mk dX9_readThickOrNone_24 (fun H locs hW hS oq o2 np => ?_)
    have nh0_8 : wt_pin N.1 vwCl h0 9 8 (.int x1) H := np
    refine lv_aload_n hx hb dX9_readThickOrNone_27 rfl (lv_at hl 1 rfl) ?_
    refine lv_iload_n hx hb dX9_readThickOrNone_28 rfl (lv_at hl 2 rfl) ?_
    refine lv_iconst (v := 1) hx hb dX9_readThickOrNone_29 (by decide) ?_
    refine lv_iconst (v := 1) hx hb dX9_readThickOrNone_30 (by decide) ?_
    refine cp_i (wt_runSN (As := [.int p1, .int (1 : Int32), .int (1 : Int32)]) (rest := [.ref h0]) ⟨hx, hb, hml, hown, hts⟩ hnn (m_X10_codeOf l p1 rp1 (1 : Int32) (ir_w (lo' := 0) (hi' := 7) (ir_c (1) (by decide) : ir (1 : Int32) (1) (1)) (by decide) (by decide)) (1 : Int32) (ir_w (lo' := 0) (hi' := 7) (ir_c (1) (by decide) : ir (1 : Int32) (1) (1)) (by decide) (by decide))) wm_X10_codeOf q372 ⟨rfl, rfl⟩ ⟨Nat.le_of_ble_eq_true rfl, Nat.le_of_ble_eq_true rfl⟩ pS_pre rfl hl.1 rfl (Nat.le_of_ble_eq_true rfl) dX9_readThickOrNone_31 ⟨Nat.zero_le _, Nat.zero_le _⟩) hW hS (fun x31 H locs hp hW hS oq => ?_)
    have nh0_8 := nh0_8.kept (oq _ nh0_8.lt (cE_not k0 (by decide)))
    have r31 : ir x31 0 383 := hp
    obtain ⟨v, hv, nh0_7⟩ := cpin hW (cg9 k0) rfl 7 (by decide)
    obtain ⟨x34_7, rfl, r34_7⟩ : gi 0 4 v := hv
    refine cc_v (wt_runV (As := [.int x31]) (rest := []) ⟨hx, hb, hml, hown, hts⟩ (m_X9_lay l N h0 k0 x31 r31 x34_7) wm_X9_lay q378 ⟨rfl, rfl⟩ ⟨Nat.le_of_ble_eq_true rfl, Nat.le_of_ble_eq_true rfl⟩ (cS_preV hK hW hT hnn hS (cg9 k0) rfl rfl nh0_7) rfl hl.1 rfl (Nat.le_of_ble_eq_true rfl) dX9_readThickOrNone_34 ⟨Nat.zero_le _, Nat.zero_le _⟩) hS (by decide) (fun H locs hW hS oq hB2 => ?_)
    have nh0_7 := hB2
    exact W.vret hx hb hr (fun t ht _ => ⟨⟨(), rfl, trivial, cW_at ht hW, trivial⟩, hS.F ht⟩) hS.2.2 dX9_readThickOrNone_37
set_option maxHeartbeats 4000000 in
set_option maxRecDepth 100000 in
theorem m_X9_readLayer (l : Launch) (N : c_N) (h0 : Nat) (k0 : N.2.2.1 h0 = some 9) (p1 : Int32) (rp1 : ir p1 0 5) : cMv l yX9_readLayer cX9_readLayer 2 { frames := 3, cells := 0, slots := 0, locals := 78 } [.ref h0, .int p1] N [3, 9, 20] cT0 cT0 := by
  refine Met.ofW (cc := cX9_readLayer) (maxL := 2) (ret := none) (by decide) rfl ?_
  intro p e s m args below meth c s₁ B hml hv
  obtain ⟨rfl, ⟨hK, hW, hT, hnn⟩, hB⟩ := hv
  have hx := B.exec
  have hb := B.bytes
  have hr := B.returns
  have hts : ∀ w ∈ lw_g, w.before _ s = true := fun w h => atoms_spec (ws := wc_ws yX9_readLayer cX9_readLayer 2 none) B.pre w (List.mem_cons_of_mem _ h)
  have hown : s.vm.findClass RX9 = some m.cls := findClass_of_methodNamed B.named
  have hlocks := B.notSynchronized
  have hS : va_S (cE N [3, 9, 20]) s.heap s.heap [] := va_S.rf
  have hl := lv_entry ([.ref h0, .int p1]) (n := 2) (Nat.le_of_ble_eq_true rfl)
  rw [lg_entry_eq]
  generalize (lg_sl ([.ref h0, .int p1]) ++ List.replicate (2 - (lg_sl ([.ref h0, .int p1])).length) Slot.unset).toArray = ls at hl ⊢
  have hl : lv_has ls 2 [(0, .ref h0), (1, .int p1)] := hl
  refine wq_all ?_
  intro WW w1 w2
  refine lv_aload_n hx hb dX9_readLayer_0 rfl (lv_at hl 0 rfl) ?_
  refine lv_dup hx hb dX9_readLayer_1 rfl ?_
  refine wt_getp hx hb hts cfX9 hown hK hW (cg9 k0) rfl 8 (by decide) (Or.inl (hts _ q65)) dX9_readLayer_2 (fun v hv nh0_8 => ?_)
  obtain ⟨x2, rfl⟩ : ga v := hv
  refine lv_iconst (v := 1) hx hb dX9_readLayer_5 (by decide) ?_
  refine lv_iadd hx hb dX9_readLayer_6 ?_
  refine lv_topi (fun x6 e6 => ?_)
  refine wt_putp hx hb hts cfX9 tyX9 tyX9_ok nmX9 hown hK hW hS (cg9 k0) (ce k0 (by decide)) rfl 8 (by decide) (Or.inl (hts _ q65)) rfl rfl rfl ga_mk dX9_readLayer_7 (fun H locs hW hS oq o2 np => ?_)
  have nh0_8 : wt_pin N.1 vwCl h0 9 8 (.int x6) H := np
  refine lv_aload_n hx hb dX9_readLayer_10 rfl (lv_at hl 0 rfl) ?_
  refine cc_v (wt_runV (As := []) (rest := []) ⟨hx, hb, hml, hown, hts⟩ (m_X9_skipBlanks l N h0 k0) wm_X9_skipBlanks q356 ⟨rfl, rfl⟩ ⟨Nat.le_of_ble_eq_true rfl, Nat.le_of_ble_eq_true rfl⟩ (cS_preV hK hW hT hnn hS (cg9 k0) rfl rfl trivial) rfl hl.1 rfl (Nat.le_of_ble_eq_true rfl) dX9_readLayer_11 ⟨Nat.zero_le _, Nat.zero_le _⟩) hS (by decide) (fun H locs hW hS oq hB2 => ?_)
  refine lv_aload_n hx hb dX9_readLayer_14 rfl (lv_at hl 0 rfl) ?_
  refine cc_i (wt_runV (As := []) (rest := []) ⟨hx, hb, hml, hown, hts⟩ (m_X9_peek l N h0 k0) wm_X9_peek q360 ⟨rfl, rfl⟩ ⟨Nat.le_of_ble_eq_true rfl, Nat.le_of_ble_eq_true rfl⟩ (cS_preV hK hW hT hnn hS (cg9 k0) rfl rfl trivial) rfl hl.1 rfl (Nat.le_of_ble_eq_true rfl) dX9_readLayer_15 ⟨Nat.zero_le _, Nat.zero_le _⟩) hS (by decide) (fun x15 H locs hp hW hS oq => ?_)
  have r15 : ir x15 (-1) 255 := hp
  refine lv_bipush (v := 104) hx hb dX9_readLayer_18 (by decide) ?_
  refine lv_icmp_ne (tgt := 46) hx hb dX9_readLayer_20 (by decide) (fun c20 => ?_) (fun c20 => ?_)
  · refine lv_aload_n hx hb dX9_readLayer_46 rfl (lv_at hl 0 rfl) ?_
    refine cc_i (wt_runV (As := []) (rest := []) ⟨hx, hb, hml, hown, hts⟩ (m_X9_peek l N h0 k0) wm_X9_peek q360 ⟨rfl, rfl⟩ ⟨Nat.le_of_ble_eq_true rfl, Nat.le_of_ble_eq_true rfl⟩ (cS_preV hK hW hT hnn hS (cg9 k0) rfl rfl trivial) rfl hl.1 rfl (Nat.le_of_ble_eq_true rfl) dX9_readLayer_47 ⟨Nat.zero_le _, Nat.zero_le _⟩) hS (by decide) (fun x47 H locs hp hW hS oq => ?_)
    have r47 : ir x47 (-1) 255 := hp
    refine cp_i (wt_runS (As := [.int x47]) (rest := []) ⟨hx, hb, hml, hown, hts⟩ (m_X9_isDigit l x47) wm_X9_isDigit q386 ⟨rfl, rfl⟩ ⟨Nat.le_of_ble_eq_true rfl, Nat.le_of_ble_eq_true rfl⟩ pS_pre rfl hl.1 rfl (Nat.le_of_ble_eq_true rfl) dX9_readLayer_50 ⟨Nat.zero_le _, Nat.zero_le _⟩) hW hS (fun x50 H locs hp hW hS oq => ?_)
    obtain ⟨r50, b50⟩ := hp
    refine lv_if_eq (tgt := 64) hx hb dX9_readLayer_53 (by decide) (fun c53 => ?_) (fun c53 => ?_)
    · have rx50_53 : ir x50 0 0 := rf_eq c53 (ir_c (0) (by decide) : ir (0 : Int32) (0) (0))
      refine lv_aload_n hx hb dX9_readLayer_64 rfl (lv_at hl 0 rfl) ?_
      refine lv_iload_n hx hb dX9_readLayer_65 rfl (lv_at hl 1 rfl) ?_
      refine lv_iconst (v := 1) hx hb dX9_readLayer_66 (by decide) ?_
      refine lv_iconst (v := 1) hx hb dX9_readLayer_67 (by decide) ?_
      refine cp_i (wt_runSN (As := [.int p1, .int (1 : Int32), .int (1 : Int32)]) (rest := [.ref h0]) ⟨hx, hb, hml, hown, hts⟩ hnn (m_X10_codeOf l p1 rp1 (1 : Int32) (ir_w (lo' := 0) (hi' := 7) (ir_c (1) (by decide) : ir (1 : Int32) (1) (1)) (by decide) (by decide)) (1 : Int32) (ir_w (lo' := 0) (hi' := 7) (ir_c (1) (by decide) : ir (1 : Int32) (1) (1)) (by decide) (by decide))) wm_X10_codeOf q372 ⟨rfl, rfl⟩ ⟨Nat.le_of_ble_eq_true rfl, Nat.le_of_ble_eq_true rfl⟩ pS_pre rfl hl.1 rfl (Nat.le_of_ble_eq_true rfl) dX9_readLayer_68 ⟨Nat.zero_le _, Nat.zero_le _⟩) hW hS (fun x68 H locs hp hW hS oq => ?_)
      have r68 : ir x68 0 383 := hp
      obtain ⟨v, hv, nh0_7⟩ := cpin hW (cg9 k0) rfl 7 (by decide)
      obtain ⟨x71_7, rfl, r71_7⟩ : gi 0 4 v := hv
      refine cc_v (wt_runV (As := [.int x68]) (rest := []) ⟨hx, hb, hml, hown, hts⟩ (m_X9_lay l N h0 k0 x68 r68 x71_7) wm_X9_lay q378 ⟨rfl, rfl⟩ ⟨Nat.le_of_ble_eq_true rfl, Nat.le_of_ble_eq_true rfl⟩ (cS_preV hK hW hT hnn hS (cg9 k0) rfl rfl nh0_7) rfl hl.1 rfl (Nat.le_of_ble_eq_true rfl) dX9_readLayer_71 ⟨Nat.zero_le _, Nat.zero_le _⟩) hS (by decide) (fun H locs hW hS oq hB2 => ?_)
      have nh0_7 := hB2
      exact W.vret hx hb hr (fun t ht _ => ⟨⟨(), rfl, trivial, cW_at ht hW, trivial⟩, hS.F ht⟩) hS.2.2 dX9_readLayer_74
    · have rx50_53 : ir x50 1 1 := rf_ne0 c53 r50
      have bx50_53 := b50 c53
      refine lv_aload_n hx hb dX9_readLayer_56 rfl (lv_at hl 0 rfl) ?_
      refine lv_iload_n hx hb dX9_readLayer_57 rfl (lv_at hl 1 rfl) ?_
      refine cc_v (wt_runV (As := [.int p1]) (rest := []) ⟨hx, hb, hml, hown, hts⟩ (m_X9_readThickOrNone l N h0 k0 p1 rp1) wm_X9_readThickOrNone q389 ⟨rfl, rfl⟩ ⟨Nat.le_of_ble_eq_true rfl, Nat.le_of_ble_eq_true rfl⟩ (cS_preV hK hW hT hnn hS (cg9 k0) rfl rfl trivial) rfl hl.1 rfl (Nat.le_of_ble_eq_true rfl) dX9_readLayer_58 ⟨Nat.zero_le _, Nat.zero_le _⟩) hS (by decide) (fun H locs hW hS oq hB2 => ?_)
      refine lv_goto (tgt := 74) hx hb dX9_readLayer_61 (by decide) ?_
      exact W.vret hx hb hr (fun t ht _ => ⟨⟨(), rfl, trivial, cW_at ht hW, trivial⟩, hS.F ht⟩) hS.2.2 dX9_readLayer_74
  · have rx15_20 : ir x15 104 104 := rf_eq c20 (ir_c (104) (by decide) : ir (104 : Int32) (104) (104))
    refine lv_aload_n hx hb dX9_readLayer_23 rfl (lv_at hl 0 rfl) ?_
    refine lv_dup hx hb dX9_readLayer_24 rfl ?_
    refine wt_getp hx hb hts cfX9 hown hK hW (cg9 k0) rfl 8 (by decide) (Or.inl (hts _ q65)) dX9_readLayer_25 (fun v hv nh0_8 => ?_)
    obtain ⟨x25, rfl⟩ : ga v := hv
    refine lv_iconst (v := 1) hx hb dX9_readLayer_28 (by decide) ?_
    refine lv_iadd hx hb dX9_readLayer_29 ?_
    refine lv_topi (fun x29 e29 => ?_)
    refine wt_putp hx hb hts cfX9 tyX9 tyX9_ok nmX9 hown hK hW hS (cg9 k0) (ce k0 (by decide)) rfl 8 (by decide) (Or.inl (hts _ q65)) rfl rfl rfl ga_mk dX9_readLayer_30 (fun H locs hW hS oq o2 np => ?_)
    have nh0_8 : wt_pin N.1 vwCl h0 9 8 (.int x29) H := np
    refine lv_aload_n hx hb dX9_readLayer_33 rfl (lv_at hl 0 rfl) ?_
    refine lv_iload_n hx hb dX9_readLayer_34 rfl (lv_at hl 1 rfl) ?_
    refine lv_iconst (v := 1) hx hb dX9_readLayer_35 (by decide) ?_
    refine lv_iconst (v := 0) hx hb dX9_readLayer_36 (by decide) ?_
    refine cp_i (wt_runSN (As := [.int p1, .int (1 : Int32), .int (0 : Int32)]) (rest := [.ref h0]) ⟨hx, hb, hml, hown, hts⟩ hnn (m_X10_codeOf l p1 rp1 (1 : Int32) (ir_w (lo' := 0) (hi' := 7) (ir_c (1) (by decide) : ir (1 : Int32) (1) (1)) (by decide) (by decide)) (0 : Int32) (ir_w (lo' := 0) (hi' := 7) (ir_c (0) (by decide) : ir (0 : Int32) (0) (0)) (by decide) (by decide))) wm_X10_codeOf q372 ⟨rfl, rfl⟩ ⟨Nat.le_of_ble_eq_true rfl, Nat.le_of_ble_eq_true rfl⟩ pS_pre rfl hl.1 rfl (Nat.le_of_ble_eq_true rfl) dX9_readLayer_37 ⟨Nat.zero_le _, Nat.zero_le _⟩) hW hS (fun x37 H locs hp hW hS oq => ?_)
    have nh0_8 := nh0_8.kept (oq _ nh0_8.lt (cE_not k0 (by decide)))
    have r37 : ir x37 0 383 := hp
    obtain ⟨v, hv, nh0_7⟩ := cpin hW (cg9 k0) rfl 7 (by decide)
    obtain ⟨x40_7, rfl, r40_7⟩ : gi 0 4 v := hv
    refine cc_v (wt_runV (As := [.int x37]) (rest := []) ⟨hx, hb, hml, hown, hts⟩ (m_X9_lay l N h0 k0 x37 r37 x40_7) wm_X9_lay q378 ⟨rfl, rfl⟩ ⟨Nat.le_of_ble_eq_true rfl, Nat.le_of_ble_eq_true rfl⟩ (cS_preV hK hW hT hnn hS (cg9 k0) rfl rfl nh0_7) rfl hl.1 rfl (Nat.le_of_ble_eq_true rfl) dX9_readLayer_40 ⟨Nat.zero_le _, Nat.zero_le _⟩) hS (by decide) (fun H locs hW hS oq hB2 => ?_)
    have nh0_7 := hB2
    refine lv_goto (tgt := 74) hx hb dX9_readLayer_43 (by decide) ?_
    exact W.vret hx hb hr (fun t ht _ => ⟨⟨(), rfl, trivial, cW_at ht hW, trivial⟩, hS.F ht⟩) hS.2.2 dX9_readLayer_74
set_option maxHeartbeats 4000000 in
set_option maxRecDepth 100000 in
theorem m_X9_readOne (l : Launch) (N : c_N) (h0 : Nat) (k0 : N.2.2.1 h0 = some 9) : cMv l yX9_readOne cX9_readOne 2 { frames := 4, cells := 0, slots := 0, locals := 99 } [.ref h0] N [3, 9, 20, 22, 23] cT0 cT0 := by
  refine Met.ofW (cc := cX9_readOne) (maxL := 2) (ret := none) (by decide) rfl ?_
  intro p e s m args below meth c s₁ B hml hv
  obtain ⟨rfl, ⟨hK, hW, hT, hnn⟩, hB⟩ := hv
  have hx := B.exec
  have hb := B.bytes
  have hr := B.returns
  have hts : ∀ w ∈ lw_g, w.before _ s = true := fun w h => atoms_spec (ws := wc_ws yX9_readOne cX9_readOne 2 none) B.pre w (List.mem_cons_of_mem _ h)
  have hown : s.vm.findClass RX9 = some m.cls := findClass_of_methodNamed B.named
  have hlocks := B.notSynchronized
  have hS : va_S (cE N [3, 9, 20, 22, 23]) s.heap s.heap [] := va_S.rf
  have hl := lv_entry ([.ref h0]) (n := 2) (Nat.le_of_ble_eq_true rfl)
  rw [lg_entry_eq]
  generalize (lg_sl ([.ref h0]) ++ List.replicate (2 - (lg_sl ([.ref h0])).length) Slot.unset).toArray = ls at hl ⊢
  have hl : lv_has ls 2 [(0, .ref h0)] := hl
  refine wq_all ?_
  intro WW w1 w2
  have J77 : ∀ (H : Heap) (locs : List Loc) (ls : Array Slot) (u77_0 : Int32), cW N H → va_S (cE N [3, 9, 20, 22, 23]) s.heap H locs → lv_has ls 2 [(0, .ref h0)] → ir u77_0 0 4 → wt_pin N.1 vwCl h0 9 7 (.int u77_0) H → WW H locs (F0 m 77 ls []) := by
    intro H locs ls u77_0 hW hS hl ru77_0 nh0_7
    refine w1 _ _ _ ?_
    refine lv_aload_n hx hb dX9_readOne_77 rfl (lv_at hl 0 rfl) ?_
    refine lv_iconst (v := 1) hx hb dX9_readOne_78 (by decide) ?_
    refine lv_aload_n hx hb dX9_readOne_79 rfl (lv_at hl 0 rfl) ?_
    refine wt_getp hx hb hts cfX9 hown hK hW (cg9 k0) rfl 8 (by decide) (Or.inl (hts _ q65)) dX9_readOne_80 (fun v hv nh0_8 => ?_)
    obtain ⟨x80, rfl⟩ : ga v := hv
    refine cc_v (wt_runV (As := [.int (1 : Int32), .int x80]) (rest := []) ⟨hx, hb, hml, hown, hts⟩ (m_X9_fail l N h0 k0 (1 : Int32) x80) wm_X9_fail q400 ⟨rfl, rfl⟩ ⟨Nat.le_of_ble_eq_true rfl, Nat.le_of_ble_eq_true rfl⟩ (cS_preV hK hW hT hnn hS (cg9 k0) rfl rfl trivial) rfl hl.1 rfl (Nat.le_of_ble_eq_true rfl) dX9_readOne_83 ⟨Nat.zero_le _, Nat.zero_le _⟩) hS (by decide) (fun H locs hW hS oq hB2 => ?_)
    exact W.vret hx hb hr (fun t ht _ => ⟨⟨(), rfl, trivial, cW_at ht hW, trivial⟩, hS.F ht⟩) hS.2.2 dX9_readOne_86
  have J43 : ∀ (H : Heap) (locs : List Loc) (ls : Array Slot) (v43_1 : Int32) (u43_0 : Int32), cW N H → va_S (cE N [3, 9, 20, 22, 23]) s.heap H locs → lv_has ls 2 [(0, .ref h0), (1, .int v43_1)] → ir v43_1 (-1) 255 → ir u43_0 0 4 → wt_pin N.1 vwCl h0 9 7 (.int u43_0) H → WW H locs (F0 m 43 ls []) := by
    intro H locs ls v43_1 u43_0 hW hS hl rv43_1 ru43_0 nh0_7
    refine w1 _ _ _ ?_
    refine lv_iload_n hx hb dX9_readOne_43 rfl (lv_at hl 1 rfl) ?_
    refine cp_i (wt_runS (As := [.int v43_1]) (rest := []) ⟨hx, hb, hml, hown, hts⟩ (m_X9_isDigit l v43_1) wm_X9_isDigit q386 ⟨rfl, rfl⟩ ⟨Nat.le_of_ble_eq_true rfl, Nat.le_of_ble_eq_true rfl⟩ pS_pre rfl hl.1 rfl (Nat.le_of_ble_eq_true rfl) dX9_readOne_44 ⟨Nat.zero_le _, Nat.zero_le _⟩) hW hS (fun x44 H locs hp hW hS oq => ?_)
    have nh0_7 := nh0_7.kept (oq _ nh0_7.lt (cE_not k0 (by decide)))
    obtain ⟨r44, b44⟩ := hp
    refine lv_if_eq (tgt := 57) hx hb dX9_readOne_47 (by decide) (fun c47 => ?_) (fun c47 => ?_)
    · have rx44_47 : ir x44 0 0 := rf_eq c47 (ir_c (0) (by decide) : ir (0 : Int32) (0) (0))
      refine lv_iload_n hx hb dX9_readOne_57 rfl (lv_at hl 1 rfl) ?_
      refine lv_bipush (v := 41) hx hb dX9_readOne_58 (by decide) ?_
      refine lv_icmp_ne (tgt := 77) hx hb dX9_readOne_60 (by decide) (fun c60 => ?_) (fun c60 => ?_)
      · exact w2 _ _ _ (J77 _ _ _ u43_0 hW hS (lv_sub hl [0] rfl) ru43_0 nh0_7)
      · have rv43_1_60 : ir v43_1 41 41 := rf_eq c60 (ir_c (41) (by decide) : ir (41 : Int32) (41) (41))
        refine lv_aload_n hx hb dX9_readOne_63 rfl (lv_at hl 0 rfl) ?_
        refine wt_rel hx hb hts cfX9 hown hK nh0_7 rfl (by decide) (Or.inl (hts _ q64)) dX9_readOne_64 ?_
        refine lv_if_le (tgt := 77) hx hb dX9_readOne_67 (by decide) (fun c67 => ?_) (fun c67 => ?_)
        · have ru43_0_67 : ir u43_0 0 0 := ⟨(ru43_0).1, Int.le_trans (rf_le c67 ru43_0 (ir_c (0) (by decide) : ir (0 : Int32) (0) (0))).1 (by decide)⟩
          exact w2 _ _ _ (J77 _ _ _ u43_0 hW hS (lv_sub hl [0] rfl) (ir_w (lo' := 0) (hi' := 4) ru43_0_67 (by decide) (by decide)) nh0_7)
        · have ru43_0_67 : ir u43_0 1 4 := ⟨Int.le_trans (by decide) (rf_lt (rf_nle c67) (ir_c (0) (by decide) : ir (0 : Int32) (0) (0)) ru43_0).2, (ru43_0).2⟩
          refine lv_aload_n hx hb dX9_readOne_70 rfl (lv_at hl 0 rfl) ?_
          refine cc_v (wt_runV (As := []) (rest := []) ⟨hx, hb, hml, hown, hts⟩ (m_X9_closeGroup l N h0 k0) wm_X9_closeGroup q412 ⟨rfl, rfl⟩ ⟨Nat.le_of_ble_eq_true rfl, Nat.le_of_ble_eq_true rfl⟩ (cS_preV hK hW hT hnn hS (cg9 k0) rfl rfl trivial) rfl hl.1 rfl (Nat.le_of_ble_eq_true rfl) dX9_readOne_71 ⟨Nat.zero_le _, Nat.zero_le _⟩) hS (by decide) (fun H locs hW hS oq hB2 => ?_)
          refine lv_goto (tgt := 86) hx hb dX9_readOne_74 (by decide) ?_
          exact W.vret hx hb hr (fun t ht _ => ⟨⟨(), rfl, trivial, cW_at ht hW, trivial⟩, hS.F ht⟩) hS.2.2 dX9_readOne_86
    · have rx44_47 : ir x44 1 1 := rf_ne0 c47 r44
      have bx44_47 := b44 c47
      refine lv_aload_n hx hb dX9_readOne_50 rfl (lv_at hl 0 rfl) ?_
      refine cc_v (wt_runV (As := []) (rest := []) ⟨hx, hb, hml, hown, hts⟩ (m_X9_readOpening l N h0 k0) wm_X9_readOpening q404 ⟨rfl, rfl⟩ ⟨Nat.le_of_ble_eq_true rfl, Nat.le_of_ble_eq_true rfl⟩ (cS_preV hK hW hT hnn hS (cg9 k0) rfl rfl trivial) rfl hl.1 rfl (Nat.le_of_ble_eq_true rfl) dX9_readOne_51 ⟨Nat.zero_le _, Nat.zero_le _⟩) hS (by decide) (fun H locs hW hS oq hB2 => ?_)
      refine lv_goto (tgt := 86) hx hb dX9_readOne_54 (by decide) ?_
      exact W.vret hx hb hr (fun t ht _ => ⟨⟨(), rfl, trivial, cW_at ht hW, trivial⟩, hS.F ht⟩) hS.2.2 dX9_readOne_86
  have J20 : ∀ (H : Heap) (locs : List Loc) (ls : Array Slot) (v20_1 : Int32) (u20_0 : Int32), cW N H → va_S (cE N [3, 9, 20, 22, 23]) s.heap H locs → lv_has ls 2 [(0, .ref h0), (1, .int v20_1)] → ir v20_1 (-1) 255 → ir u20_0 0 4 → wt_pin N.1 vwCl h0 9 7 (.int u20_0) H → WW H locs (F0 m 20 ls []) := by
    intro H locs ls v20_1 u20_0 hW hS hl rv20_1 ru20_0 nh0_7
    refine w1 _ _ _ ?_
    refine lv_iload_n hx hb dX9_readOne_20 rfl (lv_at hl 1 rfl) ?_
    refine lv_bipush (v := 65) hx hb dX9_readOne_21 (by decide) ?_
    refine lv_icmp_lt (tgt := 43) hx hb dX9_readOne_23 (by decide) (fun c23 => ?_) (fun c23 => ?_)
    · have rv20_1_23 : ir v20_1 (-1) 64 := ⟨(rv20_1).1, Int.le_trans (rf_lt c23 rv20_1 (ir_c (65) (by decide) : ir (65 : Int32) (65) (65))).1 (by decide)⟩
      exact w2 _ _ _ (J43 _ _ _ v20_1 u20_0 hW hS (lv_sub hl [0, 1] rfl) (ir_w (lo' := -1) (hi' := 255) rv20_1_23 (by decide) (by decide)) ru20_0 nh0_7)
    · have rv20_1_23 : ir v20_1 65 255 := ⟨Int.le_trans (by decide) (rf_le (rf_nlt c23) (ir_c (65) (by decide) : ir (65 : Int32) (65) (65)) rv20_1).2, (rv20_1).2⟩
      refine lv_iload_n hx hb dX9_readOne_26 rfl (lv_at hl 1 rfl) ?_
      refine lv_bipush (v := 71) hx hb dX9_readOne_27 (by decide) ?_
      refine lv_icmp_ge (tgt := 43) hx hb dX9_readOne_29 (by decide) (fun c29 => ?_) (fun c29 => ?_)
      · have rv20_1_29 : ir v20_1 71 255 := ⟨Int.le_trans (by decide) (rf_le c29 (ir_c (71) (by decide) : ir (71 : Int32) (71) (71)) rv20_1_23).2, (rv20_1_23).2⟩
        exact w2 _ _ _ (J43 _ _ _ v20_1 u20_0 hW hS (lv_sub hl [0, 1] rfl) (ir_w (lo' := -1) (hi' := 255) rv20_1_29 (by decide) (by decide)) ru20_0 nh0_7)
      · have rv20_1_29 : ir v20_1 65 70 := ⟨(rv20_1_23).1, Int.le_trans (rf_lt (rf_nle c29) rv20_1_23 (ir_c (71) (by decide) : ir (71 : Int32) (71) (71))).1 (by decide)⟩
        refine lv_aload_n hx hb dX9_readOne_32 rfl (lv_at hl 0 rfl) ?_
        refine lv_iload_n hx hb dX9_readOne_33 rfl (lv_at hl 1 rfl) ?_
        refine lv_bipush (v := 65) hx hb dX9_readOne_34 (by decide) ?_
        refine lv_isub hx hb dX9_readOne_36 ?_
        refine lv_topi (fun x36 e36 => ?_)
        have t36 : x36.toInt = v20_1.toInt - (65) := it_sub e36 rv20_1_29 (ir_c (65) (by decide) : ir (65 : Int32) (65) (65)) (by decide) (by decide)
        have r36 : ir x36 0 5 := ir_w (ir_sub e36 rv20_1_29 (ir_c (65) (by decide) : ir (65 : Int32) (65) (65)) (by decide) (by decide)) (by decide) (by decide)
        refine cc_v (wt_runV (As := [.int x36]) (rest := []) ⟨hx, hb, hml, hown, hts⟩ (m_X9_readLayer l N h0 k0 x36 r36) wm_X9_readLayer q368 ⟨rfl, rfl⟩ ⟨Nat.le_of_ble_eq_true rfl, Nat.le_of_ble_eq_true rfl⟩ (cS_preV hK hW hT hnn hS (cg9 k0) rfl rfl trivial) rfl hl.1 rfl (Nat.le_of_ble_eq_true rfl) dX9_readOne_37 ⟨Nat.zero_le _, Nat.zero_le _⟩) hS (by decide) (fun H locs hW hS oq hB2 => ?_)
        refine lv_goto (tgt := 86) hx hb dX9_readOne_40 (by decide) ?_
        exact W.vret hx hb hr (fun t ht _ => ⟨⟨(), rfl, trivial, cW_at ht hW, trivial⟩, hS.F ht⟩) hS.2.2 dX9_readOne_86
  refine lv_aload_n hx hb dX9_readOne_0 rfl (lv_at hl 0 rfl) ?_
  refine cc_i (wt_runV (As := []) (rest := []) ⟨hx, hb, hml, hown, hts⟩ (m_X9_peek l N h0 k0) wm_X9_peek q360 ⟨rfl, rfl⟩ ⟨Nat.le_of_ble_eq_true rfl, Nat.le_of_ble_eq_true rfl⟩ (cS_preV hK hW hT hnn hS (cg9 k0) rfl rfl trivial) rfl hl.1 rfl (Nat.le_of_ble_eq_true rfl) dX9_readOne_1 ⟨Nat.zero_le _, Nat.zero_le _⟩) hS (by decide) (fun x1 H locs hp hW hS oq => ?_)
  have r1 : ir x1 (-1) 255 := hp
  refine lv_istore_n (lv' := [(1, .int x1), (0, .ref h0)]) hx hb dX9_readOne_4 rfl hl (by decide) rfl (fun ls hl => ?_)
  refine lv_aload_n hx hb dX9_readOne_5 rfl (lv_at hl 1 rfl) ?_
  refine wt_getp hx hb hts cfX9 hown hK hW (cg9 k0) rfl 7 (by decide) (Or.inl (hts _ q64)) dX9_readOne_6 (fun v hv nh0_7 => ?_)
  obtain ⟨x6, rfl, r6⟩ : gi 0 4 v := hv
  refine lv_if_ne (tgt := 20) hx hb dX9_readOne_9 (by decide) (fun c9 => ?_) (fun c9 => ?_)
  · have rx6_9 : ir x6 1 4 := rf_ne0 c9 r6
    exact w2 _ _ _ (J20 _ _ _ x1 x6 hW hS (lv_sub hl [1, 0] rfl) r1 (ir_w (lo' := 0) (hi' := 4) rx6_9 (by decide) (by decide)) nh0_7)
  · have rx6_9 : ir x6 0 0 := rf_eq c9 (ir_c (0) (by decide) : ir (0 : Int32) (0) (0))
    refine lv_aload_n hx hb dX9_readOne_12 rfl (lv_at hl 1 rfl) ?_
    refine lv_aload_n hx hb dX9_readOne_13 rfl (lv_at hl 1 rfl) ?_
    refine wt_getp hx hb hts cfX9 hown hK hW (cg9 k0) rfl 8 (by decide) (Or.inl (hts _ q65)) dX9_readOne_14 (fun v hv nh0_8 => ?_)
    obtain ⟨x14, rfl⟩ : ga v := hv
    refine wt_putp hx hb hts cfX9 tyX9 tyX9_ok nmX9 hown hK hW hS (cg9 k0) (ce k0 (by decide)) rfl 10 (by decide) (Or.inl (hts _ q67)) rfl rfl rfl ga_mk dX9_readOne_17 (fun H locs hW hS oq o2 np => ?_)
    have nh0_7 := o2 7 _ (by decide) (by decide) nh0_7
    have nh0_8 := o2 8 _ (by decide) (by decide) nh0_8
    have nh0_10 : wt_pin N.1 vwCl h0 9 10 (.int x14) H := np
    exact w2 _ _ _ (J20 _ _ _ x1 x6 hW hS (lv_sub hl [1, 0] rfl) r1 (ir_w (lo' := 0) (hi' := 4) rx6_9 (by decide) (by decide)) nh0_7)
set_option maxHeartbeats 4000000 in
set_option maxRecDepth 100000 in
theorem m_X9_parse (l : Launch) (N : c_N) (h0 : Nat) (k0 : N.2.2.1 h0 = some 9) : cMi l yX9_parse cX9_parse 2 .boolean { frames := 5, cells := 0, slots := 0, locals := 120 } [.ref h0] N [3, 9, 20, 22, 23] cT0 (fun r => ir r 0 1) := by
  refine Met.ofW (cc := cX9_parse) (maxL := 2) (ret := some .boolean) (by decide) rfl ?_
  intro p e s m args below meth c s₁ B hml hv
  obtain ⟨rfl, ⟨hK, hW, hT, hnn⟩, hB⟩ := hv
  have hx := B.exec
  have hb := B.bytes
  have hr := B.returns
  have hts : ∀ w ∈ lw_g, w.before _ s = true := fun w h => atoms_spec (ws := wc_ws yX9_parse cX9_parse 2 (some .boolean)) B.pre w (List.mem_cons_of_mem _ h)
  have hown : s.vm.findClass RX9 = some m.cls := findClass_of_methodNamed B.named
  have hlocks := B.notSynchronized
  have hS : va_S (cE N [3, 9, 20, 22, 23]) s.heap s.heap [] := va_S.rf
  have hl := lv_entry ([.ref h0]) (n := 2) (Nat.le_of_ble_eq_true rfl)
  rw [lg_entry_eq]
  generalize (lg_sl ([.ref h0]) ++ List.replicate (2 - (lg_sl ([.ref h0])).length) Slot.unset).toArray = ls at hl ⊢
  have hl : lv_has ls 2 [(0, .ref h0)] := hl
  refine wq_all ?_
  intro WW w1 w2
  have J125 : ∀ (H : Heap) (locs : List Loc) (ls : Array Slot) , cW N H → va_S (cE N [3, 9, 20, 22, 23]) s.heap H locs → lv_has ls 2 [(0, .ref h0)] → WW H locs (F0 m 125 ls []) := by
    intro H locs ls  hW hS hl
    refine w1 _ _ _ ?_
    refine lv_aload_n hx hb dX9_parse_125 rfl (lv_at hl 0 rfl) ?_
    refine wt_getp hx hb hts cfX9 hown hK hW (cg9 k0) rfl 2 (by decide) (Or.inl (hts _ q56)) dX9_parse_126 (fun v hv nh0_2 => ?_)
    obtain ⟨x126, rfl⟩ : ga v := hv
    refine lv_if_ne (tgt := 136) hx hb dX9_parse_129 (by decide) (fun c129 => ?_) (fun c129 => ?_)
    · refine lv_iconst (v := 0) hx hb dX9_parse_136 (by decide) ?_
      exact W.zret (v := (0 : Int32)) hx hb hr rfl (fun t ht _ => ⟨⟨(0 : Int32), (), rfl, (⟨by decide, by decide⟩), cW_at ht hW⟩, hS.F ht⟩) hS.2.2 dX9_parse_137
    · have rx126_129 : ir x126 0 0 := rf_eq c129 (ir_c (0) (by decide) : ir (0 : Int32) (0) (0))
      refine lv_iconst (v := 1) hx hb dX9_parse_132 (by decide) ?_
      refine lv_goto (tgt := 137) hx hb dX9_parse_133 (by decide) ?_
      exact W.zret (v := (1 : Int32)) hx hb hr rfl (fun t ht _ => ⟨⟨(1 : Int32), (), rfl, (⟨by decide, by decide⟩), cW_at ht hW⟩, hS.F ht⟩) hS.2.2 dX9_parse_137
  have J101 : ∀ (H : Heap) (locs : List Loc) (ls : Array Slot) , cW N H → va_S (cE N [3, 9, 20, 22, 23]) s.heap H locs → lv_has ls 2 [(0, .ref h0)] → WW H locs (F0 m 101 ls []) := by
    intro H locs ls  hW hS hl
    refine w1 _ _ _ ?_
    refine lv_aload_n hx hb dX9_parse_101 rfl (lv_at hl 0 rfl) ?_
    refine wt_getp hx hb hts cfX9 hown hK hW (cg9 k0) rfl 2 (by decide) (Or.inl (hts _ q56)) dX9_parse_102 (fun v hv nh0_2 => ?_)
    obtain ⟨x102, rfl⟩ : ga v := hv
    refine lv_if_ne (tgt := 125) hx hb dX9_parse_105 (by decide) (fun c105 => ?_) (fun c105 => ?_)
    · exact w2 _ _ _ (J125 _ _ _  hW hS (lv_sub hl [0] rfl) )
    · have rx102_105 : ir x102 0 0 := rf_eq c105 (ir_c (0) (by decide) : ir (0 : Int32) (0) (0))
      refine lv_aload_n hx hb dX9_parse_108 rfl (lv_at hl 0 rfl) ?_
      refine wt_getp hx hb hts cfX9 hown hK hW (cg9 k0) rfl 11 (by decide) (Or.inl (hts _ q68)) dX9_parse_109 (fun v hv nh0_11 => ?_)
      obtain ⟨x109, rfl⟩ : ga v := hv
      refine lv_iconst (v := -1) hx hb dX9_parse_112 (by decide) ?_
      refine lv_icmp_eq (tgt := 125) hx hb dX9_parse_113 (by decide) (fun c113 => ?_) (fun c113 => ?_)
      · have rx109_113 : ir x109 (-1) (-1) := rf_eq c113 (ir_c (-1) (by decide) : ir (-1 : Int32) (-1) (-1))
        exact w2 _ _ _ (J125 _ _ _  hW hS (lv_sub hl [0] rfl) )
      · refine lv_aload_n hx hb dX9_parse_116 rfl (lv_at hl 0 rfl) ?_
        refine lv_iconst (v := 4) hx hb dX9_parse_117 (by decide) ?_
        refine lv_aload_n hx hb dX9_parse_118 rfl (lv_at hl 0 rfl) ?_
        refine wt_rel hx hb hts cfX9 hown hK nh0_11 rfl (by decide) (Or.inl (hts _ q68)) dX9_parse_119 ?_
        refine cc_v (wt_runV (As := [.int (4 : Int32), .int x109]) (rest := []) ⟨hx, hb, hml, hown, hts⟩ (m_X9_fail l N h0 k0 (4 : Int32) x109) wm_X9_fail q400 ⟨rfl, rfl⟩ ⟨Nat.le_of_ble_eq_true rfl, Nat.le_of_ble_eq_true rfl⟩ (cS_preV hK hW hT hnn hS (cg9 k0) rfl rfl trivial) rfl hl.1 rfl (Nat.le_of_ble_eq_true rfl) dX9_parse_122 ⟨Nat.zero_le _, Nat.zero_le _⟩) hS (by decide) (fun H locs hW hS oq hB2 => ?_)
        exact w2 _ _ _ (J125 _ _ _  hW hS (lv_sub hl [0] rfl) )
  have J78 : ∀ (H : Heap) (locs : List Loc) (ls : Array Slot) , cW N H → va_S (cE N [3, 9, 20, 22, 23]) s.heap H locs → lv_has ls 2 [(0, .ref h0)] → WW H locs (F0 m 78 ls []) := by
    intro H locs ls  hW hS hl
    refine w1 _ _ _ ?_
    refine lv_aload_n hx hb dX9_parse_78 rfl (lv_at hl 0 rfl) ?_
    refine wt_getp hx hb hts cfX9 hown hK hW (cg9 k0) rfl 2 (by decide) (Or.inl (hts _ q56)) dX9_parse_79 (fun v hv nh0_2 => ?_)
    obtain ⟨x79, rfl⟩ : ga v := hv
    refine lv_if_ne (tgt := 101) hx hb dX9_parse_82 (by decide) (fun c82 => ?_) (fun c82 => ?_)
    · exact w2 _ _ _ (J101 _ _ _  hW hS (lv_sub hl [0] rfl) )
    · have rx79_82 : ir x79 0 0 := rf_eq c82 (ir_c (0) (by decide) : ir (0 : Int32) (0) (0))
      refine lv_aload_n hx hb dX9_parse_85 rfl (lv_at hl 0 rfl) ?_
      refine wt_getp hx hb hts cfX9 hown hK hW (cg9 k0) rfl 7 (by decide) (Or.inl (hts _ q64)) dX9_parse_86 (fun v hv nh0_7 => ?_)
      obtain ⟨x86, rfl, r86⟩ : gi 0 4 v := hv
      refine lv_if_le (tgt := 101) hx hb dX9_parse_89 (by decide) (fun c89 => ?_) (fun c89 => ?_)
      · have rx86_89 : ir x86 0 0 := ⟨(r86).1, Int.le_trans (rf_le c89 r86 (ir_c (0) (by decide) : ir (0 : Int32) (0) (0))).1 (by decide)⟩
        exact w2 _ _ _ (J101 _ _ _  hW hS (lv_sub hl [0] rfl) )
      · have rx86_89 : ir x86 1 4 := ⟨Int.le_trans (by decide) (rf_lt (rf_nle c89) (ir_c (0) (by decide) : ir (0 : Int32) (0) (0)) r86).2, (r86).2⟩
        refine lv_aload_n hx hb dX9_parse_92 rfl (lv_at hl 0 rfl) ?_
        refine lv_iconst (v := 1) hx hb dX9_parse_93 (by decide) ?_
        refine lv_aload_n hx hb dX9_parse_94 rfl (lv_at hl 0 rfl) ?_
        refine wt_getp hx hb hts cfX9 hown hK hW (cg9 k0) rfl 8 (by decide) (Or.inl (hts _ q65)) dX9_parse_95 (fun v hv nh0_8 => ?_)
        obtain ⟨x95, rfl⟩ : ga v := hv
        refine cc_v (wt_runV (As := [.int (1 : Int32), .int x95]) (rest := []) ⟨hx, hb, hml, hown, hts⟩ (m_X9_fail l N h0 k0 (1 : Int32) x95) wm_X9_fail q400 ⟨rfl, rfl⟩ ⟨Nat.le_of_ble_eq_true rfl, Nat.le_of_ble_eq_true rfl⟩ (cS_preV hK hW hT hnn hS (cg9 k0) rfl rfl trivial) rfl hl.1 rfl (Nat.le_of_ble_eq_true rfl) dX9_parse_98 ⟨Nat.zero_le _, Nat.zero_le _⟩) hS (by decide) (fun H locs hW hS oq hB2 => ?_)
        exact w2 _ _ _ (J101 _ _ _  hW hS (lv_sub hl [0] rfl) )
  have L39 : ∀ (n : Nat) (H : Heap) (locs : List Loc) (ls : Array Slot) (v39_1 : Int32), cW N H → va_S (cE N [3, 9, 20, 22, 23]) s.heap H locs → lv_has ls 2 [(0, .ref h0), (1, .int v39_1)] → ir v39_1 0 201 → 201 - v39_1.toInt < (n : Int) → WW H locs (F0 m 39 ls []) := by
    intro n
    induction n with
    | zero =>
      intro H locs ls v39_1 hW hS hl rv39_1 mu39
      exfalso
      omega
    | succ n ih39 =>
      intro H locs ls v39_1 hW hS hl rv39_1 mu39
      refine w1 _ _ _ ?_
      refine lv_iload_n hx hb dX9_parse_39 rfl (lv_at hl 1 rfl) ?_
      refine lv_sipush (v := 200) hx hb dX9_parse_40 (by decide) ?_
      refine lv_icmp_gt (tgt := 78) hx hb dX9_parse_43 (by decide) (fun c43 => ?_) (fun c43 => ?_)
      · have rv39_1_43 : ir v39_1 201 201 := ⟨Int.le_trans (by decide) (rf_lt c43 (ir_c (200) (by decide) : ir (200 : Int32) (200) (200)) rv39_1).2, (rv39_1).2⟩
        exact w2 _ _ _ (J78 _ _ _  hW hS (lv_sub hl [0] rfl) )
      · have rv39_1_43 : ir v39_1 0 200 := ⟨(rv39_1).1, Int.le_trans (rf_le (rf_nlt c43) rv39_1 (ir_c (200) (by decide) : ir (200 : Int32) (200) (200))).1 (by decide)⟩
        refine lv_aload_n hx hb dX9_parse_46 rfl (lv_at hl 0 rfl) ?_
        refine wt_getp hx hb hts cfX9 hown hK hW (cg9 k0) rfl 2 (by decide) (Or.inl (hts _ q56)) dX9_parse_47 (fun v hv nh0_2 => ?_)
        obtain ⟨x47, rfl⟩ : ga v := hv
        refine lv_if_ne (tgt := 78) hx hb dX9_parse_50 (by decide) (fun c50 => ?_) (fun c50 => ?_)
        · exact w2 _ _ _ (J78 _ _ _  hW hS (lv_sub hl [0] rfl) )
        · have rx47_50 : ir x47 0 0 := rf_eq c50 (ir_c (0) (by decide) : ir (0 : Int32) (0) (0))
          refine lv_aload_n hx hb dX9_parse_53 rfl (lv_at hl 0 rfl) ?_
          refine wt_getp hx hb hts cfX9 hown hK hW (cg9 k0) rfl 8 (by decide) (Or.inl (hts _ q65)) dX9_parse_54 (fun v hv nh0_8 => ?_)
          obtain ⟨x54, rfl⟩ : ga v := hv
          refine lv_aload_n hx hb dX9_parse_57 rfl (lv_at hl 0 rfl) ?_
          refine wt_getp hx hb hts cfX9 hown hK hW (cg9 k0) rfl 1 (by decide) (Or.inl (hts _ q54)) dX9_parse_58 (fun v hv nh0_1 => ?_)
          obtain ⟨x58, rfl, r58⟩ : gi 0 200 v := hv
          refine lv_icmp_ge (tgt := 78) hx hb dX9_parse_61 (by decide) (fun c61 => ?_) (fun c61 => ?_)
          · have rx54_61 : ir x54 0 2147483647 := ⟨Int.le_trans (by decide) (rf_le c61 r58 (ir_any x54)).2, ((ir_any x54)).2⟩
            exact w2 _ _ _ (J78 _ _ _  hW hS (lv_sub hl [0] rfl) )
          · have rx54_61 : ir x54 (-2147483648) 199 := ⟨((ir_any x54)).1, Int.le_trans (rf_lt (rf_nle c61) (ir_any x54) r58).1 (by decide)⟩
            refine lv_aload_n hx hb dX9_parse_64 rfl (lv_at hl 0 rfl) ?_
            refine cc_v (wt_runV (As := []) (rest := []) ⟨hx, hb, hml, hown, hts⟩ (m_X9_readOne l N h0 k0) wm_X9_readOne q364 ⟨rfl, rfl⟩ ⟨Nat.le_of_ble_eq_true rfl, Nat.le_of_ble_eq_true rfl⟩ (cS_preV hK hW hT hnn hS (cg9 k0) rfl rfl trivial) rfl hl.1 rfl (Nat.le_of_ble_eq_true rfl) dX9_parse_65 ⟨Nat.zero_le _, Nat.zero_le _⟩) hS (by decide) (fun H locs hW hS oq hB2 => ?_)
            refine lv_aload_n hx hb dX9_parse_68 rfl (lv_at hl 0 rfl) ?_
            refine cc_v (wt_runV (As := []) (rest := []) ⟨hx, hb, hml, hown, hts⟩ (m_X9_skipBlanks l N h0 k0) wm_X9_skipBlanks q356 ⟨rfl, rfl⟩ ⟨Nat.le_of_ble_eq_true rfl, Nat.le_of_ble_eq_true rfl⟩ (cS_preV hK hW hT hnn hS (cg9 k0) rfl rfl trivial) rfl hl.1 rfl (Nat.le_of_ble_eq_true rfl) dX9_parse_69 ⟨Nat.zero_le _, Nat.zero_le _⟩) hS (by decide) (fun H locs hW hS oq hB2 => ?_)
            obtain ⟨x72, e72⟩ : ∃ y : Int32, y = v39_1 + 1 := ⟨_, rfl⟩
            have r72 : ir x72 1 201 := ir_w (ir_add e72 rv39_1_43 (ir_c (1) (by decide) : ir (1 : Int32) (1) (1)) (by decide) (by decide)) (by decide) (by decide)
            have t72 : x72.toInt = v39_1.toInt + (1) := it_add e72 rv39_1_43 (ir_c (1) (by decide) : ir (1 : Int32) (1) (1)) (by decide) (by decide)
            refine lv_iinc (v := x72) (lv' := [(1, .int x72), (0, .ref h0)]) hx hb dX9_parse_72 hl (k := 1) rfl (by rw [e72]; rfl) (by decide) rfl (fun ls hl => ?_)
            refine lv_goto (tgt := 39) hx hb dX9_parse_75 (by decide) ?_
            exact w2 _ _ _ (ih39 _ _ _ x72 hW hS (lv_sub hl [1, 0] rfl) (ir_w (lo' := 0) (hi' := 201) r72 (by decide) (by decide)) (by have h9 := r72; omega))
  refine lv_aload_n hx hb dX9_parse_0 rfl (lv_at hl 0 rfl) ?_
  refine lv_iconst (v := 0) hx hb dX9_parse_1 (by decide) ?_
  refine wt_putp hx hb hts cfX9 tyX9 tyX9_ok nmX9 hown hK hW hS (cg9 k0) (ce k0 (by decide)) rfl 2 (by decide) (Or.inl (hts _ q56)) rfl rfl rfl ga_mk dX9_parse_2 (fun H locs hW hS oq o2 np => ?_)
  have nh0_2 : wt_pin N.1 vwCl h0 9 2 (.int (0 : Int32)) H := np
  refine lv_aload_n hx hb dX9_parse_5 rfl (lv_at hl 0 rfl) ?_
  refine lv_iconst (v := -1) hx hb dX9_parse_6 (by decide) ?_
  refine wt_putp hx hb hts cfX9 tyX9 tyX9_ok nmX9 hown hK hW hS (cg9 k0) (ce k0 (by decide)) rfl 3 (by decide) (Or.inl (hts _ q58)) rfl rfl rfl ga_mk dX9_parse_7 (fun H locs hW hS oq o2 np => ?_)
  have nh0_2 := o2 2 _ (by decide) (by decide) nh0_2
  have nh0_3 : wt_pin N.1 vwCl h0 9 3 (.int (-1 : Int32)) H := np
  refine lv_aload_n hx hb dX9_parse_10 rfl (lv_at hl 0 rfl) ?_
  refine wt_get hx hb hts cfX9 hown hK hW (cg9 k0) rfl 4 (by decide) q60 dX9_parse_11 (fun v hv => ?_)
  obtain ⟨x11, rfl, k11⟩ : gr N 3 v := hv
  refine lv_iconst (v := 0) hx hb dX9_parse_14 (by decide) ?_
  refine wt_putp hx hb hts cfX3 tyX3 tyX3_ok nmX3 hown hK hW hS (cg3 k11) (ce k11 (by decide)) rfl 1 (by decide) (Or.inr ⟨_, lw_n_use hnn q45⟩) rfl rfl rfl (gi_mk (ir_w (lo' := 0) (hi' := 24) (ir_c (0) (by decide) : ir (0 : Int32) (0) (0)) (by decide) (by decide))) dX9_parse_15 (fun H locs hW hS oq o2 np => ?_)
  have nh0_2 := nh0_2.kept (oq _ (ne_kind k0 k11 (by decide)))
  have nh0_3 := nh0_3.kept (oq _ (ne_kind k0 k11 (by decide)))
  have nx11_1 : wt_pin N.1 vwCl x11 3 1 (.int (0 : Int32)) H := np
  refine lv_aload_n hx hb dX9_parse_18 rfl (lv_at hl 0 rfl) ?_
  refine lv_iconst (v := 0) hx hb dX9_parse_19 (by decide) ?_
  refine wt_putp hx hb hts cfX9 tyX9 tyX9_ok nmX9 hown hK hW hS (cg9 k0) (ce k0 (by decide)) rfl 7 (by decide) (Or.inl (hts _ q64)) rfl rfl rfl (gi_mk (ir_w (lo' := 0) (hi' := 4) (ir_c (0) (by decide) : ir (0 : Int32) (0) (0)) (by decide) (by decide))) dX9_parse_20 (fun H locs hW hS oq o2 np => ?_)
  have nh0_2 := o2 2 _ (by decide) (by decide) nh0_2
  have nh0_3 := o2 3 _ (by decide) (by decide) nh0_3
  have nx11_1 := nx11_1.kept (oq _ (ne_kind k11 k0 (by decide)))
  have nh0_7 : wt_pin N.1 vwCl h0 9 7 (.int (0 : Int32)) H := np
  refine lv_aload_n hx hb dX9_parse_23 rfl (lv_at hl 0 rfl) ?_
  refine lv_iconst (v := 0) hx hb dX9_parse_24 (by decide) ?_
  refine wt_putp hx hb hts cfX9 tyX9 tyX9_ok nmX9 hown hK hW hS (cg9 k0) (ce k0 (by decide)) rfl 8 (by decide) (Or.inl (hts _ q65)) rfl rfl rfl ga_mk dX9_parse_25 (fun H locs hW hS oq o2 np => ?_)
  have nh0_2 := o2 2 _ (by decide) (by decide) nh0_2
  have nh0_3 := o2 3 _ (by decide) (by decide) nh0_3
  have nx11_1 := nx11_1.kept (oq _ (ne_kind k11 k0 (by decide)))
  have nh0_7 := o2 7 _ (by decide) (by decide) nh0_7
  have nh0_8 : wt_pin N.1 vwCl h0 9 8 (.int (0 : Int32)) H := np
  refine lv_aload_n hx hb dX9_parse_28 rfl (lv_at hl 0 rfl) ?_
  refine lv_iconst (v := -1) hx hb dX9_parse_29 (by decide) ?_
  refine wt_putp hx hb hts cfX9 tyX9 tyX9_ok nmX9 hown hK hW hS (cg9 k0) (ce k0 (by decide)) rfl 11 (by decide) (Or.inl (hts _ q68)) rfl rfl rfl ga_mk dX9_parse_30 (fun H locs hW hS oq o2 np => ?_)
  have nh0_2 := o2 2 _ (by decide) (by decide) nh0_2
  have nh0_3 := o2 3 _ (by decide) (by decide) nh0_3
  have nx11_1 := nx11_1.kept (oq _ (ne_kind k11 k0 (by decide)))
  have nh0_7 := o2 7 _ (by decide) (by decide) nh0_7
  have nh0_8 := o2 8 _ (by decide) (by decide) nh0_8
  have nh0_11 : wt_pin N.1 vwCl h0 9 11 (.int (-1 : Int32)) H := np
  refine lv_aload_n hx hb dX9_parse_33 rfl (lv_at hl 0 rfl) ?_
  refine cc_v (wt_runV (As := []) (rest := []) ⟨hx, hb, hml, hown, hts⟩ (m_X9_skipBlanks l N h0 k0) wm_X9_skipBlanks q356 ⟨rfl, rfl⟩ ⟨Nat.le_of_ble_eq_true rfl, Nat.le_of_ble_eq_true rfl⟩ (cS_preV hK hW hT hnn hS (cg9 k0) rfl rfl trivial) rfl hl.1 rfl (Nat.le_of_ble_eq_true rfl) dX9_parse_34 ⟨Nat.zero_le _, Nat.zero_le _⟩) hS (by decide) (fun H locs hW hS oq hB2 => ?_)
  have nx11_1 := nx11_1.kept (oq _ nx11_1.lt (cE_not k11 (by decide)))
  refine lv_iconst (v := 0) hx hb dX9_parse_37 (by decide) ?_
  refine lv_istore_n (lv' := [(1, .int (0 : Int32)), (0, .ref h0)]) hx hb dX9_parse_38 rfl hl (by decide) rfl (fun ls hl => ?_)
  exact w2 _ _ _ (L39 202 _ _ _ (0 : Int32) hW hS (lv_sub hl [1, 0] rfl) (ir_w (lo' := 0) (hi' := 201) (ir_c (0) (by decide) : ir (0 : Int32) (0) (0)) (by decide) (by decide)) (by have h9 := (ir_c (0) (by decide) : ir (0 : Int32) (0) (0)); omega))
