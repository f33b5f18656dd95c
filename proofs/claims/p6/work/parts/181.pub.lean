set_option maxHeartbeats 4000000 in
set_option maxRecDepth 100000 in
theorem m_X10_extreme (l : Launch) (N : c_N) (h0 : Nat) (k0 : N.2.2.1 h0 = some 10) (p1 : Int32) : cMi l yX10_extreme cX10_extreme 6 .int { frames := 6, cells := 0, slots := 0, locals := 155 } [.ref h0, .int p1] N [0, 2, 4, 8] cT0 (fun _ => True) := by
  refine Met.ofW (cc := cX10_extreme) (maxL := 6) (ret := some .int) (by decide) rfl ?_
  intro p e s m args below meth c s₁ B hml hv
  obtain ⟨rfl, ⟨hK, hW, hT, hnn⟩, hB⟩ := hv
  have hx := B.exec
  have hb := B.bytes
  have hr := B.returns
  have hts : ∀ w ∈ lw_g, w.before _ s = true := fun w h => atoms_spec (ws := wc_ws yX10_extreme cX10_extreme 6 (some .int)) B.pre w (List.mem_cons_of_mem _ h)
  have hown : s.vm.findClass RX10 = some m.cls := findClass_of_methodNamed B.named
  have hlocks := B.notSynchronized
  have hS : va_S (cE N [0, 2, 4, 8]) s.heap s.heap [] := va_S.rf
  have hl := lv_entry ([.ref h0, .int p1]) (n := 6) (Nat.le_of_ble_eq_true rfl)
  rw [lg_entry_eq]
  generalize (lg_sl ([.ref h0, .int p1]) ++ List.replicate (6 - (lg_sl ([.ref h0, .int p1])).length) Slot.unset).toArray = ls at hl ⊢
  have hl : lv_has ls 6 [(0, .ref h0), (1, .int p1)] := hl
  refine wq_all ?_
  intro WW w1 w2
  have L15 : ∀ (n : Nat) (H : Heap) (locs : List Loc) (ls : Array Slot) (v15_2 : Int32) (v15_3 : Int32), cW N H → va_S (cE N [0, 2, 4, 8]) s.heap H locs → lv_has ls 6 [(0, .ref h0), (1, .int p1), (2, .int v15_2), (3, .int v15_3)] → ir p1 0 1 → ir v15_2 (-1) 4 → ir v15_3 1 5 → 5 - v15_3.toInt < (n : Int) → WW H locs (F0 m 15 ls []) := by
    intro n
    induction n with
    | zero =>
      intro H locs ls v15_2 v15_3 hW hS hl rv15_1 rv15_2 rv15_3 mu15
      exfalso
      omega
    | succ n ih15 =>
      intro H locs ls v15_2 v15_3 hW hS hl rv15_1 rv15_2 rv15_3 mu15
      have J115 : ∀ (H : Heap) (locs : List Loc) (ls : Array Slot) (v115_2 : Int32), cW N H → va_S (cE N [0, 2, 4, 8]) s.heap H locs → lv_has ls 6 [(0, .ref h0), (1, .int p1), (2, .int v115_2), (3, .int v15_3)] → ir p1 0 1 → ir v115_2 (-1) 4 → ir v15_3 1 4 → WW H locs (F0 m 115 ls []) := by
        intro H locs ls v115_2 hW hS hl rv115_1 rv115_2 rv115_3
        refine w1 _ _ _ ?_
        obtain ⟨x115, e115⟩ : ∃ y : Int32, y = v15_3 + 1 := ⟨_, rfl⟩
        have r115 : ir x115 2 5 := ir_w (ir_add e115 rv115_3 (ir_c (1) (by decide) : ir (1 : Int32) (1) (1)) (by decide) (by decide)) (by decide) (by decide)
        have t115 : x115.toInt = v15_3.toInt + (1) := it_add e115 rv115_3 (ir_c (1) (by decide) : ir (1 : Int32) (1) (1)) (by decide) (by decide)
        refine lv_iinc (v := x115) (lv' := [(3, .int x115), (0, .ref h0), (1, .int p1), (2, .int v115_2)]) hx hb dX10_extreme_115 hl (k := 3) rfl (by rw [e115]; rfl) (by decide) rfl (fun ls hl => ?_)
        refine lv_goto (tgt := 15) hx hb dX10_extreme_118 (by decide) ?_
        exact w2 _ _ _ (ih15 _ _ _ v115_2 x115 hW hS (lv_sub hl [1, 2, 3, 0] rfl) rv115_1 rv115_2 (ir_w (lo' := 1) (hi' := 5) r115 (by decide) (by decide)) (by have h9 := r115; omega))
      have J102 : ∀ (H : Heap) (locs : List Loc) (ls : Array Slot) , cW N H → va_S (cE N [0, 2, 4, 8]) s.heap H locs → lv_has ls 6 [(0, .ref h0), (1, .int p1), (3, .int v15_3)] → ir p1 0 1 → ir v15_3 1 4 → WW H locs (F0 m 102 ls []) := by
        intro H locs ls  hW hS hl rv102_1 rv102_3
        refine w1 _ _ _ ?_
        refine lv_iload_n hx hb dX10_extreme_102 rfl (lv_at hl 2 rfl) ?_
        refine lv_istore_n (lv' := [(2, .int v15_3), (0, .ref h0), (1, .int p1), (3, .int v15_3)]) hx hb dX10_extreme_103 rfl hl (by decide) rfl (fun ls hl => ?_)
        refine lv_aload_n hx hb dX10_extreme_104 rfl (lv_at hl 1 rfl) ?_
        refine wt_get hx hb hts cfX10 hown hK hW (cg10 k0) rfl 10 (by decide) q303 dX10_extreme_105 (fun v hv => ?_)
        obtain ⟨x105, rfl, k105⟩ : gr N 0 v := hv
        refine lv_aload_n hx hb dX10_extreme_108 rfl (lv_at hl 1 rfl) ?_
        refine wt_get hx hb hts cfX10 hown hK hW (cg10 k0) rfl 9 (by decide) q302 dX10_extreme_109 (fun v hv => ?_)
        obtain ⟨x109, rfl, k109⟩ : gr N 0 v := hv
        refine cc_v (wt_runV (As := [.ref x109]) (rest := []) ⟨hx, hb, hml, hown, hts⟩ (m_X0_copyOf l N x105 k105 x109 k109) wm_X0_copyOf q667 ⟨rfl, rfl⟩ ⟨Nat.le_of_ble_eq_true rfl, Nat.le_of_ble_eq_true rfl⟩ (cS_preV hK hW hT hnn hS (cg0 k105) rfl rfl trivial) rfl hl.1 rfl (Nat.le_of_ble_eq_true rfl) dX10_extreme_112 ⟨Nat.zero_le _, Nat.zero_le _⟩) hS (by decide) (fun H locs hW hS oq hB2 => ?_)
        exact w2 _ _ _ (J115 _ _ _ v15_3 hW hS (lv_sub hl [1, 2, 0, 3] rfl) rv102_1 (ir_w (lo' := -1) (hi' := 4) rv102_3 (by decide) (by decide)) rv102_3)
      have J78 : ∀ (H : Heap) (locs : List Loc) (ls : Array Slot) (w78_0 : Int32), cW N H → va_S (cE N [0, 2, 4, 8]) s.heap H locs → lv_has ls 6 [(0, .ref h0), (1, .int p1), (2, .int v15_2), (3, .int v15_3)] → ir p1 0 1 → ir v15_2 (-1) 4 → ir v15_3 1 4 → WW H locs (F0 m 78 ls [.int w78_0]) := by
        intro H locs ls w78_0 hW hS hl rv78_1 rv78_2 rv78_3
        refine w1 _ _ _ ?_
        refine lv_istore (lv' := [(5, .int w78_0), (0, .ref h0), (1, .int p1), (2, .int v15_2), (3, .int v15_3)]) hx hb dX10_extreme_78 hl (by decide) rfl (fun ls hl => ?_)
        refine lv_iload_n hx hb dX10_extreme_80 rfl (lv_at hl 3 rfl) ?_
        refine lv_iconst (v := -1) hx hb dX10_extreme_81 (by decide) ?_
        refine lv_icmp_eq (tgt := 102) hx hb dX10_extreme_82 (by decide) (fun c82 => ?_) (fun c82 => ?_)
        · have rv15_2_82 : ir v15_2 (-1) (-1) := rf_eq c82 (ir_c (-1) (by decide) : ir (-1 : Int32) (-1) (-1))
          exact w2 _ _ _ (J102 _ _ _  hW hS (lv_sub hl [1, 2, 4] rfl) rv78_1 rv78_3)
        · have rv15_2_82 : ir v15_2 0 4 := rf_nel c82 rv78_2 (by decide) (by decide)
          refine lv_iload_n hx hb dX10_extreme_85 rfl (lv_at hl 2 rfl) ?_
          refine lv_if_ne (tgt := 97) hx hb dX10_extreme_86 (by decide) (fun c86 => ?_) (fun c86 => ?_)
          · have rp1_86 : ir p1 1 1 := rf_ne0 c86 rv78_1
            refine lv_iload hx hb dX10_extreme_97 (lv_at hl 0 rfl) ?_
            refine lv_if_le (tgt := 115) hx hb dX10_extreme_99 (by decide) (fun c99 => ?_) (fun c99 => ?_)
            · have rw78_0_99 : ir w78_0 (-2147483648) 0 := ⟨((ir_any w78_0)).1, Int.le_trans (rf_le c99 (ir_any w78_0) (ir_c (0) (by decide) : ir (0 : Int32) (0) (0))).1 (by decide)⟩
              exact w2 _ _ _ (J115 _ _ _ v15_2 hW hS (lv_sub hl [1, 2, 3, 4] rfl) (ir_w (lo' := 0) (hi' := 1) rp1_86 (by decide) (by decide)) (ir_w (lo' := -1) (hi' := 4) rv15_2_82 (by decide) (by decide)) rv78_3)
            · have rw78_0_99 : ir w78_0 1 2147483647 := ⟨Int.le_trans (by decide) (rf_lt (rf_nle c99) (ir_c (0) (by decide) : ir (0 : Int32) (0) (0)) (ir_any w78_0)).2, ((ir_any w78_0)).2⟩
              exact w2 _ _ _ (J102 _ _ _  hW hS (lv_sub hl [1, 2, 4] rfl) (ir_w (lo' := 0) (hi' := 1) rp1_86 (by decide) (by decide)) rv78_3)
          · have rp1_86 : ir p1 0 0 := rf_eq c86 (ir_c (0) (by decide) : ir (0 : Int32) (0) (0))
            refine lv_iload hx hb dX10_extreme_89 (lv_at hl 0 rfl) ?_
            refine lv_if_ge (tgt := 115) hx hb dX10_extreme_91 (by decide) (fun c91 => ?_) (fun c91 => ?_)
            · have rw78_0_91 : ir w78_0 0 2147483647 := ⟨Int.le_trans (by decide) (rf_le c91 (ir_c (0) (by decide) : ir (0 : Int32) (0) (0)) (ir_any w78_0)).2, ((ir_any w78_0)).2⟩
              exact w2 _ _ _ (J115 _ _ _ v15_2 hW hS (lv_sub hl [1, 2, 3, 4] rfl) (ir_w (lo' := 0) (hi' := 1) rp1_86 (by decide) (by decide)) (ir_w (lo' := -1) (hi' := 4) rv15_2_82 (by decide) (by decide)) rv78_3)
            · have rw78_0_91 : ir w78_0 (-2147483648) (-1) := ⟨((ir_any w78_0)).1, Int.le_trans (rf_lt (rf_nle c91) (ir_any w78_0) (ir_c (0) (by decide) : ir (0 : Int32) (0) (0))).1 (by decide)⟩
              refine lv_goto (tgt := 102) hx hb dX10_extreme_94 (by decide) ?_
              exact w2 _ _ _ (J102 _ _ _  hW hS (lv_sub hl [1, 2, 4] rfl) (ir_w (lo' := 0) (hi' := 1) rp1_86 (by decide) (by decide)) rv78_3)
      refine w1 _ _ _ ?_
      refine lv_iload_n hx hb dX10_extreme_15 rfl (lv_at hl 3 rfl) ?_
      refine lv_iconst (v := 4) hx hb dX10_extreme_16 (by decide) ?_
      refine lv_icmp_gt (tgt := 121) hx hb dX10_extreme_17 (by decide) (fun c17 => ?_) (fun c17 => ?_)
      · have rv15_3_17 : ir v15_3 5 5 := ⟨Int.le_trans (by decide) (rf_lt c17 (ir_c (4) (by decide) : ir (4 : Int32) (4) (4)) rv15_3).2, (rv15_3).2⟩
        refine lv_iload_n hx hb dX10_extreme_121 rfl (lv_at hl 2 rfl) ?_
        exact W.iret (v := v15_2) hx hb hr (fun t ht _ => ⟨⟨v15_2, (), rfl, trivial, cW_at ht hW⟩, hS.F ht⟩) hS.2.2 dX10_extreme_122
      · have rv15_3_17 : ir v15_3 1 4 := ⟨(rv15_3).1, Int.le_trans (rf_le (rf_nlt c17) rv15_3 (ir_c (4) (by decide) : ir (4 : Int32) (4) (4))).1 (by decide)⟩
        refine lv_aload_n hx hb dX10_extreme_20 rfl (lv_at hl 0 rfl) ?_
        refine lv_aload_n hx hb dX10_extreme_21 rfl (lv_at hl 0 rfl) ?_
        refine wt_get hx hb hts cfX10 hown hK hW (cg10 k0) rfl 1 (by decide) q294 dX10_extreme_22 (fun v hv => ?_)
        obtain ⟨x22, rfl, k22⟩ : gr N 3 v := hv
        refine wt_getp hx hb hts cfX3 hown hK hW (cg3 k22) rfl 1 (by decide) (Or.inr ⟨_, lw_n_use hnn q46⟩) dX10_extreme_25 (fun v hv nx22_1 => ?_)
        obtain ⟨x25, rfl, r25⟩ : gi 0 24 v := hv
        refine lv_iload_n hx hb dX10_extreme_28 rfl (lv_at hl 3 rfl) ?_
        refine cc_r (wt_runV (As := [.int x25, .int v15_3]) (rest := []) ⟨hx, hb, hml, hown, hts⟩ (m_X10_beginning l N h0 k0 x25 v15_3 rv15_3_17) wm_X10_beginning q543 ⟨rfl, rfl⟩ ⟨Nat.le_of_ble_eq_true rfl, Nat.le_of_ble_eq_true rfl⟩ (cS_preV hK hW hT hnn hS (cg10 k0) rfl rfl trivial) rfl hl.1 rfl (Nat.le_of_ble_eq_true rfl) dX10_extreme_29 ⟨Nat.zero_le _, Nat.zero_le _⟩) hS (by decide) (fun x29 H locs k29 hW hS oq => ?_)
        have nx22_1 := nx22_1.kept (oq _ nx22_1.lt (cE_not k22 (by decide)))
        refine lv_astore (lv' := [(4, .ref x29), (0, .ref h0), (1, .int p1), (2, .int v15_2), (3, .int v15_3)]) hx hb dX10_extreme_32 hl (by decide) rfl (fun ls hl => ?_)
        refine lv_aload hx hb dX10_extreme_34 (lv_at hl 0 rfl) ?_
        refine wt_getp hx hb hts cfX4 hown hK hW (cg4 k29) rfl 4 (by decide) (Or.inr ⟨_, lw_n_use hnn q197⟩) dX10_extreme_36 (fun v hv nx29_4 => ?_)
        obtain ⟨x36, rfl, r36⟩ : gi 0 1 v := hv
        refine lv_if_eq (tgt := 45) hx hb dX10_extreme_39 (by decide) (fun c39 => ?_) (fun c39 => ?_)
        · have rx36_39 : ir x36 0 0 := rf_eq c39 (ir_c (0) (by decide) : ir (0 : Int32) (0) (0))
          refine lv_aload_n hx hb dX10_extreme_45 rfl (lv_at hl 1 rfl) ?_
          refine wt_get hx hb hts cfX10 hown hK hW (cg10 k0) rfl 3 (by decide) q296 dX10_extreme_46 (fun v hv => ?_)
          obtain ⟨x46, rfl, k46⟩ : gr N 5 v := hv
          refine lv_aload hx hb dX10_extreme_49 (lv_at hl 0 rfl) ?_
          refine lv_aload_n hx hb dX10_extreme_51 rfl (lv_at hl 1 rfl) ?_
          refine wt_get hx hb hts cfX10 hown hK hW (cg10 k0) rfl 9 (by decide) q302 dX10_extreme_52 (fun v hv => ?_)
          obtain ⟨x52, rfl, k52⟩ : gr N 0 v := hv
          refine cc_v (wt_runV (As := [.ref x29, .ref x52]) (rest := []) ⟨hx, hb, hml, hown, hts⟩ (m_X5_measureBack l N x46 k46 x29 k29 x52 k52) wm_X5_measureBack q599 ⟨rfl, rfl⟩ ⟨Nat.le_of_ble_eq_true rfl, Nat.le_of_ble_eq_true rfl⟩ (cS_preV hK hW hT hnn hS (cg5 k46) rfl rfl trivial) rfl hl.1 rfl (Nat.le_of_ble_eq_true rfl) dX10_extreme_55 ⟨Nat.zero_le _, Nat.zero_le _⟩) hS (by decide) (fun H locs hW hS oq hB2 => ?_)
          have nx22_1 := nx22_1.kept (oq _ nx22_1.lt (cE_not k22 (by decide)))
          have nx29_4 := nx29_4.kept (oq _ nx29_4.lt (cE_not k29 (by decide)))
          refine lv_iload_n hx hb dX10_extreme_58 rfl (lv_at hl 3 rfl) ?_
          refine lv_iconst (v := -1) hx hb dX10_extreme_59 (by decide) ?_
          refine lv_icmp_ne (tgt := 67) hx hb dX10_extreme_60 (by decide) (fun c60 => ?_) (fun c60 => ?_)
          · have rv15_2_60 : ir v15_2 0 4 := rf_nel c60 rv15_2 (by decide) (by decide)
            refine lv_aload_n hx hb dX10_extreme_67 rfl (lv_at hl 1 rfl) ?_
            refine wt_get hx hb hts cfX10 hown hK hW (cg10 k0) rfl 9 (by decide) q302 dX10_extreme_68 (fun v hv => ?_)
            obtain ⟨x68, rfl, k68⟩ : gr N 0 v := hv
            refine lv_aload_n hx hb dX10_extreme_71 rfl (lv_at hl 1 rfl) ?_
            refine wt_get hx hb hts cfX10 hown hK hW (cg10 k0) rfl 10 (by decide) q303 dX10_extreme_72 (fun v hv => ?_)
            obtain ⟨x72, rfl, k72⟩ : gr N 0 v := hv
            refine cc_i (wt_runV (As := [.ref x72]) (rest := []) ⟨hx, hb, hml, hown, hts⟩ (m_X0_compareWith l N x68 k68 x72 k72) wm_X0_compareWith q660 ⟨rfl, rfl⟩ ⟨Nat.le_of_ble_eq_true rfl, Nat.le_of_ble_eq_true rfl⟩ (cS_preV hK hW hT hnn hS (cg0 k68) rfl rfl trivial) rfl hl.1 rfl (Nat.le_of_ble_eq_true rfl) dX10_extreme_75 ⟨Nat.zero_le _, Nat.zero_le _⟩) hS (by decide) (fun x75 H locs hp hW hS oq => ?_)
            have nx22_1 := nx22_1.kept (oq _ nx22_1.lt (cE_not k22 (by decide)))
            have nx29_4 := nx29_4.kept (oq _ nx29_4.lt (cE_not k29 (by decide)))
            exact w2 _ _ _ (J78 _ _ _ x75 hW hS (lv_sub hl [1, 2, 3, 4] rfl) rv15_1 (ir_w (lo' := -1) (hi' := 4) rv15_2_60 (by decide) (by decide)) rv15_3_17)
          · have rv15_2_60 : ir v15_2 (-1) (-1) := rf_eq c60 (ir_c (-1) (by decide) : ir (-1 : Int32) (-1) (-1))
            refine lv_iconst (v := 0) hx hb dX10_extreme_63 (by decide) ?_
            refine lv_goto (tgt := 78) hx hb dX10_extreme_64 (by decide) ?_
            exact w2 _ _ _ (J78 _ _ _ (0 : Int32) hW hS (lv_sub hl [1, 2, 3, 4] rfl) rv15_1 (ir_w (lo' := -1) (hi' := 4) rv15_2_60 (by decide) (by decide)) rv15_3_17)
        · have rx36_39 : ir x36 1 1 := rf_ne0 c39 r36
          refine lv_goto (tgt := 115) hx hb dX10_extreme_42 (by decide) ?_
          exact w2 _ _ _ (J115 _ _ _ v15_2 hW hS (lv_sub hl [1, 2, 3, 4] rfl) rv15_1 rv15_2 rv15_3_17)
  refine lv_iload_n hx hb dX10_extreme_0 rfl (lv_at hl 1 rfl) ?_
  refine lv_if_lt (tgt := 9) hx hb dX10_extreme_1 (by decide) (fun c1 => ?_) (fun c1 => ?_)
  · have rp1_1 : ir p1 (-2147483648) (-1) := ⟨((ir_any p1)).1, Int.le_trans (rf_lt c1 (ir_any p1) (ir_c (0) (by decide) : ir (0 : Int32) (0) (0))).1 (by decide)⟩
    refine lv_iconst (v := -1) hx hb dX10_extreme_9 (by decide) ?_
    exact W.iret (v := (-1 : Int32)) hx hb hr (fun t ht _ => ⟨⟨(-1 : Int32), (), rfl, trivial, cW_at ht hW⟩, hS.F ht⟩) hS.2.2 dX10_extreme_10
  · have rp1_1 : ir p1 0 2147483647 := ⟨Int.le_trans (by decide) (rf_le (rf_nlt c1) (ir_c (0) (by decide) : ir (0 : Int32) (0) (0)) (ir_any p1)).2, ((ir_any p1)).2⟩
    refine lv_iload_n hx hb dX10_extreme_4 rfl (lv_at hl 1 rfl) ?_
    refine lv_iconst (v := 1) hx hb dX10_extreme_5 (by decide) ?_
    refine lv_icmp_le (tgt := 11) hx hb dX10_extreme_6 (by decide) (fun c6 => ?_) (fun c6 => ?_)
    · have rp1_6 : ir p1 0 1 := ⟨(rp1_1).1, Int.le_trans (rf_le c6 rp1_1 (ir_c (1) (by decide) : ir (1 : Int32) (1) (1))).1 (by decide)⟩
      refine lv_iconst (v := -1) hx hb dX10_extreme_11 (by decide) ?_
      refine lv_istore_n (lv' := [(2, .int (-1 : Int32)), (0, .ref h0), (1, .int p1)]) hx hb dX10_extreme_12 rfl hl (by decide) rfl (fun ls hl => ?_)
      refine lv_iconst (v := 1) hx hb dX10_extreme_13 (by decide) ?_
      refine lv_istore_n (lv' := [(3, .int (1 : Int32)), (2, .int (-1 : Int32)), (0, .ref h0), (1, .int p1)]) hx hb dX10_extreme_14 rfl hl (by decide) rfl (fun ls hl => ?_)
      exact w2 _ _ _ (L15 5 _ _ _ (-1 : Int32) (1 : Int32) hW hS (lv_sub hl [2, 3, 1, 0] rfl) rp1_6 (ir_w (lo' := -1) (hi' := 4) (ir_c (-1) (by decide) : ir (-1 : Int32) (-1) (-1)) (by decide) (by decide)) (ir_w (lo' := 1) (hi' := 5) (ir_c (1) (by decide) : ir (1 : Int32) (1) (1)) (by decide) (by decide)) (by have h9 := (ir_c (1) (by decide) : ir (1 : Int32) (1) (1)); omega))
    · have rp1_6 : ir p1 2 2147483647 := ⟨Int.le_trans (by decide) (rf_lt (rf_nle c6) (ir_c (1) (by decide) : ir (1 : Int32) (1) (1)) rp1_1).2, (rp1_1).2⟩
      refine lv_iconst (v := -1) hx hb dX10_extreme_9 (by decide) ?_
      exact W.iret (v := (-1 : Int32)) hx hb hr (fun t ht _ => ⟨⟨(-1 : Int32), (), rfl, trivial, cW_at ht hW⟩, hS.F ht⟩) hS.2.2 dX10_extreme_10
set_option maxHeartbeats 4000000 in
set_option maxRecDepth 100000 in
theorem m_X10_below (l : Launch) (N : c_N) (h0 : Nat) (k0 : N.2.2.1 h0 = some 10) (p1 : Int32) (p2 : Int32) (p3 : Int32) : cMi l yX10_below cX10_below 7 .int { frames := 5, cells := 0, slots := 0, locals := 133 } [.ref h0, .int p1, .int p2, .int p3] N [0, 2, 4, 8] cT0 (fun _ => True) := by
  refine Met.ofW (cc := cX10_below) (maxL := 7) (ret := some .int) (by decide) rfl ?_
  intro p e s m args below meth c s₁ B hml hv
  obtain ⟨rfl, ⟨hK, hW, hT, hnn⟩, hB⟩ := hv
  have hx := B.exec
  have hb := B.bytes
  have hr := B.returns
  have hts : ∀ w ∈ lw_g, w.before _ s = true := fun w h => atoms_spec (ws := wc_ws yX10_below cX10_below 7 (some .int)) B.pre w (List.mem_cons_of_mem _ h)
  have hown : s.vm.findClass RX10 = some m.cls := findClass_of_methodNamed B.named
  have hlocks := B.notSynchronized
  have hS : va_S (cE N [0, 2, 4, 8]) s.heap s.heap [] := va_S.rf
  have hl := lv_entry ([.ref h0, .int p1, .int p2, .int p3]) (n := 7) (Nat.le_of_ble_eq_true rfl)
  rw [lg_entry_eq]
  generalize (lg_sl ([.ref h0, .int p1, .int p2, .int p3]) ++ List.replicate (7 - (lg_sl ([.ref h0, .int p1, .int p2, .int p3])).length) Slot.unset).toArray = ls at hl ⊢
  have hl : lv_has ls 7 [(0, .ref h0), (1, .int p1), (2, .int p2), (3, .int p3)] := hl
  refine wq_all ?_
  intro WW w1 w2
  have L74 : ∀ (n : Nat) (H : Heap) (locs : List Loc) (ls : Array Slot) (v74_4 : Int32) (v74_5 : Int32), cW N H → va_S (cE N [0, 2, 4, 8]) s.heap H locs → lv_has ls 7 [(0, .ref h0), (4, .int v74_4), (5, .int v74_5)] → ir v74_5 0 25 → 25 - v74_5.toInt < (n : Int) → WW H locs (F0 m 74 ls []) := by
    intro n
    induction n with
    | zero =>
      intro H locs ls v74_4 v74_5 hW hS hl rv74_5 mu74
      exfalso
      omega
    | succ n ih74 =>
      intro H locs ls v74_4 v74_5 hW hS hl rv74_5 mu74
      have J141 : ∀ (H : Heap) (locs : List Loc) (ls : Array Slot) (v141_4 : Int32), cW N H → va_S (cE N [0, 2, 4, 8]) s.heap H locs → lv_has ls 7 [(0, .ref h0), (4, .int v141_4), (5, .int v74_5)] → ir v74_5 0 24 → WW H locs (F0 m 141 ls []) := by
        intro H locs ls v141_4 hW hS hl rv141_5
        refine w1 _ _ _ ?_
        obtain ⟨x141, e141⟩ : ∃ y : Int32, y = v74_5 + 1 := ⟨_, rfl⟩
        have r141 : ir x141 1 25 := ir_w (ir_add e141 rv141_5 (ir_c (1) (by decide) : ir (1 : Int32) (1) (1)) (by decide) (by decide)) (by decide) (by decide)
        have t141 : x141.toInt = v74_5.toInt + (1) := it_add e141 rv141_5 (ir_c (1) (by decide) : ir (1 : Int32) (1) (1)) (by decide) (by decide)
        refine lv_iinc (v := x141) (lv' := [(5, .int x141), (0, .ref h0), (4, .int v141_4)]) hx hb dX10_below_141 hl (k := 2) rfl (by rw [e141]; rfl) (by decide) rfl (fun ls hl => ?_)
        refine lv_goto (tgt := 74) hx hb dX10_below_144 (by decide) ?_
        exact w2 _ _ _ (ih74 _ _ _ v141_4 x141 hW hS (lv_sub hl [1, 2, 0] rfl) (ir_w (lo' := 0) (hi' := 25) r141 (by decide) (by decide)) (by have h9 := r141; omega))
      refine w1 _ _ _ ?_
      refine lv_iload hx hb dX10_below_74 (lv_at hl 2 rfl) ?_
      refine lv_aload_n hx hb dX10_below_76 rfl (lv_at hl 0 rfl) ?_
      refine wt_get hx hb hts cfX10 hown hK hW (cg10 k0) rfl 1 (by decide) q294 dX10_below_77 (fun v hv => ?_)
      obtain ⟨x77, rfl, k77⟩ : gr N 3 v := hv
      refine wt_getp hx hb hts cfX3 hown hK hW (cg3 k77) rfl 1 (by decide) (Or.inr ⟨_, lw_n_use hnn q46⟩) dX10_below_80 (fun v hv nx77_1 => ?_)
      obtain ⟨x80, rfl, r80⟩ : gi 0 24 v := hv
      refine lv_icmp_gt (tgt := 147) hx hb dX10_below_83 (by decide) (fun c83 => ?_) (fun c83 => ?_)
      · have rv74_5_83 : ir v74_5 1 25 := ⟨Int.le_trans (by decide) (rf_lt c83 r80 rv74_5).2, (rv74_5).2⟩
        refine lv_iload hx hb dX10_below_147 (lv_at hl 1 rfl) ?_
        exact W.iret (v := v74_4) hx hb hr (fun t ht _ => ⟨⟨v74_4, (), rfl, trivial, cW_at ht hW⟩, hS.F ht⟩) hS.2.2 dX10_below_149
      · have rv74_5_83 : ir v74_5 0 24 := ⟨(rv74_5).1, Int.le_trans (rf_le (rf_nlt c83) rv74_5 r80).1 (by decide)⟩
        refine lv_aload_n hx hb dX10_below_86 rfl (lv_at hl 0 rfl) ?_
        refine wt_get hx hb hts cfX10 hown hK hW (cg10 k0) rfl 6 (by decide) q299 dX10_below_87 (fun v hv => ?_)
        obtain ⟨x87, rfl, k87⟩ : gr N 31 v := hv
        refine lv_iconst (v := 0) hx hb dX10_below_90 (by decide) ?_
        refine wt_aald hx hb hK hW 3 (cg31 k87) rfl (ir_in (ir_w (lo' := 0) (hi' := 3) (ir_c (0) (by decide) : ir (0 : Int32) (0) (0)) (by decide) (by decide)) (by decide) (by decide)) dX10_below_91 (fun v hv => ?_)
        obtain ⟨x91, rfl, k91⟩ : gr N 2 v := hv
        refine wt_getN hx hb hts cfX2 hown hK hW (cg2 k91) rfl 1 (by decide) hnn q278 dX10_below_92 (fun v hv => ?_)
        obtain ⟨x92, rfl, k92⟩ : gr N 33 v := hv
        refine lv_iload hx hb dX10_below_95 (lv_at hl 2 rfl) ?_
        refine wt_aald hx hb hK hW 5 (cg33 k92) rfl (ir_in rv74_5_83 (by decide) (by decide)) dX10_below_97 (fun v hv => ?_)
        obtain ⟨x97, rfl, k97⟩ : gr N 4 v := hv
        refine lv_astore (lv' := [(6, .ref x97), (0, .ref h0), (4, .int v74_4), (5, .int v74_5)]) hx hb dX10_below_98 hl (by decide) rfl (fun ls hl => ?_)
        refine lv_aload hx hb dX10_below_100 (lv_at hl 0 rfl) ?_
        refine wt_getp hx hb hts cfX4 hown hK hW (cg4 k97) rfl 4 (by decide) (Or.inr ⟨_, lw_n_use hnn q197⟩) dX10_below_102 (fun v hv nx97_4 => ?_)
        obtain ⟨x102, rfl, r102⟩ : gi 0 1 v := hv
        refine lv_if_eq (tgt := 111) hx hb dX10_below_105 (by decide) (fun c105 => ?_) (fun c105 => ?_)
        · have rx102_105 : ir x102 0 0 := rf_eq c105 (ir_c (0) (by decide) : ir (0 : Int32) (0) (0))
          refine lv_aload_n hx hb dX10_below_111 rfl (lv_at hl 1 rfl) ?_
          refine wt_get hx hb hts cfX10 hown hK hW (cg10 k0) rfl 3 (by decide) q296 dX10_below_112 (fun v hv => ?_)
          obtain ⟨x112, rfl, k112⟩ : gr N 5 v := hv
          refine lv_aload hx hb dX10_below_115 (lv_at hl 0 rfl) ?_
          refine lv_aload_n hx hb dX10_below_117 rfl (lv_at hl 1 rfl) ?_
          refine wt_get hx hb hts cfX10 hown hK hW (cg10 k0) rfl 9 (by decide) q302 dX10_below_118 (fun v hv => ?_)
          obtain ⟨x118, rfl, k118⟩ : gr N 0 v := hv
          refine cc_v (wt_runV (As := [.ref x97, .ref x118]) (rest := []) ⟨hx, hb, hml, hown, hts⟩ (m_X5_measureBack l N x112 k112 x97 k97 x118 k118) wm_X5_measureBack q599 ⟨rfl, rfl⟩ ⟨Nat.le_of_ble_eq_true rfl, Nat.le_of_ble_eq_true rfl⟩ (cS_preV hK hW hT hnn hS (cg5 k112) rfl rfl trivial) rfl hl.1 rfl (Nat.le_of_ble_eq_true rfl) dX10_below_121 ⟨Nat.zero_le _, Nat.zero_le _⟩) hS (by decide) (fun H locs hW hS oq hB2 => ?_)
          have nx77_1 := nx77_1.kept (oq _ nx77_1.lt (cE_not k77 (by decide)))
          have nx97_4 := nx97_4.kept (oq _ nx97_4.lt (cE_not k97 (by decide)))
          refine lv_aload_n hx hb dX10_below_124 rfl (lv_at hl 1 rfl) ?_
          refine wt_get hx hb hts cfX10 hown hK hW (cg10 k0) rfl 9 (by decide) q302 dX10_below_125 (fun v hv => ?_)
          obtain ⟨x125, rfl, k125⟩ : gr N 0 v := hv
          refine lv_aload_n hx hb dX10_below_128 rfl (lv_at hl 1 rfl) ?_
          refine wt_get hx hb hts cfX10 hown hK hW (cg10 k0) rfl 10 (by decide) q303 dX10_below_129 (fun v hv => ?_)
          obtain ⟨x129, rfl, k129⟩ : gr N 0 v := hv
          refine cc_i (wt_runV (As := [.ref x129]) (rest := []) ⟨hx, hb, hml, hown, hts⟩ (m_X0_compareWith l N x125 k125 x129 k129) wm_X0_compareWith q660 ⟨rfl, rfl⟩ ⟨Nat.le_of_ble_eq_true rfl, Nat.le_of_ble_eq_true rfl⟩ (cS_preV hK hW hT hnn hS (cg0 k125) rfl rfl trivial) rfl hl.1 rfl (Nat.le_of_ble_eq_true rfl) dX10_below_132 ⟨Nat.zero_le _, Nat.zero_le _⟩) hS (by decide) (fun x132 H locs hp hW hS oq => ?_)
          have nx77_1 := nx77_1.kept (oq _ nx77_1.lt (cE_not k77 (by decide)))
          have nx97_4 := nx97_4.kept (oq _ nx97_4.lt (cE_not k97 (by decide)))
          refine lv_if_gt (tgt := 141) hx hb dX10_below_135 (by decide) (fun c135 => ?_) (fun c135 => ?_)
          · have rx132_135 : ir x132 1 2147483647 := ⟨Int.le_trans (by decide) (rf_lt c135 (ir_c (0) (by decide) : ir (0 : Int32) (0) (0)) (ir_any x132)).2, ((ir_any x132)).2⟩
            exact w2 _ _ _ (J141 _ _ _ v74_4 hW hS (lv_sub hl [1, 2, 3] rfl) rv74_5_83)
          · have rx132_135 : ir x132 (-2147483648) 0 := ⟨((ir_any x132)).1, Int.le_trans (rf_le (rf_nlt c135) (ir_any x132) (ir_c (0) (by decide) : ir (0 : Int32) (0) (0))).1 (by decide)⟩
            obtain ⟨x138, e138⟩ : ∃ y : Int32, y = v74_4 + 1 := ⟨_, rfl⟩
            refine lv_iinc (v := x138) (lv' := [(4, .int x138), (6, .ref x97), (0, .ref h0), (5, .int v74_5)]) hx hb dX10_below_138 hl (k := 2) rfl (by rw [e138]; rfl) (by decide) rfl (fun ls hl => ?_)
            exact w2 _ _ _ (J141 _ _ _ x138 hW hS (lv_sub hl [2, 0, 3] rfl) rv74_5_83)
        · have rx102_105 : ir x102 1 1 := rf_ne0 c105 r102
          refine lv_goto (tgt := 147) hx hb dX10_below_108 (by decide) ?_
          refine lv_iload hx hb dX10_below_147 (lv_at hl 2 rfl) ?_
          exact W.iret (v := v74_4) hx hb hr (fun t ht _ => ⟨⟨v74_4, (), rfl, trivial, cW_at ht hW⟩, hS.F ht⟩) hS.2.2 dX10_below_149
  refine lv_iload_n hx hb dX10_below_0 rfl (lv_at hl 1 rfl) ?_
  refine cp_i (wt_runS (As := [.int p1]) (rest := []) ⟨hx, hb, hml, hown, hts⟩ (m_X10_isMark l p1) wm_X10_isMark q539 ⟨rfl, rfl⟩ ⟨Nat.le_of_ble_eq_true rfl, Nat.le_of_ble_eq_true rfl⟩ pS_pre rfl hl.1 rfl (Nat.le_of_ble_eq_true rfl) dX10_below_1 ⟨Nat.zero_le _, Nat.zero_le _⟩) hW hS (fun x1 H locs hp hW hS oq => ?_)
  obtain ⟨r1, b1⟩ := hp
  refine lv_if_eq (tgt := 30) hx hb dX10_below_4 (by decide) (fun c4 => ?_) (fun c4 => ?_)
  · have rx1_4 : ir x1 0 0 := rf_eq c4 (ir_c (0) (by decide) : ir (0 : Int32) (0) (0))
    refine lv_iconst (v := -1) hx hb dX10_below_30 (by decide) ?_
    exact W.iret (v := (-1 : Int32)) hx hb hr (fun t ht _ => ⟨⟨(-1 : Int32), (), rfl, trivial, cW_at ht hW⟩, hS.F ht⟩) hS.2.2 dX10_below_31
  · have rx1_4 : ir x1 1 1 := rf_ne0 c4 r1
    have bx1_4 := b1 c4
    refine lv_iload_n hx hb dX10_below_7 rfl (lv_at hl 2 rfl) ?_
    refine lv_if_lt (tgt := 30) hx hb dX10_below_8 (by decide) (fun c8 => ?_) (fun c8 => ?_)
    · have rp2_8 : ir p2 (-2147483648) (-1) := ⟨((ir_any p2)).1, Int.le_trans (rf_lt c8 (ir_any p2) (ir_c (0) (by decide) : ir (0 : Int32) (0) (0))).1 (by decide)⟩
      refine lv_iconst (v := -1) hx hb dX10_below_30 (by decide) ?_
      exact W.iret (v := (-1 : Int32)) hx hb hr (fun t ht _ => ⟨⟨(-1 : Int32), (), rfl, trivial, cW_at ht hW⟩, hS.F ht⟩) hS.2.2 dX10_below_31
    · have rp2_8 : ir p2 0 2147483647 := ⟨Int.le_trans (by decide) (rf_le (rf_nlt c8) (ir_c (0) (by decide) : ir (0 : Int32) (0) (0)) (ir_any p2)).2, ((ir_any p2)).2⟩
      refine lv_iload_n hx hb dX10_below_11 rfl (lv_at hl 2 rfl) ?_
      refine lv_sipush (v := 1000) hx hb dX10_below_12 (by decide) ?_
      refine lv_icmp_gt (tgt := 30) hx hb dX10_below_15 (by decide) (fun c15 => ?_) (fun c15 => ?_)
      · have rp2_15 : ir p2 1001 2147483647 := ⟨Int.le_trans (by decide) (rf_lt c15 (ir_c (1000) (by decide) : ir (1000 : Int32) (1000) (1000)) rp2_8).2, (rp2_8).2⟩
        refine lv_iconst (v := -1) hx hb dX10_below_30 (by decide) ?_
        exact W.iret (v := (-1 : Int32)) hx hb hr (fun t ht _ => ⟨⟨(-1 : Int32), (), rfl, trivial, cW_at ht hW⟩, hS.F ht⟩) hS.2.2 dX10_below_31
      · have rp2_15 : ir p2 0 1000 := ⟨(rp2_8).1, Int.le_trans (rf_le (rf_nlt c15) rp2_8 (ir_c (1000) (by decide) : ir (1000 : Int32) (1000) (1000))).1 (by decide)⟩
        refine lv_iload_n hx hb dX10_below_18 rfl (lv_at hl 3 rfl) ?_
        refine lv_iconst (v := 1) hx hb dX10_below_19 (by decide) ?_
        refine lv_icmp_lt (tgt := 30) hx hb dX10_below_20 (by decide) (fun c20 => ?_) (fun c20 => ?_)
        · have rp3_20 : ir p3 (-2147483648) 0 := ⟨((ir_any p3)).1, Int.le_trans (rf_lt c20 (ir_any p3) (ir_c (1) (by decide) : ir (1 : Int32) (1) (1))).1 (by decide)⟩
          refine lv_iconst (v := -1) hx hb dX10_below_30 (by decide) ?_
          exact W.iret (v := (-1 : Int32)) hx hb hr (fun t ht _ => ⟨⟨(-1 : Int32), (), rfl, trivial, cW_at ht hW⟩, hS.F ht⟩) hS.2.2 dX10_below_31
        · have rp3_20 : ir p3 1 2147483647 := ⟨Int.le_trans (by decide) (rf_le (rf_nlt c20) (ir_c (1) (by decide) : ir (1 : Int32) (1) (1)) (ir_any p3)).2, ((ir_any p3)).2⟩
          refine lv_iload_n hx hb dX10_below_23 rfl (lv_at hl 3 rfl) ?_
          refine lv_sipush (v := 1000) hx hb dX10_below_24 (by decide) ?_
          refine lv_icmp_le (tgt := 32) hx hb dX10_below_27 (by decide) (fun c27 => ?_) (fun c27 => ?_)
          · have rp3_27 : ir p3 1 1000 := ⟨(rp3_20).1, Int.le_trans (rf_le c27 rp3_20 (ir_c (1000) (by decide) : ir (1000 : Int32) (1000) (1000))).1 (by decide)⟩
            refine lv_aload_n hx hb dX10_below_32 rfl (lv_at hl 0 rfl) ?_
            refine wt_get hx hb hts cfX10 hown hK hW (cg10 k0) rfl 6 (by decide) q299 dX10_below_33 (fun v hv => ?_)
            obtain ⟨x33, rfl, k33⟩ : gr N 31 v := hv
            refine lv_iconst (v := 0) hx hb dX10_below_36 (by decide) ?_
            refine wt_aald hx hb hK hW 3 (cg31 k33) rfl (ir_in (ir_w (lo' := 0) (hi' := 3) (ir_c (0) (by decide) : ir (0 : Int32) (0) (0)) (by decide) (by decide)) (by decide) (by decide)) dX10_below_37 (fun v hv => ?_)
            obtain ⟨x37, rfl, k37⟩ : gr N 2 v := hv
            refine lv_aload_n hx hb dX10_below_38 rfl (lv_at hl 0 rfl) ?_
            refine wt_get hx hb hts cfX10 hown hK hW (cg10 k0) rfl 1 (by decide) q294 dX10_below_39 (fun v hv => ?_)
            obtain ⟨x39, rfl, k39⟩ : gr N 3 v := hv
            refine lv_aload_n hx hb dX10_below_42 rfl (lv_at hl 0 rfl) ?_
            refine wt_get hx hb hts cfX10 hown hK hW (cg10 k0) rfl 3 (by decide) q296 dX10_below_43 (fun v hv => ?_)
            obtain ⟨x43, rfl, k43⟩ : gr N 5 v := hv
            refine lv_iload_n hx hb dX10_below_46 rfl (lv_at hl 1 rfl) ?_
            refine lv_aload_n hx hb dX10_below_47 rfl (lv_at hl 0 rfl) ?_
            refine wt_get hx hb hts cfX10 hown hK hW (cg10 k0) rfl 1 (by decide) q294 dX10_below_48 (fun v hv => ?_)
            obtain ⟨x48, rfl, k48⟩ : gr N 3 v := hv
            refine wt_getp hx hb hts cfX3 hown hK hW (cg3 k48) rfl 1 (by decide) (Or.inr ⟨_, lw_n_use hnn q46⟩) dX10_below_51 (fun v hv nx48_1 => ?_)
            obtain ⟨x51, rfl, r51⟩ : gi 0 24 v := hv
            refine cc_v (wt_runV (As := [.ref x39, .ref x43, .int p1, .int x51]) (rest := []) ⟨hx, hb, hml, hown, hts⟩ (m_X2_climb l N x37 k37 x39 k39 x43 k43 p1 bx1_4 x51) wm_X2_climb q547 ⟨rfl, rfl⟩ ⟨Nat.le_of_ble_eq_true rfl, Nat.le_of_ble_eq_true rfl⟩ (cS_preV hK hW hT hnn hS (cg2 k37) rfl rfl trivial) rfl hl.1 rfl (Nat.le_of_ble_eq_true rfl) dX10_below_54 ⟨Nat.zero_le _, Nat.zero_le _⟩) hS (by decide) (fun H locs hW hS oq hB2 => ?_)
            have nx48_1 := nx48_1.kept (oq _ nx48_1.lt (cE_not k48 (by decide)))
            refine lv_aload_n hx hb dX10_below_57 rfl (lv_at hl 0 rfl) ?_
            refine wt_get hx hb hts cfX10 hown hK hW (cg10 k0) rfl 10 (by decide) q303 dX10_below_58 (fun v hv => ?_)
            obtain ⟨x58, rfl, k58⟩ : gr N 0 v := hv
            refine lv_iload_n hx hb dX10_below_61 rfl (lv_at hl 2 rfl) ?_
            refine lv_i2l hx hb dX10_below_62 rfl ?_
            refine lv_topl (fun x62 e62 => ?_)
            have r62 : lr x62 0 1000 := by rw [e62]; exact i2l_r rp2_15
            refine lv_iload_n hx hb dX10_below_63 rfl (lv_at hl 3 rfl) ?_
            refine lv_i2l hx hb dX10_below_64 rfl ?_
            refine lv_topl (fun x64 e64 => ?_)
            have r64 : lr x64 1 1000 := by rw [e64]; exact i2l_r rp3_27
            refine cc_v (wt_runV (As := [.long x62, .long x64]) (rest := []) ⟨hx, hb, hml, hown, hts⟩ (m_X0_set l N x58 k58 x62 x64) wm_X0_set q675 ⟨rfl, rfl⟩ ⟨Nat.le_of_ble_eq_true rfl, Nat.le_of_ble_eq_true rfl⟩ (cS_preV hK hW hT hnn hS (cg0 k58) rfl rfl trivial) rfl hl.1 rfl (Nat.le_of_ble_eq_true rfl) dX10_below_65 ⟨Nat.zero_le _, Nat.zero_le _⟩) hS (by decide) (fun H locs hW hS oq hB2 => ?_)
            have nx48_1 := nx48_1.kept (oq _ nx48_1.lt (cE_not k48 (by decide)))
            refine lv_iconst (v := 0) hx hb dX10_below_68 (by decide) ?_
            refine lv_istore (lv' := [(4, .int (0 : Int32)), (0, .ref h0), (1, .int p1), (2, .int p2), (3, .int p3)]) hx hb dX10_below_69 hl (by decide) rfl (fun ls hl => ?_)
            refine lv_iconst (v := 0) hx hb dX10_below_71 (by decide) ?_
            refine lv_istore (lv' := [(5, .int (0 : Int32)), (4, .int (0 : Int32)), (0, .ref h0), (1, .int p1), (2, .int p2), (3, .int p3)]) hx hb dX10_below_72 hl (by decide) rfl (fun ls hl => ?_)
            exact w2 _ _ _ (L74 26 _ _ _ (0 : Int32) (0 : Int32) hW hS (lv_sub hl [2, 1, 0] rfl) (ir_w (lo' := 0) (hi' := 25) (ir_c (0) (by decide) : ir (0 : Int32) (0) (0)) (by decide) (by decide)) (by have h9 := (ir_c (0) (by decide) : ir (0 : Int32) (0) (0)); omega))
          · have rp3_27 : ir p3 1001 2147483647 := ⟨Int.le_trans (by decide) (rf_lt (rf_nle c27) (ir_c (1000) (by decide) : ir (1000 : Int32) (1000) (1000)) rp3_20).2, (rp3_20).2⟩
            refine lv_iconst (v := -1) hx hb dX10_below_30 (by decide) ?_
            exact W.iret (v := (-1 : Int32)) hx hb hr (fun t ht _ => ⟨⟨(-1 : Int32), (), rfl, trivial, cW_at ht hW⟩, hS.F ht⟩) hS.2.2 dX10_below_31
set_option maxHeartbeats 4000000 in
set_option maxRecDepth 100000 in
theorem m_X10_corner (l : Launch) (N : c_N) (h0 : Nat) (k0 : N.2.2.1 h0 = some 10) (p1 : Int32) (p2 : Int32) (p3 : Int32) (p4 : Int32) : cMl l yX10_corner cX10_corner 6 .long { frames := 5, cells := 0, slots := 0, locals := 134 } [.ref h0, .int p1, .int p2, .int p3, .int p4] N [0, 2, 4, 8] cT0 (fun _ => True) := by
  refine Met.ofW (cc := cX10_corner) (maxL := 6) (ret := some .long) (by decide) rfl ?_
  intro p e s m args below meth c s₁ B hml hv
  obtain ⟨rfl, ⟨hK, hW, hT, hnn⟩, hB⟩ := hv
  have hx := B.exec
  have hb := B.bytes
  have hr := B.returns
  have hts : ∀ w ∈ lw_g, w.before _ s = true := fun w h => atoms_spec (ws := wc_ws yX10_corner cX10_corner 6 (some .long)) B.pre w (List.mem_cons_of_mem _ h)
  have hown : s.vm.findClass RX10 = some m.cls := findClass_of_methodNamed B.named
  have hlocks := B.notSynchronized
  have hS : va_S (cE N [0, 2, 4, 8]) s.heap s.heap [] := va_S.rf
  have hl := lv_entry ([.ref h0, .int p1, .int p2, .int p3, .int p4]) (n := 6) (Nat.le_of_ble_eq_true rfl)
  rw [lg_entry_eq]
  generalize (lg_sl ([.ref h0, .int p1, .int p2, .int p3, .int p4]) ++ List.replicate (6 - (lg_sl ([.ref h0, .int p1, .int p2, .int p3, .int p4])).length) Slot.unset).toArray = ls at hl ⊢
  have hl : lv_has ls 6 [(0, .ref h0), (1, .int p1), (2, .int p2), (3, .int p3), (4, .int p4)] := hl
  refine wq_all ?_
  intro WW w1 w2
  refine lv_iload_n hx hb dX10_corner_0 rfl (lv_at hl 1 rfl) ?_
  refine cp_i (wt_runS (As := [.int p1]) (rest := []) ⟨hx, hb, hml, hown, hts⟩ (m_X10_isMark l p1) wm_X10_isMark q539 ⟨rfl, rfl⟩ ⟨Nat.le_of_ble_eq_true rfl, Nat.le_of_ble_eq_true rfl⟩ pS_pre rfl hl.1 rfl (Nat.le_of_ble_eq_true rfl) dX10_corner_1 ⟨Nat.zero_le _, Nat.zero_le _⟩) hW hS (fun x1 H locs hp hW hS oq => ?_)
  obtain ⟨r1, b1⟩ := hp
  refine lv_if_eq (tgt := 37) hx hb dX10_corner_4 (by decide) (fun c4 => ?_) (fun c4 => ?_)
  · have rx1_4 : ir x1 0 0 := rf_eq c4 (ir_c (0) (by decide) : ir (0 : Int32) (0) (0))
    refine lv_ldc2 hx hb hown (hts _ q597) dX10_corner_37 ?_
    exact W.lret (v := (-2 : Int64)) hx hb hr (fun t ht _ => ⟨⟨(-2 : Int64), (), rfl, trivial, cW_at ht hW⟩, hS.F ht⟩) hS.2.2 dX10_corner_40
  · have rx1_4 : ir x1 1 1 := rf_ne0 c4 r1
    have bx1_4 := b1 c4
    refine lv_iload_n hx hb dX10_corner_7 rfl (lv_at hl 2 rfl) ?_
    refine cp_i (wt_runS (As := [.int p2]) (rest := []) ⟨hx, hb, hml, hown, hts⟩ (m_X10_isSlip l p2) wm_X10_isSlip q680 ⟨rfl, rfl⟩ ⟨Nat.le_of_ble_eq_true rfl, Nat.le_of_ble_eq_true rfl⟩ pS_pre rfl hl.1 rfl (Nat.le_of_ble_eq_true rfl) dX10_corner_8 ⟨Nat.zero_le _, Nat.zero_le _⟩) hW hS (fun x8 H locs hp hW hS oq => ?_)
    obtain ⟨r8, b8⟩ := hp
    refine lv_if_eq (tgt := 37) hx hb dX10_corner_11 (by decide) (fun c11 => ?_) (fun c11 => ?_)
    · have rx8_11 : ir x8 0 0 := rf_eq c11 (ir_c (0) (by decide) : ir (0 : Int32) (0) (0))
      refine lv_ldc2 hx hb hown (hts _ q597) dX10_corner_37 ?_
      exact W.lret (v := (-2 : Int64)) hx hb hr (fun t ht _ => ⟨⟨(-2 : Int64), (), rfl, trivial, cW_at ht hW⟩, hS.F ht⟩) hS.2.2 dX10_corner_40
    · have rx8_11 : ir x8 1 1 := rf_ne0 c11 r8
      have bx8_11 := b8 c11
      refine lv_aload_n hx hb dX10_corner_14 rfl (lv_at hl 0 rfl) ?_
      refine wt_get hx hb hts cfX10 hown hK hW (cg10 k0) rfl 1 (by decide) q294 dX10_corner_15 (fun v hv => ?_)
      obtain ⟨x15, rfl, k15⟩ : gr N 3 v := hv
      refine wt_getp hx hb hts cfX3 hown hK hW (cg3 k15) rfl 1 (by decide) (Or.inr ⟨_, lw_n_use hnn q46⟩) dX10_corner_18 (fun v hv nx15_1 => ?_)
      obtain ⟨x18, rfl, r18⟩ : gi 0 24 v := hv
      refine lv_bipush (v := 8) hx hb dX10_corner_21 (by decide) ?_
      refine lv_icmp_gt (tgt := 37) hx hb dX10_corner_23 (by decide) (fun c23 => ?_) (fun c23 => ?_)
      · have rx18_23 : ir x18 9 24 := ⟨Int.le_trans (by decide) (rf_lt c23 (ir_c (8) (by decide) : ir (8 : Int32) (8) (8)) r18).2, (r18).2⟩
        refine lv_ldc2 hx hb hown (hts _ q597) dX10_corner_37 ?_
        exact W.lret (v := (-2 : Int64)) hx hb hr (fun t ht _ => ⟨⟨(-2 : Int64), (), rfl, trivial, cW_at ht hW⟩, hS.F ht⟩) hS.2.2 dX10_corner_40
      · have rx18_23 : ir x18 0 8 := ⟨(r18).1, Int.le_trans (rf_le (rf_nlt c23) r18 (ir_c (8) (by decide) : ir (8 : Int32) (8) (8))).1 (by decide)⟩
        refine lv_iload hx hb dX10_corner_26 (lv_at hl 4 rfl) ?_
        refine lv_if_lt (tgt := 37) hx hb dX10_corner_28 (by decide) (fun c28 => ?_) (fun c28 => ?_)
        · have rp4_28 : ir p4 (-2147483648) (-1) := ⟨((ir_any p4)).1, Int.le_trans (rf_lt c28 (ir_any p4) (ir_c (0) (by decide) : ir (0 : Int32) (0) (0))).1 (by decide)⟩
          refine lv_ldc2 hx hb hown (hts _ q597) dX10_corner_37 ?_
          exact W.lret (v := (-2 : Int64)) hx hb hr (fun t ht _ => ⟨⟨(-2 : Int64), (), rfl, trivial, cW_at ht hW⟩, hS.F ht⟩) hS.2.2 dX10_corner_40
        · have rp4_28 : ir p4 0 2147483647 := ⟨Int.le_trans (by decide) (rf_le (rf_nlt c28) (ir_c (0) (by decide) : ir (0 : Int32) (0) (0)) (ir_any p4)).2, ((ir_any p4)).2⟩
          refine lv_iload hx hb dX10_corner_31 (lv_at hl 4 rfl) ?_
          refine lv_iconst (v := 1) hx hb dX10_corner_33 (by decide) ?_
          refine lv_icmp_le (tgt := 41) hx hb dX10_corner_34 (by decide) (fun c34 => ?_) (fun c34 => ?_)
          · have rp4_34 : ir p4 0 1 := ⟨(rp4_28).1, Int.le_trans (rf_le c34 rp4_28 (ir_c (1) (by decide) : ir (1 : Int32) (1) (1))).1 (by decide)⟩
            refine lv_iload_n hx hb dX10_corner_41 rfl (lv_at hl 3 rfl) ?_
            refine lv_if_lt (tgt := 58) hx hb dX10_corner_42 (by decide) (fun c42 => ?_) (fun c42 => ?_)
            · have rp3_42 : ir p3 (-2147483648) (-1) := ⟨((ir_any p3)).1, Int.le_trans (rf_lt c42 (ir_any p3) (ir_c (0) (by decide) : ir (0 : Int32) (0) (0))).1 (by decide)⟩
              refine lv_ldc2 hx hb hown (hts _ q597) dX10_corner_58 ?_
              exact W.lret (v := (-2 : Int64)) hx hb hr (fun t ht _ => ⟨⟨(-2 : Int64), (), rfl, trivial, cW_at ht hW⟩, hS.F ht⟩) hS.2.2 dX10_corner_61
            · have rp3_42 : ir p3 0 2147483647 := ⟨Int.le_trans (by decide) (rf_le (rf_nlt c42) (ir_c (0) (by decide) : ir (0 : Int32) (0) (0)) (ir_any p3)).2, ((ir_any p3)).2⟩
              refine lv_iload_n hx hb dX10_corner_45 rfl (lv_at hl 3 rfl) ?_
              refine lv_iconst (v := 1) hx hb dX10_corner_46 (by decide) ?_
              refine lv_aload_n hx hb dX10_corner_47 rfl (lv_at hl 0 rfl) ?_
              refine wt_get hx hb hts cfX10 hown hK hW (cg10 k0) rfl 1 (by decide) q294 dX10_corner_48 (fun v hv => ?_)
              obtain ⟨x48, rfl, k48⟩ : gr N 3 v := hv
              refine wt_getp hx hb hts cfX3 hown hK hW (cg3 k48) rfl 1 (by decide) (Or.inr ⟨_, lw_n_use hnn q46⟩) dX10_corner_51 (fun v hv nx48_1 => ?_)
              obtain ⟨x51, rfl, r51⟩ : gi 0 24 v := hv
              refine lv_ishl hx hb dX10_corner_54 ?_
              refine lv_topi (fun x54 e54 => ?_)
              refine lv_icmp_lt (tgt := 62) hx hb dX10_corner_55 (by decide) (fun c55 => ?_) (fun c55 => ?_)
              · have rp3_55 : ir p3 0 2147483646 := ⟨(rp3_42).1, Int.le_trans (rf_lt c55 rp3_42 (ir_any x54)).1 (by decide)⟩
                have rx54_55 : ir x54 1 2147483647 := ⟨Int.le_trans (by decide) (rf_lt c55 rp3_42 (ir_any x54)).2, ((ir_any x54)).2⟩
                refine lv_aload_n hx hb dX10_corner_62 rfl (lv_at hl 0 rfl) ?_
                refine wt_get hx hb hts cfX10 hown hK hW (cg10 k0) rfl 6 (by decide) q299 dX10_corner_63 (fun v hv => ?_)
                obtain ⟨x63, rfl, k63⟩ : gr N 31 v := hv
                refine lv_iconst (v := 0) hx hb dX10_corner_66 (by decide) ?_
                refine wt_aald hx hb hK hW 3 (cg31 k63) rfl (ir_in (ir_w (lo' := 0) (hi' := 3) (ir_c (0) (by decide) : ir (0 : Int32) (0) (0)) (by decide) (by decide)) (by decide) (by decide)) dX10_corner_67 (fun v hv => ?_)
                obtain ⟨x67, rfl, k67⟩ : gr N 2 v := hv
                refine lv_aload_n hx hb dX10_corner_68 rfl (lv_at hl 0 rfl) ?_
                refine wt_get hx hb hts cfX10 hown hK hW (cg10 k0) rfl 1 (by decide) q294 dX10_corner_69 (fun v hv => ?_)
                obtain ⟨x69, rfl, k69⟩ : gr N 3 v := hv
                refine lv_aload_n hx hb dX10_corner_72 rfl (lv_at hl 0 rfl) ?_
                refine wt_get hx hb hts cfX10 hown hK hW (cg10 k0) rfl 3 (by decide) q296 dX10_corner_73 (fun v hv => ?_)
                obtain ⟨x73, rfl, k73⟩ : gr N 5 v := hv
                refine lv_iload_n hx hb dX10_corner_76 rfl (lv_at hl 1 rfl) ?_
                refine lv_iload_n hx hb dX10_corner_77 rfl (lv_at hl 2 rfl) ?_
                refine lv_iload_n hx hb dX10_corner_78 rfl (lv_at hl 3 rfl) ?_
                refine cc_v (wt_runV (As := [.ref x69, .ref x73, .int p1, .int p2, .int p3]) (rest := []) ⟨hx, hb, hml, hown, hts⟩ (m_X2_climbSlipped l N x67 k67 x69 k69 x73 k73 p1 bx1_4 p2 bx8_11 p3) wm_X2_climbSlipped q687 ⟨rfl, rfl⟩ ⟨Nat.le_of_ble_eq_true rfl, Nat.le_of_ble_eq_true rfl⟩ (cS_preV hK hW hT hnn hS (cg2 k67) rfl rfl trivial) rfl hl.1 rfl (Nat.le_of_ble_eq_true rfl) dX10_corner_79 ⟨Nat.zero_le _, Nat.zero_le _⟩) hS (by decide) (fun H locs hW hS oq hB2 => ?_)
                have nx15_1 := nx15_1.kept (oq _ nx15_1.lt (cE_not k15 (by decide)))
                have nx48_1 := nx48_1.kept (oq _ nx48_1.lt (cE_not k48 (by decide)))
                refine lv_aload_n hx hb dX10_corner_82 rfl (lv_at hl 0 rfl) ?_
                refine wt_get hx hb hts cfX10 hown hK hW (cg10 k0) rfl 6 (by decide) q299 dX10_corner_83 (fun v hv => ?_)
                obtain ⟨x83, rfl, k83⟩ : gr N 31 v := hv
                refine lv_iconst (v := 0) hx hb dX10_corner_86 (by decide) ?_
                refine wt_aald hx hb hK hW 3 (cg31 k83) rfl (ir_in (ir_w (lo' := 0) (hi' := 3) (ir_c (0) (by decide) : ir (0 : Int32) (0) (0)) (by decide) (by decide)) (by decide) (by decide)) dX10_corner_87 (fun v hv => ?_)
                obtain ⟨x87, rfl, k87⟩ : gr N 2 v := hv
                refine cc_r (wt_runV (As := []) (rest := []) ⟨hx, hb, hml, hown, hts⟩ (m_X2_whole l N x87 k87) wm_X2_whole q585 ⟨rfl, rfl⟩ ⟨Nat.le_of_ble_eq_true rfl, Nat.le_of_ble_eq_true rfl⟩ (cS_preV hK hW hT hnn hS (cg2 k87) rfl rfl trivial) rfl hl.1 rfl (Nat.le_of_ble_eq_true rfl) dX10_corner_88 ⟨Nat.zero_le _, Nat.zero_le _⟩) hS (by decide) (fun x88 H locs k88 hW hS oq => ?_)
                have nx15_1 := nx15_1.kept (oq _ nx15_1.lt (cE_not k15 (by decide)))
                have nx48_1 := nx48_1.kept (oq _ nx48_1.lt (cE_not k48 (by decide)))
                refine lv_astore (lv' := [(5, .ref x88), (0, .ref h0), (1, .int p1), (2, .int p2), (3, .int p3), (4, .int p4)]) hx hb dX10_corner_91 hl (by decide) rfl (fun ls hl => ?_)
                refine lv_aload hx hb dX10_corner_93 (lv_at hl 0 rfl) ?_
                refine wt_getp hx hb hts cfX4 hown hK hW (cg4 k88) rfl 4 (by decide) (Or.inr ⟨_, lw_n_use hnn q197⟩) dX10_corner_95 (fun v hv nx88_4 => ?_)
                obtain ⟨x95, rfl, r95⟩ : gi 0 1 v := hv
                refine lv_if_eq (tgt := 105) hx hb dX10_corner_98 (by decide) (fun c98 => ?_) (fun c98 => ?_)
                · have rx95_98 : ir x95 0 0 := rf_eq c98 (ir_c (0) (by decide) : ir (0 : Int32) (0) (0))
                  refine lv_aload_n hx hb dX10_corner_105 rfl (lv_at hl 1 rfl) ?_
                  refine wt_get hx hb hts cfX10 hown hK hW (cg10 k0) rfl 3 (by decide) q296 dX10_corner_106 (fun v hv => ?_)
                  obtain ⟨x106, rfl, k106⟩ : gr N 5 v := hv
                  refine lv_aload hx hb dX10_corner_109 (lv_at hl 0 rfl) ?_
                  refine lv_aload_n hx hb dX10_corner_111 rfl (lv_at hl 1 rfl) ?_
                  refine wt_get hx hb hts cfX10 hown hK hW (cg10 k0) rfl 9 (by decide) q302 dX10_corner_112 (fun v hv => ?_)
                  obtain ⟨x112, rfl, k112⟩ : gr N 0 v := hv
                  refine cc_v (wt_runV (As := [.ref x88, .ref x112]) (rest := []) ⟨hx, hb, hml, hown, hts⟩ (m_X5_measureBack l N x106 k106 x88 k88 x112 k112) wm_X5_measureBack q599 ⟨rfl, rfl⟩ ⟨Nat.le_of_ble_eq_true rfl, Nat.le_of_ble_eq_true rfl⟩ (cS_preV hK hW hT hnn hS (cg5 k106) rfl rfl trivial) rfl hl.1 rfl (Nat.le_of_ble_eq_true rfl) dX10_corner_115 ⟨Nat.zero_le _, Nat.zero_le _⟩) hS (by decide) (fun H locs hW hS oq hB2 => ?_)
                  have nx15_1 := nx15_1.kept (oq _ nx15_1.lt (cE_not k15 (by decide)))
                  have nx48_1 := nx48_1.kept (oq _ nx48_1.lt (cE_not k48 (by decide)))
                  have nx88_4 := nx88_4.kept (oq _ nx88_4.lt (cE_not k88 (by decide)))
                  refine lv_aload_n hx hb dX10_corner_118 rfl (lv_at hl 1 rfl) ?_
                  refine wt_get hx hb hts cfX10 hown hK hW (cg10 k0) rfl 9 (by decide) q302 dX10_corner_119 (fun v hv => ?_)
                  obtain ⟨x119, rfl, k119⟩ : gr N 0 v := hv
                  refine cc_v (wt_runV (As := []) (rest := []) ⟨hx, hb, hml, hown, hts⟩ (m_X0_lower l N x119 k119) wm_X0_lower q616 ⟨rfl, rfl⟩ ⟨Nat.le_of_ble_eq_true rfl, Nat.le_of_ble_eq_true rfl⟩ (cS_preV hK hW hT hnn hS (cg0 k119) rfl rfl trivial) rfl hl.1 rfl (Nat.le_of_ble_eq_true rfl) dX10_corner_122 ⟨Nat.zero_le _, Nat.zero_le _⟩) hS (by decide) (fun H locs hW hS oq hB2 => ?_)
                  have nx15_1 := nx15_1.kept (oq _ nx15_1.lt (cE_not k15 (by decide)))
                  have nx48_1 := nx48_1.kept (oq _ nx48_1.lt (cE_not k48 (by decide)))
                  have nx88_4 := nx88_4.kept (oq _ nx88_4.lt (cE_not k88 (by decide)))
                  refine lv_iload hx hb dX10_corner_125 (lv_at hl 5 rfl) ?_
                  refine lv_if_ne (tgt := 140) hx hb dX10_corner_127 (by decide) (fun c127 => ?_) (fun c127 => ?_)
                  · have rp4_127 : ir p4 1 1 := rf_ne0 c127 rp4_34
                    refine lv_aload_n hx hb dX10_corner_140 rfl (lv_at hl 1 rfl) ?_
                    refine wt_get hx hb hts cfX10 hown hK hW (cg10 k0) rfl 9 (by decide) q302 dX10_corner_141 (fun v hv => ?_)
                    obtain ⟨x141, rfl, k141⟩ : gr N 0 v := hv
                    refine wt_getp hx hb hts cfX0 hown hK hW (cg0 k141) rfl 1 (by decide) (Or.inr ⟨_, lw_n_use hnn q261⟩) dX10_corner_144 (fun v hv nx141_1 => ?_)
                    obtain ⟨x144, rfl⟩ : gl v := hv
                    exact W.lret (v := x144) hx hb hr (fun t ht _ => ⟨⟨x144, (), rfl, trivial, cW_at ht hW⟩, hS.F ht⟩) hS.2.2 dX10_corner_147
                  · have rp4_127 : ir p4 0 0 := rf_eq c127 (ir_c (0) (by decide) : ir (0 : Int32) (0) (0))
                    refine lv_aload_n hx hb dX10_corner_130 rfl (lv_at hl 1 rfl) ?_
                    refine wt_get hx hb hts cfX10 hown hK hW (cg10 k0) rfl 9 (by decide) q302 dX10_corner_131 (fun v hv => ?_)
                    obtain ⟨x131, rfl, k131⟩ : gr N 0 v := hv
                    refine wt_getp hx hb hts cfX0 hown hK hW (cg0 k131) rfl 0 (by decide) (Or.inr ⟨_, lw_n_use hnn q259⟩) dX10_corner_134 (fun v hv nx131_0 => ?_)
                    obtain ⟨x134, rfl⟩ : gl v := hv
                    refine lv_goto (tgt := 147) hx hb dX10_corner_137 (by decide) ?_
                    exact W.lret (v := x134) hx hb hr (fun t ht _ => ⟨⟨x134, (), rfl, trivial, cW_at ht hW⟩, hS.F ht⟩) hS.2.2 dX10_corner_147
                · have rx95_98 : ir x95 1 1 := rf_ne0 c98 r95
                  refine lv_ldc2 hx hb hown (hts _ q598) dX10_corner_101 ?_
                  exact W.lret (v := (-1 : Int64)) hx hb hr (fun t ht _ => ⟨⟨(-1 : Int64), (), rfl, trivial, cW_at ht hW⟩, hS.F ht⟩) hS.2.2 dX10_corner_104
              · refine lv_ldc2 hx hb hown (hts _ q597) dX10_corner_58 ?_
                exact W.lret (v := (-2 : Int64)) hx hb hr (fun t ht _ => ⟨⟨(-2 : Int64), (), rfl, trivial, cW_at ht hW⟩, hS.F ht⟩) hS.2.2 dX10_corner_61
          · have rp4_34 : ir p4 2 2147483647 := ⟨Int.le_trans (by decide) (rf_lt (rf_nle c34) (ir_c (1) (by decide) : ir (1 : Int32) (1) (1)) rp4_28).2, (rp4_28).2⟩
            refine lv_ldc2 hx hb hown (hts _ q597) dX10_corner_37 ?_
            exact W.lret (v := (-2 : Int64)) hx hb hr (fun t ht _ => ⟨⟨(-2 : Int64), (), rfl, trivial, cW_at ht hW⟩, hS.F ht⟩) hS.2.2 dX10_corner_40
set_option maxHeartbeats 4000000 in
set_option maxRecDepth 100000 in
theorem m_X10_tender (l : Launch) (N : c_N) (h0 : Nat) (k0 : N.2.2.1 h0 = some 10) (p1 : Int32) (p2 : Int32) : cMi l yX10_tender cX10_tender 8 .int { frames := 5, cells := 0, slots := 0, locals := 133 } [.ref h0, .int p1, .int p2] N [0, 2, 4, 8] cT0 (fun _ => True) := by
  refine Met.ofW (cc := cX10_tender) (maxL := 8) (ret := some .int) (by decide) rfl ?_
  intro p e s m args below meth c s₁ B hml hv
  obtain ⟨rfl, ⟨hK, hW, hT, hnn⟩, hB⟩ := hv
  have hx := B.exec
  have hb := B.bytes
  have hr := B.returns
  have hts : ∀ w ∈ lw_g, w.before _ s = true := fun w h => atoms_spec (ws := wc_ws yX10_tender cX10_tender 8 (some .int)) B.pre w (List.mem_cons_of_mem _ h)
  have hown : s.vm.findClass RX10 = some m.cls := findClass_of_methodNamed B.named
  have hlocks := B.notSynchronized
  have hS : va_S (cE N [0, 2, 4, 8]) s.heap s.heap [] := va_S.rf
  have hl := lv_entry ([.ref h0, .int p1, .int p2]) (n := 8) (Nat.le_of_ble_eq_true rfl)
  rw [lg_entry_eq]
  generalize (lg_sl ([.ref h0, .int p1, .int p2]) ++ List.replicate (8 - (lg_sl ([.ref h0, .int p1, .int p2])).length) Slot.unset).toArray = ls at hl ⊢
  have hl : lv_has ls 8 [(0, .ref h0), (1, .int p1), (2, .int p2)] := hl
  refine wq_all ?_
  intro WW w1 w2
  have L77 : ∀ (n : Nat) (H : Heap) (locs : List Loc) (ls : Array Slot) (v77_3 : Nat) (v77_4 : Int32) (v77_5 : Int32), cW N H → va_S (cE N [0, 2, 4, 8]) s.heap H locs → lv_has ls 8 [(0, .ref h0), (1, .int p1), (2, .int p2), (3, .ref v77_3), (4, .int v77_4), (5, .int v77_5)] → ir p1 1 4 → ir p2 2 12 → N.2.2.1 v77_3 = some 2 → ir v77_4 (-1) 23 → ir v77_5 0 24 → 24 - v77_5.toInt < (n : Int) → WW H locs (F0 m 77 ls []) := by
    intro n
    induction n with
    | zero =>
      intro H locs ls v77_3 v77_4 v77_5 hW hS hl rv77_1 rv77_2 kv77_3 rv77_4 rv77_5 mu77
      exfalso
      omega
    | succ n ih77 =>
      intro H locs ls v77_3 v77_4 v77_5 hW hS hl rv77_1 rv77_2 kv77_3 rv77_4 rv77_5 mu77
      have L92 : ∀ (n : Nat) (H : Heap) (locs : List Loc) (ls : Array Slot) (v92_4 : Int32) (v92_6 : Int32), cW N H → va_S (cE N [0, 2, 4, 8]) s.heap H locs → lv_has ls 8 [(0, .ref h0), (1, .int p1), (2, .int p2), (3, .ref v77_3), (4, .int v92_4), (5, .int v77_5), (6, .int v92_6)] → ir p1 1 4 → ir p2 2 12 → ir v92_4 (-1) 23 → ir v77_5 0 23 → ir v92_6 0 2 → 2 - v92_6.toInt < (n : Int) → WW H locs (F0 m 92 ls []) := by
        intro n
        induction n with
        | zero =>
          intro H locs ls v92_4 v92_6 hW hS hl rv92_1 rv92_2 rv92_4 rv92_5 rv92_6 mu92
          exfalso
          omega
        | succ n ih92 =>
          intro H locs ls v92_4 v92_6 hW hS hl rv92_1 rv92_2 rv92_4 rv92_5 rv92_6 mu92
          have J238 : ∀ (H : Heap) (locs : List Loc) (ls : Array Slot) (v238_4 : Int32), cW N H → va_S (cE N [0, 2, 4, 8]) s.heap H locs → lv_has ls 8 [(0, .ref h0), (1, .int p1), (2, .int p2), (3, .ref v77_3), (4, .int v238_4), (5, .int v77_5), (6, .int v92_6)] → ir p1 1 4 → ir p2 2 12 → ir v238_4 (-1) 23 → ir v77_5 0 23 → ir v92_6 0 1 → WW H locs (F0 m 238 ls []) := by
            intro H locs ls v238_4 hW hS hl rv238_1 rv238_2 rv238_4 rv238_5 rv238_6
            refine w1 _ _ _ ?_
            obtain ⟨x238, e238⟩ : ∃ y : Int32, y = v92_6 + 1 := ⟨_, rfl⟩
            have r238 : ir x238 1 2 := ir_w (ir_add e238 rv238_6 (ir_c (1) (by decide) : ir (1 : Int32) (1) (1)) (by decide) (by decide)) (by decide) (by decide)
            have t238 : x238.toInt = v92_6.toInt + (1) := it_add e238 rv238_6 (ir_c (1) (by decide) : ir (1 : Int32) (1) (1)) (by decide) (by decide)
            refine lv_iinc (v := x238) (lv' := [(6, .int x238), (0, .ref h0), (1, .int p1), (2, .int p2), (3, .ref v77_3), (4, .int v238_4), (5, .int v77_5)]) hx hb dX10_tender_238 hl (k := 6) rfl (by rw [e238]; rfl) (by decide) rfl (fun ls hl => ?_)
            refine lv_goto (tgt := 92) hx hb dX10_tender_241 (by decide) ?_
            exact w2 _ _ _ (ih92 _ _ _ v238_4 x238 hW hS (lv_sub hl [1, 2, 3, 4, 5, 6, 0] rfl) rv238_1 rv238_2 rv238_4 rv238_5 (ir_w (lo' := 0) (hi' := 2) r238 (by decide) (by decide)) (by have h9 := r238; omega))
          have J131 : ∀ (H : Heap) (locs : List Loc) (ls : Array Slot) (w131_0 : Int32) (w131_2 : Nat), cW N H → va_S (cE N [0, 2, 4, 8]) s.heap H locs → lv_has ls 8 [(0, .ref h0), (1, .int p1), (2, .int p2), (3, .ref v77_3), (4, .int v92_4), (5, .int v77_5), (6, .int v92_6)] → ir p1 1 4 → ir p2 2 12 → ir v92_4 (-1) 23 → ir v77_5 0 23 → ir v92_6 0 1 → ir w131_0 0 1 → ir p2 2 12 → N.2.2.1 w131_2 = some 8 → WW H locs (F0 m 131 ls [.int w131_0, .int p2, .ref w131_2]) := by
            intro H locs ls w131_0 w131_2 hW hS hl rv131_1 rv131_2 rv131_4 rv131_5 rv131_6 rw131_0 rw131_1 kw131_2
            refine w1 _ _ _ ?_
            refine cc_v (wt_runV (As := [.int p2, .int w131_0]) (rest := []) ⟨hx, hb, hml, hown, hts⟩ (m_X8_slip l N w131_2 kw131_2 p2 w131_0 rw131_0) wm_X8_slip q725 ⟨rfl, rfl⟩ ⟨Nat.le_of_ble_eq_true rfl, Nat.le_of_ble_eq_true rfl⟩ (cS_preV hK hW hT hnn hS (cg8 kw131_2) rfl rfl trivial) rfl hl.1 rfl (Nat.le_of_ble_eq_true rfl) dX10_tender_131 ⟨Nat.zero_le _, Nat.zero_le _⟩) hS (by decide) (fun H locs hW hS oq hB2 => ?_)
            refine lv_aload_n hx hb dX10_tender_134 rfl (lv_at hl 0 rfl) ?_
            refine wt_get hx hb hts cfX10 hown hK hW (cg10 k0) rfl 8 (by decide) q301 dX10_tender_135 (fun v hv => ?_)
            obtain ⟨x135, rfl, k135⟩ : gr N 8 v := hv
            refine lv_iload_n hx hb dX10_tender_138 rfl (lv_at hl 1 rfl) ?_
            refine cc_v (wt_runV (As := [.int p1]) (rest := []) ⟨hx, hb, hml, hown, hts⟩ (m_X8_raise l N x135 k135 p1 rv131_1) wm_X8_raise q479 ⟨rfl, rfl⟩ ⟨Nat.le_of_ble_eq_true rfl, Nat.le_of_ble_eq_true rfl⟩ (cS_preV hK hW hT hnn hS (cg8 k135) rfl rfl trivial) rfl hl.1 rfl (Nat.le_of_ble_eq_true rfl) dX10_tender_139 ⟨Nat.zero_le _, Nat.zero_le _⟩) hS (by decide) (fun H locs hW hS oq hB2 => ?_)
            refine lv_aload_n hx hb dX10_tender_142 rfl (lv_at hl 0 rfl) ?_
            refine wt_get hx hb hts cfX10 hown hK hW (cg10 k0) rfl 7 (by decide) q300 dX10_tender_143 (fun v hv => ?_)
            obtain ⟨x143, rfl, k143⟩ : gr N 4 v := hv
            refine lv_aload_n hx hb dX10_tender_146 rfl (lv_at hl 0 rfl) ?_
            refine wt_get hx hb hts cfX10 hown hK hW (cg10 k0) rfl 3 (by decide) q296 dX10_tender_147 (fun v hv => ?_)
            obtain ⟨x147, rfl, k147⟩ : gr N 5 v := hv
            refine lv_aload_n hx hb dX10_tender_150 rfl (lv_at hl 0 rfl) ?_
            refine wt_get hx hb hts cfX10 hown hK hW (cg10 k0) rfl 1 (by decide) q294 dX10_tender_151 (fun v hv => ?_)
            obtain ⟨x151, rfl, k151⟩ : gr N 3 v := hv
            refine wt_getN hx hb hts cfX3 hown hK hW (cg3 k151) rfl 0 (by decide) hnn q41 dX10_tender_154 (fun v hv => ?_)
            obtain ⟨x154, rfl, k154⟩ : gr N 20 v := hv
            refine lv_iload hx hb dX10_tender_157 (lv_at hl 5 rfl) ?_
            refine wt_iald hx hb hK hW 0 (cg20 k154) rfl (ir_in rv131_5 (by decide) (by decide)) dX10_tender_159 (fun v hv => ?_)
            obtain ⟨x159, rfl, r159⟩ : gi 0 383 v := hv
            refine cp_i (wt_runS (As := [.int x159]) (rest := [.ref x147, .ref x143]) ⟨hx, hb, hml, hown, hts⟩ (m_X10_materialOf l x159 r159) wm_X10_materialOf q468 ⟨rfl, rfl⟩ ⟨Nat.le_of_ble_eq_true rfl, Nat.le_of_ble_eq_true rfl⟩ pS_pre rfl hl.1 rfl (Nat.le_of_ble_eq_true rfl) dX10_tender_160 ⟨Nat.zero_le _, Nat.zero_le _⟩) hW hS (fun x160 H locs hp hW hS oq => ?_)
            have r160 : ir x160 0 5 := hp
            refine lv_aload_n hx hb dX10_tender_163 rfl (lv_at hl 0 rfl) ?_
            refine wt_get hx hb hts cfX10 hown hK hW (cg10 k0) rfl 8 (by decide) q301 dX10_tender_164 (fun v hv => ?_)
            obtain ⟨x164, rfl, k164⟩ : gr N 8 v := hv
            refine cc_v (wt_runV (As := [.ref x147, .int x160, .ref x164]) (rest := []) ⟨hx, hb, hml, hown, hts⟩ (m_X4_ofLayer l N x143 k143 x147 k147 x160 r160 x164 k164) wm_X4_ofLayer q726 ⟨rfl, rfl⟩ ⟨Nat.le_of_ble_eq_true rfl, Nat.le_of_ble_eq_true rfl⟩ (cS_preV hK hW hT hnn hS (cg4 k143) rfl rfl trivial) rfl hl.1 rfl (Nat.le_of_ble_eq_true rfl) dX10_tender_167 ⟨Nat.zero_le _, Nat.zero_le _⟩) hS (by decide) (fun H locs hW hS oq hB2 => ?_)
            refine lv_aload_n hx hb dX10_tender_170 rfl (lv_at hl 3 rfl) ?_
            refine lv_iload hx hb dX10_tender_171 (lv_at hl 5 rfl) ?_
            refine lv_aload_n hx hb dX10_tender_173 rfl (lv_at hl 0 rfl) ?_
            refine wt_get hx hb hts cfX10 hown hK hW (cg10 k0) rfl 7 (by decide) q300 dX10_tender_174 (fun v hv => ?_)
            obtain ⟨x174, rfl, k174⟩ : gr N 4 v := hv
            refine lv_iload hx hb dX10_tender_177 (lv_at hl 5 rfl) ?_
            refine lv_iconst (v := 1) hx hb dX10_tender_179 (by decide) ?_
            refine lv_iadd hx hb dX10_tender_180 ?_
            refine lv_topi (fun x180 e180 => ?_)
            have t180 : x180.toInt = v77_5.toInt + (1) := it_add e180 rv131_5 (ir_c (1) (by decide) : ir (1 : Int32) (1) (1)) (by decide) (by decide)
            have r180 : ir x180 1 24 := ir_w (ir_add e180 rv131_5 (ir_c (1) (by decide) : ir (1 : Int32) (1) (1)) (by decide) (by decide)) (by decide) (by decide)
            refine cc_r (wt_runV (As := [.int v77_5, .ref x174, .int x180]) (rest := []) ⟨hx, hb, hml, hown, hts⟩ (m_X2_changed l N v77_3 kv77_3 v77_5 (ir_w (lo' := 0) (hi' := 24) rv131_5 (by decide) (by decide)) x174 k174 x180 (ir_w (lo' := 0) (hi' := 25) r180 (by decide) (by decide))) wm_X2_changed q727 ⟨rfl, rfl⟩ ⟨Nat.le_of_ble_eq_true rfl, Nat.le_of_ble_eq_true rfl⟩ (cS_preV hK hW hT hnn hS (cg2 kv77_3) rfl rfl trivial) rfl hl.1 rfl (Nat.le_of_ble_eq_true rfl) dX10_tender_181 ⟨Nat.zero_le _, Nat.zero_le _⟩) hS (by decide) (fun x181 H locs k181 hW hS oq => ?_)
            refine lv_astore (lv' := [(7, .ref x181), (0, .ref h0), (1, .int p1), (2, .int p2), (3, .ref v77_3), (4, .int v92_4), (5, .int v77_5), (6, .int v92_6)]) hx hb dX10_tender_184 hl (by decide) rfl (fun ls hl => ?_)
            refine lv_aload hx hb dX10_tender_186 (lv_at hl 0 rfl) ?_
            refine wt_getp hx hb hts cfX4 hown hK hW (cg4 k181) rfl 4 (by decide) (Or.inr ⟨_, lw_n_use hnn q197⟩) dX10_tender_188 (fun v hv nx181_4 => ?_)
            obtain ⟨x188, rfl, r188⟩ : gi 0 1 v := hv
            refine lv_if_eq (tgt := 196) hx hb dX10_tender_191 (by decide) (fun c191 => ?_) (fun c191 => ?_)
            · have rx188_191 : ir x188 0 0 := rf_eq c191 (ir_c (0) (by decide) : ir (0 : Int32) (0) (0))
              refine lv_aload_n hx hb dX10_tender_196 rfl (lv_at hl 1 rfl) ?_
              refine wt_get hx hb hts cfX10 hown hK hW (cg10 k0) rfl 3 (by decide) q296 dX10_tender_197 (fun v hv => ?_)
              obtain ⟨x197, rfl, k197⟩ : gr N 5 v := hv
              refine lv_aload hx hb dX10_tender_200 (lv_at hl 0 rfl) ?_
              refine lv_aload_n hx hb dX10_tender_202 rfl (lv_at hl 1 rfl) ?_
              refine wt_get hx hb hts cfX10 hown hK hW (cg10 k0) rfl 9 (by decide) q302 dX10_tender_203 (fun v hv => ?_)
              obtain ⟨x203, rfl, k203⟩ : gr N 0 v := hv
              refine cc_v (wt_runV (As := [.ref x181, .ref x203]) (rest := []) ⟨hx, hb, hml, hown, hts⟩ (m_X5_measureBack l N x197 k197 x181 k181 x203 k203) wm_X5_measureBack q599 ⟨rfl, rfl⟩ ⟨Nat.le_of_ble_eq_true rfl, Nat.le_of_ble_eq_true rfl⟩ (cS_preV hK hW hT hnn hS (cg5 k197) rfl rfl trivial) rfl hl.1 rfl (Nat.le_of_ble_eq_true rfl) dX10_tender_206 ⟨Nat.zero_le _, Nat.zero_le _⟩) hS (by decide) (fun H locs hW hS oq hB2 => ?_)
              have nx181_4 := nx181_4.kept (oq _ nx181_4.lt (cE_not k181 (by decide)))
              refine lv_aload_n hx hb dX10_tender_209 rfl (lv_at hl 1 rfl) ?_
              refine wt_get hx hb hts cfX10 hown hK hW (cg10 k0) rfl 9 (by decide) q302 dX10_tender_210 (fun v hv => ?_)
              obtain ⟨x210, rfl, k210⟩ : gr N 0 v := hv
              refine lv_aload_n hx hb dX10_tender_213 rfl (lv_at hl 1 rfl) ?_
              refine wt_get hx hb hts cfX10 hown hK hW (cg10 k0) rfl 10 (by decide) q303 dX10_tender_214 (fun v hv => ?_)
              obtain ⟨x214, rfl, k214⟩ : gr N 0 v := hv
              refine cc_i (wt_runV (As := [.ref x214]) (rest := []) ⟨hx, hb, hml, hown, hts⟩ (m_X0_compareWith l N x210 k210 x214 k214) wm_X0_compareWith q660 ⟨rfl, rfl⟩ ⟨Nat.le_of_ble_eq_true rfl, Nat.le_of_ble_eq_true rfl⟩ (cS_preV hK hW hT hnn hS (cg0 k210) rfl rfl trivial) rfl hl.1 rfl (Nat.le_of_ble_eq_true rfl) dX10_tender_217 ⟨Nat.zero_le _, Nat.zero_le _⟩) hS (by decide) (fun x217 H locs hp hW hS oq => ?_)
              have nx181_4 := nx181_4.kept (oq _ nx181_4.lt (cE_not k181 (by decide)))
              refine lv_if_le (tgt := 238) hx hb dX10_tender_220 (by decide) (fun c220 => ?_) (fun c220 => ?_)
              · have rx217_220 : ir x217 (-2147483648) 0 := ⟨((ir_any x217)).1, Int.le_trans (rf_le c220 (ir_any x217) (ir_c (0) (by decide) : ir (0 : Int32) (0) (0))).1 (by decide)⟩
                exact w2 _ _ _ (J238 _ _ _ v92_4 hW hS (lv_sub hl [1, 2, 3, 4, 5, 6, 7] rfl) rv131_1 rw131_1 rv131_4 rv131_5 rv131_6)
              · have rx217_220 : ir x217 1 2147483647 := ⟨Int.le_trans (by decide) (rf_lt (rf_nle c220) (ir_c (0) (by decide) : ir (0 : Int32) (0) (0)) (ir_any x217)).2, ((ir_any x217)).2⟩
                refine lv_aload_n hx hb dX10_tender_223 rfl (lv_at hl 1 rfl) ?_
                refine wt_get hx hb hts cfX10 hown hK hW (cg10 k0) rfl 10 (by decide) q303 dX10_tender_224 (fun v hv => ?_)
                obtain ⟨x224, rfl, k224⟩ : gr N 0 v := hv
                refine lv_aload_n hx hb dX10_tender_227 rfl (lv_at hl 1 rfl) ?_
                refine wt_get hx hb hts cfX10 hown hK hW (cg10 k0) rfl 9 (by decide) q302 dX10_tender_228 (fun v hv => ?_)
                obtain ⟨x228, rfl, k228⟩ : gr N 0 v := hv
                refine cc_v (wt_runV (As := [.ref x228]) (rest := []) ⟨hx, hb, hml, hown, hts⟩ (m_X0_copyOf l N x224 k224 x228 k228) wm_X0_copyOf q667 ⟨rfl, rfl⟩ ⟨Nat.le_of_ble_eq_true rfl, Nat.le_of_ble_eq_true rfl⟩ (cS_preV hK hW hT hnn hS (cg0 k224) rfl rfl trivial) rfl hl.1 rfl (Nat.le_of_ble_eq_true rfl) dX10_tender_231 ⟨Nat.zero_le _, Nat.zero_le _⟩) hS (by decide) (fun H locs hW hS oq hB2 => ?_)
                have nx181_4 := nx181_4.kept (oq _ nx181_4.lt (cE_not k181 (by decide)))
                refine lv_iload hx hb dX10_tender_234 (lv_at hl 6 rfl) ?_
                refine lv_istore (lv' := [(4, .int v77_5), (7, .ref x181), (0, .ref h0), (1, .int p1), (2, .int p2), (3, .ref v77_3), (5, .int v77_5), (6, .int v92_6)]) hx hb dX10_tender_236 hl (by decide) rfl (fun ls hl => ?_)
                exact w2 _ _ _ (J238 _ _ _ v77_5 hW hS (lv_sub hl [2, 3, 4, 5, 0, 6, 7] rfl) rv131_1 rw131_1 (ir_w (lo' := -1) (hi' := 23) rv131_5 (by decide) (by decide)) rv131_5 rv131_6)
            · have rx188_191 : ir x188 1 1 := rf_ne0 c191 r188
              refine lv_iconst (v := -1) hx hb dX10_tender_194 (by decide) ?_
              exact W.iret (v := (-1 : Int32)) hx hb hr (fun t ht _ => ⟨⟨(-1 : Int32), (), rfl, trivial, cW_at ht hW⟩, hS.F ht⟩) hS.2.2 dX10_tender_195
          refine w1 _ _ _ ?_
          refine lv_iload hx hb dX10_tender_92 (lv_at hl 6 rfl) ?_
          refine lv_iconst (v := 2) hx hb dX10_tender_94 (by decide) ?_
          refine lv_icmp_ge (tgt := 244) hx hb dX10_tender_95 (by decide) (fun c95 => ?_) (fun c95 => ?_)
          · have rv92_6_95 : ir v92_6 2 2 := ⟨Int.le_trans (by decide) (rf_le c95 (ir_c (2) (by decide) : ir (2 : Int32) (2) (2)) rv92_6).2, (rv92_6).2⟩
            obtain ⟨x244, e244⟩ : ∃ y : Int32, y = v77_5 + 1 := ⟨_, rfl⟩
            have r244 : ir x244 1 24 := ir_w (ir_add e244 rv92_5 (ir_c (1) (by decide) : ir (1 : Int32) (1) (1)) (by decide) (by decide)) (by decide) (by decide)
            have t244 : x244.toInt = v77_5.toInt + (1) := it_add e244 rv92_5 (ir_c (1) (by decide) : ir (1 : Int32) (1) (1)) (by decide) (by decide)
            refine lv_iinc (v := x244) (lv' := [(5, .int x244), (0, .ref h0), (1, .int p1), (2, .int p2), (3, .ref v77_3), (4, .int v92_4), (6, .int v92_6)]) hx hb dX10_tender_244 hl (k := 5) rfl (by rw [e244]; rfl) (by decide) rfl (fun ls hl => ?_)
            refine lv_goto (tgt := 77) hx hb dX10_tender_247 (by decide) ?_
            exact w2 _ _ _ (ih77 _ _ _ v77_3 v92_4 x244 hW hS (lv_sub hl [1, 2, 3, 4, 5, 0] rfl) rv92_1 rv92_2 kv77_3 rv92_4 (ir_w (lo' := 0) (hi' := 24) r244 (by decide) (by decide)) (by have h9 := r244; omega))
          · have rv92_6_95 : ir v92_6 0 1 := ⟨(rv92_6).1, Int.le_trans (rf_lt (rf_nle c95) rv92_6 (ir_c (2) (by decide) : ir (2 : Int32) (2) (2))).1 (by decide)⟩
            refine lv_aload_n hx hb dX10_tender_98 rfl (lv_at hl 0 rfl) ?_
            refine wt_get hx hb hts cfX10 hown hK hW (cg10 k0) rfl 8 (by decide) q301 dX10_tender_99 (fun v hv => ?_)
            obtain ⟨x99, rfl, k99⟩ : gr N 8 v := hv
            refine lv_aload_n hx hb dX10_tender_102 rfl (lv_at hl 0 rfl) ?_
            refine wt_get hx hb hts cfX10 hown hK hW (cg10 k0) rfl 1 (by decide) q294 dX10_tender_103 (fun v hv => ?_)
            obtain ⟨x103, rfl, k103⟩ : gr N 3 v := hv
            refine wt_getN hx hb hts cfX3 hown hK hW (cg3 k103) rfl 0 (by decide) hnn q41 dX10_tender_106 (fun v hv => ?_)
            obtain ⟨x106, rfl, k106⟩ : gr N 20 v := hv
            refine lv_iload hx hb dX10_tender_109 (lv_at hl 5 rfl) ?_
            refine wt_iald hx hb hK hW 0 (cg20 k106) rfl (ir_in rv92_5 (by decide) (by decide)) dX10_tender_111 (fun v hv => ?_)
            obtain ⟨x111, rfl, r111⟩ : gi 0 383 v := hv
            refine cc_v (wt_runV (As := [.int x111]) (rest := []) ⟨hx, hb, hml, hown, hts⟩ (m_X8_ofCode l N x99 k99 x111) wm_X8_ofCode q469 ⟨rfl, rfl⟩ ⟨Nat.le_of_ble_eq_true rfl, Nat.le_of_ble_eq_true rfl⟩ (cS_preV hK hW hT hnn hS (cg8 k99) rfl rfl trivial) rfl hl.1 rfl (Nat.le_of_ble_eq_true rfl) dX10_tender_112 ⟨Nat.zero_le _, Nat.zero_le _⟩) hS (by decide) (fun H locs hW hS oq hB2 => ?_)
            refine lv_aload_n hx hb dX10_tender_115 rfl (lv_at hl 0 rfl) ?_
            refine wt_get hx hb hts cfX10 hown hK hW (cg10 k0) rfl 8 (by decide) q301 dX10_tender_116 (fun v hv => ?_)
            obtain ⟨x116, rfl, k116⟩ : gr N 8 v := hv
            refine lv_iload_n hx hb dX10_tender_119 rfl (lv_at hl 2 rfl) ?_
            refine lv_iload hx hb dX10_tender_120 (lv_at hl 6 rfl) ?_
            refine lv_iconst (v := 1) hx hb dX10_tender_122 (by decide) ?_
            refine lv_icmp_ne (tgt := 130) hx hb dX10_tender_123 (by decide) (fun c123 => ?_) (fun c123 => ?_)
            · refine lv_iconst (v := 0) hx hb dX10_tender_130 (by decide) ?_
              exact w2 _ _ _ (J131 _ _ _ (0 : Int32) x116 hW hS (lv_sub hl [0, 1, 2, 3, 4, 5, 6] rfl) rv92_1 rv92_2 rv92_4 rv92_5 rv92_6_95 (ir_w (lo' := 0) (hi' := 1) (ir_c (0) (by decide) : ir (0 : Int32) (0) (0)) (by decide) (by decide)) rv92_2 k116)
            · have rv92_6_123 : ir v92_6 1 1 := rf_eq c123 (ir_c (1) (by decide) : ir (1 : Int32) (1) (1))
              refine lv_iconst (v := 1) hx hb dX10_tender_126 (by decide) ?_
              refine lv_goto (tgt := 131) hx hb dX10_tender_127 (by decide) ?_
              exact w2 _ _ _ (J131 _ _ _ (1 : Int32) x116 hW hS (lv_sub hl [0, 1, 2, 3, 4, 5, 6] rfl) rv92_1 rv92_2 rv92_4 rv92_5 (ir_w (lo' := 0) (hi' := 1) rv92_6_123 (by decide) (by decide)) (ir_w (lo' := 0) (hi' := 1) (ir_c (1) (by decide) : ir (1 : Int32) (1) (1)) (by decide) (by decide)) rv92_2 k116)
      refine w1 _ _ _ ?_
      refine lv_iload hx hb dX10_tender_77 (lv_at hl 5 rfl) ?_
      refine lv_aload_n hx hb dX10_tender_79 rfl (lv_at hl 0 rfl) ?_
      refine wt_get hx hb hts cfX10 hown hK hW (cg10 k0) rfl 1 (by decide) q294 dX10_tender_80 (fun v hv => ?_)
      obtain ⟨x80, rfl, k80⟩ : gr N 3 v := hv
      refine wt_getp hx hb hts cfX3 hown hK hW (cg3 k80) rfl 1 (by decide) (Or.inr ⟨_, lw_n_use hnn q46⟩) dX10_tender_83 (fun v hv nx80_1 => ?_)
      obtain ⟨x83, rfl, r83⟩ : gi 0 24 v := hv
      refine lv_icmp_ge (tgt := 250) hx hb dX10_tender_86 (by decide) (fun c86 => ?_) (fun c86 => ?_)
      · refine lv_iload hx hb dX10_tender_250 (lv_at hl 4 rfl) ?_
        exact W.iret (v := v77_4) hx hb hr (fun t ht _ => ⟨⟨v77_4, (), rfl, trivial, cW_at ht hW⟩, hS.F ht⟩) hS.2.2 dX10_tender_252
      · have rv77_5_86 : ir v77_5 0 23 := ⟨(rv77_5).1, Int.le_trans (rf_lt (rf_nle c86) rv77_5 r83).1 (by decide)⟩
        have rx83_86 : ir x83 1 24 := ⟨Int.le_trans (by decide) (rf_lt (rf_nle c86) rv77_5 r83).2, (r83).2⟩
        refine lv_iconst (v := 0) hx hb dX10_tender_89 (by decide) ?_
        refine lv_istore (lv' := [(6, .int (0 : Int32)), (0, .ref h0), (1, .int p1), (2, .int p2), (3, .ref v77_3), (4, .int v77_4), (5, .int v77_5)]) hx hb dX10_tender_90 hl (by decide) rfl (fun ls hl => ?_)
        exact w2 _ _ _ (L92 3 _ _ _ v77_4 (0 : Int32) hW hS (lv_sub hl [1, 2, 3, 4, 5, 6, 0] rfl) rv77_1 rv77_2 rv77_4 rv77_5_86 (ir_w (lo' := 0) (hi' := 2) (ir_c (0) (by decide) : ir (0 : Int32) (0) (0)) (by decide) (by decide)) (by have h9 := (ir_c (0) (by decide) : ir (0 : Int32) (0) (0)); omega))
  refine lv_iload_n hx hb dX10_tender_0 rfl (lv_at hl 1 rfl) ?_
  refine cp_i (wt_runS (As := [.int p1]) (rest := []) ⟨hx, hb, hml, hown, hts⟩ (m_X10_isMark l p1) wm_X10_isMark q539 ⟨rfl, rfl⟩ ⟨Nat.le_of_ble_eq_true rfl, Nat.le_of_ble_eq_true rfl⟩ pS_pre rfl hl.1 rfl (Nat.le_of_ble_eq_true rfl) dX10_tender_1 ⟨Nat.zero_le _, Nat.zero_le _⟩) hW hS (fun x1 H locs hp hW hS oq => ?_)
  obtain ⟨r1, b1⟩ := hp
  refine lv_if_eq (tgt := 14) hx hb dX10_tender_4 (by decide) (fun c4 => ?_) (fun c4 => ?_)
  · have rx1_4 : ir x1 0 0 := rf_eq c4 (ir_c (0) (by decide) : ir (0 : Int32) (0) (0))
    refine lv_bipush (v := -2) hx hb dX10_tender_14 (by decide) ?_
    exact W.iret (v := (-2 : Int32)) hx hb hr (fun t ht _ => ⟨⟨(-2 : Int32), (), rfl, trivial, cW_at ht hW⟩, hS.F ht⟩) hS.2.2 dX10_tender_16
  · have rx1_4 : ir x1 1 1 := rf_ne0 c4 r1
    have bx1_4 := b1 c4
    refine lv_iload_n hx hb dX10_tender_7 rfl (lv_at hl 2 rfl) ?_
    refine cp_i (wt_runS (As := [.int p2]) (rest := []) ⟨hx, hb, hml, hown, hts⟩ (m_X10_isSlip l p2) wm_X10_isSlip q680 ⟨rfl, rfl⟩ ⟨Nat.le_of_ble_eq_true rfl, Nat.le_of_ble_eq_true rfl⟩ pS_pre rfl hl.1 rfl (Nat.le_of_ble_eq_true rfl) dX10_tender_8 ⟨Nat.zero_le _, Nat.zero_le _⟩) hW hS (fun x8 H locs hp hW hS oq => ?_)
    obtain ⟨r8, b8⟩ := hp
    refine lv_if_ne (tgt := 17) hx hb dX10_tender_11 (by decide) (fun c11 => ?_) (fun c11 => ?_)
    · have rx8_11 : ir x8 1 1 := rf_ne0 c11 r8
      have bx8_11 := b8 c11
      refine lv_aload_n hx hb dX10_tender_17 rfl (lv_at hl 0 rfl) ?_
      refine wt_get hx hb hts cfX10 hown hK hW (cg10 k0) rfl 6 (by decide) q299 dX10_tender_18 (fun v hv => ?_)
      obtain ⟨x18, rfl, k18⟩ : gr N 31 v := hv
      refine lv_iconst (v := 0) hx hb dX10_tender_21 (by decide) ?_
      refine wt_aald hx hb hK hW 3 (cg31 k18) rfl (ir_in (ir_w (lo' := 0) (hi' := 3) (ir_c (0) (by decide) : ir (0 : Int32) (0) (0)) (by decide) (by decide)) (by decide) (by decide)) dX10_tender_22 (fun v hv => ?_)
      obtain ⟨x22, rfl, k22⟩ : gr N 2 v := hv
      refine lv_astore_n (lv' := [(3, .ref x22), (0, .ref h0), (1, .int p1), (2, .int p2)]) hx hb dX10_tender_23 rfl hl (by decide) rfl (fun ls hl => ?_)
      refine lv_aload_n hx hb dX10_tender_24 rfl (lv_at hl 0 rfl) ?_
      refine lv_aload_n hx hb dX10_tender_25 rfl (lv_at hl 1 rfl) ?_
      refine wt_get hx hb hts cfX10 hown hK hW (cg10 k0) rfl 1 (by decide) q294 dX10_tender_26 (fun v hv => ?_)
      obtain ⟨x26, rfl, k26⟩ : gr N 3 v := hv
      refine lv_aload_n hx hb dX10_tender_29 rfl (lv_at hl 1 rfl) ?_
      refine wt_get hx hb hts cfX10 hown hK hW (cg10 k0) rfl 3 (by decide) q296 dX10_tender_30 (fun v hv => ?_)
      obtain ⟨x30, rfl, k30⟩ : gr N 5 v := hv
      refine lv_iload_n hx hb dX10_tender_33 rfl (lv_at hl 2 rfl) ?_
      refine lv_aload_n hx hb dX10_tender_34 rfl (lv_at hl 1 rfl) ?_
      refine wt_get hx hb hts cfX10 hown hK hW (cg10 k0) rfl 1 (by decide) q294 dX10_tender_35 (fun v hv => ?_)
      obtain ⟨x35, rfl, k35⟩ : gr N 3 v := hv
      refine wt_getp hx hb hts cfX3 hown hK hW (cg3 k35) rfl 1 (by decide) (Or.inr ⟨_, lw_n_use hnn q46⟩) dX10_tender_38 (fun v hv nx35_1 => ?_)
      obtain ⟨x38, rfl, r38⟩ : gi 0 24 v := hv
      refine cc_v (wt_runV (As := [.ref x26, .ref x30, .int p1, .int x38]) (rest := []) ⟨hx, hb, hml, hown, hts⟩ (m_X2_climb l N x22 k22 x26 k26 x30 k30 p1 bx1_4 x38) wm_X2_climb q547 ⟨rfl, rfl⟩ ⟨Nat.le_of_ble_eq_true rfl, Nat.le_of_ble_eq_true rfl⟩ (cS_preV hK hW hT hnn hS (cg2 k22) rfl rfl trivial) rfl hl.1 rfl (Nat.le_of_ble_eq_true rfl) dX10_tender_41 ⟨Nat.zero_le _, Nat.zero_le _⟩) hS (by decide) (fun H locs hW hS oq hB2 => ?_)
      have nx35_1 := nx35_1.kept (oq _ nx35_1.lt (cE_not k35 (by decide)))
      refine lv_aload_n hx hb dX10_tender_44 rfl (lv_at hl 0 rfl) ?_
      refine cc_r (wt_runV (As := []) (rest := []) ⟨hx, hb, hml, hown, hts⟩ (m_X2_whole l N x22 k22) wm_X2_whole q585 ⟨rfl, rfl⟩ ⟨Nat.le_of_ble_eq_true rfl, Nat.le_of_ble_eq_true rfl⟩ (cS_preV hK hW hT hnn hS (cg2 k22) rfl rfl trivial) rfl hl.1 rfl (Nat.le_of_ble_eq_true rfl) dX10_tender_45 ⟨Nat.zero_le _, Nat.zero_le _⟩) hS (by decide) (fun x45 H locs k45 hW hS oq => ?_)
      have nx35_1 := nx35_1.kept (oq _ nx35_1.lt (cE_not k35 (by decide)))
      refine wt_getp hx hb hts cfX4 hown hK hW (cg4 k45) rfl 4 (by decide) (Or.inr ⟨_, lw_n_use hnn q197⟩) dX10_tender_48 (fun v hv nx45_4 => ?_)
      obtain ⟨x48, rfl, r48⟩ : gi 0 1 v := hv
      refine lv_if_eq (tgt := 56) hx hb dX10_tender_51 (by decide) (fun c51 => ?_) (fun c51 => ?_)
      · have rx48_51 : ir x48 0 0 := rf_eq c51 (ir_c (0) (by decide) : ir (0 : Int32) (0) (0))
        refine lv_aload_n hx hb dX10_tender_56 rfl (lv_at hl 1 rfl) ?_
        refine wt_get hx hb hts cfX10 hown hK hW (cg10 k0) rfl 3 (by decide) q296 dX10_tender_57 (fun v hv => ?_)
        obtain ⟨x57, rfl, k57⟩ : gr N 5 v := hv
        refine lv_aload_n hx hb dX10_tender_60 rfl (lv_at hl 0 rfl) ?_
        refine cc_r (wt_runV (As := []) (rest := [.ref x57]) ⟨hx, hb, hml, hown, hts⟩ (m_X2_whole l N x22 k22) wm_X2_whole q585 ⟨rfl, rfl⟩ ⟨Nat.le_of_ble_eq_true rfl, Nat.le_of_ble_eq_true rfl⟩ (cS_preV hK hW hT hnn hS (cg2 k22) rfl rfl trivial) rfl hl.1 rfl (Nat.le_of_ble_eq_true rfl) dX10_tender_61 ⟨Nat.zero_le _, Nat.zero_le _⟩) hS (by decide) (fun x61 H locs k61 hW hS oq => ?_)
        have nx35_1 := nx35_1.kept (oq _ nx35_1.lt (cE_not k35 (by decide)))
        have nx45_4 := nx45_4.kept (oq _ nx45_4.lt (cE_not k45 (by decide)))
        refine lv_aload_n hx hb dX10_tender_64 rfl (lv_at hl 1 rfl) ?_
        refine wt_get hx hb hts cfX10 hown hK hW (cg10 k0) rfl 10 (by decide) q303 dX10_tender_65 (fun v hv => ?_)
        obtain ⟨x65, rfl, k65⟩ : gr N 0 v := hv
        refine cc_v (wt_runV (As := [.ref x61, .ref x65]) (rest := []) ⟨hx, hb, hml, hown, hts⟩ (m_X5_measureBack l N x57 k57 x61 k61 x65 k65) wm_X5_measureBack q599 ⟨rfl, rfl⟩ ⟨Nat.le_of_ble_eq_true rfl, Nat.le_of_ble_eq_true rfl⟩ (cS_preV hK hW hT hnn hS (cg5 k57) rfl rfl trivial) rfl hl.1 rfl (Nat.le_of_ble_eq_true rfl) dX10_tender_68 ⟨Nat.zero_le _, Nat.zero_le _⟩) hS (by decide) (fun H locs hW hS oq hB2 => ?_)
        have nx35_1 := nx35_1.kept (oq _ nx35_1.lt (cE_not k35 (by decide)))
        have nx45_4 := nx45_4.kept (oq _ nx45_4.lt (cE_not k45 (by decide)))
        refine lv_iconst (v := -1) hx hb dX10_tender_71 (by decide) ?_
        refine lv_istore (lv' := [(4, .int (-1 : Int32)), (3, .ref x22), (0, .ref h0), (1, .int p1), (2, .int p2)]) hx hb dX10_tender_72 hl (by decide) rfl (fun ls hl => ?_)
        refine lv_iconst (v := 0) hx hb dX10_tender_74 (by decide) ?_
        refine lv_istore (lv' := [(5, .int (0 : Int32)), (4, .int (-1 : Int32)), (3, .ref x22), (0, .ref h0), (1, .int p1), (2, .int p2)]) hx hb dX10_tender_75 hl (by decide) rfl (fun ls hl => ?_)
        exact w2 _ _ _ (L77 25 _ _ _ x22 (-1 : Int32) (0 : Int32) hW hS (lv_sub hl [3, 4, 5, 2, 1, 0] rfl) bx1_4 bx8_11 k22 (ir_w (lo' := -1) (hi' := 23) (ir_c (-1) (by decide) : ir (-1 : Int32) (-1) (-1)) (by decide) (by decide)) (ir_w (lo' := 0) (hi' := 24) (ir_c (0) (by decide) : ir (0 : Int32) (0) (0)) (by decide) (by decide)) (by have h9 := (ir_c (0) (by decide) : ir (0 : Int32) (0) (0)); omega))
      · have rx48_51 : ir x48 1 1 := rf_ne0 c51 r48
        refine lv_iconst (v := -1) hx hb dX10_tender_54 (by decide) ?_
        exact W.iret (v := (-1 : Int32)) hx hb hr (fun t ht _ => ⟨⟨(-1 : Int32), (), rfl, trivial, cW_at ht hW⟩, hS.F ht⟩) hS.2.2 dX10_tender_55
    · have rx8_11 : ir x8 0 0 := rf_eq c11 (ir_c (0) (by decide) : ir (0 : Int32) (0) (0))
      refine lv_bipush (v := -2) hx hb dX10_tender_14 (by decide) ?_
      exact W.iret (v := (-2 : Int32)) hx hb hr (fun t ht _ => ⟨⟨(-2 : Int32), (), rfl, trivial, cW_at ht hW⟩, hS.F ht⟩) hS.2.2 dX10_tender_16
set_option maxHeartbeats 4000000 in
set_option maxRecDepth 100000 in
theorem m_X10_wanted (l : Launch) (N : c_N) (h0 : Nat) (k0 : N.2.2.1 h0 = some 10) (p1 : Int32) (p2 : Int32) (p3 : Int32) (p4 : Int32) : cMi l yX10_wanted cX10_wanted 7 .int { frames := 10, cells := 0, slots := 0, locals := 272 } [.ref h0, .int p1, .int p2, .int p3, .int p4] N [1, 3, 4, 6, 8, 20, 24, 25, 30] cT0 (fun _ => True) := by
  refine Met.ofW (cc := cX10_wanted) (maxL := 7) (ret := some .int) (by decide) rfl ?_
  intro p e s m args below meth c s₁ B hml hv
  obtain ⟨rfl, ⟨hK, hW, hT, hnn⟩, hB⟩ := hv
  have hx := B.exec
  have hb := B.bytes
  have hr := B.returns
  have hts : ∀ w ∈ lw_g, w.before _ s = true := fun w h => atoms_spec (ws := wc_ws yX10_wanted cX10_wanted 7 (some .int)) B.pre w (List.mem_cons_of_mem _ h)
  have hown : s.vm.findClass RX10 = some m.cls := findClass_of_methodNamed B.named
  have hlocks := B.notSynchronized
  have hS : va_S (cE N [1, 3, 4, 6, 8, 20, 24, 25, 30]) s.heap s.heap [] := va_S.rf
  have hl := lv_entry ([.ref h0, .int p1, .int p2, .int p3, .int p4]) (n := 7) (Nat.le_of_ble_eq_true rfl)
  rw [lg_entry_eq]
  generalize (lg_sl ([.ref h0, .int p1, .int p2, .int p3, .int p4]) ++ List.replicate (7 - (lg_sl ([.ref h0, .int p1, .int p2, .int p3, .int p4])).length) Slot.unset).toArray = ls at hl ⊢
  have hl : lv_has ls 7 [(0, .ref h0), (1, .int p1), (2, .int p2), (3, .int p3), (4, .int p4)] := hl
  refine wq_all ?_
  intro WW w1 w2
  have L93 : ∀ (n : Nat) (H : Heap) (locs : List Loc) (ls : Array Slot) (v93_5 : Int32) (v93_6 : Int32), cW N H → va_S (cE N [1, 3, 4, 6, 8, 20, 24, 25, 30]) s.heap H locs → lv_has ls 7 [(0, .ref h0), (5, .int v93_5), (6, .int v93_6)] → ir v93_5 1 3 → ir v93_6 0 3 → 3 - v93_6.toInt < (n : Int) → WW H locs (F0 m 93 ls []) := by
    intro n
    induction n with
    | zero =>
      intro H locs ls v93_5 v93_6 hW hS hl rv93_5 rv93_6 mu93
      exfalso
      omega
    | succ n ih93 =>
      intro H locs ls v93_5 v93_6 hW hS hl rv93_5 rv93_6 mu93
      refine w1 _ _ _ ?_
      refine lv_iload hx hb dX10_wanted_93 (lv_at hl 2 rfl) ?_
      refine lv_iload hx hb dX10_wanted_95 (lv_at hl 1 rfl) ?_
      refine lv_icmp_ge (tgt := 128) hx hb dX10_wanted_97 (by decide) (fun c97 => ?_) (fun c97 => ?_)
      · have rv93_6_97 : ir v93_6 1 3 := ⟨Int.le_trans (by decide) (rf_le c97 rv93_5 rv93_6).2, (rv93_6).2⟩
        refine lv_iload hx hb dX10_wanted_128 (lv_at hl 1 rfl) ?_
        exact W.iret (v := v93_5) hx hb hr (fun t ht _ => ⟨⟨v93_5, (), rfl, trivial, cW_at ht hW⟩, hS.F ht⟩) hS.2.2 dX10_wanted_130
      · have rv93_6_97 : ir v93_6 0 2 := ⟨(rv93_6).1, Int.le_trans (rf_lt (rf_nle c97) rv93_6 rv93_5).1 (by decide)⟩
        refine lv_aload_n hx hb dX10_wanted_100 rfl (lv_at hl 0 rfl) ?_
        refine wt_get hx hb hts cfX10 hown hK hW (cg10 k0) rfl 1 (by decide) q294 dX10_wanted_101 (fun v hv => ?_)
        obtain ⟨x101, rfl, k101⟩ : gr N 3 v := hv
        refine lv_iload hx hb dX10_wanted_104 (lv_at hl 2 rfl) ?_
        refine lv_aload_n hx hb dX10_wanted_106 rfl (lv_at hl 0 rfl) ?_
        refine wt_get hx hb hts cfX10 hown hK hW (cg10 k0) rfl 5 (by decide) q298 dX10_wanted_107 (fun v hv => ?_)
        obtain ⟨x107, rfl, k107⟩ : gr N 7 v := hv
        refine wt_getN hx hb hts cfX7 hown hK hW (cg7 k107) rfl 1 (by decide) hnn q240 dX10_wanted_110 (fun v hv => ?_)
        obtain ⟨x110, rfl, k110⟩ : gr N 25 v := hv
        refine lv_iload hx hb dX10_wanted_113 (lv_at hl 2 rfl) ?_
        refine wt_iald hx hb hK hW 0 (cg25 k110) rfl (ir_in rv93_6_97 (by decide) (by decide)) dX10_wanted_115 (fun v hv => ?_)
        obtain ⟨x115, rfl, r115⟩ : gi 0 41 v := hv
        refine cc_i (wt_runS (As := [.int x115]) (rest := [.int v93_6, .ref x101]) ⟨hx, hb, hml, hown, hts⟩ (m_X10_codeOfChoice l N x115 r115) wm_X10_codeOfChoice q786 ⟨rfl, rfl⟩ ⟨Nat.le_of_ble_eq_true rfl, Nat.le_of_ble_eq_true rfl⟩ (cS_preS hK hW hT hnn hS trivial) rfl hl.1 rfl (Nat.le_of_ble_eq_true rfl) dX10_wanted_116 ⟨Nat.zero_le _, Nat.zero_le _⟩) hS (by decide) (fun x116 H locs hp hW hS oq => ?_)
        have r116 : ir x116 0 383 := hp
        refine cc_v (wt_runV (As := [.int v93_6, .int x116]) (rest := []) ⟨hx, hb, hml, hown, hts⟩ (m_X3_insert l N x101 k101 v93_6 x116 r116) wm_X3_insert q497 ⟨rfl, rfl⟩ ⟨Nat.le_of_ble_eq_true rfl, Nat.le_of_ble_eq_true rfl⟩ (cS_preV hK hW hT hnn hS (cg3 k101) rfl rfl trivial) rfl hl.1 rfl (Nat.le_of_ble_eq_true rfl) dX10_wanted_119 ⟨Nat.zero_le _, Nat.zero_le _⟩) hS (by decide) (fun H locs hW hS oq hB2 => ?_)
        obtain ⟨x122, e122⟩ : ∃ y : Int32, y = v93_6 + 1 := ⟨_, rfl⟩
        have r122 : ir x122 1 3 := ir_w (ir_add e122 rv93_6_97 (ir_c (1) (by decide) : ir (1 : Int32) (1) (1)) (by decide) (by decide)) (by decide) (by decide)
        have t122 : x122.toInt = v93_6.toInt + (1) := it_add e122 rv93_6_97 (ir_c (1) (by decide) : ir (1 : Int32) (1) (1)) (by decide) (by decide)
        refine lv_iinc (v := x122) (lv' := [(6, .int x122), (0, .ref h0), (5, .int v93_5)]) hx hb dX10_wanted_122 hl (k := 2) rfl (by rw [e122]; rfl) (by decide) rfl (fun ls hl => ?_)
        refine lv_goto (tgt := 93) hx hb dX10_wanted_125 (by decide) ?_
        exact w2 _ _ _ (ih93 _ _ _ v93_5 x122 hW hS (lv_sub hl [1, 2, 0] rfl) rv93_5 (ir_w (lo' := 0) (hi' := 3) r122 (by decide) (by decide)) (by have h9 := r122; omega))
  have L41 : ∀ (n : Nat) (H : Heap) (locs : List Loc) (ls : Array Slot) (v41_5 : Int32), cW N H → va_S (cE N [1, 3, 4, 6, 8, 20, 24, 25, 30]) s.heap H locs → lv_has ls 7 [(0, .ref h0), (4, .int p4), (5, .int v41_5)] → ir p4 1 3 → ir v41_5 1 4 → 4 - v41_5.toInt < (n : Int) → WW H locs (F0 m 41 ls []) := by
    intro n
    induction n with
    | zero =>
      intro H locs ls v41_5 hW hS hl rv41_4 rv41_5 mu41
      exfalso
      omega
    | succ n ih41 =>
      intro H locs ls v41_5 hW hS hl rv41_4 rv41_5 mu41
      refine w1 _ _ _ ?_
      refine lv_iload hx hb dX10_wanted_41 (lv_at hl 2 rfl) ?_
      refine lv_iload hx hb dX10_wanted_43 (lv_at hl 1 rfl) ?_
      refine lv_icmp_gt (tgt := 137) hx hb dX10_wanted_45 (by decide) (fun c45 => ?_) (fun c45 => ?_)
      · have rv41_5_45 : ir v41_5 2 4 := ⟨Int.le_trans (by decide) (rf_lt c45 rv41_4 rv41_5).2, (rv41_5).2⟩
        refine lv_iconst (v := -1) hx hb dX10_wanted_137 (by decide) ?_
        exact W.iret (v := (-1 : Int32)) hx hb hr (fun t ht _ => ⟨⟨(-1 : Int32), (), rfl, trivial, cW_at ht hW⟩, hS.F ht⟩) hS.2.2 dX10_wanted_138
      · have rv41_5_45 : ir v41_5 1 3 := ⟨(rv41_5).1, Int.le_trans (rf_le (rf_nlt c45) rv41_5 rv41_4).1 (by decide)⟩
        refine lv_aload_n hx hb dX10_wanted_48 rfl (lv_at hl 0 rfl) ?_
        refine wt_get hx hb hts cfX10 hown hK hW (cg10 k0) rfl 5 (by decide) q298 dX10_wanted_49 (fun v hv => ?_)
        obtain ⟨x49, rfl, k49⟩ : gr N 7 v := hv
        refine lv_aload_n hx hb dX10_wanted_52 rfl (lv_at hl 0 rfl) ?_
        refine wt_get hx hb hts cfX10 hown hK hW (cg10 k0) rfl 4 (by decide) q297 dX10_wanted_53 (fun v hv => ?_)
        obtain ⟨x53, rfl, k53⟩ : gr N 6 v := hv
        refine lv_aload_n hx hb dX10_wanted_56 rfl (lv_at hl 0 rfl) ?_
        refine wt_get hx hb hts cfX10 hown hK hW (cg10 k0) rfl 3 (by decide) q296 dX10_wanted_57 (fun v hv => ?_)
        obtain ⟨x57, rfl, k57⟩ : gr N 5 v := hv
        refine lv_iconst (v := 0) hx hb dX10_wanted_60 (by decide) ?_
        refine lv_iload hx hb dX10_wanted_61 (lv_at hl 2 rfl) ?_
        refine lv_iconst (v := 1) hx hb dX10_wanted_63 (by decide) ?_
        refine cc_i (wt_runVN (As := [.ref x53, .ref x57, .int (0 : Int32), .int v41_5, .int (1 : Int32)]) (rest := []) ⟨hx, hb, hml, hown, hts⟩ hnn (m_X7_seek_0 l N x49 k49 x53 k53 x57 k57 (0 : Int32) (ir_c (0) (by decide) : ir (0 : Int32) (0) (0)) v41_5 (1 : Int32) (ir_w (lo' := 0) (hi' := 1) (ir_c (1) (by decide) : ir (1 : Int32) (1) (1)) (by decide) (by decide))) wm_X7_seek q762 ⟨rfl, rfl⟩ ⟨Nat.le_of_ble_eq_true rfl, Nat.le_of_ble_eq_true rfl⟩ (cS_preV hK hW hT hnn hS (cg7 k49) rfl rfl trivial) rfl hl.1 rfl (Nat.le_of_ble_eq_true rfl) dX10_wanted_64 ⟨Nat.zero_le _, Nat.zero_le _⟩) hS (by decide) (fun x64 H locs hp hW hS oq => ?_)
        refine lv_if_le (tgt := 131) hx hb dX10_wanted_67 (by decide) (fun c67 => ?_) (fun c67 => ?_)
        · have rx64_67 : ir x64 (-2147483648) 0 := ⟨((ir_any x64)).1, Int.le_trans (rf_le c67 (ir_any x64) (ir_c (0) (by decide) : ir (0 : Int32) (0) (0))).1 (by decide)⟩
          obtain ⟨x131, e131⟩ : ∃ y : Int32, y = v41_5 + 1 := ⟨_, rfl⟩
          have r131 : ir x131 2 4 := ir_w (ir_add e131 rv41_5_45 (ir_c (1) (by decide) : ir (1 : Int32) (1) (1)) (by decide) (by decide)) (by decide) (by decide)
          have t131 : x131.toInt = v41_5.toInt + (1) := it_add e131 rv41_5_45 (ir_c (1) (by decide) : ir (1 : Int32) (1) (1)) (by decide) (by decide)
          refine lv_iinc (v := x131) (lv' := [(5, .int x131), (0, .ref h0), (4, .int p4)]) hx hb dX10_wanted_131 hl (k := 2) rfl (by rw [e131]; rfl) (by decide) rfl (fun ls hl => ?_)
          refine lv_goto (tgt := 41) hx hb dX10_wanted_134 (by decide) ?_
          exact w2 _ _ _ (ih41 _ _ _ x131 hW hS (lv_sub hl [1, 2, 0] rfl) rv41_4 (ir_w (lo' := 1) (hi' := 4) r131 (by decide) (by decide)) (by have h9 := r131; omega))
        · have rx64_67 : ir x64 1 2147483647 := ⟨Int.le_trans (by decide) (rf_lt (rf_nle c67) (ir_c (0) (by decide) : ir (0 : Int32) (0) (0)) (ir_any x64)).2, ((ir_any x64)).2⟩
          refine lv_aload_n hx hb dX10_wanted_70 rfl (lv_at hl 0 rfl) ?_
          refine wt_get hx hb hts cfX10 hown hK hW (cg10 k0) rfl 2 (by decide) q295 dX10_wanted_71 (fun v hv => ?_)
          obtain ⟨x71, rfl, k71⟩ : gr N 1 v := hv
          refine lv_aload_n hx hb dX10_wanted_74 rfl (lv_at hl 0 rfl) ?_
          refine wt_get hx hb hts cfX10 hown hK hW (cg10 k0) rfl 1 (by decide) q294 dX10_wanted_75 (fun v hv => ?_)
          obtain ⟨x75, rfl, k75⟩ : gr N 3 v := hv
          refine lv_iconst (v := 0) hx hb dX10_wanted_78 (by decide) ?_
          refine cc_v (wt_runV (As := [.ref x75, .int (0 : Int32)]) (rest := []) ⟨hx, hb, hml, hown, hts⟩ (m_X1_keep l N x71 k71 x75 k75 (0 : Int32) (ir_w (lo' := 0) (hi' := 1) (ir_c (0) (by decide) : ir (0 : Int32) (0) (0)) (by decide) (by decide))) wm_X1_keep q416 ⟨rfl, rfl⟩ ⟨Nat.le_of_ble_eq_true rfl, Nat.le_of_ble_eq_true rfl⟩ (cS_preV hK hW hT hnn hS (cg1 k71) rfl rfl trivial) rfl hl.1 rfl (Nat.le_of_ble_eq_true rfl) dX10_wanted_79 ⟨Nat.zero_le _, Nat.zero_le _⟩) hS (by decide) (fun H locs hW hS oq hB2 => ?_)
          refine lv_aload_n hx hb dX10_wanted_82 rfl (lv_at hl 0 rfl) ?_
          refine wt_get hx hb hts cfX10 hown hK hW (cg10 k0) rfl 1 (by decide) q294 dX10_wanted_83 (fun v hv => ?_)
          obtain ⟨x83, rfl, k83⟩ : gr N 3 v := hv
          refine lv_iconst (v := 0) hx hb dX10_wanted_86 (by decide) ?_
          refine wt_putp hx hb hts cfX3 tyX3 tyX3_ok nmX3 hown hK hW hS (cg3 k83) (ce k83 (by decide)) rfl 1 (by decide) (Or.inr ⟨_, lw_n_use hnn q46⟩) rfl rfl rfl (gi_mk (ir_w (lo' := 0) (hi' := 24) (ir_c (0) (by decide) : ir (0 : Int32) (0) (0)) (by decide) (by decide))) dX10_wanted_87 (fun H locs hW hS oq o2 np => ?_)
          have nx83_1 : wt_pin N.1 vwCl x83 3 1 (.int (0 : Int32)) H := np
          refine lv_iconst (v := 0) hx hb dX10_wanted_90 (by decide) ?_
          refine lv_istore (lv' := [(6, .int (0 : Int32)), (0, .ref h0), (4, .int p4), (5, .int v41_5)]) hx hb dX10_wanted_91 hl (by decide) rfl (fun ls hl => ?_)
          exact w2 _ _ _ (L93 4 _ _ _ v41_5 (0 : Int32) hW hS (lv_sub hl [1, 3, 0] rfl) rv41_5_45 (ir_w (lo' := 0) (hi' := 3) (ir_c (0) (by decide) : ir (0 : Int32) (0) (0)) (by decide) (by decide)) (by have h9 := (ir_c (0) (by decide) : ir (0 : Int32) (0) (0)); omega))
  refine lv_iload_n hx hb dX10_wanted_0 rfl (lv_at hl 1 rfl) ?_
  refine lv_iload_n hx hb dX10_wanted_1 rfl (lv_at hl 2 rfl) ?_
  refine lv_iload_n hx hb dX10_wanted_2 rfl (lv_at hl 3 rfl) ?_
  refine cp_i (wt_runS (As := [.int p1, .int p2, .int p3]) (rest := []) ⟨hx, hb, hml, hown, hts⟩ (m_X10_areSets l p1 p2 p3) wm_X10_areSets q739 ⟨rfl, rfl⟩ ⟨Nat.le_of_ble_eq_true rfl, Nat.le_of_ble_eq_true rfl⟩ pS_pre rfl hl.1 rfl (Nat.le_of_ble_eq_true rfl) dX10_wanted_3 ⟨Nat.zero_le _, Nat.zero_le _⟩) hW hS (fun x3 H locs hp hW hS oq => ?_)
  have r3 : ir x3 0 1 := hp
  refine lv_if_eq (tgt := 21) hx hb dX10_wanted_6 (by decide) (fun c6 => ?_) (fun c6 => ?_)
  · have rx3_6 : ir x3 0 0 := rf_eq c6 (ir_c (0) (by decide) : ir (0 : Int32) (0) (0))
    refine lv_bipush (v := -2) hx hb dX10_wanted_21 (by decide) ?_
    exact W.iret (v := (-2 : Int32)) hx hb hr (fun t ht _ => ⟨⟨(-2 : Int32), (), rfl, trivial, cW_at ht hW⟩, hS.F ht⟩) hS.2.2 dX10_wanted_23
  · have rx3_6 : ir x3 1 1 := rf_ne0 c6 r3
    refine lv_iload hx hb dX10_wanted_9 (lv_at hl 4 rfl) ?_
    refine lv_iconst (v := 1) hx hb dX10_wanted_11 (by decide) ?_
    refine lv_icmp_lt (tgt := 21) hx hb dX10_wanted_12 (by decide) (fun c12 => ?_) (fun c12 => ?_)
    · have rp4_12 : ir p4 (-2147483648) 0 := ⟨((ir_any p4)).1, Int.le_trans (rf_lt c12 (ir_any p4) (ir_c (1) (by decide) : ir (1 : Int32) (1) (1))).1 (by decide)⟩
      refine lv_bipush (v := -2) hx hb dX10_wanted_21 (by decide) ?_
      exact W.iret (v := (-2 : Int32)) hx hb hr (fun t ht _ => ⟨⟨(-2 : Int32), (), rfl, trivial, cW_at ht hW⟩, hS.F ht⟩) hS.2.2 dX10_wanted_23
    · have rp4_12 : ir p4 1 2147483647 := ⟨Int.le_trans (by decide) (rf_le (rf_nlt c12) (ir_c (1) (by decide) : ir (1 : Int32) (1) (1)) (ir_any p4)).2, ((ir_any p4)).2⟩
      refine lv_iload hx hb dX10_wanted_15 (lv_at hl 4 rfl) ?_
      refine lv_iconst (v := 3) hx hb dX10_wanted_17 (by decide) ?_
      refine lv_icmp_le (tgt := 24) hx hb dX10_wanted_18 (by decide) (fun c18 => ?_) (fun c18 => ?_)
      · have rp4_18 : ir p4 1 3 := ⟨(rp4_12).1, Int.le_trans (rf_le c18 rp4_12 (ir_c (3) (by decide) : ir (3 : Int32) (3) (3))).1 (by decide)⟩
        refine lv_aload_n hx hb dX10_wanted_24 rfl (lv_at hl 0 rfl) ?_
        refine wt_get hx hb hts cfX10 hown hK hW (cg10 k0) rfl 4 (by decide) q297 dX10_wanted_25 (fun v hv => ?_)
        obtain ⟨x25, rfl, k25⟩ : gr N 6 v := hv
        refine lv_aload_n hx hb dX10_wanted_28 rfl (lv_at hl 0 rfl) ?_
        refine wt_get hx hb hts cfX10 hown hK hW (cg10 k0) rfl 3 (by decide) q296 dX10_wanted_29 (fun v hv => ?_)
        obtain ⟨x29, rfl, k29⟩ : gr N 5 v := hv
        refine lv_iload_n hx hb dX10_wanted_32 rfl (lv_at hl 1 rfl) ?_
        refine lv_iload_n hx hb dX10_wanted_33 rfl (lv_at hl 2 rfl) ?_
        refine lv_iload_n hx hb dX10_wanted_34 rfl (lv_at hl 3 rfl) ?_
        refine cc_v (wt_runV (As := [.ref x29, .int p1, .int p2, .int p3]) (rest := []) ⟨hx, hb, hml, hown, hts⟩ (m_X6_prepare l N x25 k25 x29 k29 p1 p2 p3) wm_X6_prepare q742 ⟨rfl, rfl⟩ ⟨Nat.le_of_ble_eq_true rfl, Nat.le_of_ble_eq_true rfl⟩ (cS_preV hK hW hT hnn hS (cg6 k25) rfl rfl trivial) rfl hl.1 rfl (Nat.le_of_ble_eq_true rfl) dX10_wanted_35 ⟨Nat.zero_le _, Nat.zero_le _⟩) hS (by decide) (fun H locs hW hS oq hB2 => ?_)
        refine lv_iconst (v := 1) hx hb dX10_wanted_38 (by decide) ?_
        refine lv_istore (lv' := [(5, .int (1 : Int32)), (0, .ref h0), (1, .int p1), (2, .int p2), (3, .int p3), (4, .int p4)]) hx hb dX10_wanted_39 hl (by decide) rfl (fun ls hl => ?_)
        exact w2 _ _ _ (L41 4 _ _ _ (1 : Int32) hW hS (lv_sub hl [1, 5, 0] rfl) rp4_18 (ir_w (lo' := 1) (hi' := 4) (ir_c (1) (by decide) : ir (1 : Int32) (1) (1)) (by decide) (by decide)) (by have h9 := (ir_c (1) (by decide) : ir (1 : Int32) (1) (1)); omega))
      · have rp4_18 : ir p4 4 2147483647 := ⟨Int.le_trans (by decide) (rf_lt (rf_nle c18) (ir_c (3) (by decide) : ir (3 : Int32) (3) (3)) rp4_12).2, (rp4_12).2⟩
        refine lv_bipush (v := -2) hx hb dX10_wanted_21 (by decide) ?_
        exact W.iret (v := (-2 : Int32)) hx hb hr (fun t ht _ => ⟨⟨(-2 : Int32), (), rfl, trivial, cW_at ht hW⟩, hS.F ht⟩) hS.2.2 dX10_wanted_23
set_option maxHeartbeats 4000000 in
set_option maxRecDepth 100000 in
theorem m_X10_ways (l : Launch) (N : c_N) (h0 : Nat) (k0 : N.2.2.1 h0 = some 10) (p1 : Int32) (p2 : Int32) (p3 : Int32) (p4 : Int32) : cMi l yX10_ways cX10_ways 5 .int { frames := 10, cells := 0, slots := 0, locals := 272 } [.ref h0, .int p1, .int p2, .int p3, .int p4] N [4, 6, 8, 24, 25] cT0 (fun _ => True) := by
  refine Met.ofW (cc := cX10_ways) (maxL := 5) (ret := some .int) (by decide) rfl ?_
  intro p e s m args below meth c s₁ B hml hv
  obtain ⟨rfl, ⟨hK, hW, hT, hnn⟩, hB⟩ := hv
  have hx := B.exec
  have hb := B.bytes
  have hr := B.returns
  have hts : ∀ w ∈ lw_g, w.before _ s = true := fun w h => atoms_spec (ws := wc_ws yX10_ways cX10_ways 5 (some .int)) B.pre w (List.mem_cons_of_mem _ h)
  have hown : s.vm.findClass RX10 = some m.cls := findClass_of_methodNamed B.named
  have hlocks := B.notSynchronized
  have hS : va_S (cE N [4, 6, 8, 24, 25]) s.heap s.heap [] := va_S.rf
  have hl := lv_entry ([.ref h0, .int p1, .int p2, .int p3, .int p4]) (n := 5) (Nat.le_of_ble_eq_true rfl)
  rw [lg_entry_eq]
  generalize (lg_sl ([.ref h0, .int p1, .int p2, .int p3, .int p4]) ++ List.replicate (5 - (lg_sl ([.ref h0, .int p1, .int p2, .int p3, .int p4])).length) Slot.unset).toArray = ls at hl ⊢
  have hl : lv_has ls 5 [(0, .ref h0), (1, .int p1), (2, .int p2), (3, .int p3), (4, .int p4)] := hl
  refine wq_all ?_
  intro WW w1 w2
  refine lv_iload_n hx hb dX10_ways_0 rfl (lv_at hl 1 rfl) ?_
  refine lv_iload_n hx hb dX10_ways_1 rfl (lv_at hl 2 rfl) ?_
  refine lv_iload_n hx hb dX10_ways_2 rfl (lv_at hl 3 rfl) ?_
  refine cp_i (wt_runS (As := [.int p1, .int p2, .int p3]) (rest := []) ⟨hx, hb, hml, hown, hts⟩ (m_X10_areSets l p1 p2 p3) wm_X10_areSets q739 ⟨rfl, rfl⟩ ⟨Nat.le_of_ble_eq_true rfl, Nat.le_of_ble_eq_true rfl⟩ pS_pre rfl hl.1 rfl (Nat.le_of_ble_eq_true rfl) dX10_ways_3 ⟨Nat.zero_le _, Nat.zero_le _⟩) hW hS (fun x3 H locs hp hW hS oq => ?_)
  have r3 : ir x3 0 1 := hp
  refine lv_if_eq (tgt := 21) hx hb dX10_ways_6 (by decide) (fun c6 => ?_) (fun c6 => ?_)
  · have rx3_6 : ir x3 0 0 := rf_eq c6 (ir_c (0) (by decide) : ir (0 : Int32) (0) (0))
    refine lv_bipush (v := -2) hx hb dX10_ways_21 (by decide) ?_
    exact W.iret (v := (-2 : Int32)) hx hb hr (fun t ht _ => ⟨⟨(-2 : Int32), (), rfl, trivial, cW_at ht hW⟩, hS.F ht⟩) hS.2.2 dX10_ways_23
  · have rx3_6 : ir x3 1 1 := rf_ne0 c6 r3
    refine lv_iload hx hb dX10_ways_9 (lv_at hl 4 rfl) ?_
    refine lv_iconst (v := 1) hx hb dX10_ways_11 (by decide) ?_
    refine lv_icmp_lt (tgt := 21) hx hb dX10_ways_12 (by decide) (fun c12 => ?_) (fun c12 => ?_)
    · have rp4_12 : ir p4 (-2147483648) 0 := ⟨((ir_any p4)).1, Int.le_trans (rf_lt c12 (ir_any p4) (ir_c (1) (by decide) : ir (1 : Int32) (1) (1))).1 (by decide)⟩
      refine lv_bipush (v := -2) hx hb dX10_ways_21 (by decide) ?_
      exact W.iret (v := (-2 : Int32)) hx hb hr (fun t ht _ => ⟨⟨(-2 : Int32), (), rfl, trivial, cW_at ht hW⟩, hS.F ht⟩) hS.2.2 dX10_ways_23
    · have rp4_12 : ir p4 1 2147483647 := ⟨Int.le_trans (by decide) (rf_le (rf_nlt c12) (ir_c (1) (by decide) : ir (1 : Int32) (1) (1)) (ir_any p4)).2, ((ir_any p4)).2⟩
      refine lv_iload hx hb dX10_ways_15 (lv_at hl 4 rfl) ?_
      refine lv_iconst (v := 3) hx hb dX10_ways_17 (by decide) ?_
      refine lv_icmp_le (tgt := 24) hx hb dX10_ways_18 (by decide) (fun c18 => ?_) (fun c18 => ?_)
      · have rp4_18 : ir p4 1 3 := ⟨(rp4_12).1, Int.le_trans (rf_le c18 rp4_12 (ir_c (3) (by decide) : ir (3 : Int32) (3) (3))).1 (by decide)⟩
        refine lv_aload_n hx hb dX10_ways_24 rfl (lv_at hl 0 rfl) ?_
        refine wt_get hx hb hts cfX10 hown hK hW (cg10 k0) rfl 4 (by decide) q297 dX10_ways_25 (fun v hv => ?_)
        obtain ⟨x25, rfl, k25⟩ : gr N 6 v := hv
        refine lv_aload_n hx hb dX10_ways_28 rfl (lv_at hl 0 rfl) ?_
        refine wt_get hx hb hts cfX10 hown hK hW (cg10 k0) rfl 3 (by decide) q296 dX10_ways_29 (fun v hv => ?_)
        obtain ⟨x29, rfl, k29⟩ : gr N 5 v := hv
        refine lv_iload_n hx hb dX10_ways_32 rfl (lv_at hl 1 rfl) ?_
        refine lv_iload_n hx hb dX10_ways_33 rfl (lv_at hl 2 rfl) ?_
        refine lv_iload_n hx hb dX10_ways_34 rfl (lv_at hl 3 rfl) ?_
        refine cc_v (wt_runV (As := [.ref x29, .int p1, .int p2, .int p3]) (rest := []) ⟨hx, hb, hml, hown, hts⟩ (m_X6_prepare l N x25 k25 x29 k29 p1 p2 p3) wm_X6_prepare q742 ⟨rfl, rfl⟩ ⟨Nat.le_of_ble_eq_true rfl, Nat.le_of_ble_eq_true rfl⟩ (cS_preV hK hW hT hnn hS (cg6 k25) rfl rfl trivial) rfl hl.1 rfl (Nat.le_of_ble_eq_true rfl) dX10_ways_35 ⟨Nat.zero_le _, Nat.zero_le _⟩) hS (by decide) (fun H locs hW hS oq hB2 => ?_)
        refine lv_aload_n hx hb dX10_ways_38 rfl (lv_at hl 0 rfl) ?_
        refine wt_get hx hb hts cfX10 hown hK hW (cg10 k0) rfl 5 (by decide) q298 dX10_ways_39 (fun v hv => ?_)
        obtain ⟨x39, rfl, k39⟩ : gr N 7 v := hv
        refine lv_aload_n hx hb dX10_ways_42 rfl (lv_at hl 0 rfl) ?_
        refine wt_get hx hb hts cfX10 hown hK hW (cg10 k0) rfl 4 (by decide) q297 dX10_ways_43 (fun v hv => ?_)
        obtain ⟨x43, rfl, k43⟩ : gr N 6 v := hv
        refine lv_aload_n hx hb dX10_ways_46 rfl (lv_at hl 0 rfl) ?_
        refine wt_get hx hb hts cfX10 hown hK hW (cg10 k0) rfl 3 (by decide) q296 dX10_ways_47 (fun v hv => ?_)
        obtain ⟨x47, rfl, k47⟩ : gr N 5 v := hv
        refine lv_iconst (v := 0) hx hb dX10_ways_50 (by decide) ?_
        refine lv_iload hx hb dX10_ways_51 (lv_at hl 4 rfl) ?_
        refine lv_iconst (v := 0) hx hb dX10_ways_53 (by decide) ?_
        refine cc_i (wt_runVN (As := [.ref x43, .ref x47, .int (0 : Int32), .int p4, .int (0 : Int32)]) (rest := []) ⟨hx, hb, hml, hown, hts⟩ hnn (m_X7_seek_0 l N x39 k39 x43 k43 x47 k47 (0 : Int32) (ir_c (0) (by decide) : ir (0 : Int32) (0) (0)) p4 (0 : Int32) (ir_w (lo' := 0) (hi' := 1) (ir_c (0) (by decide) : ir (0 : Int32) (0) (0)) (by decide) (by decide))) wm_X7_seek q762 ⟨rfl, rfl⟩ ⟨Nat.le_of_ble_eq_true rfl, Nat.le_of_ble_eq_true rfl⟩ (cS_preV hK hW hT hnn hS (cg7 k39) rfl rfl trivial) rfl hl.1 rfl (Nat.le_of_ble_eq_true rfl) dX10_ways_54 ⟨Nat.zero_le _, Nat.zero_le _⟩) hS (by decide) (fun x54 H locs hp hW hS oq => ?_)
        exact W.iret (v := x54) hx hb hr (fun t ht _ => ⟨⟨x54, (), rfl, trivial, cW_at ht hW⟩, hS.F ht⟩) hS.2.2 dX10_ways_57
      · have rp4_18 : ir p4 4 2147483647 := ⟨Int.le_trans (by decide) (rf_lt (rf_nle c18) (ir_c (3) (by decide) : ir (3 : Int32) (3) (3)) rp4_12).2, (rp4_12).2⟩
        refine lv_bipush (v := -2) hx hb dX10_ways_21 (by decide) ?_
        exact W.iret (v := (-2 : Int32)) hx hb hr (fun t ht _ => ⟨⟨(-2 : Int32), (), rfl, trivial, cW_at ht hW⟩, hS.F ht⟩) hS.2.2 dX10_ways_23
set_option maxHeartbeats 4000000 in
set_option maxRecDepth 100000 in
theorem m_X10_tune (l : Launch) (N : c_N) (h0 : Nat) (k0 : N.2.2.1 h0 = some 10) (p1 : Int32) (p2 : Int32) : cMi l yX10_tune cX10_tune 8 .int { frames := 5, cells := 0, slots := 0, locals := 135 } [.ref h0, .int p1, .int p2] N [0, 1, 2, 3, 4, 6, 8, 20, 24, 30] cT0 (fun _ => True) := by
  refine Met.ofW (cc := cX10_tune) (maxL := 8) (ret := some .int) (by decide) rfl ?_
  intro p e s m args below meth c s₁ B hml hv
  obtain ⟨rfl, ⟨hK, hW, hT, hnn⟩, hB⟩ := hv
  have hx := B.exec
  have hb := B.bytes
  have hr := B.returns
  have hts : ∀ w ∈ lw_g, w.before _ s = true := fun w h => atoms_spec (ws := wc_ws yX10_tune cX10_tune 8 (some .int)) B.pre w (List.mem_cons_of_mem _ h)
  have hown : s.vm.findClass RX10 = some m.cls := findClass_of_methodNamed B.named
  have hlocks := B.notSynchronized
  have hS : va_S (cE N [0, 1, 2, 3, 4, 6, 8, 20, 24, 30]) s.heap s.heap [] := va_S.rf
  have hl := lv_entry ([.ref h0, .int p1, .int p2]) (n := 8) (Nat.le_of_ble_eq_true rfl)
  rw [lg_entry_eq]
  generalize (lg_sl ([.ref h0, .int p1, .int p2]) ++ List.replicate (8 - (lg_sl ([.ref h0, .int p1, .int p2])).length) Slot.unset).toArray = ls at hl ⊢
  have hl : lv_has ls 8 [(0, .ref h0), (1, .int p1), (2, .int p2)] := hl
  obtain ⟨s_THICK_P, hZ_THICK_P, hT_THICK_P⟩ := hT.1
  obtain ⟨s_THICK_Q, hZ_THICK_Q, hT_THICK_Q⟩ := hT.2.1
  refine wq_all ?_
  intro WW w1 w2
  have L86 : ∀ (n : Nat) (H : Heap) (locs : List Loc) (ls : Array Slot) (v86_3 : Int32) (v86_4 : Int32) (v86_5 : Int32), cW N H → va_S (cE N [0, 1, 2, 3, 4, 6, 8, 20, 24, 30]) s.heap H locs → lv_has ls 8 [(0, .ref h0), (1, .int p1), (2, .int p2), (3, .int v86_3), (4, .int v86_4), (5, .int v86_5)] → ir p1 0 23 → ir p2 1 4 → ir v86_3 0 5 → ir v86_4 (-1) 6 → ir v86_5 0 7 → 7 - v86_5.toInt < (n : Int) → WW H locs (F0 m 86 ls []) := by
    intro n
    induction n with
    | zero =>
      intro H locs ls v86_3 v86_4 v86_5 hW hS hl rv86_1 rv86_2 rv86_3 rv86_4 rv86_5 mu86
      exfalso
      omega
    | succ n ih86 =>
      intro H locs ls v86_3 v86_4 v86_5 hW hS hl rv86_1 rv86_2 rv86_3 rv86_4 rv86_5 mu86
      have J188 : ∀ (H : Heap) (locs : List Loc) (ls : Array Slot) (v188_4 : Int32), cW N H → va_S (cE N [0, 1, 2, 3, 4, 6, 8, 20, 24, 30]) s.heap H locs → lv_has ls 8 [(0, .ref h0), (1, .int p1), (2, .int p2), (3, .int v86_3), (4, .int v188_4), (5, .int v86_5)] → ir p1 0 23 → ir p2 1 4 → ir v86_3 0 5 → ir v188_4 (-1) 6 → ir v86_5 0 6 → WW H locs (F0 m 188 ls []) := by
        intro H locs ls v188_4 hW hS hl rv188_1 rv188_2 rv188_3 rv188_4 rv188_5
        refine w1 _ _ _ ?_
        obtain ⟨x188, e188⟩ : ∃ y : Int32, y = v86_5 + 1 := ⟨_, rfl⟩
        have r188 : ir x188 1 7 := ir_w (ir_add e188 rv188_5 (ir_c (1) (by decide) : ir (1 : Int32) (1) (1)) (by decide) (by decide)) (by decide) (by decide)
        have t188 : x188.toInt = v86_5.toInt + (1) := it_add e188 rv188_5 (ir_c (1) (by decide) : ir (1 : Int32) (1) (1)) (by decide) (by decide)
        refine lv_iinc (v := x188) (lv' := [(5, .int x188), (0, .ref h0), (1, .int p1), (2, .int p2), (3, .int v86_3), (4, .int v188_4)]) hx hb dX10_tune_188 hl (k := 5) rfl (by rw [e188]; rfl) (by decide) rfl (fun ls hl => ?_)
        refine lv_goto (tgt := 86) hx hb dX10_tune_191 (by decide) ?_
        exact w2 _ _ _ (ih86 _ _ _ v86_3 v188_4 x188 hW hS (lv_sub hl [1, 2, 3, 4, 5, 0] rfl) rv188_1 rv188_2 rv188_3 rv188_4 (ir_w (lo' := 0) (hi' := 7) r188 (by decide) (by decide)) (by have h9 := r188; omega))
      have J173 : ∀ (H : Heap) (locs : List Loc) (ls : Array Slot) , cW N H → va_S (cE N [0, 1, 2, 3, 4, 6, 8, 20, 24, 30]) s.heap H locs → lv_has ls 8 [(0, .ref h0), (1, .int p1), (2, .int p2), (3, .int v86_3), (5, .int v86_5)] → ir p1 0 23 → ir p2 1 4 → ir v86_3 0 5 → ir v86_5 0 6 → WW H locs (F0 m 173 ls []) := by
        intro H locs ls  hW hS hl rv173_1 rv173_2 rv173_3 rv173_5
        refine w1 _ _ _ ?_
        refine lv_iload hx hb dX10_tune_173 (lv_at hl 4 rfl) ?_
        refine lv_istore (lv' := [(4, .int v86_5), (0, .ref h0), (1, .int p1), (2, .int p2), (3, .int v86_3), (5, .int v86_5)]) hx hb dX10_tune_175 hl (by decide) rfl (fun ls hl => ?_)
        refine lv_aload_n hx hb dX10_tune_177 rfl (lv_at hl 1 rfl) ?_
        refine wt_get hx hb hts cfX10 hown hK hW (cg10 k0) rfl 10 (by decide) q303 dX10_tune_178 (fun v hv => ?_)
        obtain ⟨x178, rfl, k178⟩ : gr N 0 v := hv
        refine lv_aload_n hx hb dX10_tune_181 rfl (lv_at hl 1 rfl) ?_
        refine wt_get hx hb hts cfX10 hown hK hW (cg10 k0) rfl 9 (by decide) q302 dX10_tune_182 (fun v hv => ?_)
        obtain ⟨x182, rfl, k182⟩ : gr N 0 v := hv
        refine cc_v (wt_runV (As := [.ref x182]) (rest := []) ⟨hx, hb, hml, hown, hts⟩ (m_X0_copyOf l N x178 k178 x182 k182) wm_X0_copyOf q667 ⟨rfl, rfl⟩ ⟨Nat.le_of_ble_eq_true rfl, Nat.le_of_ble_eq_true rfl⟩ (cS_preV hK hW hT hnn hS (cg0 k178) rfl rfl trivial) rfl hl.1 rfl (Nat.le_of_ble_eq_true rfl) dX10_tune_185 ⟨Nat.zero_le _, Nat.zero_le _⟩) hS (by decide) (fun H locs hW hS oq hB2 => ?_)
        exact w2 _ _ _ (J188 _ _ _ v86_5 hW hS (lv_sub hl [1, 2, 3, 4, 0, 5] rfl) rv173_1 rv173_2 rv173_3 (ir_w (lo' := -1) (hi' := 6) rv173_5 (by decide) (by decide)) rv173_5)
      refine w1 _ _ _ ?_
      refine lv_iload hx hb dX10_tune_86 (lv_at hl 5 rfl) ?_
      refine lv_bipush (v := 7) hx hb dX10_tune_88 (by decide) ?_
      refine lv_icmp_ge (tgt := 194) hx hb dX10_tune_90 (by decide) (fun c90 => ?_) (fun c90 => ?_)
      · have rv86_5_90 : ir v86_5 7 7 := ⟨Int.le_trans (by decide) (rf_le c90 (ir_c (7) (by decide) : ir (7 : Int32) (7) (7)) rv86_5).2, (rv86_5).2⟩
        refine lv_iload hx hb dX10_tune_194 (lv_at hl 4 rfl) ?_
        refine lv_iconst (v := -1) hx hb dX10_tune_196 (by decide) ?_
        refine lv_icmp_eq (tgt := 237) hx hb dX10_tune_197 (by decide) (fun c197 => ?_) (fun c197 => ?_)
        · have rv86_4_197 : ir v86_4 (-1) (-1) := rf_eq c197 (ir_c (-1) (by decide) : ir (-1 : Int32) (-1) (-1))
          refine lv_iload hx hb dX10_tune_237 (lv_at hl 4 rfl) ?_
          exact W.iret (v := v86_4) hx hb hr (fun t ht _ => ⟨⟨v86_4, (), rfl, trivial, cW_at ht hW⟩, hS.F ht⟩) hS.2.2 dX10_tune_239
        · have rv86_4_197 : ir v86_4 0 6 := rf_nel c197 rv86_4 (by decide) (by decide)
          refine lv_aload_n hx hb dX10_tune_200 rfl (lv_at hl 0 rfl) ?_
          refine wt_get hx hb hts cfX10 hown hK hW (cg10 k0) rfl 2 (by decide) q295 dX10_tune_201 (fun v hv => ?_)
          obtain ⟨x201, rfl, k201⟩ : gr N 1 v := hv
          refine lv_aload_n hx hb dX10_tune_204 rfl (lv_at hl 0 rfl) ?_
          refine wt_get hx hb hts cfX10 hown hK hW (cg10 k0) rfl 1 (by decide) q294 dX10_tune_205 (fun v hv => ?_)
          obtain ⟨x205, rfl, k205⟩ : gr N 3 v := hv
          refine lv_iconst (v := 0) hx hb dX10_tune_208 (by decide) ?_
          refine cc_v (wt_runV (As := [.ref x205, .int (0 : Int32)]) (rest := []) ⟨hx, hb, hml, hown, hts⟩ (m_X1_keep l N x201 k201 x205 k205 (0 : Int32) (ir_w (lo' := 0) (hi' := 1) (ir_c (0) (by decide) : ir (0 : Int32) (0) (0)) (by decide) (by decide))) wm_X1_keep q416 ⟨rfl, rfl⟩ ⟨Nat.le_of_ble_eq_true rfl, Nat.le_of_ble_eq_true rfl⟩ (cS_preV hK hW hT hnn hS (cg1 k201) rfl rfl trivial) rfl hl.1 rfl (Nat.le_of_ble_eq_true rfl) dX10_tune_209 ⟨Nat.zero_le _, Nat.zero_le _⟩) hS (by decide) (fun H locs hW hS oq hB2 => ?_)
          refine lv_aload_n hx hb dX10_tune_212 rfl (lv_at hl 0 rfl) ?_
          refine wt_get hx hb hts cfX10 hown hK hW (cg10 k0) rfl 1 (by decide) q294 dX10_tune_213 (fun v hv => ?_)
          obtain ⟨x213, rfl, k213⟩ : gr N 3 v := hv
          refine wt_getN hx hb hts cfX3 hown hK hW (cg3 k213) rfl 0 (by decide) hnn q41 dX10_tune_216 (fun v hv => ?_)
          obtain ⟨x216, rfl, k216⟩ : gr N 20 v := hv
          refine lv_iload_n hx hb dX10_tune_219 rfl (lv_at hl 1 rfl) ?_
          refine lv_iload_n hx hb dX10_tune_220 rfl (lv_at hl 3 rfl) ?_
          refine va_gets hx hb hZ_THICK_P (hS.up cE_cA) hown (hts _ q789) (fun _ h9 => h9) dX10_tune_221 ?_
          refine lv_iload hx hb dX10_tune_224 (lv_at hl 4 rfl) ?_
          refine va_ti hx hb hT_THICK_P (hS.up cE_cA) (ir_in rv86_4_197 (by decide) (by decide)) rfl dX10_tune_226 ?_
          refine lv_topi (fun x226 e226 => ?_)
          have r226 : ir x226 1 3 := by rw [e226]; exact tkP_r (ir_in rv86_4_197 (by decide) (by decide))
          refine va_gets hx hb hZ_THICK_Q (hS.up cE_cA) hown (hts _ q790) (fun _ h9 => h9) dX10_tune_227 ?_
          refine lv_iload hx hb dX10_tune_230 (lv_at hl 4 rfl) ?_
          refine va_ti hx hb hT_THICK_Q (hS.up cE_cA) (ir_in rv86_4_197 (by decide) (by decide)) rfl dX10_tune_232 ?_
          refine lv_topi (fun x232 e232 => ?_)
          have r232 : ir x232 1 3 := by rw [e232]; exact tkQ_r (ir_in rv86_4_197 (by decide) (by decide))
          refine cp_i (wt_runS (As := [.int v86_3, .int x226, .int x232]) (rest := [.int p1, .ref x216]) ⟨hx, hb, hml, hown, hts⟩ (m_X10_codeOf l v86_3 rv86_3 x226 (ir_w (lo' := 0) (hi' := 7) r226 (by decide) (by decide)) x232 (ir_w (lo' := 0) (hi' := 7) r232 (by decide) (by decide))) wm_X10_codeOf q496 ⟨rfl, rfl⟩ ⟨Nat.le_of_ble_eq_true rfl, Nat.le_of_ble_eq_true rfl⟩ pS_pre rfl hl.1 rfl (Nat.le_of_ble_eq_true rfl) dX10_tune_233 ⟨Nat.zero_le _, Nat.zero_le _⟩) hW hS (fun x233 H locs hp hW hS oq => ?_)
          have r233 : ir x233 0 383 := hp
          refine wt_iastp hx hb hK hW hS 0 (cg20 k216) (ce k216 (by decide)) rfl (ir_in rv86_1 (by decide) (by decide)) (gi_mk r233) dX10_tune_236 (fun H locs hW hS oq => ?_)
          refine lv_iload hx hb dX10_tune_237 (lv_at hl 4 rfl) ?_
          exact W.iret (v := v86_4) hx hb hr (fun t ht _ => ⟨⟨v86_4, (), rfl, trivial, cW_at ht hW⟩, hS.F ht⟩) hS.2.2 dX10_tune_239
      · have rv86_5_90 : ir v86_5 0 6 := ⟨(rv86_5).1, Int.le_trans (rf_lt (rf_nle c90) rv86_5 (ir_c (7) (by decide) : ir (7 : Int32) (7) (7))).1 (by decide)⟩
        refine lv_aload_n hx hb dX10_tune_93 rfl (lv_at hl 0 rfl) ?_
        refine wt_get hx hb hts cfX10 hown hK hW (cg10 k0) rfl 4 (by decide) q297 dX10_tune_94 (fun v hv => ?_)
        obtain ⟨x94, rfl, k94⟩ : gr N 6 v := hv
        refine lv_iload_n hx hb dX10_tune_97 rfl (lv_at hl 2 rfl) ?_
        refine lv_iconst (v := 1) hx hb dX10_tune_98 (by decide) ?_
        refine lv_isub hx hb dX10_tune_99 ?_
        refine lv_topi (fun x99 e99 => ?_)
        have t99 : x99.toInt = p2.toInt - (1) := it_sub e99 rv86_2 (ir_c (1) (by decide) : ir (1 : Int32) (1) (1)) (by decide) (by decide)
        have r99 : ir x99 0 3 := ir_w (ir_sub e99 rv86_2 (ir_c (1) (by decide) : ir (1 : Int32) (1) (1)) (by decide) (by decide)) (by decide) (by decide)
        refine lv_iload_n hx hb dX10_tune_100 rfl (lv_at hl 3 rfl) ?_
        refine lv_bipush (v := 7) hx hb dX10_tune_101 (by decide) ?_
        refine lv_imul hx hb dX10_tune_103 ?_
        refine lv_topi (fun x103 e103 => ?_)
        have r103 : ir x103 0 35 := ir_w (it_mul e103 rv86_3 (ir_c (7) (by decide) : ir (7 : Int32) (7) (7)) (by decide) (by decide) (by decide)).2 (by decide) (by decide)
        refine lv_iload hx hb dX10_tune_104 (lv_at hl 5 rfl) ?_
        refine lv_iadd hx hb dX10_tune_106 ?_
        refine lv_topi (fun x106 e106 => ?_)
        have t106 : x106.toInt = x103.toInt + v86_5.toInt := it_add e106 r103 rv86_5_90 (by decide) (by decide)
        have r106 : ir x106 0 41 := ir_w (ir_add e106 r103 rv86_5_90 (by decide) (by decide)) (by decide) (by decide)
        refine cc_r (wt_runV (As := [.int x99, .int x106]) (rest := []) ⟨hx, hb, hml, hown, hts⟩ (m_X6_matrixOf l N x94 k94 x99 r99 x106 r106) wm_X6_matrixOf q799 ⟨rfl, rfl⟩ ⟨Nat.le_of_ble_eq_true rfl, Nat.le_of_ble_eq_true rfl⟩ (cS_preV hK hW hT hnn hS (cg6 k94) rfl rfl trivial) rfl hl.1 rfl (Nat.le_of_ble_eq_true rfl) dX10_tune_107 ⟨Nat.zero_le _, Nat.zero_le _⟩) hS (by decide) (fun x107 H locs k107 hW hS oq => ?_)
        refine lv_astore (lv' := [(6, .ref x107), (0, .ref h0), (1, .int p1), (2, .int p2), (3, .int v86_3), (4, .int v86_4), (5, .int v86_5)]) hx hb dX10_tune_110 hl (by decide) rfl (fun ls hl => ?_)
        refine lv_aload_n hx hb dX10_tune_112 rfl (lv_at hl 1 rfl) ?_
        refine wt_get hx hb hts cfX10 hown hK hW (cg10 k0) rfl 6 (by decide) q299 dX10_tune_113 (fun v hv => ?_)
        obtain ⟨x113, rfl, k113⟩ : gr N 31 v := hv
        refine lv_iconst (v := 0) hx hb dX10_tune_116 (by decide) ?_
        refine wt_aald hx hb hK hW 3 (cg31 k113) rfl (ir_in (ir_w (lo' := 0) (hi' := 3) (ir_c (0) (by decide) : ir (0 : Int32) (0) (0)) (by decide) (by decide)) (by decide) (by decide)) dX10_tune_117 (fun v hv => ?_)
        obtain ⟨x117, rfl, k117⟩ : gr N 2 v := hv
        refine lv_iload_n hx hb dX10_tune_118 rfl (lv_at hl 2 rfl) ?_
        refine lv_aload hx hb dX10_tune_119 (lv_at hl 0 rfl) ?_
        refine lv_iload_n hx hb dX10_tune_121 rfl (lv_at hl 2 rfl) ?_
        refine lv_iconst (v := 1) hx hb dX10_tune_122 (by decide) ?_
        refine lv_iadd hx hb dX10_tune_123 ?_
        refine lv_topi (fun x123 e123 => ?_)
        have t123 : x123.toInt = p1.toInt + (1) := it_add e123 rv86_1 (ir_c (1) (by decide) : ir (1 : Int32) (1) (1)) (by decide) (by decide)
        have r123 : ir x123 1 24 := ir_w (ir_add e123 rv86_1 (ir_c (1) (by decide) : ir (1 : Int32) (1) (1)) (by decide) (by decide)) (by decide) (by decide)
        refine cc_r (wt_runV (As := [.int p1, .ref x107, .int x123]) (rest := []) ⟨hx, hb, hml, hown, hts⟩ (m_X2_changed l N x117 k117 p1 (ir_w (lo' := 0) (hi' := 24) rv86_1 (by decide) (by decide)) x107 k107 x123 (ir_w (lo' := 0) (hi' := 25) r123 (by decide) (by decide))) wm_X2_changed q727 ⟨rfl, rfl⟩ ⟨Nat.le_of_ble_eq_true rfl, Nat.le_of_ble_eq_true rfl⟩ (cS_preV hK hW hT hnn hS (cg2 k117) rfl rfl trivial) rfl hl.1 rfl (Nat.le_of_ble_eq_true rfl) dX10_tune_124 ⟨Nat.zero_le _, Nat.zero_le _⟩) hS (by decide) (fun x124 H locs k124 hW hS oq => ?_)
        refine lv_astore (lv' := [(7, .ref x124), (6, .ref x107), (0, .ref h0), (1, .int p1), (2, .int p2), (3, .int v86_3), (4, .int v86_4), (5, .int v86_5)]) hx hb dX10_tune_127 hl (by decide) rfl (fun ls hl => ?_)
        refine lv_aload hx hb dX10_tune_129 (lv_at hl 0 rfl) ?_
        refine wt_getp hx hb hts cfX4 hown hK hW (cg4 k124) rfl 4 (by decide) (Or.inr ⟨_, lw_n_use hnn q197⟩) dX10_tune_131 (fun v hv nx124_4 => ?_)
        obtain ⟨x131, rfl, r131⟩ : gi 0 1 v := hv
        refine lv_if_eq (tgt := 140) hx hb dX10_tune_134 (by decide) (fun c134 => ?_) (fun c134 => ?_)
        · have rx131_134 : ir x131 0 0 := rf_eq c134 (ir_c (0) (by decide) : ir (0 : Int32) (0) (0))
          refine lv_aload_n hx hb dX10_tune_140 rfl (lv_at hl 2 rfl) ?_
          refine wt_get hx hb hts cfX10 hown hK hW (cg10 k0) rfl 3 (by decide) q296 dX10_tune_141 (fun v hv => ?_)
          obtain ⟨x141, rfl, k141⟩ : gr N 5 v := hv
          refine lv_aload hx hb dX10_tune_144 (lv_at hl 0 rfl) ?_
          refine lv_aload_n hx hb dX10_tune_146 rfl (lv_at hl 2 rfl) ?_
          refine wt_get hx hb hts cfX10 hown hK hW (cg10 k0) rfl 9 (by decide) q302 dX10_tune_147 (fun v hv => ?_)
          obtain ⟨x147, rfl, k147⟩ : gr N 0 v := hv
          refine cc_v (wt_runV (As := [.ref x124, .ref x147]) (rest := []) ⟨hx, hb, hml, hown, hts⟩ (m_X5_measureBack l N x141 k141 x124 k124 x147 k147) wm_X5_measureBack q599 ⟨rfl, rfl⟩ ⟨Nat.le_of_ble_eq_true rfl, Nat.le_of_ble_eq_true rfl⟩ (cS_preV hK hW hT hnn hS (cg5 k141) rfl rfl trivial) rfl hl.1 rfl (Nat.le_of_ble_eq_true rfl) dX10_tune_150 ⟨Nat.zero_le _, Nat.zero_le _⟩) hS (by decide) (fun H locs hW hS oq hB2 => ?_)
          have nx124_4 := nx124_4.kept (oq _ nx124_4.lt (cE_not k124 (by decide)))
          refine lv_iload hx hb dX10_tune_153 (lv_at hl 6 rfl) ?_
          refine lv_iconst (v := -1) hx hb dX10_tune_155 (by decide) ?_
          refine lv_icmp_eq (tgt := 173) hx hb dX10_tune_156 (by decide) (fun c156 => ?_) (fun c156 => ?_)
          · have rv86_4_156 : ir v86_4 (-1) (-1) := rf_eq c156 (ir_c (-1) (by decide) : ir (-1 : Int32) (-1) (-1))
            exact w2 _ _ _ (J173 _ _ _  hW hS (lv_sub hl [2, 3, 4, 5, 7] rfl) rv86_1 rv86_2 rv86_3 rv86_5_90)
          · have rv86_4_156 : ir v86_4 0 6 := rf_nel c156 rv86_4 (by decide) (by decide)
            refine lv_aload_n hx hb dX10_tune_159 rfl (lv_at hl 2 rfl) ?_
            refine wt_get hx hb hts cfX10 hown hK hW (cg10 k0) rfl 9 (by decide) q302 dX10_tune_160 (fun v hv => ?_)
            obtain ⟨x160, rfl, k160⟩ : gr N 0 v := hv
            refine lv_aload_n hx hb dX10_tune_163 rfl (lv_at hl 2 rfl) ?_
            refine wt_get hx hb hts cfX10 hown hK hW (cg10 k0) rfl 10 (by decide) q303 dX10_tune_164 (fun v hv => ?_)
            obtain ⟨x164, rfl, k164⟩ : gr N 0 v := hv
            refine cc_i (wt_runV (As := [.ref x164]) (rest := []) ⟨hx, hb, hml, hown, hts⟩ (m_X0_compareWith l N x160 k160 x164 k164) wm_X0_compareWith q660 ⟨rfl, rfl⟩ ⟨Nat.le_of_ble_eq_true rfl, Nat.le_of_ble_eq_true rfl⟩ (cS_preV hK hW hT hnn hS (cg0 k160) rfl rfl trivial) rfl hl.1 rfl (Nat.le_of_ble_eq_true rfl) dX10_tune_167 ⟨Nat.zero_le _, Nat.zero_le _⟩) hS (by decide) (fun x167 H locs hp hW hS oq => ?_)
            have nx124_4 := nx124_4.kept (oq _ nx124_4.lt (cE_not k124 (by decide)))
            refine lv_if_ge (tgt := 188) hx hb dX10_tune_170 (by decide) (fun c170 => ?_) (fun c170 => ?_)
            · have rx167_170 : ir x167 0 2147483647 := ⟨Int.le_trans (by decide) (rf_le c170 (ir_c (0) (by decide) : ir (0 : Int32) (0) (0)) (ir_any x167)).2, ((ir_any x167)).2⟩
              exact w2 _ _ _ (J188 _ _ _ v86_4 hW hS (lv_sub hl [2, 3, 4, 5, 6, 7] rfl) rv86_1 rv86_2 rv86_3 (ir_w (lo' := -1) (hi' := 6) rv86_4_156 (by decide) (by decide)) rv86_5_90)
            · have rx167_170 : ir x167 (-2147483648) (-1) := ⟨((ir_any x167)).1, Int.le_trans (rf_lt (rf_nle c170) (ir_any x167) (ir_c (0) (by decide) : ir (0 : Int32) (0) (0))).1 (by decide)⟩
              exact w2 _ _ _ (J173 _ _ _  hW hS (lv_sub hl [2, 3, 4, 5, 7] rfl) rv86_1 rv86_2 rv86_3 rv86_5_90)
        · have rx131_134 : ir x131 1 1 := rf_ne0 c134 r131
          refine lv_goto (tgt := 188) hx hb dX10_tune_137 (by decide) ?_
          exact w2 _ _ _ (J188 _ _ _ v86_4 hW hS (lv_sub hl [2, 3, 4, 5, 6, 7] rfl) rv86_1 rv86_2 rv86_3 rv86_4 rv86_5_90)
  refine lv_aload_n hx hb dX10_tune_0 rfl (lv_at hl 0 rfl) ?_
  refine wt_get hx hb hts cfX10 hown hK hW (cg10 k0) rfl 1 (by decide) q294 dX10_tune_1 (fun v hv => ?_)
  obtain ⟨x1, rfl, k1⟩ : gr N 3 v := hv
  refine lv_iload_n hx hb dX10_tune_4 rfl (lv_at hl 1 rfl) ?_
  obtain ⟨v, hv, nx1_1⟩ := cpin hW (cg3 k1) rfl 1 (by decide)
  obtain ⟨x5_1, rfl, r5_1⟩ : gi 0 24 v := hv
  refine cc_i (wt_runV (As := [.int p1]) (rest := []) ⟨hx, hb, hml, hown, hts⟩ (m_X3_has l N x1 k1 p1 x5_1) wm_X3_has q464 ⟨rfl, rfl⟩ ⟨Nat.le_of_ble_eq_true rfl, Nat.le_of_ble_eq_true rfl⟩ (cS_preV hK hW hT hnn hS (cg3 k1) rfl rfl nx1_1) rfl hl.1 rfl (Nat.le_of_ble_eq_true rfl) dX10_tune_5 ⟨Nat.zero_le _, Nat.zero_le _⟩) hS (by decide) (fun x5 H locs hp hW hS oq => ?_)
  have nx1_1 := nx1_1.kept (oq _ nx1_1.lt (cE_not k1 (by decide)))
  obtain ⟨r5, b5⟩ := hp
  refine lv_if_eq (tgt := 18) hx hb dX10_tune_8 (by decide) (fun c8 => ?_) (fun c8 => ?_)
  · have rx5_8 : ir x5 0 0 := rf_eq c8 (ir_c (0) (by decide) : ir (0 : Int32) (0) (0))
    refine lv_bipush (v := -2) hx hb dX10_tune_18 (by decide) ?_
    exact W.iret (v := (-2 : Int32)) hx hb hr (fun t ht _ => ⟨⟨(-2 : Int32), (), rfl, trivial, cW_at ht hW⟩, hS.F ht⟩) hS.2.2 dX10_tune_20
  · have rx5_8 : ir x5 1 1 := rf_ne0 c8 r5
    have bx5_8 := b5 c8
    have rx5_1_8_1 : ir x5_1 1 24 := ⟨Int.le_trans (by decide) (rf_lt bx5_8.2 bx5_8.1 r5_1).2, (r5_1).2⟩
    refine lv_iload_n hx hb dX10_tune_11 rfl (lv_at hl 2 rfl) ?_
    refine cp_i (wt_runS (As := [.int p2]) (rest := []) ⟨hx, hb, hml, hown, hts⟩ (m_X10_isMark l p2) wm_X10_isMark q539 ⟨rfl, rfl⟩ ⟨Nat.le_of_ble_eq_true rfl, Nat.le_of_ble_eq_true rfl⟩ pS_pre rfl hl.1 rfl (Nat.le_of_ble_eq_true rfl) dX10_tune_12 ⟨Nat.zero_le _, Nat.zero_le _⟩) hW hS (fun x12 H locs hp hW hS oq => ?_)
    have nx1_1 := nx1_1.kept (oq _ nx1_1.lt (cE_not k1 (by decide)))
    obtain ⟨r12, b12⟩ := hp
    refine lv_if_ne (tgt := 21) hx hb dX10_tune_15 (by decide) (fun c15 => ?_) (fun c15 => ?_)
    · have rx12_15 : ir x12 1 1 := rf_ne0 c15 r12
      have bx12_15 := b12 c15
      refine lv_aload_n hx hb dX10_tune_21 rfl (lv_at hl 0 rfl) ?_
      refine wt_get hx hb hts cfX10 hown hK hW (cg10 k0) rfl 1 (by decide) q294 dX10_tune_22 (fun v hv => ?_)
      obtain ⟨x22, rfl, k22⟩ : gr N 3 v := hv
      refine wt_getN hx hb hts cfX3 hown hK hW (cg3 k22) rfl 0 (by decide) hnn q41 dX10_tune_25 (fun v hv => ?_)
      obtain ⟨x25, rfl, k25⟩ : gr N 20 v := hv
      refine lv_iload_n hx hb dX10_tune_28 rfl (lv_at hl 1 rfl) ?_
      refine wt_iald hx hb hK hW 0 (cg20 k25) rfl (ir_in bx5_8.1 (by decide) (by decide)) dX10_tune_29 (fun v hv => ?_)
      obtain ⟨x29, rfl, r29⟩ : gi 0 383 v := hv
      refine cp_i (wt_runS (As := [.int x29]) (rest := []) ⟨hx, hb, hml, hown, hts⟩ (m_X10_materialOf l x29 r29) wm_X10_materialOf q468 ⟨rfl, rfl⟩ ⟨Nat.le_of_ble_eq_true rfl, Nat.le_of_ble_eq_true rfl⟩ pS_pre rfl hl.1 rfl (Nat.le_of_ble_eq_true rfl) dX10_tune_30 ⟨Nat.zero_le _, Nat.zero_le _⟩) hW hS (fun x30 H locs hp hW hS oq => ?_)
      have nx1_1 := nx1_1.kept (oq _ nx1_1.lt (cE_not k1 (by decide)))
      have r30 : ir x30 0 5 := hp
      refine lv_istore_n (lv' := [(3, .int x30), (0, .ref h0), (1, .int p1), (2, .int p2)]) hx hb dX10_tune_33 rfl hl (by decide) rfl (fun ls hl => ?_)
      refine lv_aload_n hx hb dX10_tune_34 rfl (lv_at hl 1 rfl) ?_
      refine wt_get hx hb hts cfX10 hown hK hW (cg10 k0) rfl 4 (by decide) q297 dX10_tune_35 (fun v hv => ?_)
      obtain ⟨x35, rfl, k35⟩ : gr N 6 v := hv
      refine lv_aload_n hx hb dX10_tune_38 rfl (lv_at hl 1 rfl) ?_
      refine wt_get hx hb hts cfX10 hown hK hW (cg10 k0) rfl 3 (by decide) q296 dX10_tune_39 (fun v hv => ?_)
      obtain ⟨x39, rfl, k39⟩ : gr N 5 v := hv
      refine lv_iconst (v := 1) hx hb dX10_tune_42 (by decide) ?_
      refine lv_iload_n hx hb dX10_tune_43 rfl (lv_at hl 3 rfl) ?_
      refine lv_iconst (v := 1) hx hb dX10_tune_44 (by decide) ?_
      refine lv_isub hx hb dX10_tune_45 ?_
      refine lv_topi (fun x45 e45 => ?_)
      have t45 : x45.toInt = p2.toInt - (1) := it_sub e45 bx12_15 (ir_c (1) (by decide) : ir (1 : Int32) (1) (1)) (by decide) (by decide)
      have r45 : ir x45 0 3 := ir_w (ir_sub e45 bx12_15 (ir_c (1) (by decide) : ir (1 : Int32) (1) (1)) (by decide) (by decide)) (by decide) (by decide)
      refine lv_ishl hx hb dX10_tune_46 ?_
      refine lv_topi (fun x46 e46 => ?_)
      refine lv_iconst (v := 1) hx hb dX10_tune_47 (by decide) ?_
      refine lv_iload_n hx hb dX10_tune_48 rfl (lv_at hl 0 rfl) ?_
      refine lv_ishl hx hb dX10_tune_49 ?_
      refine lv_topi (fun x49 e49 => ?_)
      refine lv_bipush (v := 127) hx hb dX10_tune_50 (by decide) ?_
      refine cc_v (wt_runV (As := [.ref x39, .int x46, .int x49, .int (127 : Int32)]) (rest := []) ⟨hx, hb, hml, hown, hts⟩ (m_X6_prepare l N x35 k35 x39 k39 x46 x49 (127 : Int32)) wm_X6_prepare q742 ⟨rfl, rfl⟩ ⟨Nat.le_of_ble_eq_true rfl, Nat.le_of_ble_eq_true rfl⟩ (cS_preV hK hW hT hnn hS (cg6 k35) rfl rfl trivial) rfl hl.1 rfl (Nat.le_of_ble_eq_true rfl) dX10_tune_52 ⟨Nat.zero_le _, Nat.zero_le _⟩) hS (by decide) (fun H locs hW hS oq hB2 => ?_)
      have nx1_1 := nx1_1.kept (oq _ nx1_1.lt (cE_not k1 (by decide)))
      refine lv_aload_n hx hb dX10_tune_55 rfl (lv_at hl 1 rfl) ?_
      refine wt_get hx hb hts cfX10 hown hK hW (cg10 k0) rfl 6 (by decide) q299 dX10_tune_56 (fun v hv => ?_)
      obtain ⟨x56, rfl, k56⟩ : gr N 31 v := hv
      refine lv_iconst (v := 0) hx hb dX10_tune_59 (by decide) ?_
      refine wt_aald hx hb hK hW 3 (cg31 k56) rfl (ir_in (ir_w (lo' := 0) (hi' := 3) (ir_c (0) (by decide) : ir (0 : Int32) (0) (0)) (by decide) (by decide)) (by decide) (by decide)) dX10_tune_60 (fun v hv => ?_)
      obtain ⟨x60, rfl, k60⟩ : gr N 2 v := hv
      refine lv_aload_n hx hb dX10_tune_61 rfl (lv_at hl 1 rfl) ?_
      refine wt_get hx hb hts cfX10 hown hK hW (cg10 k0) rfl 1 (by decide) q294 dX10_tune_62 (fun v hv => ?_)
      obtain ⟨x62, rfl, k62⟩ : gr N 3 v := hv
      refine lv_aload_n hx hb dX10_tune_65 rfl (lv_at hl 1 rfl) ?_
      refine wt_get hx hb hts cfX10 hown hK hW (cg10 k0) rfl 3 (by decide) q296 dX10_tune_66 (fun v hv => ?_)
      obtain ⟨x66, rfl, k66⟩ : gr N 5 v := hv
      refine lv_iload_n hx hb dX10_tune_69 rfl (lv_at hl 3 rfl) ?_
      refine lv_aload_n hx hb dX10_tune_70 rfl (lv_at hl 1 rfl) ?_
      refine wt_get hx hb hts cfX10 hown hK hW (cg10 k0) rfl 1 (by decide) q294 dX10_tune_71 (fun v hv => ?_)
      obtain ⟨x71, rfl, k71⟩ : gr N 3 v := hv
      refine wt_getp hx hb hts cfX3 hown hK hW (cg3 k71) rfl 1 (by decide) (Or.inr ⟨_, lw_n_use hnn q46⟩) dX10_tune_74 (fun v hv nx71_1 => ?_)
      obtain ⟨x74, rfl, r74⟩ : gi 0 24 v := hv
      refine cc_v (wt_runV (As := [.ref x62, .ref x66, .int p2, .int x74]) (rest := []) ⟨hx, hb, hml, hown, hts⟩ (m_X2_climb l N x60 k60 x62 k62 x66 k66 p2 bx12_15 x74) wm_X2_climb q547 ⟨rfl, rfl⟩ ⟨Nat.le_of_ble_eq_true rfl, Nat.le_of_ble_eq_true rfl⟩ (cS_preV hK hW hT hnn hS (cg2 k60) rfl rfl trivial) rfl hl.1 rfl (Nat.le_of_ble_eq_true rfl) dX10_tune_77 ⟨Nat.zero_le _, Nat.zero_le _⟩) hS (by decide) (fun H locs hW hS oq hB2 => ?_)
      have nx1_1 := nx1_1.kept (oq _ nx1_1.lt (cE_not k1 (by decide)))
      have nx71_1 := nx71_1.kept (oq _ nx71_1.lt (cE_not k71 (by decide)))
      refine lv_iconst (v := -1) hx hb dX10_tune_80 (by decide) ?_
      refine lv_istore (lv' := [(4, .int (-1 : Int32)), (3, .int x30), (0, .ref h0), (1, .int p1), (2, .int p2)]) hx hb dX10_tune_81 hl (by decide) rfl (fun ls hl => ?_)
      refine lv_iconst (v := 0) hx hb dX10_tune_83 (by decide) ?_
      refine lv_istore (lv' := [(5, .int (0 : Int32)), (4, .int (-1 : Int32)), (3, .int x30), (0, .ref h0), (1, .int p1), (2, .int p2)]) hx hb dX10_tune_84 hl (by decide) rfl (fun ls hl => ?_)
      exact w2 _ _ _ (L86 8 _ _ _ x30 (-1 : Int32) (0 : Int32) hW hS (lv_sub hl [3, 4, 5, 2, 1, 0] rfl) bx5_8.1 bx12_15 r30 (ir_w (lo' := -1) (hi' := 6) (ir_c (-1) (by decide) : ir (-1 : Int32) (-1) (-1)) (by decide) (by decide)) (ir_w (lo' := 0) (hi' := 7) (ir_c (0) (by decide) : ir (0 : Int32) (0) (0)) (by decide) (by decide)) (by have h9 := (ir_c (0) (by decide) : ir (0 : Int32) (0) (0)); omega))
    · have rx12_15 : ir x12 0 0 := rf_eq c15 (ir_c (0) (by decide) : ir (0 : Int32) (0) (0))
      refine lv_bipush (v := -2) hx hb dX10_tune_18 (by decide) ?_
      exact W.iret (v := (-2 : Int32)) hx hb hr (fun t ht _ => ⟨⟨(-2 : Int32), (), rfl, trivial, cW_at ht hW⟩, hS.F ht⟩) hS.2.2 dX10_tune_20
set_option maxHeartbeats 4000000 in
set_option maxRecDepth 100000 in
theorem m_X10_period (l : Launch) (N : c_N) (h0 : Nat) (k0 : N.2.2.1 h0 = some 10) (p1 : Int32) : cMi l yX10_period cX10_period 3 .int { frames := 1, cells := 0, slots := 0, locals := 22 } [.ref h0, .int p1] N [] cT0 (fun _ => True) := by
  refine Met.ofW (cc := cX10_period) (maxL := 3) (ret := some .int) (by decide) rfl ?_
  intro p e s m args below meth c s₁ B hml hv
  obtain ⟨rfl, ⟨hK, hW, hT, hnn⟩, hB⟩ := hv
  have hx := B.exec
  have hb := B.bytes
  have hr := B.returns
  have hts : ∀ w ∈ lw_g, w.before _ s = true := fun w h => atoms_spec (ws := wc_ws yX10_period cX10_period 3 (some .int)) B.pre w (List.mem_cons_of_mem _ h)
  have hown : s.vm.findClass RX10 = some m.cls := findClass_of_methodNamed B.named
  have hlocks := B.notSynchronized
  have hS : va_S (cE N []) s.heap s.heap [] := va_S.rf
  have hl := lv_entry ([.ref h0, .int p1]) (n := 3) (Nat.le_of_ble_eq_true rfl)
  rw [lg_entry_eq]
  generalize (lg_sl ([.ref h0, .int p1]) ++ List.replicate (3 - (lg_sl ([.ref h0, .int p1])).length) Slot.unset).toArray = ls at hl ⊢
  have hl : lv_has ls 3 [(0, .ref h0), (1, .int p1)] := hl
  refine wq_all ?_
  intro WW w1 w2
  have L13 : ∀ (n : Nat) (H : Heap) (locs : List Loc) (ls : Array Slot) (v13_2 : Int32), cW N H → va_S (cE N []) s.heap H locs → lv_has ls 3 [(0, .ref h0), (1, .int p1), (2, .int v13_2)] → ir p1 0 1 → ir v13_2 1 25 → 25 - v13_2.toInt < (n : Int) → WW H locs (F0 m 13 ls []) := by
    intro n
    induction n with
    | zero =>
      intro H locs ls v13_2 hW hS hl rv13_1 rv13_2 mu13
      exfalso
      omega
    | succ n ih13 =>
      intro H locs ls v13_2 hW hS hl rv13_1 rv13_2 mu13
      have J65 : ∀ (H : Heap) (locs : List Loc) (ls : Array Slot) , cW N H → va_S (cE N []) s.heap H locs → lv_has ls 3 [(0, .ref h0), (1, .int p1), (2, .int v13_2)] → ir p1 0 1 → ir v13_2 1 24 → WW H locs (F0 m 65 ls []) := by
        intro H locs ls  hW hS hl rv65_1 rv65_2
        refine w1 _ _ _ ?_
        obtain ⟨x65, e65⟩ : ∃ y : Int32, y = v13_2 + 1 := ⟨_, rfl⟩
        have r65 : ir x65 2 25 := ir_w (ir_add e65 rv65_2 (ir_c (1) (by decide) : ir (1 : Int32) (1) (1)) (by decide) (by decide)) (by decide) (by decide)
        have t65 : x65.toInt = v13_2.toInt + (1) := it_add e65 rv65_2 (ir_c (1) (by decide) : ir (1 : Int32) (1) (1)) (by decide) (by decide)
        refine lv_iinc (v := x65) (lv' := [(2, .int x65), (0, .ref h0), (1, .int p1)]) hx hb dX10_period_65 hl (k := 2) rfl (by rw [e65]; rfl) (by decide) rfl (fun ls hl => ?_)
        refine lv_goto (tgt := 13) hx hb dX10_period_68 (by decide) ?_
        exact w2 _ _ _ (ih13 _ _ _ x65 hW hS (lv_sub hl [1, 2, 0] rfl) rv65_1 (ir_w (lo' := 1) (hi' := 25) r65 (by decide) (by decide)) (by have h9 := r65; omega))
      refine w1 _ _ _ ?_
      refine lv_iload_n hx hb dX10_period_13 rfl (lv_at hl 2 rfl) ?_
      refine lv_aload_n hx hb dX10_period_14 rfl (lv_at hl 0 rfl) ?_
      refine wt_get hx hb hts cfX10 hown hK hW (cg10 k0) rfl 1 (by decide) q294 dX10_period_15 (fun v hv => ?_)
      obtain ⟨x15, rfl, k15⟩ : gr N 3 v := hv
      refine wt_getp hx hb hts cfX3 hown hK hW (cg3 k15) rfl 1 (by decide) (Or.inr ⟨_, lw_n_use hnn q46⟩) dX10_period_18 (fun v hv nx15_1 => ?_)
      obtain ⟨x18, rfl, r18⟩ : gi 0 24 v := hv
      refine lv_icmp_gt (tgt := 71) hx hb dX10_period_21 (by decide) (fun c21 => ?_) (fun c21 => ?_)
      · refine lv_iconst (v := 0) hx hb dX10_period_71 (by decide) ?_
        exact W.iret (v := (0 : Int32)) hx hb hr (fun t ht _ => ⟨⟨(0 : Int32), (), rfl, trivial, cW_at ht hW⟩, hS.F ht⟩) hS.2.2 dX10_period_72
      · have rv13_2_21 : ir v13_2 1 24 := ⟨(rv13_2).1, Int.le_trans (rf_le (rf_nlt c21) rv13_2 r18).1 (by decide)⟩
        have rx18_21 : ir x18 1 24 := ⟨Int.le_trans (by decide) (rf_le (rf_nlt c21) rv13_2 r18).2, (r18).2⟩
        refine lv_aload_n hx hb dX10_period_24 rfl (lv_at hl 0 rfl) ?_
        refine wt_get hx hb hts cfX10 hown hK hW (cg10 k0) rfl 1 (by decide) q294 dX10_period_25 (fun v hv => ?_)
        obtain ⟨x25, rfl, k25⟩ : gr N 3 v := hv
        refine wt_getp hx hb hts cfX3 hown hK hW (cg3 k25) rfl 1 (by decide) (Or.inr ⟨_, lw_n_use hnn q46⟩) dX10_period_28 (fun v hv nx25_1 => ?_)
        obtain ⟨x28, rfl, r28⟩ : gi 0 24 v := hv
        refine lv_iload_n hx hb dX10_period_31 rfl (lv_at hl 2 rfl) ?_
        refine lv_irem hx hb dX10_period_32 (i_ne0 rv13_2_21 (by decide)) ?_
        refine lv_topi (fun x32 e32 => ?_)
        refine lv_if_ne (tgt := 65) hx hb dX10_period_33 (by decide) (fun c33 => ?_) (fun c33 => ?_)
        · exact w2 _ _ _ (J65 _ _ _  hW hS (lv_sub hl [0, 1, 2] rfl) rv13_1 rv13_2_21)
        · have rx32_33 : ir x32 0 0 := rf_eq c33 (ir_c (0) (by decide) : ir (0 : Int32) (0) (0))
          refine lv_aload_n hx hb dX10_period_36 rfl (lv_at hl 0 rfl) ?_
          refine wt_get hx hb hts cfX10 hown hK hW (cg10 k0) rfl 1 (by decide) q294 dX10_period_37 (fun v hv => ?_)
          obtain ⟨x37, rfl, k37⟩ : gr N 3 v := hv
          refine lv_iload_n hx hb dX10_period_40 rfl (lv_at hl 2 rfl) ?_
          refine cc_i (wt_runV (As := [.int v13_2]) (rest := []) ⟨hx, hb, hml, hown, hts⟩ (m_X3_repeatsAfter l N x37 k37 v13_2 rv13_2_21) wm_X3_repeatsAfter q824 ⟨rfl, rfl⟩ ⟨Nat.le_of_ble_eq_true rfl, Nat.le_of_ble_eq_true rfl⟩ (cS_preV hK hW hT hnn hS (cg3 k37) rfl rfl trivial) rfl hl.1 rfl (Nat.le_of_ble_eq_true rfl) dX10_period_41 ⟨Nat.zero_le _, Nat.zero_le _⟩) hS (by decide) (fun x41 H locs hp hW hS oq => ?_)
          have nx15_1 := nx15_1.kept (oq _ nx15_1.lt (cE_not k15 (by decide)))
          have nx25_1 := nx25_1.kept (oq _ nx25_1.lt (cE_not k25 (by decide)))
          have r41 : ir x41 0 1 := hp
          refine lv_if_eq (tgt := 65) hx hb dX10_period_44 (by decide) (fun c44 => ?_) (fun c44 => ?_)
          · have rx41_44 : ir x41 0 0 := rf_eq c44 (ir_c (0) (by decide) : ir (0 : Int32) (0) (0))
            exact w2 _ _ _ (J65 _ _ _  hW hS (lv_sub hl [0, 1, 2] rfl) rv13_1 rv13_2_21)
          · have rx41_44 : ir x41 1 1 := rf_ne0 c44 r41
            refine lv_iload_n hx hb dX10_period_47 rfl (lv_at hl 1 rfl) ?_
            refine lv_if_ne (tgt := 55) hx hb dX10_period_48 (by decide) (fun c48 => ?_) (fun c48 => ?_)
            · have rp1_48 : ir p1 1 1 := rf_ne0 c48 rv13_1
              refine lv_aload_n hx hb dX10_period_55 rfl (lv_at hl 0 rfl) ?_
              refine wt_get hx hb hts cfX10 hown hK hW (cg10 k0) rfl 1 (by decide) q294 dX10_period_56 (fun v hv => ?_)
              obtain ⟨x56, rfl, k56⟩ : gr N 3 v := hv
              refine wt_getp hx hb hts cfX3 hown hK hW (cg3 k56) rfl 1 (by decide) (Or.inr ⟨_, lw_n_use hnn q46⟩) dX10_period_59 (fun v hv nx56_1 => ?_)
              obtain ⟨x59, rfl, r59⟩ : gi 0 24 v := hv
              refine lv_iload_n hx hb dX10_period_62 rfl (lv_at hl 2 rfl) ?_
              refine lv_idiv hx hb dX10_period_63 (i_ne0 rv13_2_21 (by decide)) ?_
              refine lv_topi (fun x63 e63 => ?_)
              have r63 : ir x63 0 24 := ir_div e63 r59 rv13_2_21 (by decide) (by decide)
              exact W.iret (v := x63) hx hb hr (fun t ht _ => ⟨⟨x63, (), rfl, trivial, cW_at ht hW⟩, hS.F ht⟩) hS.2.2 dX10_period_64
            · have rp1_48 : ir p1 0 0 := rf_eq c48 (ir_c (0) (by decide) : ir (0 : Int32) (0) (0))
              refine lv_iload_n hx hb dX10_period_51 rfl (lv_at hl 2 rfl) ?_
              refine lv_goto (tgt := 64) hx hb dX10_period_52 (by decide) ?_
              exact W.iret (v := v13_2) hx hb hr (fun t ht _ => ⟨⟨v13_2, (), rfl, trivial, cW_at ht hW⟩, hS.F ht⟩) hS.2.2 dX10_period_64
  refine lv_iload_n hx hb dX10_period_0 rfl (lv_at hl 1 rfl) ?_
  refine lv_if_lt (tgt := 9) hx hb dX10_period_1 (by decide) (fun c1 => ?_) (fun c1 => ?_)
  · have rp1_1 : ir p1 (-2147483648) (-1) := ⟨((ir_any p1)).1, Int.le_trans (rf_lt c1 (ir_any p1) (ir_c (0) (by decide) : ir (0 : Int32) (0) (0))).1 (by decide)⟩
    refine lv_iconst (v := -1) hx hb dX10_period_9 (by decide) ?_
    exact W.iret (v := (-1 : Int32)) hx hb hr (fun t ht _ => ⟨⟨(-1 : Int32), (), rfl, trivial, cW_at ht hW⟩, hS.F ht⟩) hS.2.2 dX10_period_10
  · have rp1_1 : ir p1 0 2147483647 := ⟨Int.le_trans (by decide) (rf_le (rf_nlt c1) (ir_c (0) (by decide) : ir (0 : Int32) (0) (0)) (ir_any p1)).2, ((ir_any p1)).2⟩
    refine lv_iload_n hx hb dX10_period_4 rfl (lv_at hl 1 rfl) ?_
    refine lv_iconst (v := 1) hx hb dX10_period_5 (by decide) ?_
    refine lv_icmp_le (tgt := 11) hx hb dX10_period_6 (by decide) (fun c6 => ?_) (fun c6 => ?_)
    · have rp1_6 : ir p1 0 1 := ⟨(rp1_1).1, Int.le_trans (rf_le c6 rp1_1 (ir_c (1) (by decide) : ir (1 : Int32) (1) (1))).1 (by decide)⟩
      refine lv_iconst (v := 1) hx hb dX10_period_11 (by decide) ?_
      refine lv_istore_n (lv' := [(2, .int (1 : Int32)), (0, .ref h0), (1, .int p1)]) hx hb dX10_period_12 rfl hl (by decide) rfl (fun ls hl => ?_)
      exact w2 _ _ _ (L13 25 _ _ _ (1 : Int32) hW hS (lv_sub hl [1, 2, 0] rfl) rp1_6 (ir_w (lo' := 1) (hi' := 25) (ir_c (1) (by decide) : ir (1 : Int32) (1) (1)) (by decide) (by decide)) (by have h9 := (ir_c (1) (by decide) : ir (1 : Int32) (1) (1)); omega))
    · have rp1_6 : ir p1 2 2147483647 := ⟨Int.le_trans (by decide) (rf_lt (rf_nle c6) (ir_c (1) (by decide) : ir (1 : Int32) (1) (1)) rp1_1).2, (rp1_1).2⟩
      refine lv_iconst (v := -1) hx hb dX10_period_9 (by decide) ?_
      exact W.iret (v := (-1 : Int32)) hx hb hr (fun t ht _ => ⟨⟨(-1 : Int32), (), rfl, trivial, cW_at ht hW⟩, hS.F ht⟩) hS.2.2 dX10_period_10
set_option maxHeartbeats 4000000 in
set_option maxRecDepth 100000 in
theorem m_X10_show (l : Launch) (N : c_N) (h0 : Nat) (k0 : N.2.2.1 h0 = some 10) : cMi l yX10_show cX10_show 4 .int { frames := 1, cells := 0, slots := 0, locals := 21 } [.ref h0] N [10, 26] cT0 (fun _ => True) := by
  refine Met.ofW (cc := cX10_show) (maxL := 4) (ret := some .int) (by decide) rfl ?_
  intro p e s m args below meth c s₁ B hml hv
  obtain ⟨rfl, ⟨hK, hW, hT, hnn⟩, hB⟩ := hv
  have hx := B.exec
  have hb := B.bytes
  have hr := B.returns
  have hts : ∀ w ∈ lw_g, w.before _ s = true := fun w h => atoms_spec (ws := wc_ws yX10_show cX10_show 4 (some .int)) B.pre w (List.mem_cons_of_mem _ h)
  have hown : s.vm.findClass RX10 = some m.cls := findClass_of_methodNamed B.named
  have hlocks := B.notSynchronized
  have hS : va_S (cE N [10, 26]) s.heap s.heap [] := va_S.rf
  have hl := lv_entry ([.ref h0]) (n := 4) (Nat.le_of_ble_eq_true rfl)
  rw [lg_entry_eq]
  generalize (lg_sl ([.ref h0]) ++ List.replicate (4 - (lg_sl ([.ref h0])).length) Slot.unset).toArray = ls at hl ⊢
  have hl : lv_has ls 4 [(0, .ref h0)] := hl
  refine wq_all ?_
  intro WW w1 w2
  have L7 : ∀ (n : Nat) (H : Heap) (locs : List Loc) (ls : Array Slot) (v7_1 : Int32), cW N H → va_S (cE N [10, 26]) s.heap H locs → lv_has ls 4 [(0, .ref h0), (1, .int v7_1)] → ir v7_1 0 24 → 24 - v7_1.toInt < (n : Int) → WW H locs (F0 m 7 ls []) := by
    intro n
    induction n with
    | zero =>
      intro H locs ls v7_1 hW hS hl rv7_1 mu7
      exfalso
      omega
    | succ n ih7 =>
      intro H locs ls v7_1 hW hS hl rv7_1 mu7
      have J108 : ∀ (H : Heap) (locs : List Loc) (ls : Array Slot) , cW N H → va_S (cE N [10, 26]) s.heap H locs → lv_has ls 4 [(0, .ref h0), (1, .int v7_1)] → ir v7_1 0 23 → WW H locs (F0 m 108 ls []) := by
        intro H locs ls  hW hS hl rv108_1
        refine w1 _ _ _ ?_
        obtain ⟨x108, e108⟩ : ∃ y : Int32, y = v7_1 + 1 := ⟨_, rfl⟩
        have r108 : ir x108 1 24 := ir_w (ir_add e108 rv108_1 (ir_c (1) (by decide) : ir (1 : Int32) (1) (1)) (by decide) (by decide)) (by decide) (by decide)
        have t108 : x108.toInt = v7_1.toInt + (1) := it_add e108 rv108_1 (ir_c (1) (by decide) : ir (1 : Int32) (1) (1)) (by decide) (by decide)
        refine lv_iinc (v := x108) (lv' := [(1, .int x108), (0, .ref h0)]) hx hb dX10_show_108 hl (k := 1) rfl (by rw [e108]; rfl) (by decide) rfl (fun ls hl => ?_)
        refine lv_goto (tgt := 7) hx hb dX10_show_111 (by decide) ?_
        exact w2 _ _ _ (ih7 _ _ _ x108 hW hS (lv_sub hl [1, 0] rfl) (ir_w (lo' := 0) (hi' := 24) r108 (by decide) (by decide)) (by have h9 := r108; omega))
      have J86 : ∀ (H : Heap) (locs : List Loc) (ls : Array Slot) (v86_2 : Int32) (v86_3 : Int32), cW N H → va_S (cE N [10, 26]) s.heap H locs → lv_has ls 4 [(0, .ref h0), (1, .int v7_1), (2, .int v86_2), (3, .int v86_3)] → ir v7_1 0 23 → ir v86_2 0 7 → ir v86_3 1 7 → WW H locs (F0 m 86 ls []) := by
        intro H locs ls v86_2 v86_3 hW hS hl rv86_1 rv86_2 rv86_3
        refine w1 _ _ _ ?_
        refine lv_aload_n hx hb dX10_show_86 rfl (lv_at hl 0 rfl) ?_
        refine lv_bipush (v := 48) hx hb dX10_show_87 (by decide) ?_
        refine lv_iload_n hx hb dX10_show_89 rfl (lv_at hl 2 rfl) ?_
        refine lv_iadd hx hb dX10_show_90 ?_
        refine lv_topi (fun x90 e90 => ?_)
        have t90 : x90.toInt = (48) + v86_2.toInt := it_add e90 (ir_c (48) (by decide) : ir (48 : Int32) (48) (48)) rv86_2 (by decide) (by decide)
        have r90 : ir x90 48 55 := ir_w (ir_add e90 (ir_c (48) (by decide) : ir (48 : Int32) (48) (48)) rv86_2 (by decide) (by decide)) (by decide) (by decide)
        refine cc_v (wt_runV (As := [.int x90]) (rest := []) ⟨hx, hb, hml, hown, hts⟩ (m_X10_showByte l N h0 k0 x90) wm_X10_showByte q832 ⟨rfl, rfl⟩ ⟨Nat.le_of_ble_eq_true rfl, Nat.le_of_ble_eq_true rfl⟩ (cS_preV hK hW hT hnn hS (cg10 k0) rfl rfl trivial) rfl hl.1 rfl (Nat.le_of_ble_eq_true rfl) dX10_show_91 ⟨Nat.zero_le _, Nat.zero_le _⟩) hS (by decide) (fun H locs hW hS oq hB2 => ?_)
        refine lv_aload_n hx hb dX10_show_94 rfl (lv_at hl 0 rfl) ?_
        refine lv_bipush (v := 47) hx hb dX10_show_95 (by decide) ?_
        refine cc_v (wt_runV (As := [.int (47 : Int32)]) (rest := []) ⟨hx, hb, hml, hown, hts⟩ (m_X10_showByte l N h0 k0 (47 : Int32)) wm_X10_showByte q832 ⟨rfl, rfl⟩ ⟨Nat.le_of_ble_eq_true rfl, Nat.le_of_ble_eq_true rfl⟩ (cS_preV hK hW hT hnn hS (cg10 k0) rfl rfl trivial) rfl hl.1 rfl (Nat.le_of_ble_eq_true rfl) dX10_show_97 ⟨Nat.zero_le _, Nat.zero_le _⟩) hS (by decide) (fun H locs hW hS oq hB2 => ?_)
        refine lv_aload_n hx hb dX10_show_100 rfl (lv_at hl 0 rfl) ?_
        refine lv_bipush (v := 48) hx hb dX10_show_101 (by decide) ?_
        refine lv_iload_n hx hb dX10_show_103 rfl (lv_at hl 3 rfl) ?_
        refine lv_iadd hx hb dX10_show_104 ?_
        refine lv_topi (fun x104 e104 => ?_)
        have t104 : x104.toInt = (48) + v86_3.toInt := it_add e104 (ir_c (48) (by decide) : ir (48 : Int32) (48) (48)) rv86_3 (by decide) (by decide)
        have r104 : ir x104 49 55 := ir_w (ir_add e104 (ir_c (48) (by decide) : ir (48 : Int32) (48) (48)) rv86_3 (by decide) (by decide)) (by decide) (by decide)
        refine cc_v (wt_runV (As := [.int x104]) (rest := []) ⟨hx, hb, hml, hown, hts⟩ (m_X10_showByte l N h0 k0 x104) wm_X10_showByte q832 ⟨rfl, rfl⟩ ⟨Nat.le_of_ble_eq_true rfl, Nat.le_of_ble_eq_true rfl⟩ (cS_preV hK hW hT hnn hS (cg10 k0) rfl rfl trivial) rfl hl.1 rfl (Nat.le_of_ble_eq_true rfl) dX10_show_105 ⟨Nat.zero_le _, Nat.zero_le _⟩) hS (by decide) (fun H locs hW hS oq hB2 => ?_)
        exact w2 _ _ _ (J108 _ _ _  hW hS (lv_sub hl [0, 1] rfl) rv86_1)
      refine w1 _ _ _ ?_
      refine lv_iload_n hx hb dX10_show_7 rfl (lv_at hl 1 rfl) ?_
      refine lv_aload_n hx hb dX10_show_8 rfl (lv_at hl 0 rfl) ?_
      refine wt_get hx hb hts cfX10 hown hK hW (cg10 k0) rfl 1 (by decide) q294 dX10_show_9 (fun v hv => ?_)
      obtain ⟨x9, rfl, k9⟩ : gr N 3 v := hv
      refine wt_getp hx hb hts cfX3 hown hK hW (cg3 k9) rfl 1 (by decide) (Or.inr ⟨_, lw_n_use hnn q46⟩) dX10_show_12 (fun v hv nx9_1 => ?_)
      obtain ⟨x12, rfl, r12⟩ : gi 0 24 v := hv
      refine lv_icmp_ge (tgt := 114) hx hb dX10_show_15 (by decide) (fun c15 => ?_) (fun c15 => ?_)
      · refine lv_aload_n hx hb dX10_show_114 rfl (lv_at hl 0 rfl) ?_
        refine wt_getp hx hb hts cfX10 hown hK hW (cg10 k0) rfl 13 (by decide) (Or.inl (hts _ q306)) dX10_show_115 (fun v hv nh0_13 => ?_)
        obtain ⟨x115, rfl, r115⟩ : gi 0 96 v := hv
        exact W.iret (v := x115) hx hb hr (fun t ht _ => ⟨⟨x115, (), rfl, trivial, cW_at ht hW⟩, hS.F ht⟩) hS.2.2 dX10_show_118
      · have rv7_1_15 : ir v7_1 0 23 := ⟨(rv7_1).1, Int.le_trans (rf_lt (rf_nle c15) rv7_1 r12).1 (by decide)⟩
        have rx12_15 : ir x12 1 24 := ⟨Int.le_trans (by decide) (rf_lt (rf_nle c15) rv7_1 r12).2, (r12).2⟩
        refine lv_aload_n hx hb dX10_show_18 rfl (lv_at hl 0 rfl) ?_
        refine wt_get hx hb hts cfX10 hown hK hW (cg10 k0) rfl 1 (by decide) q294 dX10_show_19 (fun v hv => ?_)
        obtain ⟨x19, rfl, k19⟩ : gr N 3 v := hv
        refine wt_getN hx hb hts cfX3 hown hK hW (cg3 k19) rfl 0 (by decide) hnn q41 dX10_show_22 (fun v hv => ?_)
        obtain ⟨x22, rfl, k22⟩ : gr N 20 v := hv
        refine lv_iload_n hx hb dX10_show_25 rfl (lv_at hl 1 rfl) ?_
        refine wt_iald hx hb hK hW 0 (cg20 k22) rfl (ir_in rv7_1_15 (by decide) (by decide)) dX10_show_26 (fun v hv => ?_)
        obtain ⟨x26, rfl, r26⟩ : gi 0 383 v := hv
        refine cp_i (wt_runS (As := [.int x26]) (rest := []) ⟨hx, hb, hml, hown, hts⟩ (m_X10_pOf l x26) wm_X10_pOf q817 ⟨rfl, rfl⟩ ⟨Nat.le_of_ble_eq_true rfl, Nat.le_of_ble_eq_true rfl⟩ pS_pre rfl hl.1 rfl (Nat.le_of_ble_eq_true rfl) dX10_show_27 ⟨Nat.zero_le _, Nat.zero_le _⟩) hW hS (fun x27 H locs hp hW hS oq => ?_)
        have nx9_1 := nx9_1.kept (oq _ nx9_1.lt (cE_not k9 (by decide)))
        have r27 : ir x27 0 7 := hp
        refine lv_istore_n (lv' := [(2, .int x27), (0, .ref h0), (1, .int v7_1)]) hx hb dX10_show_30 rfl hl (by decide) rfl (fun ls hl => ?_)
        refine lv_aload_n hx hb dX10_show_31 rfl (lv_at hl 1 rfl) ?_
        refine wt_get hx hb hts cfX10 hown hK hW (cg10 k0) rfl 1 (by decide) q294 dX10_show_32 (fun v hv => ?_)
        obtain ⟨x32, rfl, k32⟩ : gr N 3 v := hv
        refine wt_getN hx hb hts cfX3 hown hK hW (cg3 k32) rfl 0 (by decide) hnn q41 dX10_show_35 (fun v hv => ?_)
        obtain ⟨x35, rfl, k35⟩ : gr N 20 v := hv
        refine lv_iload_n hx hb dX10_show_38 rfl (lv_at hl 2 rfl) ?_
        refine wt_iald hx hb hK hW 0 (cg20 k35) rfl (ir_in rv7_1_15 (by decide) (by decide)) dX10_show_39 (fun v hv => ?_)
        obtain ⟨x39, rfl, r39⟩ : gi 0 383 v := hv
        refine cp_i (wt_runS (As := [.int x39]) (rest := []) ⟨hx, hb, hml, hown, hts⟩ (m_X10_qOf l x39) wm_X10_qOf q818 ⟨rfl, rfl⟩ ⟨Nat.le_of_ble_eq_true rfl, Nat.le_of_ble_eq_true rfl⟩ pS_pre rfl hl.1 rfl (Nat.le_of_ble_eq_true rfl) dX10_show_40 ⟨Nat.zero_le _, Nat.zero_le _⟩) hW hS (fun x40 H locs hp hW hS oq => ?_)
        have nx9_1 := nx9_1.kept (oq _ nx9_1.lt (cE_not k9 (by decide)))
        have r40 : ir x40 0 7 := hp
        refine lv_istore_n (lv' := [(3, .int x40), (2, .int x27), (0, .ref h0), (1, .int v7_1)]) hx hb dX10_show_43 rfl hl (by decide) rfl (fun ls hl => ?_)
        refine lv_aload_n hx hb dX10_show_44 rfl (lv_at hl 2 rfl) ?_
        refine lv_bipush (v := 65) hx hb dX10_show_45 (by decide) ?_
        refine lv_aload_n hx hb dX10_show_47 rfl (lv_at hl 2 rfl) ?_
        refine wt_get hx hb hts cfX10 hown hK hW (cg10 k0) rfl 1 (by decide) q294 dX10_show_48 (fun v hv => ?_)
        obtain ⟨x48, rfl, k48⟩ : gr N 3 v := hv
        refine wt_getN hx hb hts cfX3 hown hK hW (cg3 k48) rfl 0 (by decide) hnn q41 dX10_show_51 (fun v hv => ?_)
        obtain ⟨x51, rfl, k51⟩ : gr N 20 v := hv
        refine lv_iload_n hx hb dX10_show_54 rfl (lv_at hl 3 rfl) ?_
        refine wt_iald hx hb hK hW 0 (cg20 k51) rfl (ir_in rv7_1_15 (by decide) (by decide)) dX10_show_55 (fun v hv => ?_)
        obtain ⟨x55, rfl, r55⟩ : gi 0 383 v := hv
        refine cp_i (wt_runS (As := [.int x55]) (rest := [.int (65 : Int32), .ref h0]) ⟨hx, hb, hml, hown, hts⟩ (m_X10_materialOf l x55 r55) wm_X10_materialOf q468 ⟨rfl, rfl⟩ ⟨Nat.le_of_ble_eq_true rfl, Nat.le_of_ble_eq_true rfl⟩ pS_pre rfl hl.1 rfl (Nat.le_of_ble_eq_true rfl) dX10_show_56 ⟨Nat.zero_le _, Nat.zero_le _⟩) hW hS (fun x56 H locs hp hW hS oq => ?_)
        have nx9_1 := nx9_1.kept (oq _ nx9_1.lt (cE_not k9 (by decide)))
        have r56 : ir x56 0 5 := hp
        refine lv_iadd hx hb dX10_show_59 ?_
        refine lv_topi (fun x59 e59 => ?_)
        have t59 : x59.toInt = (65) + x56.toInt := it_add e59 (ir_c (65) (by decide) : ir (65 : Int32) (65) (65)) r56 (by decide) (by decide)
        have r59 : ir x59 65 70 := ir_w (ir_add e59 (ir_c (65) (by decide) : ir (65 : Int32) (65) (65)) r56 (by decide) (by decide)) (by decide) (by decide)
        refine cc_v (wt_runV (As := [.int x59]) (rest := []) ⟨hx, hb, hml, hown, hts⟩ (m_X10_showByte l N h0 k0 x59) wm_X10_showByte q832 ⟨rfl, rfl⟩ ⟨Nat.le_of_ble_eq_true rfl, Nat.le_of_ble_eq_true rfl⟩ (cS_preV hK hW hT hnn hS (cg10 k0) rfl rfl trivial) rfl hl.1 rfl (Nat.le_of_ble_eq_true rfl) dX10_show_60 ⟨Nat.zero_le _, Nat.zero_le _⟩) hS (by decide) (fun H locs hW hS oq hB2 => ?_)
        have nx9_1 := nx9_1.kept (oq _ nx9_1.lt (cE_not k9 (by decide)))
        refine lv_iload_n hx hb dX10_show_63 rfl (lv_at hl 0 rfl) ?_
        refine lv_if_ne (tgt := 76) hx hb dX10_show_64 (by decide) (fun c64 => ?_) (fun c64 => ?_)
        · have rx40_64 : ir x40 1 7 := rf_ne0 c64 r40
          refine lv_iload_n hx hb dX10_show_76 rfl (lv_at hl 1 rfl) ?_
          refine lv_iconst (v := 1) hx hb dX10_show_77 (by decide) ?_
          refine lv_icmp_ne (tgt := 86) hx hb dX10_show_78 (by decide) (fun c78 => ?_) (fun c78 => ?_)
          · exact w2 _ _ _ (J86 _ _ _ x27 x40 hW hS (lv_sub hl [2, 3, 1, 0] rfl) rv7_1_15 r27 rx40_64)
          · have rx27_78 : ir x27 1 1 := rf_eq c78 (ir_c (1) (by decide) : ir (1 : Int32) (1) (1))
            refine lv_iload_n hx hb dX10_show_81 rfl (lv_at hl 0 rfl) ?_
            refine lv_iconst (v := 1) hx hb dX10_show_82 (by decide) ?_
            refine lv_icmp_eq (tgt := 108) hx hb dX10_show_83 (by decide) (fun c83 => ?_) (fun c83 => ?_)
            · have rx40_83 : ir x40 1 1 := rf_eq c83 (ir_c (1) (by decide) : ir (1 : Int32) (1) (1))
              exact w2 _ _ _ (J108 _ _ _  hW hS (lv_sub hl [2, 3] rfl) rv7_1_15)
            · have rx40_83 : ir x40 2 7 := rf_nel c83 rx40_64 (by decide) (by decide)
              exact w2 _ _ _ (J86 _ _ _ x27 x40 hW hS (lv_sub hl [2, 3, 1, 0] rfl) rv7_1_15 (ir_w (lo' := 0) (hi' := 7) rx27_78 (by decide) (by decide)) (ir_w (lo' := 1) (hi' := 7) rx40_83 (by decide) (by decide)))
        · have rx40_64 : ir x40 0 0 := rf_eq c64 (ir_c (0) (by decide) : ir (0 : Int32) (0) (0))
          refine lv_aload_n hx hb dX10_show_67 rfl (lv_at hl 2 rfl) ?_
          refine lv_bipush (v := 104) hx hb dX10_show_68 (by decide) ?_
          refine cc_v (wt_runV (As := [.int (104 : Int32)]) (rest := []) ⟨hx, hb, hml, hown, hts⟩ (m_X10_showByte l N h0 k0 (104 : Int32)) wm_X10_showByte q832 ⟨rfl, rfl⟩ ⟨Nat.le_of_ble_eq_true rfl, Nat.le_of_ble_eq_true rfl⟩ (cS_preV hK hW hT hnn hS (cg10 k0) rfl rfl trivial) rfl hl.1 rfl (Nat.le_of_ble_eq_true rfl) dX10_show_70 ⟨Nat.zero_le _, Nat.zero_le _⟩) hS (by decide) (fun H locs hW hS oq hB2 => ?_)
          have nx9_1 := nx9_1.kept (oq _ nx9_1.lt (cE_not k9 (by decide)))
          refine lv_goto (tgt := 108) hx hb dX10_show_73 (by decide) ?_
          exact w2 _ _ _ (J108 _ _ _  hW hS (lv_sub hl [2, 3] rfl) rv7_1_15)
  refine lv_aload_n hx hb dX10_show_0 rfl (lv_at hl 0 rfl) ?_
  refine lv_iconst (v := 0) hx hb dX10_show_1 (by decide) ?_
  refine wt_putp hx hb hts cfX10 tyX10 tyX10_ok nmX10 hown hK hW hS (cg10 k0) (ce k0 (by decide)) rfl 13 (by decide) (Or.inl (hts _ q306)) rfl rfl rfl (gi_mk (ir_w (lo' := 0) (hi' := 96) (ir_c (0) (by decide) : ir (0 : Int32) (0) (0)) (by decide) (by decide))) dX10_show_2 (fun H locs hW hS oq o2 np => ?_)
  have nh0_13 : wt_pin N.1 vwCl h0 10 13 (.int (0 : Int32)) H := np
  refine lv_iconst (v := 0) hx hb dX10_show_5 (by decide) ?_
  refine lv_istore_n (lv' := [(1, .int (0 : Int32)), (0, .ref h0)]) hx hb dX10_show_6 rfl hl (by decide) rfl (fun ls hl => ?_)
  exact w2 _ _ _ (L7 25 _ _ _ (0 : Int32) hW hS (lv_sub hl [1, 0] rfl) (ir_w (lo' := 0) (hi' := 24) (ir_c (0) (by decide) : ir (0 : Int32) (0) (0)) (by decide) (by decide)) (by have h9 := (ir_c (0) (by decide) : ir (0 : Int32) (0) (0)); omega))
set_option maxHeartbeats 4000000 in
set_option maxRecDepth 100000 in
theorem m_X10_out (l : Launch) (N : c_N) (h0 : Nat) (k0 : N.2.2.1 h0 = some 10) (p1 : Int32) : cMi l yX10_out cX10_out 2 .int { frames := 0, cells := 0, slots := 0, locals := 0 } [.ref h0, .int p1] N [] cT0 (fun _ => True) := by
  refine Met.ofW (cc := cX10_out) (maxL := 2) (ret := some .int) (by decide) rfl ?_
  intro p e s m args below meth c s₁ B hml hv
  obtain ⟨rfl, ⟨hK, hW, hT, hnn⟩, hB⟩ := hv
  have hx := B.exec
  have hb := B.bytes
  have hr := B.returns
  have hts : ∀ w ∈ lw_g, w.before _ s = true := fun w h => atoms_spec (ws := wc_ws yX10_out cX10_out 2 (some .int)) B.pre w (List.mem_cons_of_mem _ h)
  have hown : s.vm.findClass RX10 = some m.cls := findClass_of_methodNamed B.named
  have hlocks := B.notSynchronized
  have hS : va_S (cE N []) s.heap s.heap [] := va_S.rf
  have hl := lv_entry ([.ref h0, .int p1]) (n := 2) (Nat.le_of_ble_eq_true rfl)
  rw [lg_entry_eq]
  generalize (lg_sl ([.ref h0, .int p1]) ++ List.replicate (2 - (lg_sl ([.ref h0, .int p1])).length) Slot.unset).toArray = ls at hl ⊢
  have hl : lv_has ls 2 [(0, .ref h0), (1, .int p1)] := hl
  refine wq_all ?_
  intro WW w1 w2
  refine lv_iload_n hx hb dX10_out_0 rfl (lv_at hl 1 rfl) ?_
  refine lv_if_lt (tgt := 12) hx hb dX10_out_1 (by decide) (fun c1 => ?_) (fun c1 => ?_)
  · have rp1_1 : ir p1 (-2147483648) (-1) := ⟨((ir_any p1)).1, Int.le_trans (rf_lt c1 (ir_any p1) (ir_c (0) (by decide) : ir (0 : Int32) (0) (0))).1 (by decide)⟩
    refine lv_iconst (v := -1) hx hb dX10_out_12 (by decide) ?_
    refine lv_goto (tgt := 22) hx hb dX10_out_13 (by decide) ?_
    exact W.iret (v := (-1 : Int32)) hx hb hr (fun t ht _ => ⟨⟨(-1 : Int32), (), rfl, trivial, cW_at ht hW⟩, hS.F ht⟩) hS.2.2 dX10_out_22
  · have rp1_1 : ir p1 0 2147483647 := ⟨Int.le_trans (by decide) (rf_le (rf_nlt c1) (ir_c (0) (by decide) : ir (0 : Int32) (0) (0)) (ir_any p1)).2, ((ir_any p1)).2⟩
    refine lv_iload_n hx hb dX10_out_4 rfl (lv_at hl 1 rfl) ?_
    refine lv_aload_n hx hb dX10_out_5 rfl (lv_at hl 0 rfl) ?_
    refine wt_getp hx hb hts cfX10 hown hK hW (cg10 k0) rfl 13 (by decide) (Or.inl (hts _ q306)) dX10_out_6 (fun v hv nh0_13 => ?_)
    obtain ⟨x6, rfl, r6⟩ : gi 0 96 v := hv
    refine lv_icmp_lt (tgt := 16) hx hb dX10_out_9 (by decide) (fun c9 => ?_) (fun c9 => ?_)
    · have rp1_9 : ir p1 0 95 := ⟨(rp1_1).1, Int.le_trans (rf_lt c9 rp1_1 r6).1 (by decide)⟩
      have rx6_9 : ir x6 1 96 := ⟨Int.le_trans (by decide) (rf_lt c9 rp1_1 r6).2, (r6).2⟩
      refine lv_aload_n hx hb dX10_out_16 rfl (lv_at hl 0 rfl) ?_
      refine wt_get hx hb hts cfX10 hown hK hW (cg10 k0) rfl 12 (by decide) q305 dX10_out_17 (fun v hv => ?_)
      obtain ⟨x17, rfl, k17⟩ : gr N 26 v := hv
      refine lv_iload_n hx hb dX10_out_20 rfl (lv_at hl 1 rfl) ?_
      refine wt_iald hx hb hK hW 0 (cg26 k17) rfl (ir_in rp1_9 (by decide) (by decide)) dX10_out_21 (fun v hv => ?_)
      obtain ⟨x21, rfl⟩ : ga v := hv
      exact W.iret (v := x21) hx hb hr (fun t ht _ => ⟨⟨x21, (), rfl, trivial, cW_at ht hW⟩, hS.F ht⟩) hS.2.2 dX10_out_22
    · refine lv_iconst (v := -1) hx hb dX10_out_12 (by decide) ?_
      refine lv_goto (tgt := 22) hx hb dX10_out_13 (by decide) ?_
      exact W.iret (v := (-1 : Int32)) hx hb hr (fun t ht _ => ⟨⟨(-1 : Int32), (), rfl, trivial, cW_at ht hW⟩, hS.F ht⟩) hS.2.2 dX10_out_22
set_option maxHeartbeats 4000000 in
set_option maxRecDepth 100000 in
theorem m_X10_spare (l : Launch) (N : c_N) (h0 : Nat) (k0 : N.2.2.1 h0 = some 10) (p1 : Int32) : cMi l yX10_spare cX10_spare 4 .int { frames := 6, cells := 0, slots := 0, locals := 159 } [.ref h0, .int p1] N [0, 2, 4, 8] cT0 (fun _ => True) := by
  refine Met.ofW (cc := cX10_spare) (maxL := 4) (ret := some .int) (by decide) rfl ?_
  intro p e s m args below meth c s₁ B hml hv
  obtain ⟨rfl, ⟨hK, hW, hT, hnn⟩, hB⟩ := hv
  have hx := B.exec
  have hb := B.bytes
  have hr := B.returns
  have hts : ∀ w ∈ lw_g, w.before _ s = true := fun w h => atoms_spec (ws := wc_ws yX10_spare cX10_spare 4 (some .int)) B.pre w (List.mem_cons_of_mem _ h)
  have hown : s.vm.findClass RX10 = some m.cls := findClass_of_methodNamed B.named
  have hlocks := B.notSynchronized
  have hS : va_S (cE N [0, 2, 4, 8]) s.heap s.heap [] := va_S.rf
  have hl := lv_entry ([.ref h0, .int p1]) (n := 4) (Nat.le_of_ble_eq_true rfl)
  rw [lg_entry_eq]
  generalize (lg_sl ([.ref h0, .int p1]) ++ List.replicate (4 - (lg_sl ([.ref h0, .int p1])).length) Slot.unset).toArray = ls at hl ⊢
  have hl : lv_has ls 4 [(0, .ref h0), (1, .int p1)] := hl
  refine wq_all ?_
  intro WW w1 w2
  have L24 : ∀ (n : Nat) (H : Heap) (locs : List Loc) (ls : Array Slot) (v24_2 : Int32) (v24_3 : Int32), cW N H → va_S (cE N [0, 2, 4, 8]) s.heap H locs → lv_has ls 4 [(0, .ref h0), (1, .int p1), (2, .int v24_2), (3, .int v24_3)] → ir v24_3 1 5 → 5 - v24_3.toInt < (n : Int) → WW H locs (F0 m 24 ls []) := by
    intro n
    induction n with
    | zero =>
      intro H locs ls v24_2 v24_3 hW hS hl rv24_3 mu24
      exfalso
      omega
    | succ n ih24 =>
      intro H locs ls v24_2 v24_3 hW hS hl rv24_3 mu24
      have J48 : ∀ (H : Heap) (locs : List Loc) (ls : Array Slot) (v48_2 : Int32), cW N H → va_S (cE N [0, 2, 4, 8]) s.heap H locs → lv_has ls 4 [(0, .ref h0), (1, .int p1), (2, .int v48_2), (3, .int v24_3)] → ir v24_3 1 4 → WW H locs (F0 m 48 ls []) := by
        intro H locs ls v48_2 hW hS hl rv48_3
        refine w1 _ _ _ ?_
        obtain ⟨x48, e48⟩ : ∃ y : Int32, y = v24_3 + 1 := ⟨_, rfl⟩
        have r48 : ir x48 2 5 := ir_w (ir_add e48 rv48_3 (ir_c (1) (by decide) : ir (1 : Int32) (1) (1)) (by decide) (by decide)) (by decide) (by decide)
        have t48 : x48.toInt = v24_3.toInt + (1) := it_add e48 rv48_3 (ir_c (1) (by decide) : ir (1 : Int32) (1) (1)) (by decide) (by decide)
        refine lv_iinc (v := x48) (lv' := [(3, .int x48), (0, .ref h0), (1, .int p1), (2, .int v48_2)]) hx hb dX10_spare_48 hl (k := 3) rfl (by rw [e48]; rfl) (by decide) rfl (fun ls hl => ?_)
        refine lv_goto (tgt := 24) hx hb dX10_spare_51 (by decide) ?_
        exact w2 _ _ _ (ih24 _ _ _ v48_2 x48 hW hS (lv_sub hl [1, 2, 3, 0] rfl) (ir_w (lo' := 1) (hi' := 5) r48 (by decide) (by decide)) (by have h9 := r48; omega))
      refine w1 _ _ _ ?_
      refine lv_iload_n hx hb dX10_spare_24 rfl (lv_at hl 3 rfl) ?_
      refine lv_iconst (v := 4) hx hb dX10_spare_25 (by decide) ?_
      refine lv_icmp_gt (tgt := 54) hx hb dX10_spare_26 (by decide) (fun c26 => ?_) (fun c26 => ?_)
      · have rv24_3_26 : ir v24_3 5 5 := ⟨Int.le_trans (by decide) (rf_lt c26 (ir_c (4) (by decide) : ir (4 : Int32) (4) (4)) rv24_3).2, (rv24_3).2⟩
        refine lv_iload_n hx hb dX10_spare_54 rfl (lv_at hl 2 rfl) ?_
        exact W.iret (v := v24_2) hx hb hr (fun t ht _ => ⟨⟨v24_2, (), rfl, trivial, cW_at ht hW⟩, hS.F ht⟩) hS.2.2 dX10_spare_55
      · have rv24_3_26 : ir v24_3 1 4 := ⟨(rv24_3).1, Int.le_trans (rf_le (rf_nlt c26) rv24_3 (ir_c (4) (by decide) : ir (4 : Int32) (4) (4))).1 (by decide)⟩
        refine lv_iload_n hx hb dX10_spare_29 rfl (lv_at hl 1 rfl) ?_
        refine lv_iload_n hx hb dX10_spare_30 rfl (lv_at hl 3 rfl) ?_
        refine lv_iconst (v := 1) hx hb dX10_spare_31 (by decide) ?_
        refine lv_isub hx hb dX10_spare_32 ?_
        refine lv_topi (fun x32 e32 => ?_)
        have t32 : x32.toInt = v24_3.toInt - (1) := it_sub e32 rv24_3_26 (ir_c (1) (by decide) : ir (1 : Int32) (1) (1)) (by decide) (by decide)
        have r32 : ir x32 0 3 := ir_w (ir_sub e32 rv24_3_26 (ir_c (1) (by decide) : ir (1 : Int32) (1) (1)) (by decide) (by decide)) (by decide) (by decide)
        refine cp_i (wt_runS (As := [.int p1, .int x32]) (rest := []) ⟨hx, hb, hml, hown, hts⟩ (m_X10_isInSet l p1 x32) wm_X10_isInSet q808 ⟨rfl, rfl⟩ ⟨Nat.le_of_ble_eq_true rfl, Nat.le_of_ble_eq_true rfl⟩ pS_pre rfl hl.1 rfl (Nat.le_of_ble_eq_true rfl) dX10_spare_33 ⟨Nat.zero_le _, Nat.zero_le _⟩) hW hS (fun x33 H locs hp hW hS oq => ?_)
        have r33 : ir x33 0 1 := hp
        refine lv_if_eq (tgt := 48) hx hb dX10_spare_36 (by decide) (fun c36 => ?_) (fun c36 => ?_)
        · have rx33_36 : ir x33 0 0 := rf_eq c36 (ir_c (0) (by decide) : ir (0 : Int32) (0) (0))
          exact w2 _ _ _ (J48 _ _ _ v24_2 hW hS (lv_sub hl [0, 1, 2, 3] rfl) rv24_3_26)
        · have rx33_36 : ir x33 1 1 := rf_ne0 c36 r33
          refine lv_iload_n hx hb dX10_spare_39 rfl (lv_at hl 2 rfl) ?_
          refine lv_aload_n hx hb dX10_spare_40 rfl (lv_at hl 0 rfl) ?_
          refine lv_iload_n hx hb dX10_spare_41 rfl (lv_at hl 3 rfl) ?_
          refine lv_iload_n hx hb dX10_spare_42 rfl (lv_at hl 2 rfl) ?_
          refine cc_i (wt_runV (As := [.int v24_3, .int v24_2]) (rest := [.int v24_2]) ⟨hx, hb, hml, hown, hts⟩ (m_X10_spareAt l N h0 k0 v24_3 rv24_3_26 v24_2) wm_X10_spareAt q844 ⟨rfl, rfl⟩ ⟨Nat.le_of_ble_eq_true rfl, Nat.le_of_ble_eq_true rfl⟩ (cS_preV hK hW hT hnn hS (cg10 k0) rfl rfl trivial) rfl hl.1 rfl (Nat.le_of_ble_eq_true rfl) dX10_spare_43 ⟨Nat.zero_le _, Nat.zero_le _⟩) hS (by decide) (fun x43 H locs hp hW hS oq => ?_)
          refine lv_iand hx hb dX10_spare_46 ?_
          refine lv_topi (fun x46 e46 => ?_)
          refine lv_istore_n (lv' := [(2, .int x46), (0, .ref h0), (1, .int p1), (3, .int v24_3)]) hx hb dX10_spare_47 rfl hl (by decide) rfl (fun ls hl => ?_)
          exact w2 _ _ _ (J48 _ _ _ x46 hW hS (lv_sub hl [1, 2, 0, 3] rfl) rv24_3_26)
  refine lv_iload_n hx hb dX10_spare_0 rfl (lv_at hl 1 rfl) ?_
  refine lv_bipush (v := 15) hx hb dX10_spare_1 (by decide) ?_
  refine lv_iand hx hb dX10_spare_3 ?_
  refine lv_topi (fun x3 e3 => ?_)
  have r3 : ir x3 0 15 := ir_and e3 (ir_w (ir_c (15) (by decide) : ir (15 : Int32) (15) (15)) (by decide) (by decide))
  refine lv_if_ne (tgt := 10) hx hb dX10_spare_4 (by decide) (fun c4 => ?_) (fun c4 => ?_)
  · have rx3_4 : ir x3 1 15 := rf_ne0 c4 r3
    refine lv_iconst (v := 1) hx hb dX10_spare_10 (by decide) ?_
    refine lv_aload_n hx hb dX10_spare_11 rfl (lv_at hl 0 rfl) ?_
    refine wt_get hx hb hts cfX10 hown hK hW (cg10 k0) rfl 1 (by decide) q294 dX10_spare_12 (fun v hv => ?_)
    obtain ⟨x12, rfl, k12⟩ : gr N 3 v := hv
    refine wt_getp hx hb hts cfX3 hown hK hW (cg3 k12) rfl 1 (by decide) (Or.inr ⟨_, lw_n_use hnn q46⟩) dX10_spare_15 (fun v hv nx12_1 => ?_)
    obtain ⟨x15, rfl, r15⟩ : gi 0 24 v := hv
    refine lv_ishl hx hb dX10_spare_18 ?_
    refine lv_topi (fun x18 e18 => ?_)
    refine lv_iconst (v := 1) hx hb dX10_spare_19 (by decide) ?_
    refine lv_isub hx hb dX10_spare_20 ?_
    refine lv_topi (fun x20 e20 => ?_)
    refine lv_istore_n (lv' := [(2, .int x20), (0, .ref h0), (1, .int p1)]) hx hb dX10_spare_21 rfl hl (by decide) rfl (fun ls hl => ?_)
    refine lv_iconst (v := 1) hx hb dX10_spare_22 (by decide) ?_
    refine lv_istore_n (lv' := [(3, .int (1 : Int32)), (2, .int x20), (0, .ref h0), (1, .int p1)]) hx hb dX10_spare_23 rfl hl (by decide) rfl (fun ls hl => ?_)
    exact w2 _ _ _ (L24 5 _ _ _ x20 (1 : Int32) hW hS (lv_sub hl [2, 3, 1, 0] rfl) (ir_w (lo' := 1) (hi' := 5) (ir_c (1) (by decide) : ir (1 : Int32) (1) (1)) (by decide) (by decide)) (by have h9 := (ir_c (1) (by decide) : ir (1 : Int32) (1) (1)); omega))
  · have rx3_4 : ir x3 0 0 := rf_eq c4 (ir_c (0) (by decide) : ir (0 : Int32) (0) (0))
    refine lv_bipush (v := -2) hx hb dX10_spare_7 (by decide) ?_
    exact W.iret (v := (-2 : Int32)) hx hb hr (fun t ht _ => ⟨⟨(-2 : Int32), (), rfl, trivial, cW_at ht hW⟩, hS.F ht⟩) hS.2.2 dX10_spare_9
set_option maxHeartbeats 4000000 in
set_option maxRecDepth 100000 in
theorem m_X10_look (l : Launch) (N : c_N) (h0 : Nat) (k0 : N.2.2.1 h0 = some 10) (p1 : Int32) : cMi l yX10_look cX10_look 2 .int { frames := 2, cells := 0, slots := 0, locals := 44 } [.ref h0, .int p1] N [] cT0 (fun _ => True) := by
  refine Met.ofW (cc := cX10_look) (maxL := 2) (ret := some .int) (by decide) rfl ?_
  intro p e s m args below meth c s₁ B hml hv
  obtain ⟨rfl, ⟨hK, hW, hT, hnn⟩, hB⟩ := hv
  have hx := B.exec
  have hb := B.bytes
  have hr := B.returns
  have hts : ∀ w ∈ lw_g, w.before _ s = true := fun w h => atoms_spec (ws := wc_ws yX10_look cX10_look 2 (some .int)) B.pre w (List.mem_cons_of_mem _ h)
  have hown : s.vm.findClass RX10 = some m.cls := findClass_of_methodNamed B.named
  have hlocks := B.notSynchronized
  have hS : va_S (cE N []) s.heap s.heap [] := va_S.rf
  have hl := lv_entry ([.ref h0, .int p1]) (n := 2) (Nat.le_of_ble_eq_true rfl)
  rw [lg_entry_eq]
  generalize (lg_sl ([.ref h0, .int p1]) ++ List.replicate (2 - (lg_sl ([.ref h0, .int p1])).length) Slot.unset).toArray = ls at hl ⊢
  have hl : lv_has ls 2 [(0, .ref h0), (1, .int p1)] := hl
  refine wq_all ?_
  intro WW w1 w2
  refine lv_iload_n hx hb dX10_look_0 rfl (lv_at hl 1 rfl) ?_
  by_cases c1 : p1.toInt < 0 ∨ 6 < p1.toInt
  · refine lv_tableOut (tgt := 112) hx hb dX10_look_1 c1 (by decide) ?_
    refine lv_iconst (v := -1) hx hb dX10_look_112 (by decide) ?_
    exact W.iret (v := (-1 : Int32)) hx hb hr (fun t ht _ => ⟨⟨(-1 : Int32), (), rfl, trivial, cW_at ht hW⟩, hS.F ht⟩) hS.2.2 dX10_look_113
  · rcases (show p1.toInt = 0 ∨ p1.toInt = 1 ∨ p1.toInt = 2 ∨ p1.toInt = 3 ∨ p1.toInt = 4 ∨ p1.toInt = 5 ∨ p1.toInt = 6 by omega) with d1 | d1 | d1 | d1 | d1 | d1 | d1
    · refine lv_tableIn (off := 43) (tgt := 44) hx hb dX10_look_1 (by omega) (by omega) (by rw [d1]; rfl) (by decide) ?_
      refine lv_aload_n hx hb dX10_look_44 rfl (lv_at hl 0 rfl) ?_
      refine wt_get hx hb hts cfX10 hown hK hW (cg10 k0) rfl 1 (by decide) q294 dX10_look_45 (fun v hv => ?_)
      obtain ⟨x45, rfl, k45⟩ : gr N 3 v := hv
      refine wt_getp hx hb hts cfX3 hown hK hW (cg3 k45) rfl 1 (by decide) (Or.inr ⟨_, lw_n_use hnn q46⟩) dX10_look_48 (fun v hv nx45_1 => ?_)
      obtain ⟨x48, rfl, r48⟩ : gi 0 24 v := hv
      exact W.iret (v := x48) hx hb hr (fun t ht _ => ⟨⟨x48, (), rfl, trivial, cW_at ht hW⟩, hS.F ht⟩) hS.2.2 dX10_look_51
    · refine lv_tableIn (off := 51) (tgt := 52) hx hb dX10_look_1 (by omega) (by omega) (by rw [d1]; rfl) (by decide) ?_
      refine lv_aload_n hx hb dX10_look_52 rfl (lv_at hl 0 rfl) ?_
      refine wt_get hx hb hts cfX10 hown hK hW (cg10 k0) rfl 1 (by decide) q294 dX10_look_53 (fun v hv => ?_)
      obtain ⟨x53, rfl, k53⟩ : gr N 3 v := hv
      refine cc_i (wt_runV (As := []) (rest := []) ⟨hx, hb, hml, hown, hts⟩ (m_X3_materialBits l N x53 k53) wm_X3_materialBits q852 ⟨rfl, rfl⟩ ⟨Nat.le_of_ble_eq_true rfl, Nat.le_of_ble_eq_true rfl⟩ (cS_preV hK hW hT hnn hS (cg3 k53) rfl rfl trivial) rfl hl.1 rfl (Nat.le_of_ble_eq_true rfl) dX10_look_56 ⟨Nat.zero_le _, Nat.zero_le _⟩) hS (by decide) (fun x56 H locs hp hW hS oq => ?_)
      exact W.iret (v := x56) hx hb hr (fun t ht _ => ⟨⟨x56, (), rfl, trivial, cW_at ht hW⟩, hS.F ht⟩) hS.2.2 dX10_look_59
    · refine lv_tableIn (off := 59) (tgt := 60) hx hb dX10_look_1 (by omega) (by omega) (by rw [d1]; rfl) (by decide) ?_
      refine lv_aload_n hx hb dX10_look_60 rfl (lv_at hl 0 rfl) ?_
      refine wt_get hx hb hts cfX10 hown hK hW (cg10 k0) rfl 1 (by decide) q294 dX10_look_61 (fun v hv => ?_)
      obtain ⟨x61, rfl, k61⟩ : gr N 3 v := hv
      refine cc_i (wt_runV (As := []) (rest := []) ⟨hx, hb, hml, hown, hts⟩ (m_X3_isSameReversed l N x61 k61) wm_X3_isSameReversed q511 ⟨rfl, rfl⟩ ⟨Nat.le_of_ble_eq_true rfl, Nat.le_of_ble_eq_true rfl⟩ (cS_preV hK hW hT hnn hS (cg3 k61) rfl rfl trivial) rfl hl.1 rfl (Nat.le_of_ble_eq_true rfl) dX10_look_64 ⟨Nat.zero_le _, Nat.zero_le _⟩) hS (by decide) (fun x64 H locs hp hW hS oq => ?_)
      have r64 : ir x64 0 1 := hp
      refine lv_if_eq (tgt := 74) hx hb dX10_look_67 (by decide) (fun c67 => ?_) (fun c67 => ?_)
      · have rx64_67 : ir x64 0 0 := rf_eq c67 (ir_c (0) (by decide) : ir (0 : Int32) (0) (0))
        refine lv_iconst (v := 0) hx hb dX10_look_74 (by decide) ?_
        exact W.iret (v := (0 : Int32)) hx hb hr (fun t ht _ => ⟨⟨(0 : Int32), (), rfl, trivial, cW_at ht hW⟩, hS.F ht⟩) hS.2.2 dX10_look_75
      · have rx64_67 : ir x64 1 1 := rf_ne0 c67 r64
        refine lv_iconst (v := 1) hx hb dX10_look_70 (by decide) ?_
        refine lv_goto (tgt := 75) hx hb dX10_look_71 (by decide) ?_
        exact W.iret (v := (1 : Int32)) hx hb hr (fun t ht _ => ⟨⟨(1 : Int32), (), rfl, trivial, cW_at ht hW⟩, hS.F ht⟩) hS.2.2 dX10_look_75
    · refine lv_tableIn (off := 75) (tgt := 76) hx hb dX10_look_1 (by omega) (by omega) (by rw [d1]; rfl) (by decide) ?_
      refine lv_aload_n hx hb dX10_look_76 rfl (lv_at hl 0 rfl) ?_
      refine wt_get hx hb hts cfX10 hown hK hW (cg10 k0) rfl 2 (by decide) q295 dX10_look_77 (fun v hv => ?_)
      obtain ⟨x77, rfl, k77⟩ : gr N 1 v := hv
      refine wt_getp hx hb hts cfX1 hown hK hW (cg1 k77) rfl 3 (by decide) (Or.inr ⟨_, lw_n_use hnn q109⟩) dX10_look_80 (fun v hv nx77_3 => ?_)
      obtain ⟨x80, rfl, r80⟩ : gi 0 10 v := hv
      exact W.iret (v := x80) hx hb hr (fun t ht _ => ⟨⟨x80, (), rfl, trivial, cW_at ht hW⟩, hS.F ht⟩) hS.2.2 dX10_look_83
    · refine lv_tableIn (off := 83) (tgt := 84) hx hb dX10_look_1 (by omega) (by omega) (by rw [d1]; rfl) (by decide) ?_
      refine lv_aload_n hx hb dX10_look_84 rfl (lv_at hl 0 rfl) ?_
      refine wt_get hx hb hts cfX10 hown hK hW (cg10 k0) rfl 0 (by decide) q293 dX10_look_85 (fun v hv => ?_)
      obtain ⟨x85, rfl, k85⟩ : gr N 9 v := hv
      refine wt_getp hx hb hts cfX9 hown hK hW (cg9 k85) rfl 1 (by decide) (Or.inr ⟨_, lw_n_use hnn q55⟩) dX10_look_88 (fun v hv nx85_1 => ?_)
      obtain ⟨x88, rfl, r88⟩ : gi 0 200 v := hv
      exact W.iret (v := x88) hx hb hr (fun t ht _ => ⟨⟨x88, (), rfl, trivial, cW_at ht hW⟩, hS.F ht⟩) hS.2.2 dX10_look_91
    · refine lv_tableIn (off := 91) (tgt := 92) hx hb dX10_look_1 (by omega) (by omega) (by rw [d1]; rfl) (by decide) ?_
      refine lv_aload_n hx hb dX10_look_92 rfl (lv_at hl 0 rfl) ?_
      refine wt_get hx hb hts cfX10 hown hK hW (cg10 k0) rfl 1 (by decide) q294 dX10_look_93 (fun v hv => ?_)
      obtain ⟨x93, rfl, k93⟩ : gr N 3 v := hv
      refine lv_iconst (v := 1) hx hb dX10_look_96 (by decide) ?_
      refine lv_iconst (v := 0) hx hb dX10_look_97 (by decide) ?_
      refine cc_i (wt_runV (As := [.int (1 : Int32), .int (0 : Int32)]) (rest := []) ⟨hx, hb, hml, hown, hts⟩ (m_X3_countOfTangent l N x93 k93 (1 : Int32) (0 : Int32)) wm_X3_countOfTangent q856 ⟨rfl, rfl⟩ ⟨Nat.le_of_ble_eq_true rfl, Nat.le_of_ble_eq_true rfl⟩ (cS_preV hK hW hT hnn hS (cg3 k93) rfl rfl trivial) rfl hl.1 rfl (Nat.le_of_ble_eq_true rfl) dX10_look_98 ⟨Nat.zero_le _, Nat.zero_le _⟩) hS (by decide) (fun x98 H locs hp hW hS oq => ?_)
      exact W.iret (v := x98) hx hb hr (fun t ht _ => ⟨⟨x98, (), rfl, trivial, cW_at ht hW⟩, hS.F ht⟩) hS.2.2 dX10_look_101
    · refine lv_tableIn (off := 101) (tgt := 102) hx hb dX10_look_1 (by omega) (by omega) (by rw [d1]; rfl) (by decide) ?_
      refine lv_aload_n hx hb dX10_look_102 rfl (lv_at hl 0 rfl) ?_
      refine wt_get hx hb hts cfX10 hown hK hW (cg10 k0) rfl 1 (by decide) q294 dX10_look_103 (fun v hv => ?_)
      obtain ⟨x103, rfl, k103⟩ : gr N 3 v := hv
      refine lv_iconst (v := 1) hx hb dX10_look_106 (by decide) ?_
      refine lv_iconst (v := 1) hx hb dX10_look_107 (by decide) ?_
      refine cc_i (wt_runV (As := [.int (1 : Int32), .int (1 : Int32)]) (rest := []) ⟨hx, hb, hml, hown, hts⟩ (m_X3_countOfTangent l N x103 k103 (1 : Int32) (1 : Int32)) wm_X3_countOfTangent q856 ⟨rfl, rfl⟩ ⟨Nat.le_of_ble_eq_true rfl, Nat.le_of_ble_eq_true rfl⟩ (cS_preV hK hW hT hnn hS (cg3 k103) rfl rfl trivial) rfl hl.1 rfl (Nat.le_of_ble_eq_true rfl) dX10_look_108 ⟨Nat.zero_le _, Nat.zero_le _⟩) hS (by decide) (fun x108 H locs hp hW hS oq => ?_)
      exact W.iret (v := x108) hx hb hr (fun t ht _ => ⟨⟨x108, (), rfl, trivial, cW_at ht hW⟩, hS.F ht⟩) hS.2.2 dX10_look_111
