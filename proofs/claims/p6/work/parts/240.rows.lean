set_option maxHeartbeats 4000000 in
set_option maxRecDepth 100000 in
theorem m_X11_rows (l : Launch) (N : c_N) (h0 : Nat) (k0 : N.2.2.1 h0 = some 11) (hO : mOK N) (V : Nat → Value) (p1 : Int32) (rp1 : ir p1 0 24) (p2 : Int32) (rp2 : ir p2 1 4) (g7 : Int32) (hn : p1.toInt ≤ g7.toInt) : cMv l yX11_rows cX11_rows 4 { frames := 3, cells := 0, slots := 0, locals := 103 } [.ref h0, .int p1, .int p2] N [11] (fun H => mI N h0 H ∧ kp N h0 [32, 33, 34, 35, 36, 37, 38] V H ∧ wt_pin N.1 vwCl h0 11 7 (.int g7) H) (fun H => mI N h0 H ∧ kp N h0 [32, 33, 34, 35, 36, 37, 38] V H) := by
  refine Met.ofW (cc := cX11_rows) (maxL := 4) (ret := none) (by decide) rfl ?_
  intro p e s m args below meth c s₁ B hml hv
  obtain ⟨rfl, ⟨hK, hW, hT, hnn⟩, hB⟩ := hv
  obtain ⟨hI, hV, hB⟩ := hB
  have nh0_7 := hB
  have rg7 : ir g7 0 24 := gi_r (cpin_P hW (cg11 k0) rfl (by decide) nh0_7)
  have hx := B.exec
  have hb := B.bytes
  have hr := B.returns
  have hts : ∀ w ∈ lw_g, w.before _ s = true := fun w h => atoms_spec (ws := wc_ws yX11_rows cX11_rows 4 none) B.pre w (List.mem_cons_of_mem _ h)
  have hown : s.vm.findClass RX11 = some m.cls := findClass_of_methodNamed B.named
  have hlocks := B.notSynchronized
  have hS : va_S (cE N [11]) s.heap s.heap [] := va_S.rf
  have hl := lv_entry ([.ref h0, .int p1, .int p2]) (n := 4) (Nat.le_of_ble_eq_true rfl)
  rw [lg_entry_eq]
  generalize (lg_sl ([.ref h0, .int p1, .int p2]) ++ List.replicate (4 - (lg_sl ([.ref h0, .int p1, .int p2])).length) Slot.unset).toArray = ls at hl ⊢
  have hl : lv_has ls 4 [(0, .ref h0), (1, .int p1), (2, .int p2)] := hl
  refine wq_all ?_
  intro WW w1 w2
  have L6 : ∀ (n : Nat) (H : Heap) (locs : List Loc) (ls : Array Slot) (v6_3 : Int32), cW N H → mI N h0 H → kp N h0 [32, 33, 34, 35, 36, 37, 38] V H → va_S (cE N [11]) s.heap H locs → lv_has ls 4 [(0, .ref h0), (1, .int p1), (2, .int p2), (3, .int v6_3)] → ir p1 0 24 → ir p2 1 4 → ir v6_3 0 24 → ir g7 0 24 → wt_pin N.1 vwCl h0 11 7 (.int g7) H → 24 - v6_3.toInt < (n : Int) → WW H locs (F0 m 6 ls []) := by
    intro n
    induction n with
    | zero =>
      intro H locs ls v6_3 hW hI hV hS hl rv6_1 rv6_2 rv6_3 ru6_0 nh0_7 mu6
      exfalso
      omega
    | succ n ih6 =>
      intro H locs ls v6_3 hW hI hV hS hl rv6_1 rv6_2 rv6_3 ru6_0 nh0_7 mu6
      refine w1 _ _ _ ?_
      refine lv_iload_n hx hb dX11_rows_6 rfl (lv_at hl 3 rfl) ?_
      refine lv_iload_n hx hb dX11_rows_7 rfl (lv_at hl 1 rfl) ?_
      refine lv_icmp_ge (tgt := 42) hx hb dX11_rows_8 (by decide) (fun c8 => ?_) (fun c8 => ?_)
      · have d8 := Int32.le_iff_toInt_le.mp c8
        exact W.vret hx hb hr (fun t ht _ => ⟨⟨(), rfl, trivial, cW_at ht hW, ⟨mI_at ht hI, kp_at ht hV⟩⟩, hS.F ht⟩) hS.2.2 dX11_rows_42
      · have rv6_3_8 : ir v6_3 0 23 := ⟨(rv6_3).1, Int.le_trans (rf_lt (rf_nle c8) rv6_3 rv6_1).1 (by decide)⟩
        have rp1_8 : ir p1 1 24 := ⟨Int.le_trans (by decide) (rf_lt (rf_nle c8) rv6_3 rv6_1).2, (rv6_1).2⟩
        have d8 := Int32.lt_iff_toInt_lt.mp (rf_nle c8)
        refine lv_aload_n hx hb dX11_rows_11 rfl (lv_at hl 0 rfl) ?_
        refine lv_aload_n hx hb dX11_rows_12 rfl (lv_at hl 0 rfl) ?_
        refine wt_get hx hb hts cfX11 hown hK hW (cg11 k0) rfl 4 (by decide) q876 dX11_rows_13 (fun v hv => ?_)
        obtain ⟨x13, rfl, k13⟩ : gr N 42 v := hv
        refine lv_iload_n hx hb dX11_rows_16 rfl (lv_at hl 3 rfl) ?_
        refine wt_iald hx hb hK hW 0 (cg42 k13) rfl (ir_in (ir_w (lo' := 0) (hi' := 24) rv6_3_8 (by decide) (by decide)) (by decide) (by decide)) dX11_rows_17 (fun v hv => ?_)
        obtain ⟨x17, rfl, r17⟩ : gi 0 5 v := hv
        refine lv_aload_n hx hb dX11_rows_18 rfl (lv_at hl 0 rfl) ?_
        refine wt_get hx hb hts cfX11 hown hK hW (cg11 k0) rfl 5 (by decide) q877 dX11_rows_19 (fun v hv => ?_)
        obtain ⟨x19, rfl, k19⟩ : gr N 43 v := hv
        refine lv_iload_n hx hb dX11_rows_22 rfl (lv_at hl 3 rfl) ?_
        refine wt_ialdx hx hb hK hW 0 (cg43 k19) rfl (ir_in (ir_w (lo' := 0) (hi' := 24) rv6_3_8 (by decide) (by decide)) (by decide) (by decide)) dX11_rows_23 (fun v hv ap23 => ?_)
        obtain ⟨x23, rfl, r23⟩ : gi 0 6 v := hv
        refine lv_i2l hx hb dX11_rows_24 rfl ?_
        refine lv_topl (fun x24 e24 => ?_)
        have r24 : lr x24 0 6 := by rw [e24]; exact i2l_r r23
        have t24 : x24.toInt = x23.toInt := by rw [e24]; exact Int32.toInt_toInt64 x23
        refine lv_aload_n hx hb dX11_rows_25 rfl (lv_at hl 0 rfl) ?_
        refine wt_get hx hb hts cfX11 hown hK hW (cg11 k0) rfl 6 (by decide) q878 dX11_rows_26 (fun v hv => ?_)
        obtain ⟨x26, rfl, k26⟩ : gr N 44 v := hv
        refine lv_iload_n hx hb dX11_rows_29 rfl (lv_at hl 3 rfl) ?_
        refine wt_ialdx hx hb hK hW 0 (cg44 k26) rfl (ir_in (ir_w (lo' := 0) (hi' := 24) rv6_3_8 (by decide) (by decide)) (by decide) (by decide)) dX11_rows_30 (fun v hv ap30 => ?_)
        obtain ⟨x30, rfl, r30⟩ : gi 0 6 v := hv
        refine lv_i2l hx hb dX11_rows_31 rfl ?_
        refine lv_topl (fun x31 e31 => ?_)
        have r31 : lr x31 0 6 := by rw [e31]; exact i2l_r r30
        have t31 : x31.toInt = x30.toInt := by rw [e31]; exact Int32.toInt_toInt64 x30
        refine lv_iload_n hx hb dX11_rows_32 rfl (lv_at hl 2 rfl) ?_
        obtain ⟨V1, hV1⟩ := kp_all hW k0
        refine cc_v (B2 := fun H => mI N h0 H ∧ kp N h0 [32, 33, 34, 35, 36, 37, 38] V1 H) (wt_runV (As := [.int x17, .long x24, .long x31, .int p2]) (rest := []) ⟨hx, hb, hml, hown, hts⟩ (m_X11_adds l N h0 k0 hO V1 x17 r17 x24 (lr_w (lo' := 0) (hi' := 78) r24 (by decide) (by decide)) x31 (lr_w (lo' := 0) (hi' := 78) r31 (by decide) (by decide)) p2 rv6_2 (hz_l (QL_use hI.1 nh0_7 k19 k26 ap23 ap30 rv6_3_8 (by decide) (by decide) (by omega)) e24 e31)) wm_X11_adds q1223 ⟨rfl, rfl⟩ ⟨Nat.le_of_ble_eq_true rfl, Nat.le_of_ble_eq_true rfl⟩ (cS_preV (B := fun H => mI N h0 H ∧ kp N h0 [32, 33, 34, 35, 36, 37, 38] V1 H) hK hW hT hnn hS (cg11 k0) rfl rfl (And.intro hI (kp_of (F := [32, 33, 34, 35, 36, 37, 38]) hV1))) rfl hl.1 rfl (Nat.le_of_ble_eq_true rfl) dX11_rows_33 ⟨Nat.zero_le _, Nat.zero_le _⟩) hS (by decide) (fun H locs hW hS oq hB2 => ?_)
        obtain ⟨hI, hV2⟩ := hB2
        have hV := kp_call hV hV1 hV2 (by decide)
        have nh0_7 := kp_use hV1 hV2 (by decide) (by decide) nh0_7
        obtain ⟨x36, e36⟩ : ∃ y : Int32, y = v6_3 + 1 := ⟨_, rfl⟩
        have r36 : ir x36 1 24 := ir_w (ir_add e36 rv6_3_8 (ir_c (1) (by decide) : ir (1 : Int32) (1) (1)) (by decide) (by decide)) (by decide) (by decide)
        have t36 : x36.toInt = v6_3.toInt + (1) := it_add e36 rv6_3_8 (ir_c (1) (by decide) : ir (1 : Int32) (1) (1)) (by decide) (by decide)
        refine lv_iinc (v := x36) (lv' := [(3, .int x36), (0, .ref h0), (1, .int p1), (2, .int p2)]) hx hb dX11_rows_36 hl (k := 3) rfl (by rw [e36]; rfl) (by decide) rfl (fun ls hl => ?_)
        refine lv_goto (tgt := 6) hx hb dX11_rows_39 (by decide) ?_
        exact w2 _ _ _ (ih6 _ _ _ x36 hW hI hV hS (lv_sub hl [1, 2, 3, 0] rfl) (ir_w (lo' := 0) (hi' := 24) rp1_8 (by decide) (by decide)) rv6_2 (ir_w (lo' := 0) (hi' := 24) r36 (by decide) (by decide)) ru6_0 nh0_7 (by have h9 := r36; omega))
  refine lv_aload_n hx hb dX11_rows_0 rfl (lv_at hl 0 rfl) ?_
  obtain ⟨V1, hV1⟩ := kp_all hW k0
  refine cc_v (B2 := fun H => mI N h0 H ∧ kp N h0 [34, 35, 36, 37, 38] V1 H ∧ pL N h0 34 1 H ∧ pL N h0 35 0 H ∧ pL N h0 36 0 H ∧ pL N h0 37 1 H ∧ pI N h0 38 1 H) (wt_runV (As := []) (rest := []) ⟨hx, hb, hml, hown, hts⟩ (m_X11_begins l N h0 k0 hO V1) wm_X11_begins q1219 ⟨rfl, rfl⟩ ⟨Nat.le_of_ble_eq_true rfl, Nat.le_of_ble_eq_true rfl⟩ (cS_preV (B := fun H => mI N h0 H ∧ kp N h0 [34, 35, 36, 37, 38] V1 H) hK hW hT hnn hS (cg11 k0) rfl rfl (And.intro hI (kp_of (F := [34, 35, 36, 37, 38]) hV1))) rfl hl.1 rfl (Nat.le_of_ble_eq_true rfl) dX11_rows_1 ⟨Nat.zero_le _, Nat.zero_le _⟩) hS (by decide) (fun H locs hW hS oq hB2 => ?_)
  obtain ⟨hI, hV2, hB2⟩ := hB2
  have hV := kp_call hV hV1 hV2 (by decide)
  obtain ⟨nh0_34, nh0_35, nh0_36, nh0_37, nh0_38⟩ := hB2
  have nh0_7 := kp_use hV1 hV2 (by decide) (by decide) nh0_7
  refine lv_iconst (v := 0) hx hb dX11_rows_4 (by decide) ?_
  refine lv_istore_n (lv' := [(3, .int (0 : Int32)), (0, .ref h0), (1, .int p1), (2, .int p2)]) hx hb dX11_rows_5 rfl hl (by decide) rfl (fun ls hl => ?_)
  exact w2 _ _ _ (L6 25 _ _ _ (0 : Int32) hW hI hV hS (lv_sub hl [1, 2, 3, 0] rfl) rp1 rp2 (ir_w (lo' := 0) (hi' := 24) (ir_c (0) (by decide) : ir (0 : Int32) (0) (0)) (by decide) (by decide)) rg7 nh0_7 (by have h9 := (ir_c (0) (by decide) : ir (0 : Int32) (0) (0)); omega))
set_option maxHeartbeats 4000000 in
set_option maxRecDepth 100000 in
theorem m_X11_shines (l : Launch) (N : c_N) (h0 : Nat) (k0 : N.2.2.1 h0 = some 11) (hO : mOK N) (V : Nat → Value) (p1 : Int32) (rp1 : ir p1 0 24) (p2 : Int32) (rp2 : ir p2 1 4) (g7 : Int32) (hn : p1.toInt ≤ g7.toInt) : cMi2 l yX11_shines cX11_shines 3 .boolean { frames := 4, cells := 0, slots := 0, locals := 126 } [.ref h0, .int p1, .int p2] N [11] (fun H => mI N h0 H ∧ kp N h0 [32, 33, 34, 35, 36, 37, 38, 39, 40, 41, 42] V H ∧ wt_pin N.1 vwCl h0 11 7 (.int g7) H) (fun r => ir r 0 1) (fun r H => mI N h0 H ∧ kp N h0 [32, 33, 34, 35, 36, 37, 38, 39, 40, 41, 42] V H ∧ (¬ r = 0 → ∃ bu bb : Int64, pL N h0 39 bu H ∧ pL N h0 40 bb H ∧ 0 ≤ bu.toInt ∧ 1 ≤ bb.toInt)) := by
  refine Met.ofW (cc := cX11_shines) (maxL := 3) (ret := some .boolean) (by decide) rfl ?_
  intro p e s m args below meth c s₁ B hml hv
  obtain ⟨rfl, ⟨hK, hW, hT, hnn⟩, hB⟩ := hv
  obtain ⟨hI, hV, hB⟩ := hB
  have nh0_7 := hB
  have rg7 : ir g7 0 24 := gi_r (cpin_P hW (cg11 k0) rfl (by decide) nh0_7)
  have hx := B.exec
  have hb := B.bytes
  have hr := B.returns
  have hts : ∀ w ∈ lw_g, w.before _ s = true := fun w h => atoms_spec (ws := wc_ws yX11_shines cX11_shines 3 (some .boolean)) B.pre w (List.mem_cons_of_mem _ h)
  have hown : s.vm.findClass RX11 = some m.cls := findClass_of_methodNamed B.named
  have hlocks := B.notSynchronized
  have hS : va_S (cE N [11]) s.heap s.heap [] := va_S.rf
  have hl := lv_entry ([.ref h0, .int p1, .int p2]) (n := 3) (Nat.le_of_ble_eq_true rfl)
  rw [lg_entry_eq]
  generalize (lg_sl ([.ref h0, .int p1, .int p2]) ++ List.replicate (3 - (lg_sl ([.ref h0, .int p1, .int p2])).length) Slot.unset).toArray = ls at hl ⊢
  have hl : lv_has ls 3 [(0, .ref h0), (1, .int p1), (2, .int p2)] := hl
  refine wq_all ?_
  intro WW w1 w2
  refine lv_aload_n hx hb dX11_shines_0 rfl (lv_at hl 0 rfl) ?_
  refine lv_iload_n hx hb dX11_shines_1 rfl (lv_at hl 1 rfl) ?_
  refine lv_iload_n hx hb dX11_shines_2 rfl (lv_at hl 2 rfl) ?_
  obtain ⟨V1, hV1⟩ := kp_all hW k0
  refine cc_v (B2 := fun H => mI N h0 H ∧ kp N h0 [32, 33, 34, 35, 36, 37, 38] V1 H) (wt_runV (As := [.int p1, .int p2]) (rest := []) ⟨hx, hb, hml, hown, hts⟩ (m_X11_rows l N h0 k0 hO V1 p1 rp1 p2 rp2 g7 (by have h6 := rp1; have h7 := rg7; omega)) wm_X11_rows q1215 ⟨rfl, rfl⟩ ⟨Nat.le_of_ble_eq_true rfl, Nat.le_of_ble_eq_true rfl⟩ (cS_preV (B := fun H => mI N h0 H ∧ kp N h0 [32, 33, 34, 35, 36, 37, 38] V1 H ∧ wt_pin N.1 vwCl h0 11 7 (.int g7) H) hK hW hT hnn hS (cg11 k0) rfl rfl (And.intro hI (And.intro (kp_of (F := [32, 33, 34, 35, 36, 37, 38]) hV1) nh0_7))) rfl hl.1 rfl (Nat.le_of_ble_eq_true rfl) dX11_shines_3 ⟨Nat.zero_le _, Nat.zero_le _⟩) hS (by decide) (fun H locs hW hS oq hB2 => ?_)
  obtain ⟨hI, hV2⟩ := hB2
  have hV := kp_call hV hV1 hV2 (by decide)
  have nh0_7 := kp_use hV1 hV2 (by decide) (by decide) nh0_7
  refine lv_aload_n hx hb dX11_shines_6 rfl (lv_at hl 0 rfl) ?_
  refine wt_getp hx hb hts cfX11 hown hK hW (cg11 k0) rfl 38 (by decide) (Or.inl (hts _ q910)) dX11_shines_7 (fun v hv nh0_38 => ?_)
  obtain ⟨x7, rfl, r7⟩ : gi 0 1 v := hv
  refine lv_if_eq (tgt := 17) hx hb dX11_shines_10 (by decide) (fun c10 => ?_) (fun c10 => ?_)
  · have rx7_10 : ir x7 0 0 := rf_eq c10 (ir_c (0) (by decide) : ir (0 : Int32) (0) (0))
    refine lv_aload_n hx hb dX11_shines_17 rfl (lv_at hl 0 rfl) ?_
    refine wt_rel hx hb hts cfX11 hown hK nh0_38 rfl (by decide) (Or.inl (hts _ q910)) dX11_shines_18 ?_
    exact W.zret (v := x7) hx hb hr (nar01 (ir_w (lo' := 0) (hi' := 1) rx7_10 (by decide) (by decide))) (fun t ht _ => ⟨⟨x7, x7, rfl, ⟨rfl, (ir_w (lo' := 0) (hi' := 1) rx7_10 (by decide) (by decide))⟩, cW_at ht hW, ⟨mI_at ht hI, kp_at ht hV, fun h => absurd (i_eq0 rx7_10) h⟩⟩, hS.F ht⟩) hS.2.2 dX11_shines_21
  · have rx7_10 : ir x7 1 1 := rf_ne0 c10 r7
    refine lv_aload_n hx hb dX11_shines_13 rfl (lv_at hl 0 rfl) ?_
    obtain ⟨V1, hV1⟩ := kp_all hW k0
    refine cc_v (B2 := fun H => mI N h0 H ∧ kp N h0 [39, 40, 41, 42] V1 H ∧ ∃ bu bb : Int64, pL N h0 39 bu H ∧ pL N h0 40 bb H ∧ 0 ≤ bu.toInt ∧ 1 ≤ bb.toInt) (wt_runV (As := []) (rest := []) ⟨hx, hb, hml, hown, hts⟩ (m_X11_lights l N h0 k0 hO V1 x7 (i_ne0 rx7_10 (by decide))) wm_X11_lights q1242 ⟨rfl, rfl⟩ ⟨Nat.le_of_ble_eq_true rfl, Nat.le_of_ble_eq_true rfl⟩ (cS_preV (B := fun H => mI N h0 H ∧ kp N h0 [39, 40, 41, 42] V1 H ∧ wt_pin N.1 vwCl h0 11 38 (.int x7) H) hK hW hT hnn hS (cg11 k0) rfl rfl (And.intro hI (And.intro (kp_of (F := [39, 40, 41, 42]) hV1) nh0_38))) rfl hl.1 rfl (Nat.le_of_ble_eq_true rfl) dX11_shines_14 ⟨Nat.zero_le _, Nat.zero_le _⟩) hS (by decide) (fun H locs hW hS oq hB2 => ?_)
    obtain ⟨hI, hV2, hB2⟩ := hB2
    have hV := kp_call hV hV1 hV2 (by decide)
    obtain ⟨bu14, bb14, nh0_39, nh0_40, vu14, vb14⟩ := hB2
    have nh0_7 := kp_use hV1 hV2 (by decide) (by decide) nh0_7
    have nh0_38 := kp_use hV1 hV2 (by decide) (by decide) nh0_38
    refine lv_aload_n hx hb dX11_shines_17 rfl (lv_at hl 0 rfl) ?_
    refine wt_rel hx hb hts cfX11 hown hK nh0_38 rfl (by decide) (Or.inl (hts _ q910)) dX11_shines_18 ?_
    exact W.zret (v := x7) hx hb hr (nar01 (ir_w (lo' := 0) (hi' := 1) rx7_10 (by decide) (by decide))) (fun t ht _ => ⟨⟨x7, x7, rfl, ⟨rfl, (ir_w (lo' := 0) (hi' := 1) rx7_10 (by decide) (by decide))⟩, cW_at ht hW, ⟨mI_at ht hI, kp_at ht hV, fun _ => ⟨_, _, pin_at ht nh0_39, pin_at ht nh0_40, ((⟨vu14, (lr_any bu14).2⟩ : lr bu14 0 9223372036854775807)).1, ((⟨vb14, (lr_any bb14).2⟩ : lr bb14 1 9223372036854775807)).1⟩⟩⟩, hS.F ht⟩) hS.2.2 dX11_shines_21
