set_option maxHeartbeats 4000000 in
set_option maxRecDepth 100000 in
theorem m_X9_peek_k (l : Launch) (N : c_N) (h0 : Nat) (k0 : N.2.2.1 h0 = some 9) (r0 : Int32) : cMi l yX9_peek cX9_peek 1 .int { frames := 0, cells := 0, slots := 0, locals := 0 } [.ref h0] N [] (fun H => pk N h0 r0 H) (fun r => r = r0) := by
  refine Met.ofW (cc := cX9_peek) (maxL := 1) (ret := some .int) (by decide) rfl ?_
  intro p e s m args below meth c s₁ B hml hv
  obtain ⟨rfl, ⟨hK, hW, hT, hnn⟩, hB⟩ := hv
  have hx := B.exec
  have hb := B.bytes
  have hr := B.returns
  have hts : ∀ w ∈ lw_g, w.before _ s = true := fun w h => atoms_spec (ws := wc_ws yX9_peek cX9_peek 1 (some .int)) B.pre w (List.mem_cons_of_mem _ h)
  have hown : s.vm.findClass RX9 = some m.cls := findClass_of_methodNamed B.named
  have hlocks := B.notSynchronized
  have hS : va_S (cE N []) s.heap s.heap [] := va_S.rf
  have hl := lv_entry ([.ref h0]) (n := 1) (Nat.le_of_ble_eq_true rfl)
  rw [lg_entry_eq]
  generalize (lg_sl ([.ref h0]) ++ List.replicate (1 - (lg_sl ([.ref h0])).length) Slot.unset).toArray = ls at hl ⊢
  have hl : lv_has ls 1 [(0, .ref h0)] := hl
  obtain ⟨x8, x1, q, f, n8, n1, n0, hqf, hin, hout⟩ := hB
  refine lv_aload_n hx hb dX9_peek_0 rfl (lv_at hl 0 rfl) ?_
  refine wt_rel hx hb hts cfX9 hown hK n8 rfl (by decide) (Or.inl (hts _ q65)) dX9_peek_1 ?_
  refine lv_if_lt (tgt := 40) hx hb dX9_peek_4 (by decide) (fun c4 => ?_) (fun c4 => ?_)
  · have d4 : x8.toInt < 0 := Int32.lt_iff_toInt_lt.mp c4
    refine lv_iconst (v := -1) hx hb dX9_peek_40 (by decide) ?_
    exact W.iret (v := (-1 : Int32)) hx hb hr (fun t ht _ => ⟨⟨(-1 : Int32), (), rfl, (hout (by omega)).symm, cW_at ht hW⟩, hS.F ht⟩) hS.2.2 dX9_peek_41
  · have d4 : (0 : Int) ≤ x8.toInt := Int32.le_iff_toInt_le.mp (rf_nlt c4)
    refine lv_aload_n hx hb dX9_peek_7 rfl (lv_at hl 0 rfl) ?_
    refine wt_rel hx hb hts cfX9 hown hK n8 rfl (by decide) (Or.inl (hts _ q65)) dX9_peek_8 ?_
    refine lv_aload_n hx hb dX9_peek_11 rfl (lv_at hl 0 rfl) ?_
    refine wt_rel hx hb hts cfX9 hown hK n1 rfl (by decide) (Or.inl (hts _ q54)) dX9_peek_12 ?_
    refine lv_icmp_ge (tgt := 40) hx hb dX9_peek_15 (by decide) (fun c15 => ?_) (fun c15 => ?_)
    · have d15 : x1.toInt ≤ x8.toInt := Int32.le_iff_toInt_le.mp c15
      refine lv_iconst (v := -1) hx hb dX9_peek_40 (by decide) ?_
      exact W.iret (v := (-1 : Int32)) hx hb hr (fun t ht _ => ⟨⟨(-1 : Int32), (), rfl, (hout (by omega)).symm, cW_at ht hW⟩, hS.F ht⟩) hS.2.2 dX9_peek_41
    · have d15 : x8.toInt < x1.toInt := Int32.lt_iff_toInt_lt.mp (rf_nle c15)
      refine lv_aload_n hx hb dX9_peek_18 rfl (lv_at hl 0 rfl) ?_
      refine wt_rel hx hb hts cfX9 hown hK n8 rfl (by decide) (Or.inl (hts _ q65)) dX9_peek_19 ?_
      refine lv_sipush (v := 200) hx hb dX9_peek_22 (by decide) ?_
      refine lv_icmp_ge (tgt := 40) hx hb dX9_peek_25 (by decide) (fun c25 => ?_) (fun c25 => ?_)
      · have d25 : (200 : Int) ≤ x8.toInt := Int32.le_iff_toInt_le.mp c25
        refine lv_iconst (v := -1) hx hb dX9_peek_40 (by decide) ?_
        exact W.iret (v := (-1 : Int32)) hx hb hr (fun t ht _ => ⟨⟨(-1 : Int32), (), rfl, (hout (by omega)).symm, cW_at ht hW⟩, hS.F ht⟩) hS.2.2 dX9_peek_41
      · have d25 : x8.toInt < (200 : Int) := Int32.lt_iff_toInt_lt.mp (rf_nle c25)
        refine lv_aload_n hx hb dX9_peek_28 rfl (lv_at hl 0 rfl) ?_
        refine wt_rel hx hb hts cfX9 hown hK n0 rfl (by decide) (Or.inl (hts _ q53)) dX9_peek_29 ?_
        refine lv_aload_n hx hb dX9_peek_32 rfl (lv_at hl 0 rfl) ?_
        refine wt_rel hx hb hts cfX9 hown hK n8 rfl (by decide) (Or.inl (hts _ q65)) dX9_peek_33 ?_
        have hi8 : vp_in x8 200 := vp_in_iff.mpr ⟨by omega, by omega⟩
        have hlt : x8.toNatClampNeg < 200 := Nat.not_le.mp fun z => hi8 (Or.inr z)
        refine W.iald (v := .int r0) hx hb hqf ((hK.2 0 _ rfl).1 200 f) (fun z => by cases z) (by show ¬ (x8 < 0 ∨ (arrV _ _ _).slots.size ≤ _); rw [arrV_size]; exact hi8) (by show (arrV _ _ _).slots[_]? = _; rw [arrV_read _ _ hlt, hin ⟨d4, d15, d25⟩]) rfl rfl dX9_peek_36 ?_
        refine W.eq (g2 := F0 m 37 ls [.int r0]) rfl ?_
        refine lv_goto (tgt := 41) hx hb dX9_peek_37 (by decide) ?_
        exact W.iret (v := r0) hx hb hr (fun t ht _ => ⟨⟨r0, (), rfl, rfl, cW_at ht hW⟩, hS.F ht⟩) hS.2.2 dX9_peek_41
set_option maxHeartbeats 4000000 in
set_option maxRecDepth 100000 in
theorem m_X9_peek (l : Launch) (N : c_N) (h0 : Nat) (k0 : N.2.2.1 h0 = some 9) : cMi l yX9_peek cX9_peek 1 .int { frames := 0, cells := 0, slots := 0, locals := 0 } [.ref h0] N [] cT0 (fun r => ir r (-1) 255) := by
  refine Met.ofW (cc := cX9_peek) (maxL := 1) (ret := some .int) (by decide) rfl ?_
  intro p e s m args below meth c s₁ B hml hv
  obtain ⟨rfl, ⟨hK, hW, hT, hnn⟩, hB⟩ := hv
  have hx := B.exec
  have hb := B.bytes
  have hr := B.returns
  have hts : ∀ w ∈ lw_g, w.before _ s = true := fun w h => atoms_spec (ws := wc_ws yX9_peek cX9_peek 1 (some .int)) B.pre w (List.mem_cons_of_mem _ h)
  have hown : s.vm.findClass RX9 = some m.cls := findClass_of_methodNamed B.named
  have hlocks := B.notSynchronized
  have hS : va_S (cE N []) s.heap s.heap [] := va_S.rf
  have hl := lv_entry ([.ref h0]) (n := 1) (Nat.le_of_ble_eq_true rfl)
  rw [lg_entry_eq]
  generalize (lg_sl ([.ref h0]) ++ List.replicate (1 - (lg_sl ([.ref h0])).length) Slot.unset).toArray = ls at hl ⊢
  have hl : lv_has ls 1 [(0, .ref h0)] := hl
  refine wq_all ?_
  intro WW w1 w2
  refine lv_aload_n hx hb dX9_peek_0 rfl (lv_at hl 0 rfl) ?_
  refine wt_getp hx hb hts cfX9 hown hK hW (cg9 k0) rfl 8 (by decide) (Or.inl (hts _ q65)) dX9_peek_1 (fun v hv nh0_8 => ?_)
  obtain ⟨x1, rfl⟩ : ga v := hv
  refine lv_if_lt (tgt := 40) hx hb dX9_peek_4 (by decide) (fun c4 => ?_) (fun c4 => ?_)
  · have rx1_4 : ir x1 (-2147483648) (-1) := ⟨((ir_any x1)).1, Int.le_trans (rf_lt c4 (ir_any x1) (ir_c (0) (by decide) : ir (0 : Int32) (0) (0))).1 (by decide)⟩
    refine lv_iconst (v := -1) hx hb dX9_peek_40 (by decide) ?_
    exact W.iret (v := (-1 : Int32)) hx hb hr (fun t ht _ => ⟨⟨(-1 : Int32), (), rfl, (ir_w (lo' := -1) (hi' := 255) (ir_c (-1) (by decide) : ir (-1 : Int32) (-1) (-1)) (by decide) (by decide)), cW_at ht hW⟩, hS.F ht⟩) hS.2.2 dX9_peek_41
  · have rx1_4 : ir x1 0 2147483647 := ⟨Int.le_trans (by decide) (rf_le (rf_nlt c4) (ir_c (0) (by decide) : ir (0 : Int32) (0) (0)) (ir_any x1)).2, ((ir_any x1)).2⟩
    refine lv_aload_n hx hb dX9_peek_7 rfl (lv_at hl 0 rfl) ?_
    refine wt_rel hx hb hts cfX9 hown hK nh0_8 rfl (by decide) (Or.inl (hts _ q65)) dX9_peek_8 ?_
    refine lv_aload_n hx hb dX9_peek_11 rfl (lv_at hl 0 rfl) ?_
    refine wt_getp hx hb hts cfX9 hown hK hW (cg9 k0) rfl 1 (by decide) (Or.inl (hts _ q54)) dX9_peek_12 (fun v hv nh0_1 => ?_)
    obtain ⟨x12, rfl, r12⟩ : gi 0 200 v := hv
    refine lv_icmp_ge (tgt := 40) hx hb dX9_peek_15 (by decide) (fun c15 => ?_) (fun c15 => ?_)
    · refine lv_iconst (v := -1) hx hb dX9_peek_40 (by decide) ?_
      exact W.iret (v := (-1 : Int32)) hx hb hr (fun t ht _ => ⟨⟨(-1 : Int32), (), rfl, (ir_w (lo' := -1) (hi' := 255) (ir_c (-1) (by decide) : ir (-1 : Int32) (-1) (-1)) (by decide) (by decide)), cW_at ht hW⟩, hS.F ht⟩) hS.2.2 dX9_peek_41
    · have rx1_15 : ir x1 0 199 := ⟨(rx1_4).1, Int.le_trans (rf_lt (rf_nle c15) rx1_4 r12).1 (by decide)⟩
      have rx12_15 : ir x12 1 200 := ⟨Int.le_trans (by decide) (rf_lt (rf_nle c15) rx1_4 r12).2, (r12).2⟩
      refine lv_aload_n hx hb dX9_peek_18 rfl (lv_at hl 0 rfl) ?_
      refine wt_rel hx hb hts cfX9 hown hK nh0_8 rfl (by decide) (Or.inl (hts _ q65)) dX9_peek_19 ?_
      refine lv_sipush (v := 200) hx hb dX9_peek_22 (by decide) ?_
      refine lv_icmp_ge (tgt := 40) hx hb dX9_peek_25 (by decide) (fun c25 => ?_) (fun c25 => ?_)
      · exact absurd (rf_le c25 (ir_c (200) (by decide) : ir (200 : Int32) (200) (200)) rx1_15) (by have h8 := (ir_c (200) (by decide) : ir (200 : Int32) (200) (200)); have h9 := rx1_15; omega)
      · refine lv_aload_n hx hb dX9_peek_28 rfl (lv_at hl 0 rfl) ?_
        refine wt_get hx hb hts cfX9 hown hK hW (cg9 k0) rfl 0 (by decide) q53 dX9_peek_29 (fun v hv => ?_)
        obtain ⟨x29, rfl, k29⟩ : gr N 21 v := hv
        refine lv_aload_n hx hb dX9_peek_32 rfl (lv_at hl 0 rfl) ?_
        refine wt_rel hx hb hts cfX9 hown hK nh0_8 rfl (by decide) (Or.inl (hts _ q65)) dX9_peek_33 ?_
        refine wt_iald hx hb hK hW 0 (cg21 k29) rfl (ir_in rx1_15 (by decide) (by decide)) dX9_peek_36 (fun v hv => ?_)
        obtain ⟨x36, rfl, r36⟩ : gi 0 255 v := hv
        refine lv_goto (tgt := 41) hx hb dX9_peek_37 (by decide) ?_
        exact W.iret (v := x36) hx hb hr (fun t ht _ => ⟨⟨x36, (), rfl, (ir_w (lo' := -1) (hi' := 255) r36 (by decide) (by decide)), cW_at ht hW⟩, hS.F ht⟩) hS.2.2 dX9_peek_41
set_option maxHeartbeats 4000000 in
set_option maxRecDepth 100000 in
theorem m_X9_fail (l : Launch) (N : c_N) (h0 : Nat) (k0 : N.2.2.1 h0 = some 9) (p1 : Int32) (p2 : Int32) : cMv l yX9_fail cX9_fail 3 { frames := 0, cells := 0, slots := 0, locals := 0 } [.ref h0, .int p1, .int p2] N [9] cT0 cT0 := by
  refine Met.ofW (cc := cX9_fail) (maxL := 3) (ret := none) (by decide) rfl ?_
  intro p e s m args below meth c s₁ B hml hv
  obtain ⟨rfl, ⟨hK, hW, hT, hnn⟩, hB⟩ := hv
  have hx := B.exec
  have hb := B.bytes
  have hr := B.returns
  have hts : ∀ w ∈ lw_g, w.before _ s = true := fun w h => atoms_spec (ws := wc_ws yX9_fail cX9_fail 3 none) B.pre w (List.mem_cons_of_mem _ h)
  have hown : s.vm.findClass RX9 = some m.cls := findClass_of_methodNamed B.named
  have hlocks := B.notSynchronized
  have hS : va_S (cE N [9]) s.heap s.heap [] := va_S.rf
  have hl := lv_entry ([.ref h0, .int p1, .int p2]) (n := 3) (Nat.le_of_ble_eq_true rfl)
  rw [lg_entry_eq]
  generalize (lg_sl ([.ref h0, .int p1, .int p2]) ++ List.replicate (3 - (lg_sl ([.ref h0, .int p1, .int p2])).length) Slot.unset).toArray = ls at hl ⊢
  have hl : lv_has ls 3 [(0, .ref h0), (1, .int p1), (2, .int p2)] := hl
  refine wq_all ?_
  intro WW w1 w2
  refine lv_aload_n hx hb dX9_fail_0 rfl (lv_at hl 0 rfl) ?_
  refine lv_iload_n hx hb dX9_fail_1 rfl (lv_at hl 1 rfl) ?_
  refine wt_putp hx hb hts cfX9 tyX9 tyX9_ok nmX9 hown hK hW hS (cg9 k0) (ce k0 (by decide)) rfl 2 (by decide) (Or.inl (hts _ q56)) rfl rfl rfl ga_mk dX9_fail_2 (fun H locs hW hS oq o2 np => ?_)
  have nh0_2 : wt_pin N.1 vwCl h0 9 2 (.int p1) H := np
  refine lv_aload_n hx hb dX9_fail_5 rfl (lv_at hl 0 rfl) ?_
  refine lv_iload_n hx hb dX9_fail_6 rfl (lv_at hl 2 rfl) ?_
  refine wt_putp hx hb hts cfX9 tyX9 tyX9_ok nmX9 hown hK hW hS (cg9 k0) (ce k0 (by decide)) rfl 3 (by decide) (Or.inl (hts _ q58)) rfl rfl rfl ga_mk dX9_fail_7 (fun H locs hW hS oq o2 np => ?_)
  have nh0_2 := o2 2 _ (by decide) (by decide) nh0_2
  have nh0_3 : wt_pin N.1 vwCl h0 9 3 (.int p2) H := np
  exact W.vret hx hb hr (fun t ht _ => ⟨⟨(), rfl, trivial, cW_at ht hW, trivial⟩, hS.F ht⟩) hS.2.2 dX9_fail_10
set_option maxHeartbeats 4000000 in
set_option maxRecDepth 100000 in
theorem m_X9_append (l : Launch) (N : c_N) (h0 : Nat) (k0 : N.2.2.1 h0 = some 9) (p1 : Int32) : cMv l yX9_append cX9_append 3 { frames := 0, cells := 0, slots := 0, locals := 0 } [.ref h0, .int p1] N [9, 21] cT0 cT0 := by
  refine Met.ofW (cc := cX9_append) (maxL := 3) (ret := none) (by decide) rfl ?_
  intro p e s m args below meth c s₁ B hml hv
  obtain ⟨rfl, ⟨hK, hW, hT, hnn⟩, hB⟩ := hv
  have hx := B.exec
  have hb := B.bytes
  have hr := B.returns
  have hts : ∀ w ∈ lw_g, w.before _ s = true := fun w h => atoms_spec (ws := wc_ws yX9_append cX9_append 3 none) B.pre w (List.mem_cons_of_mem _ h)
  have hown : s.vm.findClass RX9 = some m.cls := findClass_of_methodNamed B.named
  have hlocks := B.notSynchronized
  have hS : va_S (cE N [9, 21]) s.heap s.heap [] := va_S.rf
  have hl := lv_entry ([.ref h0, .int p1]) (n := 3) (Nat.le_of_ble_eq_true rfl)
  rw [lg_entry_eq]
  generalize (lg_sl ([.ref h0, .int p1]) ++ List.replicate (3 - (lg_sl ([.ref h0, .int p1])).length) Slot.unset).toArray = ls at hl ⊢
  have hl : lv_has ls 3 [(0, .ref h0), (1, .int p1)] := hl
  refine wq_all ?_
  intro WW w1 w2
  have L3 : ∀ (n : Nat) (H : Heap) (locs : List Loc) (ls : Array Slot) (v3_2 : Int32), cW N H → va_S (cE N [9, 21]) s.heap H locs → lv_has ls 3 [(0, .ref h0), (1, .int p1), (2, .int v3_2)] → ir v3_2 (-8) 24 → v3_2.toInt - (-8) < (n : Int) → WW H locs (F0 m 3 ls []) := by
    intro n
    induction n with
    | zero =>
      intro H locs ls v3_2 hW hS hl rv3_2 mu3
      exfalso
      omega
    | succ n ih3 =>
      intro H locs ls v3_2 hW hS hl rv3_2 mu3
      refine w1 _ _ _ ?_
      refine lv_iload_n hx hb dX9_append_3 rfl (lv_at hl 2 rfl) ?_
      refine lv_if_lt (tgt := 49) hx hb dX9_append_4 (by decide) (fun c4 => ?_) (fun c4 => ?_)
      · have rv3_2_4 : ir v3_2 (-8) (-1) := ⟨(rv3_2).1, Int.le_trans (rf_lt c4 rv3_2 (ir_c (0) (by decide) : ir (0 : Int32) (0) (0))).1 (by decide)⟩
        exact W.vret hx hb hr (fun t ht _ => ⟨⟨(), rfl, trivial, cW_at ht hW, trivial⟩, hS.F ht⟩) hS.2.2 dX9_append_49
      · have rv3_2_4 : ir v3_2 0 24 := ⟨Int.le_trans (by decide) (rf_le (rf_nlt c4) (ir_c (0) (by decide) : ir (0 : Int32) (0) (0)) rv3_2).2, (rv3_2).2⟩
        refine lv_aload_n hx hb dX9_append_7 rfl (lv_at hl 0 rfl) ?_
        refine wt_getp hx hb hts cfX9 hown hK hW (cg9 k0) rfl 1 (by decide) (Or.inl (hts _ q54)) dX9_append_8 (fun v hv nh0_1 => ?_)
        obtain ⟨x8, rfl, r8⟩ : gi 0 200 v := hv
        refine lv_sipush (v := 200) hx hb dX9_append_11 (by decide) ?_
        refine lv_icmp_ge (tgt := 49) hx hb dX9_append_14 (by decide) (fun c14 => ?_) (fun c14 => ?_)
        · have rx8_14 : ir x8 200 200 := ⟨Int.le_trans (by decide) (rf_le c14 (ir_c (200) (by decide) : ir (200 : Int32) (200) (200)) r8).2, (r8).2⟩
          exact W.vret hx hb hr (fun t ht _ => ⟨⟨(), rfl, trivial, cW_at ht hW, trivial⟩, hS.F ht⟩) hS.2.2 dX9_append_49
        · have rx8_14 : ir x8 0 199 := ⟨(r8).1, Int.le_trans (rf_lt (rf_nle c14) r8 (ir_c (200) (by decide) : ir (200 : Int32) (200) (200))).1 (by decide)⟩
          refine lv_aload_n hx hb dX9_append_17 rfl (lv_at hl 0 rfl) ?_
          refine wt_get hx hb hts cfX9 hown hK hW (cg9 k0) rfl 0 (by decide) q53 dX9_append_18 (fun v hv => ?_)
          obtain ⟨x18, rfl, k18⟩ : gr N 21 v := hv
          refine lv_aload_n hx hb dX9_append_21 rfl (lv_at hl 0 rfl) ?_
          refine wt_rel hx hb hts cfX9 hown hK nh0_1 rfl (by decide) (Or.inl (hts _ q54)) dX9_append_22 ?_
          refine lv_iload_n hx hb dX9_append_25 rfl (lv_at hl 1 rfl) ?_
          refine lv_iload_n hx hb dX9_append_26 rfl (lv_at hl 2 rfl) ?_
          refine lv_ishr hx hb dX9_append_27 ?_
          refine lv_topi (fun x27 e27 => ?_)
          refine lv_sipush (v := 255) hx hb dX9_append_28 (by decide) ?_
          refine lv_iand hx hb dX9_append_31 ?_
          refine lv_topi (fun x31 e31 => ?_)
          have r31 : ir x31 0 255 := ir_and e31 (ir_w (ir_c (255) (by decide) : ir (255 : Int32) (255) (255)) (by decide) (by decide))
          refine wt_iastp hx hb hK hW hS 0 (cg21 k18) (ce k18 (by decide)) rfl (ir_in rx8_14 (by decide) (by decide)) (gi_mk r31) dX9_append_32 (fun H locs hW hS oq => ?_)
          have nh0_1 := nh0_1.kept (oq _ (ne_kind k0 k18 (by decide)))
          refine lv_aload_n hx hb dX9_append_33 rfl (lv_at hl 0 rfl) ?_
          refine lv_dup hx hb dX9_append_34 rfl ?_
          refine wt_rel hx hb hts cfX9 hown hK nh0_1 rfl (by decide) (Or.inl (hts _ q54)) dX9_append_35 ?_
          refine lv_iconst (v := 1) hx hb dX9_append_38 (by decide) ?_
          refine lv_iadd hx hb dX9_append_39 ?_
          refine lv_topi (fun x39 e39 => ?_)
          have t39 : x39.toInt = x8.toInt + (1) := it_add e39 rx8_14 (ir_c (1) (by decide) : ir (1 : Int32) (1) (1)) (by decide) (by decide)
          have r39 : ir x39 1 200 := ir_w (ir_add e39 rx8_14 (ir_c (1) (by decide) : ir (1 : Int32) (1) (1)) (by decide) (by decide)) (by decide) (by decide)
          refine wt_putp hx hb hts cfX9 tyX9 tyX9_ok nmX9 hown hK hW hS (cg9 k0) (ce k0 (by decide)) rfl 1 (by decide) (Or.inl (hts _ q54)) rfl rfl rfl (gi_mk (ir_w (lo' := 0) (hi' := 200) r39 (by decide) (by decide))) dX9_append_40 (fun H locs hW hS oq o2 np => ?_)
          have nh0_1 : wt_pin N.1 vwCl h0 9 1 (.int x39) H := np
          obtain ⟨x43, e43⟩ : ∃ y : Int32, y = v3_2 + (-8) := ⟨_, rfl⟩
          have r43 : ir x43 (-8) 16 := ir_w (ir_add e43 rv3_2_4 (ir_c (-8) (by decide) : ir (-8 : Int32) (-8) (-8)) (by decide) (by decide)) (by decide) (by decide)
          have t43 : x43.toInt = v3_2.toInt + (-8) := it_add e43 rv3_2_4 (ir_c (-8) (by decide) : ir (-8 : Int32) (-8) (-8)) (by decide) (by decide)
          refine lv_iinc (v := x43) (lv' := [(2, .int x43), (0, .ref h0), (1, .int p1)]) hx hb dX9_append_43 hl (k := 2) rfl (by rw [e43]; rfl) (by decide) rfl (fun ls hl => ?_)
          refine lv_goto (tgt := 3) hx hb dX9_append_46 (by decide) ?_
          exact w2 _ _ _ (ih3 _ _ _ x43 hW hS (lv_sub hl [1, 2, 0] rfl) (ir_w (lo' := -8) (hi' := 24) r43 (by decide) (by decide)) (by have h9 := r43; omega))
  refine lv_bipush (v := 24) hx hb dX9_append_0 (by decide) ?_
  refine lv_istore_n (lv' := [(2, .int (24 : Int32)), (0, .ref h0), (1, .int p1)]) hx hb dX9_append_2 rfl hl (by decide) rfl (fun ls hl => ?_)
  exact w2 _ _ _ (L3 33 _ _ _ (24 : Int32) hW hS (lv_sub hl [1, 2, 0] rfl) (ir_w (lo' := -8) (hi' := 24) (ir_c (24) (by decide) : ir (24 : Int32) (24) (24)) (by decide) (by decide)) (by have h9 := (ir_c (24) (by decide) : ir (24 : Int32) (24) (24)); omega))
set_option maxHeartbeats 4000000 in
set_option maxRecDepth 100000 in
theorem m_X9_lay (l : Launch) (N : c_N) (h0 : Nat) (k0 : N.2.2.1 h0 = some 9) (p1 : Int32) (rp1 : ir p1 0 383) (g7 : Int32) : cMv l yX9_lay cX9_lay 2 { frames := 1, cells := 0, slots := 0, locals := 23 } [.ref h0, .int p1] N [3, 9, 20] (fun H => wt_pin N.1 vwCl h0 9 7 (.int g7) H) (fun H => wt_pin N.1 vwCl h0 9 7 (.int g7) H) := by
  refine Met.ofW (cc := cX9_lay) (maxL := 2) (ret := none) (by decide) rfl ?_
  intro p e s m args below meth c s₁ B hml hv
  obtain ⟨rfl, ⟨hK, hW, hT, hnn⟩, hB⟩ := hv
  have nh0_7 := hB
  have rg7 : ir g7 0 4 := gi_r (cpin_P hW (cg9 k0) rfl (by decide) nh0_7)
  have hx := B.exec
  have hb := B.bytes
  have hr := B.returns
  have hts : ∀ w ∈ lw_g, w.before _ s = true := fun w h => atoms_spec (ws := wc_ws yX9_lay cX9_lay 2 none) B.pre w (List.mem_cons_of_mem _ h)
  have hown : s.vm.findClass RX9 = some m.cls := findClass_of_methodNamed B.named
  have hlocks := B.notSynchronized
  have hS : va_S (cE N [3, 9, 20]) s.heap s.heap [] := va_S.rf
  have hl := lv_entry ([.ref h0, .int p1]) (n := 2) (Nat.le_of_ble_eq_true rfl)
  rw [lg_entry_eq]
  generalize (lg_sl ([.ref h0, .int p1]) ++ List.replicate (2 - (lg_sl ([.ref h0, .int p1])).length) Slot.unset).toArray = ls at hl ⊢
  have hl : lv_has ls 2 [(0, .ref h0), (1, .int p1)] := hl
  refine wq_all ?_
  intro WW w1 w2
  refine lv_aload_n hx hb dX9_lay_0 rfl (lv_at hl 0 rfl) ?_
  refine wt_get hx hb hts cfX9 hown hK hW (cg9 k0) rfl 4 (by decide) q60 dX9_lay_1 (fun v hv => ?_)
  obtain ⟨x1, rfl, k1⟩ : gr N 3 v := hv
  refine wt_getp hx hb hts cfX3 hown hK hW (cg3 k1) rfl 1 (by decide) (Or.inr ⟨_, lw_n_use hnn q45⟩) dX9_lay_4 (fun v hv nx1_1 => ?_)
  obtain ⟨x4, rfl, r4⟩ : gi 0 24 v := hv
  refine lv_bipush (v := 24) hx hb dX9_lay_7 (by decide) ?_
  refine lv_icmp_ge (tgt := 30) hx hb dX9_lay_9 (by decide) (fun c9 => ?_) (fun c9 => ?_)
  · have rx4_9 : ir x4 24 24 := ⟨Int.le_trans (by decide) (rf_le c9 (ir_c (24) (by decide) : ir (24 : Int32) (24) (24)) r4).2, (r4).2⟩
    refine lv_aload_n hx hb dX9_lay_30 rfl (lv_at hl 0 rfl) ?_
    refine wt_getp hx hb hts cfX9 hown hK hW (cg9 k0) rfl 11 (by decide) (Or.inl (hts _ q68)) dX9_lay_31 (fun v hv nh0_11 => ?_)
    obtain ⟨x31, rfl⟩ : ga v := hv
    refine lv_iconst (v := -1) hx hb dX9_lay_34 (by decide) ?_
    refine lv_icmp_ne (tgt := 46) hx hb dX9_lay_35 (by decide) (fun c35 => ?_) (fun c35 => ?_)
    · exact W.vret hx hb hr (fun t ht _ => ⟨⟨(), rfl, trivial, cW_at ht hW, (pin_at ht nh0_7)⟩, hS.F ht⟩) hS.2.2 dX9_lay_46
    · have rx31_35 : ir x31 (-1) (-1) := rf_eq c35 (ir_c (-1) (by decide) : ir (-1 : Int32) (-1) (-1))
      refine lv_aload_n hx hb dX9_lay_38 rfl (lv_at hl 0 rfl) ?_
      refine lv_aload_n hx hb dX9_lay_39 rfl (lv_at hl 0 rfl) ?_
      refine wt_getp hx hb hts cfX9 hown hK hW (cg9 k0) rfl 10 (by decide) (Or.inl (hts _ q67)) dX9_lay_40 (fun v hv nh0_10 => ?_)
      obtain ⟨x40, rfl⟩ : ga v := hv
      refine wt_putp hx hb hts cfX9 tyX9 tyX9_ok nmX9 hown hK hW hS (cg9 k0) (ce k0 (by decide)) rfl 11 (by decide) (Or.inl (hts _ q68)) rfl rfl rfl ga_mk dX9_lay_43 (fun H locs hW hS oq o2 np => ?_)
      have nh0_7 := o2 7 _ (by decide) (by decide) nh0_7
      have nx1_1 := nx1_1.kept (oq _ (ne_kind k1 k0 (by decide)))
      have nh0_10 := o2 10 _ (by decide) (by decide) nh0_10
      have nh0_11 : wt_pin N.1 vwCl h0 9 11 (.int x40) H := np
      exact W.vret hx hb hr (fun t ht _ => ⟨⟨(), rfl, trivial, cW_at ht hW, (pin_at ht nh0_7)⟩, hS.F ht⟩) hS.2.2 dX9_lay_46
  · have rx4_9 : ir x4 0 23 := ⟨(r4).1, Int.le_trans (rf_lt (rf_nle c9) r4 (ir_c (24) (by decide) : ir (24 : Int32) (24) (24))).1 (by decide)⟩
    refine lv_aload_n hx hb dX9_lay_12 rfl (lv_at hl 0 rfl) ?_
    refine wt_get hx hb hts cfX9 hown hK hW (cg9 k0) rfl 4 (by decide) q60 dX9_lay_13 (fun v hv => ?_)
    obtain ⟨x13, rfl, k13⟩ : gr N 3 v := hv
    refine lv_aload_n hx hb dX9_lay_16 rfl (lv_at hl 0 rfl) ?_
    refine wt_get hx hb hts cfX9 hown hK hW (cg9 k0) rfl 4 (by decide) q60 dX9_lay_17 (fun v hv => ?_)
    obtain ⟨x17, rfl, k17⟩ : gr N 3 v := hv
    refine wt_getp hx hb hts cfX3 hown hK hW (cg3 k17) rfl 1 (by decide) (Or.inr ⟨_, lw_n_use hnn q45⟩) dX9_lay_20 (fun v hv nx17_1 => ?_)
    obtain ⟨x20, rfl, r20⟩ : gi 0 24 v := hv
    refine lv_iload_n hx hb dX9_lay_23 rfl (lv_at hl 1 rfl) ?_
    refine cc_v (wt_runV (As := [.int x20, .int p1]) (rest := []) ⟨hx, hb, hml, hown, hts⟩ (m_X3_insert l N x13 k13 x20 p1 rp1) wm_X3_insert q382 ⟨rfl, rfl⟩ ⟨Nat.le_of_ble_eq_true rfl, Nat.le_of_ble_eq_true rfl⟩ (cS_preV hK hW hT hnn hS (cg3 k13) rfl rfl trivial) rfl hl.1 rfl (Nat.le_of_ble_eq_true rfl) dX9_lay_24 ⟨Nat.zero_le _, Nat.zero_le _⟩) hS (by decide) (fun H locs hW hS oq hB2 => ?_)
    have nh0_7 := nh0_7.kept (oq _ nh0_7.lt (cE_not k0 (by decide)))
    refine lv_goto (tgt := 46) hx hb dX9_lay_27 (by decide) ?_
    exact W.vret hx hb hr (fun t ht _ => ⟨⟨(), rfl, trivial, cW_at ht hW, (pin_at ht nh0_7)⟩, hS.F ht⟩) hS.2.2 dX9_lay_46
set_option maxHeartbeats 4000000 in
set_option maxRecDepth 100000 in
theorem m_X9_skipBlanks (l : Launch) (N : c_N) (h0 : Nat) (k0 : N.2.2.1 h0 = some 9) : cMv l yX9_skipBlanks cX9_skipBlanks 2 { frames := 1, cells := 0, slots := 0, locals := 20 } [.ref h0] N [9] cT0 cT0 := by
  refine Met.ofW (cc := cX9_skipBlanks) (maxL := 2) (ret := none) (by decide) rfl ?_
  intro p e s m args below meth c s₁ B hml hv
  obtain ⟨rfl, ⟨hK, hW, hT, hnn⟩, hB⟩ := hv
  have hx := B.exec
  have hb := B.bytes
  have hr := B.returns
  have hts : ∀ w ∈ lw_g, w.before _ s = true := fun w h => atoms_spec (ws := wc_ws yX9_skipBlanks cX9_skipBlanks 2 none) B.pre w (List.mem_cons_of_mem _ h)
  have hown : s.vm.findClass RX9 = some m.cls := findClass_of_methodNamed B.named
  have hlocks := B.notSynchronized
  have hS : va_S (cE N [9]) s.heap s.heap [] := va_S.rf
  have hl := lv_entry ([.ref h0]) (n := 2) (Nat.le_of_ble_eq_true rfl)
  rw [lg_entry_eq]
  generalize (lg_sl ([.ref h0]) ++ List.replicate (2 - (lg_sl ([.ref h0])).length) Slot.unset).toArray = ls at hl ⊢
  have hl : lv_has ls 2 [(0, .ref h0)] := hl
  refine wq_all ?_
  intro WW w1 w2
  have L2 : ∀ (n : Nat) (H : Heap) (locs : List Loc) (ls : Array Slot) (v2_1 : Int32), cW N H → va_S (cE N [9]) s.heap H locs → lv_has ls 2 [(0, .ref h0), (1, .int v2_1)] → ir v2_1 0 200 → 200 - v2_1.toInt < (n : Int) → WW H locs (F0 m 2 ls []) := by
    intro n
    induction n with
    | zero =>
      intro H locs ls v2_1 hW hS hl rv2_1 mu2
      exfalso
      omega
    | succ n ih2 =>
      intro H locs ls v2_1 hW hS hl rv2_1 mu2
      have J27 : ∀ (H : Heap) (locs : List Loc) (ls : Array Slot) , cW N H → va_S (cE N [9]) s.heap H locs → lv_has ls 2 [(0, .ref h0), (1, .int v2_1)] → ir v2_1 0 199 → WW H locs (F0 m 27 ls []) := by
        intro H locs ls  hW hS hl rv27_1
        refine w1 _ _ _ ?_
        refine lv_aload_n hx hb dX9_skipBlanks_27 rfl (lv_at hl 0 rfl) ?_
        refine lv_dup hx hb dX9_skipBlanks_28 rfl ?_
        refine wt_getp hx hb hts cfX9 hown hK hW (cg9 k0) rfl 8 (by decide) (Or.inl (hts _ q65)) dX9_skipBlanks_29 (fun v hv nh0_8 => ?_)
        obtain ⟨x29, rfl⟩ : ga v := hv
        refine lv_iconst (v := 1) hx hb dX9_skipBlanks_32 (by decide) ?_
        refine lv_iadd hx hb dX9_skipBlanks_33 ?_
        refine lv_topi (fun x33 e33 => ?_)
        refine wt_putp hx hb hts cfX9 tyX9 tyX9_ok nmX9 hown hK hW hS (cg9 k0) (ce k0 (by decide)) rfl 8 (by decide) (Or.inl (hts _ q65)) rfl rfl rfl ga_mk dX9_skipBlanks_34 (fun H locs hW hS oq o2 np => ?_)
        have nh0_8 : wt_pin N.1 vwCl h0 9 8 (.int x33) H := np
        obtain ⟨x37, e37⟩ : ∃ y : Int32, y = v2_1 + 1 := ⟨_, rfl⟩
        have r37 : ir x37 1 200 := ir_w (ir_add e37 rv27_1 (ir_c (1) (by decide) : ir (1 : Int32) (1) (1)) (by decide) (by decide)) (by decide) (by decide)
        have t37 : x37.toInt = v2_1.toInt + (1) := it_add e37 rv27_1 (ir_c (1) (by decide) : ir (1 : Int32) (1) (1)) (by decide) (by decide)
        refine lv_iinc (v := x37) (lv' := [(1, .int x37), (0, .ref h0)]) hx hb dX9_skipBlanks_37 hl (k := 1) rfl (by rw [e37]; rfl) (by decide) rfl (fun ls hl => ?_)
        refine lv_goto (tgt := 2) hx hb dX9_skipBlanks_40 (by decide) ?_
        exact w2 _ _ _ (ih2 _ _ _ x37 hW hS (lv_sub hl [1, 0] rfl) (ir_w (lo' := 0) (hi' := 200) r37 (by decide) (by decide)) (by have h9 := r37; omega))
      refine w1 _ _ _ ?_
      refine lv_iload_n hx hb dX9_skipBlanks_2 rfl (lv_at hl 1 rfl) ?_
      refine lv_sipush (v := 200) hx hb dX9_skipBlanks_3 (by decide) ?_
      refine lv_icmp_ge (tgt := 43) hx hb dX9_skipBlanks_6 (by decide) (fun c6 => ?_) (fun c6 => ?_)
      · have rv2_1_6 : ir v2_1 200 200 := ⟨Int.le_trans (by decide) (rf_le c6 (ir_c (200) (by decide) : ir (200 : Int32) (200) (200)) rv2_1).2, (rv2_1).2⟩
        exact W.vret hx hb hr (fun t ht _ => ⟨⟨(), rfl, trivial, cW_at ht hW, trivial⟩, hS.F ht⟩) hS.2.2 dX9_skipBlanks_43
      · have rv2_1_6 : ir v2_1 0 199 := ⟨(rv2_1).1, Int.le_trans (rf_lt (rf_nle c6) rv2_1 (ir_c (200) (by decide) : ir (200 : Int32) (200) (200))).1 (by decide)⟩
        refine lv_aload_n hx hb dX9_skipBlanks_9 rfl (lv_at hl 0 rfl) ?_
        refine cc_i (wt_runV (As := []) (rest := []) ⟨hx, hb, hml, hown, hts⟩ (m_X9_peek l N h0 k0) wm_X9_peek q360 ⟨rfl, rfl⟩ ⟨Nat.le_of_ble_eq_true rfl, Nat.le_of_ble_eq_true rfl⟩ (cS_preV hK hW hT hnn hS (cg9 k0) rfl rfl trivial) rfl hl.1 rfl (Nat.le_of_ble_eq_true rfl) dX9_skipBlanks_10 ⟨Nat.zero_le _, Nat.zero_le _⟩) hS (by decide) (fun x10 H locs hp hW hS oq => ?_)
        have r10 : ir x10 (-1) 255 := hp
        refine lv_bipush (v := 32) hx hb dX9_skipBlanks_13 (by decide) ?_
        refine lv_icmp_eq (tgt := 27) hx hb dX9_skipBlanks_15 (by decide) (fun c15 => ?_) (fun c15 => ?_)
        · have rx10_15 : ir x10 32 32 := rf_eq c15 (ir_c (32) (by decide) : ir (32 : Int32) (32) (32))
          exact w2 _ _ _ (J27 _ _ _  hW hS (lv_sub hl [0, 1] rfl) rv2_1_6)
        · refine lv_aload_n hx hb dX9_skipBlanks_18 rfl (lv_at hl 0 rfl) ?_
          refine cc_i (wt_runV (As := []) (rest := []) ⟨hx, hb, hml, hown, hts⟩ (m_X9_peek l N h0 k0) wm_X9_peek q360 ⟨rfl, rfl⟩ ⟨Nat.le_of_ble_eq_true rfl, Nat.le_of_ble_eq_true rfl⟩ (cS_preV hK hW hT hnn hS (cg9 k0) rfl rfl trivial) rfl hl.1 rfl (Nat.le_of_ble_eq_true rfl) dX9_skipBlanks_19 ⟨Nat.zero_le _, Nat.zero_le _⟩) hS (by decide) (fun x19 H locs hp hW hS oq => ?_)
          have r19 : ir x19 (-1) 255 := hp
          refine lv_bipush (v := 10) hx hb dX9_skipBlanks_22 (by decide) ?_
          refine lv_icmp_ne (tgt := 43) hx hb dX9_skipBlanks_24 (by decide) (fun c24 => ?_) (fun c24 => ?_)
          · exact W.vret hx hb hr (fun t ht _ => ⟨⟨(), rfl, trivial, cW_at ht hW, trivial⟩, hS.F ht⟩) hS.2.2 dX9_skipBlanks_43
          · have rx19_24 : ir x19 10 10 := rf_eq c24 (ir_c (10) (by decide) : ir (10 : Int32) (10) (10))
            exact w2 _ _ _ (J27 _ _ _  hW hS (lv_sub hl [0, 1] rfl) rv2_1_6)
  refine lv_iconst (v := 0) hx hb dX9_skipBlanks_0 (by decide) ?_
  refine lv_istore_n (lv' := [(1, .int (0 : Int32)), (0, .ref h0)]) hx hb dX9_skipBlanks_1 rfl hl (by decide) rfl (fun ls hl => ?_)
  exact w2 _ _ _ (L2 201 _ _ _ (0 : Int32) hW hS (lv_sub hl [1, 0] rfl) (ir_w (lo' := 0) (hi' := 200) (ir_c (0) (by decide) : ir (0 : Int32) (0) (0)) (by decide) (by decide)) (by have h9 := (ir_c (0) (by decide) : ir (0 : Int32) (0) (0)); omega))
