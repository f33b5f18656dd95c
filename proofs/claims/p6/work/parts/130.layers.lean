set_option maxHeartbeats 4000000 in
set_option maxRecDepth 100000 in
theorem m_X3_has (l : Launch) (N : c_N) (h0 : Nat) (k0 : N.2.2.1 h0 = some 3) (p1 : Int32) (g1 : Int32) : cMi l yX3_has cX3_has 2 .boolean { frames := 0, cells := 0, slots := 0, locals := 0 } [.ref h0, .int p1] N [] (fun H => wt_pin N.1 vwCl h0 3 1 (.int g1) H) (fun r => ir r 0 1 ∧ (¬ r = 0 → ir p1 0 23 ∧ p1 < g1)) := by
  refine Met.ofW (cc := cX3_has) (maxL := 2) (ret := some .boolean) (by decide) rfl ?_
  intro p e s m args below meth c s₁ B hml hv
  obtain ⟨rfl, ⟨hK, hW, hT, hnn⟩, hB⟩ := hv
  have nh0_1 := hB
  have rg1 : ir g1 0 24 := gi_r (cpin_P hW (cg3 k0) rfl (by decide) nh0_1)
  have hx := B.exec
  have hb := B.bytes
  have hr := B.returns
  have hts : ∀ w ∈ lw_g, w.before _ s = true := fun w h => atoms_spec (ws := wc_ws yX3_has cX3_has 2 (some .boolean)) B.pre w (List.mem_cons_of_mem _ h)
  have hown : s.vm.findClass RX3 = some m.cls := findClass_of_methodNamed B.named
  have hlocks := B.notSynchronized
  have hS : va_S (cE N []) s.heap s.heap [] := va_S.rf
  have hl := lv_entry ([.ref h0, .int p1]) (n := 2) (Nat.le_of_ble_eq_true rfl)
  rw [lg_entry_eq]
  generalize (lg_sl ([.ref h0, .int p1]) ++ List.replicate (2 - (lg_sl ([.ref h0, .int p1])).length) Slot.unset).toArray = ls at hl ⊢
  have hl : lv_has ls 2 [(0, .ref h0), (1, .int p1)] := hl
  refine wq_all ?_
  intro WW w1 w2
  refine lv_iload_n hx hb dX3_has_0 rfl (lv_at hl 1 rfl) ?_
  refine lv_if_lt (tgt := 16) hx hb dX3_has_1 (by decide) (fun c1 => ?_) (fun c1 => ?_)
  · have rp1_1 : ir p1 (-2147483648) (-1) := ⟨((ir_any p1)).1, Int.le_trans (rf_lt c1 (ir_any p1) (ir_c (0) (by decide) : ir (0 : Int32) (0) (0))).1 (by decide)⟩
    refine lv_iconst (v := 0) hx hb dX3_has_16 (by decide) ?_
    exact W.zret (v := (0 : Int32)) hx hb hr rfl (fun t ht _ => ⟨⟨(0 : Int32), (), rfl, (⟨⟨by decide, by decide⟩, fun h => absurd rfl h⟩), cW_at ht hW⟩, hS.F ht⟩) hS.2.2 dX3_has_17
  · have rp1_1 : ir p1 0 2147483647 := ⟨Int.le_trans (by decide) (rf_le (rf_nlt c1) (ir_c (0) (by decide) : ir (0 : Int32) (0) (0)) (ir_any p1)).2, ((ir_any p1)).2⟩
    refine lv_iload_n hx hb dX3_has_4 rfl (lv_at hl 1 rfl) ?_
    refine lv_aload_n hx hb dX3_has_5 rfl (lv_at hl 0 rfl) ?_
    refine wt_rel hx hb hts cfX3 hown hK nh0_1 rfl (by decide) (Or.inl (hts _ q43)) dX3_has_6 ?_
    refine lv_icmp_ge (tgt := 16) hx hb dX3_has_9 (by decide) (fun c9 => ?_) (fun c9 => ?_)
    · refine lv_iconst (v := 0) hx hb dX3_has_16 (by decide) ?_
      exact W.zret (v := (0 : Int32)) hx hb hr rfl (fun t ht _ => ⟨⟨(0 : Int32), (), rfl, (⟨⟨by decide, by decide⟩, fun h => absurd rfl h⟩), cW_at ht hW⟩, hS.F ht⟩) hS.2.2 dX3_has_17
    · have rp1_9 : ir p1 0 23 := ⟨(rp1_1).1, Int.le_trans (rf_lt (rf_nle c9) rp1_1 rg1).1 (by decide)⟩
      have rg1_9 : ir g1 1 24 := ⟨Int.le_trans (by decide) (rf_lt (rf_nle c9) rp1_1 rg1).2, (rg1).2⟩
      refine lv_iconst (v := 1) hx hb dX3_has_12 (by decide) ?_
      refine lv_goto (tgt := 17) hx hb dX3_has_13 (by decide) ?_
      exact W.zret (v := (1 : Int32)) hx hb hr rfl (fun t ht _ => ⟨⟨(1 : Int32), (), rfl, (⟨⟨by decide, by decide⟩, fun _ => ⟨rp1_9, (by first | assumption | exact rf_nle (by assumption))⟩⟩), cW_at ht hW⟩, hS.F ht⟩) hS.2.2 dX3_has_17
set_option maxHeartbeats 4000000 in
set_option maxRecDepth 100000 in
theorem m_X3_copyOf (l : Launch) (N : c_N) (h0 : Nat) (k0 : N.2.2.1 h0 = some 3) (p1 : Nat) (kp1 : N.2.2.1 p1 = some 3) : cMv l yX3_copyOf cX3_copyOf 2 { frames := 1, cells := 0, slots := 0, locals := 40 } [.ref h0, .ref p1] N [3, 20] cT0 cT0 := by
  refine Met.ofW (cc := cX3_copyOf) (maxL := 2) (ret := none) (by decide) rfl ?_
  intro p e s m args below meth c s₁ B hml hv
  obtain ⟨rfl, ⟨hK, hW, hT, hnn⟩, hB⟩ := hv
  have hx := B.exec
  have hb := B.bytes
  have hr := B.returns
  have hts : ∀ w ∈ lw_g, w.before _ s = true := fun w h => atoms_spec (ws := wc_ws yX3_copyOf cX3_copyOf 2 none) B.pre w (List.mem_cons_of_mem _ h)
  have hown : s.vm.findClass RX3 = some m.cls := findClass_of_methodNamed B.named
  have hlocks := B.notSynchronized
  have hS : va_S (cE N [3, 20]) s.heap s.heap [] := va_S.rf
  have hl := lv_entry ([.ref h0, .ref p1]) (n := 2) (Nat.le_of_ble_eq_true rfl)
  rw [lg_entry_eq]
  generalize (lg_sl ([.ref h0, .ref p1]) ++ List.replicate (2 - (lg_sl ([.ref h0, .ref p1])).length) Slot.unset).toArray = ls at hl ⊢
  have hl : lv_has ls 2 [(0, .ref h0), (1, .ref p1)] := hl
  refine wq_all ?_
  intro WW w1 w2
  refine lv_aload_n hx hb dX3_copyOf_0 rfl (lv_at hl 0 rfl) ?_
  refine lv_aload_n hx hb dX3_copyOf_1 rfl (lv_at hl 1 rfl) ?_
  refine wt_getp hx hb hts cfX3 hown hK hW (cg3 kp1) rfl 1 (by decide) (Or.inl (hts _ q43)) dX3_copyOf_2 (fun v hv np1_1 => ?_)
  obtain ⟨x2, rfl, r2⟩ : gi 0 24 v := hv
  refine wt_putp hx hb hts cfX3 tyX3 tyX3_ok nmX3 hown hK hW hS (cg3 k0) (ce k0 (by decide)) rfl 1 (by decide) (Or.inl (hts _ q43)) rfl rfl rfl (gi_mk r2) dX3_copyOf_5 (fun H locs hW hS oq o2 np => ?_)
  have nh0_1 : wt_pin N.1 vwCl h0 3 1 (.int x2) H := np
  refine lv_aload_n hx hb dX3_copyOf_8 rfl (lv_at hl 1 rfl) ?_
  refine wt_get hx hb hts cfX3 hown hK hW (cg3 kp1) rfl 0 (by decide) q39 dX3_copyOf_9 (fun v hv => ?_)
  obtain ⟨x9, rfl, k9⟩ : gr N 20 v := hv
  refine lv_iconst (v := 0) hx hb dX3_copyOf_12 (by decide) ?_
  refine lv_aload_n hx hb dX3_copyOf_13 rfl (lv_at hl 0 rfl) ?_
  refine wt_get hx hb hts cfX3 hown hK hW (cg3 k0) rfl 0 (by decide) q39 dX3_copyOf_14 (fun v hv => ?_)
  obtain ⟨x14, rfl, k14⟩ : gr N 20 v := hv
  refine lv_iconst (v := 0) hx hb dX3_copyOf_17 (by decide) ?_
  refine lv_aload_n hx hb dX3_copyOf_18 rfl (lv_at hl 0 rfl) ?_
  refine wt_rel hx hb hts cfX3 hown hK nh0_1 rfl (by decide) (Or.inl (hts _ q43)) dX3_copyOf_19 ?_
  have z22 := ir_clamp r2 (by decide)
  have y22 := r2
  refine wt_copyi hx hb (hml.trans hl.1.symm) hown (hts _ q424) (hts _ q426) (hts _ q425) (hts _ q14) hK hW hS 0 0 (cg20 k9) (cg20 k14) (ce k14 (by decide)) rfl rfl (by decide) (by decide) z22.2 (by show 0 + _ ≤ _; omega) (by show 0 + _ ≤ _; omega) cP20_int cP20_mv (Nat.le_of_ble_eq_true rfl) (Nat.le_of_ble_eq_true rfl) dX3_copyOf_22 (fun H locs hW hS oq => ?_)
  have nh0_1 := nh0_1.kept (oq _ (ne_kind k0 k14 (by decide)))
  exact W.vret hx hb hr (fun t ht _ => ⟨⟨(), rfl, trivial, cW_at ht hW, trivial⟩, hS.F ht⟩) hS.2.2 dX3_copyOf_25
set_option maxHeartbeats 4000000 in
set_option maxRecDepth 100000 in
theorem m_X3_insert (l : Launch) (N : c_N) (h0 : Nat) (k0 : N.2.2.1 h0 = some 3) (p1 : Int32) (p2 : Int32) (rp2 : ir p2 0 383) : cMv l yX3_insert cX3_insert 4 { frames := 0, cells := 0, slots := 0, locals := 0 } [.ref h0, .int p1, .int p2] N [3, 20] cT0 cT0 := by
  refine Met.ofW (cc := cX3_insert) (maxL := 4) (ret := none) (by decide) rfl ?_
  intro p e s m args below meth c s₁ B hml hv
  obtain ⟨rfl, ⟨hK, hW, hT, hnn⟩, hB⟩ := hv
  have hx := B.exec
  have hb := B.bytes
  have hr := B.returns
  have hts : ∀ w ∈ lw_g, w.before _ s = true := fun w h => atoms_spec (ws := wc_ws yX3_insert cX3_insert 4 none) B.pre w (List.mem_cons_of_mem _ h)
  have hown : s.vm.findClass RX3 = some m.cls := findClass_of_methodNamed B.named
  have hlocks := B.notSynchronized
  have hS : va_S (cE N [3, 20]) s.heap s.heap [] := va_S.rf
  have hl := lv_entry ([.ref h0, .int p1, .int p2]) (n := 4) (Nat.le_of_ble_eq_true rfl)
  rw [lg_entry_eq]
  generalize (lg_sl ([.ref h0, .int p1, .int p2]) ++ List.replicate (4 - (lg_sl ([.ref h0, .int p1, .int p2])).length) Slot.unset).toArray = ls at hl ⊢
  have hl : lv_has ls 4 [(0, .ref h0), (1, .int p1), (2, .int p2)] := hl
  refine wq_all ?_
  intro WW w1 w2
  have L27 : ∀ (n : Nat) (H : Heap) (locs : List Loc) (ls : Array Slot) (v27_3 : Int32) (u27_0 : Int32), cW N H → va_S (cE N [3, 20]) s.heap H locs → lv_has ls 4 [(0, .ref h0), (1, .int p1), (2, .int p2), (3, .int v27_3)] → ir p1 0 23 → ir p2 0 383 → ir v27_3 0 23 → ir u27_0 0 23 → wt_pin N.1 vwCl h0 3 1 (.int u27_0) H → v27_3.toInt - (0) < (n : Int) → WW H locs (F0 m 27 ls []) := by
    intro n
    induction n with
    | zero =>
      intro H locs ls v27_3 u27_0 hW hS hl rv27_1 rv27_2 rv27_3 ru27_0 nh0_1 mu27
      exfalso
      omega
    | succ n ih27 =>
      intro H locs ls v27_3 u27_0 hW hS hl rv27_1 rv27_2 rv27_3 ru27_0 nh0_1 mu27
      refine w1 _ _ _ ?_
      refine lv_iload_n hx hb dX3_insert_27 rfl (lv_at hl 3 rfl) ?_
      refine lv_iload_n hx hb dX3_insert_28 rfl (lv_at hl 1 rfl) ?_
      refine lv_icmp_le (tgt := 52) hx hb dX3_insert_29 (by decide) (fun c29 => ?_) (fun c29 => ?_)
      · refine lv_aload_n hx hb dX3_insert_52 rfl (lv_at hl 0 rfl) ?_
        refine wt_get hx hb hts cfX3 hown hK hW (cg3 k0) rfl 0 (by decide) q39 dX3_insert_53 (fun v hv => ?_)
        obtain ⟨x53, rfl, k53⟩ : gr N 20 v := hv
        refine lv_iload_n hx hb dX3_insert_56 rfl (lv_at hl 1 rfl) ?_
        refine lv_iload_n hx hb dX3_insert_57 rfl (lv_at hl 2 rfl) ?_
        refine wt_iastp hx hb hK hW hS 0 (cg20 k53) (ce k53 (by decide)) rfl (ir_in rv27_1 (by decide) (by decide)) (gi_mk rv27_2) dX3_insert_58 (fun H locs hW hS oq => ?_)
        have nh0_1 := nh0_1.kept (oq _ (ne_kind k0 k53 (by decide)))
        refine lv_aload_n hx hb dX3_insert_59 rfl (lv_at hl 0 rfl) ?_
        refine lv_dup hx hb dX3_insert_60 rfl ?_
        refine wt_rel hx hb hts cfX3 hown hK nh0_1 rfl (by decide) (Or.inl (hts _ q43)) dX3_insert_61 ?_
        refine lv_iconst (v := 1) hx hb dX3_insert_64 (by decide) ?_
        refine lv_iadd hx hb dX3_insert_65 ?_
        refine lv_topi (fun x65 e65 => ?_)
        have t65 : x65.toInt = u27_0.toInt + (1) := it_add e65 ru27_0 (ir_c (1) (by decide) : ir (1 : Int32) (1) (1)) (by decide) (by decide)
        have r65 : ir x65 1 24 := ir_w (ir_add e65 ru27_0 (ir_c (1) (by decide) : ir (1 : Int32) (1) (1)) (by decide) (by decide)) (by decide) (by decide)
        refine wt_putp hx hb hts cfX3 tyX3 tyX3_ok nmX3 hown hK hW hS (cg3 k0) (ce k0 (by decide)) rfl 1 (by decide) (Or.inl (hts _ q43)) rfl rfl rfl (gi_mk (ir_w (lo' := 0) (hi' := 24) r65 (by decide) (by decide))) dX3_insert_66 (fun H locs hW hS oq o2 np => ?_)
        have nh0_1 : wt_pin N.1 vwCl h0 3 1 (.int x65) H := np
        exact W.vret hx hb hr (fun t ht _ => ⟨⟨(), rfl, trivial, cW_at ht hW, trivial⟩, hS.F ht⟩) hS.2.2 dX3_insert_69
      · have rp1_29 : ir p1 0 22 := ⟨(rv27_1).1, Int.le_trans (rf_lt (rf_nle c29) rv27_1 rv27_3).1 (by decide)⟩
        have rv27_3_29 : ir v27_3 1 23 := ⟨Int.le_trans (by decide) (rf_lt (rf_nle c29) rv27_1 rv27_3).2, (rv27_3).2⟩
        refine lv_aload_n hx hb dX3_insert_32 rfl (lv_at hl 0 rfl) ?_
        refine wt_get hx hb hts cfX3 hown hK hW (cg3 k0) rfl 0 (by decide) q39 dX3_insert_33 (fun v hv => ?_)
        obtain ⟨x33, rfl, k33⟩ : gr N 20 v := hv
        refine lv_iload_n hx hb dX3_insert_36 rfl (lv_at hl 3 rfl) ?_
        refine lv_aload_n hx hb dX3_insert_37 rfl (lv_at hl 0 rfl) ?_
        refine wt_get hx hb hts cfX3 hown hK hW (cg3 k0) rfl 0 (by decide) q39 dX3_insert_38 (fun v hv => ?_)
        obtain ⟨x38, rfl, k38⟩ : gr N 20 v := hv
        refine lv_iload_n hx hb dX3_insert_41 rfl (lv_at hl 3 rfl) ?_
        refine lv_iconst (v := 1) hx hb dX3_insert_42 (by decide) ?_
        refine lv_isub hx hb dX3_insert_43 ?_
        refine lv_topi (fun x43 e43 => ?_)
        have t43 : x43.toInt = v27_3.toInt - (1) := it_sub e43 rv27_3_29 (ir_c (1) (by decide) : ir (1 : Int32) (1) (1)) (by decide) (by decide)
        have r43 : ir x43 0 22 := ir_w (ir_sub e43 rv27_3_29 (ir_c (1) (by decide) : ir (1 : Int32) (1) (1)) (by decide) (by decide)) (by decide) (by decide)
        refine wt_iald hx hb hK hW 0 (cg20 k38) rfl (ir_in (ir_w (lo' := 0) (hi' := 23) r43 (by decide) (by decide)) (by decide) (by decide)) dX3_insert_44 (fun v hv => ?_)
        obtain ⟨x44, rfl, r44⟩ : gi 0 383 v := hv
        refine wt_iastp hx hb hK hW hS 0 (cg20 k33) (ce k33 (by decide)) rfl (ir_in (ir_w (lo' := 0) (hi' := 23) rv27_3_29 (by decide) (by decide)) (by decide) (by decide)) (gi_mk r44) dX3_insert_45 (fun H locs hW hS oq => ?_)
        have nh0_1 := nh0_1.kept (oq _ (ne_kind k0 k33 (by decide)))
        obtain ⟨x46, e46⟩ : ∃ y : Int32, y = v27_3 + (-1) := ⟨_, rfl⟩
        have r46 : ir x46 0 22 := ir_w (ir_add e46 rv27_3_29 (ir_c (-1) (by decide) : ir (-1 : Int32) (-1) (-1)) (by decide) (by decide)) (by decide) (by decide)
        have t46 : x46.toInt = v27_3.toInt + (-1) := it_add e46 rv27_3_29 (ir_c (-1) (by decide) : ir (-1 : Int32) (-1) (-1)) (by decide) (by decide)
        refine lv_iinc (v := x46) (lv' := [(3, .int x46), (0, .ref h0), (1, .int p1), (2, .int p2)]) hx hb dX3_insert_46 hl (k := 3) rfl (by rw [e46]; rfl) (by decide) rfl (fun ls hl => ?_)
        refine lv_goto (tgt := 27) hx hb dX3_insert_49 (by decide) ?_
        exact w2 _ _ _ (ih27 _ _ _ x46 u27_0 hW hS (lv_sub hl [1, 2, 3, 0] rfl) (ir_w (lo' := 0) (hi' := 23) rp1_29 (by decide) (by decide)) rv27_2 (ir_w (lo' := 0) (hi' := 23) r46 (by decide) (by decide)) ru27_0 nh0_1 (by have h9 := r46; omega))
  refine lv_iload_n hx hb dX3_insert_0 rfl (lv_at hl 1 rfl) ?_
  refine lv_if_lt (tgt := 21) hx hb dX3_insert_1 (by decide) (fun c1 => ?_) (fun c1 => ?_)
  · have rp1_1 : ir p1 (-2147483648) (-1) := ⟨((ir_any p1)).1, Int.le_trans (rf_lt c1 (ir_any p1) (ir_c (0) (by decide) : ir (0 : Int32) (0) (0))).1 (by decide)⟩
    exact W.vret hx hb hr (fun t ht _ => ⟨⟨(), rfl, trivial, cW_at ht hW, trivial⟩, hS.F ht⟩) hS.2.2 dX3_insert_21
  · have rp1_1 : ir p1 0 2147483647 := ⟨Int.le_trans (by decide) (rf_le (rf_nlt c1) (ir_c (0) (by decide) : ir (0 : Int32) (0) (0)) (ir_any p1)).2, ((ir_any p1)).2⟩
    refine lv_iload_n hx hb dX3_insert_4 rfl (lv_at hl 1 rfl) ?_
    refine lv_aload_n hx hb dX3_insert_5 rfl (lv_at hl 0 rfl) ?_
    refine wt_getp hx hb hts cfX3 hown hK hW (cg3 k0) rfl 1 (by decide) (Or.inl (hts _ q43)) dX3_insert_6 (fun v hv nh0_1 => ?_)
    obtain ⟨x6, rfl, r6⟩ : gi 0 24 v := hv
    refine lv_icmp_gt (tgt := 21) hx hb dX3_insert_9 (by decide) (fun c9 => ?_) (fun c9 => ?_)
    · have rp1_9 : ir p1 1 2147483647 := ⟨Int.le_trans (by decide) (rf_lt c9 r6 rp1_1).2, (rp1_1).2⟩
      exact W.vret hx hb hr (fun t ht _ => ⟨⟨(), rfl, trivial, cW_at ht hW, trivial⟩, hS.F ht⟩) hS.2.2 dX3_insert_21
    · have rp1_9 : ir p1 0 24 := ⟨(rp1_1).1, Int.le_trans (rf_le (rf_nlt c9) rp1_1 r6).1 (by decide)⟩
      refine lv_aload_n hx hb dX3_insert_12 rfl (lv_at hl 0 rfl) ?_
      refine wt_rel hx hb hts cfX3 hown hK nh0_1 rfl (by decide) (Or.inl (hts _ q43)) dX3_insert_13 ?_
      refine lv_bipush (v := 24) hx hb dX3_insert_16 (by decide) ?_
      refine lv_icmp_lt (tgt := 22) hx hb dX3_insert_18 (by decide) (fun c18 => ?_) (fun c18 => ?_)
      · have rx6_18 : ir x6 0 23 := ⟨(r6).1, Int.le_trans (rf_lt c18 r6 (ir_c (24) (by decide) : ir (24 : Int32) (24) (24))).1 (by decide)⟩
        have rp1_18_1 : ir p1 0 23 := ⟨(rp1_9).1, Int.le_trans (rf_le (rf_nlt c9) rp1_9 rx6_18).1 (by decide)⟩
        refine lv_aload_n hx hb dX3_insert_22 rfl (lv_at hl 0 rfl) ?_
        refine wt_rel hx hb hts cfX3 hown hK nh0_1 rfl (by decide) (Or.inl (hts _ q43)) dX3_insert_23 ?_
        refine lv_istore_n (lv' := [(3, .int x6), (0, .ref h0), (1, .int p1), (2, .int p2)]) hx hb dX3_insert_26 rfl hl (by decide) rfl (fun ls hl => ?_)
        exact w2 _ _ _ (L27 24 _ _ _ x6 x6 hW hS (lv_sub hl [1, 2, 3, 0] rfl) rp1_18_1 rp2 rx6_18 rx6_18 nh0_1 (by have h9 := rx6_18; omega))
      · have rx6_18 : ir x6 24 24 := ⟨Int.le_trans (by decide) (rf_le (rf_nlt c18) (ir_c (24) (by decide) : ir (24 : Int32) (24) (24)) r6).2, (r6).2⟩
        exact W.vret hx hb hr (fun t ht _ => ⟨⟨(), rfl, trivial, cW_at ht hW, trivial⟩, hS.F ht⟩) hS.2.2 dX3_insert_21
set_option maxHeartbeats 4000000 in
set_option maxRecDepth 100000 in
theorem m_X3_remove (l : Launch) (N : c_N) (h0 : Nat) (k0 : N.2.2.1 h0 = some 3) (p1 : Int32) : cMv l yX3_remove cX3_remove 3 { frames := 1, cells := 0, slots := 0, locals := 21 } [.ref h0, .int p1] N [3, 20] cT0 cT0 := by
  refine Met.ofW (cc := cX3_remove) (maxL := 3) (ret := none) (by decide) rfl ?_
  intro p e s m args below meth c s₁ B hml hv
  obtain ⟨rfl, ⟨hK, hW, hT, hnn⟩, hB⟩ := hv
  have hx := B.exec
  have hb := B.bytes
  have hr := B.returns
  have hts : ∀ w ∈ lw_g, w.before _ s = true := fun w h => atoms_spec (ws := wc_ws yX3_remove cX3_remove 3 none) B.pre w (List.mem_cons_of_mem _ h)
  have hown : s.vm.findClass RX3 = some m.cls := findClass_of_methodNamed B.named
  have hlocks := B.notSynchronized
  have hS : va_S (cE N [3, 20]) s.heap s.heap [] := va_S.rf
  have hl := lv_entry ([.ref h0, .int p1]) (n := 3) (Nat.le_of_ble_eq_true rfl)
  rw [lg_entry_eq]
  generalize (lg_sl ([.ref h0, .int p1]) ++ List.replicate (3 - (lg_sl ([.ref h0, .int p1])).length) Slot.unset).toArray = ls at hl ⊢
  have hl : lv_has ls 3 [(0, .ref h0), (1, .int p1)] := hl
  refine wq_all ?_
  intro WW w1 w2
  have L11 : ∀ (n : Nat) (H : Heap) (locs : List Loc) (ls : Array Slot) (v11_2 : Int32) (u11_0 : Int32), cW N H → va_S (cE N [3, 20]) s.heap H locs → lv_has ls 3 [(0, .ref h0), (2, .int v11_2)] → ir v11_2 0 23 → ir u11_0 1 24 → wt_pin N.1 vwCl h0 3 1 (.int u11_0) H → 23 - v11_2.toInt < (n : Int) → WW H locs (F0 m 11 ls []) := by
    intro n
    induction n with
    | zero =>
      intro H locs ls v11_2 u11_0 hW hS hl rv11_2 ru11_0 nh0_1 mu11
      exfalso
      omega
    | succ n ih11 =>
      intro H locs ls v11_2 u11_0 hW hS hl rv11_2 ru11_0 nh0_1 mu11
      refine w1 _ _ _ ?_
      refine lv_iload_n hx hb dX3_remove_11 rfl (lv_at hl 1 rfl) ?_
      refine lv_iconst (v := 1) hx hb dX3_remove_12 (by decide) ?_
      refine lv_iadd hx hb dX3_remove_13 ?_
      refine lv_topi (fun x13 e13 => ?_)
      have t13 : x13.toInt = v11_2.toInt + (1) := it_add e13 rv11_2 (ir_c (1) (by decide) : ir (1 : Int32) (1) (1)) (by decide) (by decide)
      have r13 : ir x13 1 24 := ir_w (ir_add e13 rv11_2 (ir_c (1) (by decide) : ir (1 : Int32) (1) (1)) (by decide) (by decide)) (by decide) (by decide)
      refine lv_aload_n hx hb dX3_remove_14 rfl (lv_at hl 0 rfl) ?_
      refine wt_rel hx hb hts cfX3 hown hK nh0_1 rfl (by decide) (Or.inl (hts _ q43)) dX3_remove_15 ?_
      refine lv_icmp_ge (tgt := 41) hx hb dX3_remove_18 (by decide) (fun c18 => ?_) (fun c18 => ?_)
      · refine lv_aload_n hx hb dX3_remove_41 rfl (lv_at hl 0 rfl) ?_
        refine lv_dup hx hb dX3_remove_42 rfl ?_
        refine wt_rel hx hb hts cfX3 hown hK nh0_1 rfl (by decide) (Or.inl (hts _ q43)) dX3_remove_43 ?_
        refine lv_iconst (v := 1) hx hb dX3_remove_46 (by decide) ?_
        refine lv_isub hx hb dX3_remove_47 ?_
        refine lv_topi (fun x47 e47 => ?_)
        have t47 : x47.toInt = u11_0.toInt - (1) := it_sub e47 ru11_0 (ir_c (1) (by decide) : ir (1 : Int32) (1) (1)) (by decide) (by decide)
        have r47 : ir x47 0 23 := ir_w (ir_sub e47 ru11_0 (ir_c (1) (by decide) : ir (1 : Int32) (1) (1)) (by decide) (by decide)) (by decide) (by decide)
        refine wt_putp hx hb hts cfX3 tyX3 tyX3_ok nmX3 hown hK hW hS (cg3 k0) (ce k0 (by decide)) rfl 1 (by decide) (Or.inl (hts _ q43)) rfl rfl rfl (gi_mk (ir_w (lo' := 0) (hi' := 24) r47 (by decide) (by decide))) dX3_remove_48 (fun H locs hW hS oq o2 np => ?_)
        have nh0_1 : wt_pin N.1 vwCl h0 3 1 (.int x47) H := np
        exact W.vret hx hb hr (fun t ht _ => ⟨⟨(), rfl, trivial, cW_at ht hW, trivial⟩, hS.F ht⟩) hS.2.2 dX3_remove_51
      · have rx13_18 : ir x13 1 23 := ⟨(r13).1, Int.le_trans (rf_lt (rf_nle c18) r13 ru11_0).1 (by decide)⟩
        have ru11_0_18 : ir u11_0 2 24 := ⟨Int.le_trans (by decide) (rf_lt (rf_nle c18) r13 ru11_0).2, (ru11_0).2⟩
        have rv11_2_18_1 : ir v11_2 0 22 := by have h6 := t13; have h7 := rv11_2; have h8 := (ir_c (1) (by decide) : ir (1 : Int32) (1) (1)); have h9 := rx13_18; constructor <;> omega
        refine lv_aload_n hx hb dX3_remove_21 rfl (lv_at hl 0 rfl) ?_
        refine wt_get hx hb hts cfX3 hown hK hW (cg3 k0) rfl 0 (by decide) q39 dX3_remove_22 (fun v hv => ?_)
        obtain ⟨x22, rfl, k22⟩ : gr N 20 v := hv
        refine lv_iload_n hx hb dX3_remove_25 rfl (lv_at hl 1 rfl) ?_
        refine lv_aload_n hx hb dX3_remove_26 rfl (lv_at hl 0 rfl) ?_
        refine wt_get hx hb hts cfX3 hown hK hW (cg3 k0) rfl 0 (by decide) q39 dX3_remove_27 (fun v hv => ?_)
        obtain ⟨x27, rfl, k27⟩ : gr N 20 v := hv
        refine lv_iload_n hx hb dX3_remove_30 rfl (lv_at hl 1 rfl) ?_
        refine lv_iconst (v := 1) hx hb dX3_remove_31 (by decide) ?_
        refine lv_iadd hx hb dX3_remove_32 ?_
        refine lv_topi (fun x32 e32 => ?_)
        have t32 : x32.toInt = v11_2.toInt + (1) := it_add e32 rv11_2_18_1 (ir_c (1) (by decide) : ir (1 : Int32) (1) (1)) (by decide) (by decide)
        have r32 : ir x32 1 23 := rf_eq (e32.trans e13.symm) rx13_18
        refine wt_iald hx hb hK hW 0 (cg20 k27) rfl (ir_in (ir_w (lo' := 0) (hi' := 23) r32 (by decide) (by decide)) (by decide) (by decide)) dX3_remove_33 (fun v hv => ?_)
        obtain ⟨x33, rfl, r33⟩ : gi 0 383 v := hv
        refine wt_iastp hx hb hK hW hS 0 (cg20 k22) (ce k22 (by decide)) rfl (ir_in (ir_w (lo' := 0) (hi' := 23) rv11_2_18_1 (by decide) (by decide)) (by decide) (by decide)) (gi_mk r33) dX3_remove_34 (fun H locs hW hS oq => ?_)
        have nh0_1 := nh0_1.kept (oq _ (ne_kind k0 k22 (by decide)))
        obtain ⟨x35, e35⟩ : ∃ y : Int32, y = v11_2 + 1 := ⟨_, rfl⟩
        have r35 : ir x35 1 23 := ir_w (ir_add e35 rv11_2_18_1 (ir_c (1) (by decide) : ir (1 : Int32) (1) (1)) (by decide) (by decide)) (by decide) (by decide)
        have t35 : x35.toInt = v11_2.toInt + (1) := it_add e35 rv11_2_18_1 (ir_c (1) (by decide) : ir (1 : Int32) (1) (1)) (by decide) (by decide)
        refine lv_iinc (v := x35) (lv' := [(2, .int x35), (0, .ref h0)]) hx hb dX3_remove_35 hl (k := 1) rfl (by rw [e35]; rfl) (by decide) rfl (fun ls hl => ?_)
        refine lv_goto (tgt := 11) hx hb dX3_remove_38 (by decide) ?_
        exact w2 _ _ _ (ih11 _ _ _ x35 u11_0 hW hS (lv_sub hl [1, 0] rfl) (ir_w (lo' := 0) (hi' := 23) r35 (by decide) (by decide)) (ir_w (lo' := 1) (hi' := 24) ru11_0_18 (by decide) (by decide)) nh0_1 (by have h9 := r35; omega))
  refine lv_aload_n hx hb dX3_remove_0 rfl (lv_at hl 0 rfl) ?_
  refine lv_iload_n hx hb dX3_remove_1 rfl (lv_at hl 1 rfl) ?_
  obtain ⟨v, hv, nh0_1⟩ := cpin hW (cg3 k0) rfl 1 (by decide)
  obtain ⟨x2_1, rfl, r2_1⟩ : gi 0 24 v := hv
  refine cc_i (wt_runV (As := [.int p1]) (rest := []) ⟨hx, hb, hml, hown, hts⟩ (m_X3_has l N h0 k0 p1 x2_1) wm_X3_has q506 ⟨rfl, rfl⟩ ⟨Nat.le_of_ble_eq_true rfl, Nat.le_of_ble_eq_true rfl⟩ (cS_preV hK hW hT hnn hS (cg3 k0) rfl rfl nh0_1) rfl hl.1 rfl (Nat.le_of_ble_eq_true rfl) dX3_remove_2 ⟨Nat.zero_le _, Nat.zero_le _⟩) hS (by decide) (fun x2 H locs hp hW hS oq => ?_)
  have nh0_1 := nh0_1.kept (oq _ nh0_1.lt (cE_not k0 (by decide)))
  obtain ⟨r2, b2⟩ := hp
  refine lv_if_ne (tgt := 9) hx hb dX3_remove_5 (by decide) (fun c5 => ?_) (fun c5 => ?_)
  · have rx2_5 : ir x2 1 1 := rf_ne0 c5 r2
    have bx2_5 := b2 c5
    have rx2_1_5_1 : ir x2_1 1 24 := ⟨Int.le_trans (by decide) (rf_lt bx2_5.2 bx2_5.1 r2_1).2, (r2_1).2⟩
    refine lv_iload_n hx hb dX3_remove_9 rfl (lv_at hl 1 rfl) ?_
    refine lv_istore_n (lv' := [(2, .int p1), (0, .ref h0), (1, .int p1)]) hx hb dX3_remove_10 rfl hl (by decide) rfl (fun ls hl => ?_)
    exact w2 _ _ _ (L11 24 _ _ _ p1 x2_1 hW hS (lv_sub hl [1, 0] rfl) bx2_5.1 rx2_1_5_1 nh0_1 (by have h9 := bx2_5.1; omega))
  · have rx2_5 : ir x2 0 0 := rf_eq c5 (ir_c (0) (by decide) : ir (0 : Int32) (0) (0))
    exact W.vret hx hb hr (fun t ht _ => ⟨⟨(), rfl, trivial, cW_at ht hW, trivial⟩, hS.F ht⟩) hS.2.2 dX3_remove_8
set_option maxHeartbeats 4000000 in
set_option maxRecDepth 100000 in
theorem m_X3_reverse (l : Launch) (N : c_N) (h0 : Nat) (k0 : N.2.2.1 h0 = some 3) : cMv l yX3_reverse cX3_reverse 4 { frames := 0, cells := 0, slots := 0, locals := 0 } [.ref h0] N [20] cT0 cT0 := by
  refine Met.ofW (cc := cX3_reverse) (maxL := 4) (ret := none) (by decide) rfl ?_
  intro p e s m args below meth c s₁ B hml hv
  obtain ⟨rfl, ⟨hK, hW, hT, hnn⟩, hB⟩ := hv
  have hx := B.exec
  have hb := B.bytes
  have hr := B.returns
  have hts : ∀ w ∈ lw_g, w.before _ s = true := fun w h => atoms_spec (ws := wc_ws yX3_reverse cX3_reverse 4 none) B.pre w (List.mem_cons_of_mem _ h)
  have hown : s.vm.findClass RX3 = some m.cls := findClass_of_methodNamed B.named
  have hlocks := B.notSynchronized
  have hS : va_S (cE N [20]) s.heap s.heap [] := va_S.rf
  have hl := lv_entry ([.ref h0]) (n := 4) (Nat.le_of_ble_eq_true rfl)
  rw [lg_entry_eq]
  generalize (lg_sl ([.ref h0]) ++ List.replicate (4 - (lg_sl ([.ref h0])).length) Slot.unset).toArray = ls at hl ⊢
  have hl : lv_has ls 4 [(0, .ref h0)] := hl
  refine wq_all ?_
  intro WW w1 w2
  have L2 : ∀ (n : Nat) (H : Heap) (locs : List Loc) (ls : Array Slot) (v2_1 : Int32), cW N H → va_S (cE N [20]) s.heap H locs → lv_has ls 4 [(0, .ref h0), (1, .int v2_1)] → ir v2_1 0 12 → 12 - v2_1.toInt < (n : Int) → WW H locs (F0 m 2 ls []) := by
    intro n
    induction n with
    | zero =>
      intro H locs ls v2_1 hW hS hl rv2_1 mu2
      exfalso
      omega
    | succ n ih2 =>
      intro H locs ls v2_1 hW hS hl rv2_1 mu2
      refine w1 _ _ _ ?_
      refine lv_iload_n hx hb dX3_reverse_2 rfl (lv_at hl 1 rfl) ?_
      refine lv_aload_n hx hb dX3_reverse_3 rfl (lv_at hl 0 rfl) ?_
      refine wt_getp hx hb hts cfX3 hown hK hW (cg3 k0) rfl 1 (by decide) (Or.inl (hts _ q43)) dX3_reverse_4 (fun v hv nh0_1 => ?_)
      obtain ⟨x4, rfl, r4⟩ : gi 0 24 v := hv
      refine lv_iconst (v := 2) hx hb dX3_reverse_7 (by decide) ?_
      refine lv_idiv hx hb dX3_reverse_8 (by decide) ?_
      refine lv_topi (fun x8 e8 => ?_)
      have t8 := ir_divc e8 r4 (by decide) 2 (by decide) (by decide) (by decide)
      have r8 : ir x8 0 12 := by have t := ir_divc e8 r4 (by decide) 2 (by decide) (by decide) (by decide); have h9 := r4; constructor <;> omega
      refine lv_icmp_ge (tgt := 53) hx hb dX3_reverse_9 (by decide) (fun c9 => ?_) (fun c9 => ?_)
      · have d9 := Int32.le_iff_toInt_le.mp c9
        exact W.vret hx hb hr (fun t ht _ => ⟨⟨(), rfl, trivial, cW_at ht hW, trivial⟩, hS.F ht⟩) hS.2.2 dX3_reverse_53
      · have rv2_1_9 : ir v2_1 0 11 := ⟨(rv2_1).1, Int.le_trans (rf_lt (rf_nle c9) rv2_1 r8).1 (by decide)⟩
        have rx8_9 : ir x8 1 12 := ⟨Int.le_trans (by decide) (rf_lt (rf_nle c9) rv2_1 r8).2, (r8).2⟩
        have d9 := Int32.lt_iff_toInt_lt.mp (rf_nle c9)
        refine lv_aload_n hx hb dX3_reverse_12 rfl (lv_at hl 0 rfl) ?_
        refine wt_rel hx hb hts cfX3 hown hK nh0_1 rfl (by decide) (Or.inl (hts _ q43)) dX3_reverse_13 ?_
        refine lv_iconst (v := 1) hx hb dX3_reverse_16 (by decide) ?_
        refine lv_isub hx hb dX3_reverse_17 ?_
        refine lv_topi (fun x17 e17 => ?_)
        have t17 : x17.toInt = x4.toInt - (1) := it_sub e17 r4 (ir_c (1) (by decide) : ir (1 : Int32) (1) (1)) (by decide) (by decide)
        have r17 : ir x17 (-1) 23 := ir_w (ir_sub e17 r4 (ir_c (1) (by decide) : ir (1 : Int32) (1) (1)) (by decide) (by decide)) (by decide) (by decide)
        refine lv_iload_n hx hb dX3_reverse_18 rfl (lv_at hl 1 rfl) ?_
        refine lv_isub hx hb dX3_reverse_19 ?_
        refine lv_topi (fun x19 e19 => ?_)
        have t19 : x19.toInt = x17.toInt - v2_1.toInt := it_sub e19 r17 rv2_1_9 (by decide) (by decide)
        have r19 : ir x19 0 23 := by have h6 := r17; have h7 := rv2_1_9; constructor <;> omega
        refine lv_istore_n (lv' := [(2, .int x19), (0, .ref h0), (1, .int v2_1)]) hx hb dX3_reverse_20 rfl hl (by decide) rfl (fun ls hl => ?_)
        refine lv_aload_n hx hb dX3_reverse_21 rfl (lv_at hl 1 rfl) ?_
        refine wt_get hx hb hts cfX3 hown hK hW (cg3 k0) rfl 0 (by decide) q39 dX3_reverse_22 (fun v hv => ?_)
        obtain ⟨x22, rfl, k22⟩ : gr N 20 v := hv
        refine lv_iload_n hx hb dX3_reverse_25 rfl (lv_at hl 2 rfl) ?_
        refine wt_iald hx hb hK hW 0 (cg20 k22) rfl (ir_in (ir_w (lo' := 0) (hi' := 23) rv2_1_9 (by decide) (by decide)) (by decide) (by decide)) dX3_reverse_26 (fun v hv => ?_)
        obtain ⟨x26, rfl, r26⟩ : gi 0 383 v := hv
        refine lv_istore_n (lv' := [(3, .int x26), (2, .int x19), (0, .ref h0), (1, .int v2_1)]) hx hb dX3_reverse_27 rfl hl (by decide) rfl (fun ls hl => ?_)
        refine lv_aload_n hx hb dX3_reverse_28 rfl (lv_at hl 2 rfl) ?_
        refine wt_get hx hb hts cfX3 hown hK hW (cg3 k0) rfl 0 (by decide) q39 dX3_reverse_29 (fun v hv => ?_)
        obtain ⟨x29, rfl, k29⟩ : gr N 20 v := hv
        refine lv_iload_n hx hb dX3_reverse_32 rfl (lv_at hl 3 rfl) ?_
        refine lv_aload_n hx hb dX3_reverse_33 rfl (lv_at hl 2 rfl) ?_
        refine wt_get hx hb hts cfX3 hown hK hW (cg3 k0) rfl 0 (by decide) q39 dX3_reverse_34 (fun v hv => ?_)
        obtain ⟨x34, rfl, k34⟩ : gr N 20 v := hv
        refine lv_iload_n hx hb dX3_reverse_37 rfl (lv_at hl 1 rfl) ?_
        refine wt_iald hx hb hK hW 0 (cg20 k34) rfl (ir_in r19 (by decide) (by decide)) dX3_reverse_38 (fun v hv => ?_)
        obtain ⟨x38, rfl, r38⟩ : gi 0 383 v := hv
        refine wt_iastp hx hb hK hW hS 0 (cg20 k29) (ce k29 (by decide)) rfl (ir_in (ir_w (lo' := 0) (hi' := 23) rv2_1_9 (by decide) (by decide)) (by decide) (by decide)) (gi_mk r38) dX3_reverse_39 (fun H locs hW hS oq => ?_)
        have nh0_1 := nh0_1.kept (oq _ (ne_kind k0 k29 (by decide)))
        refine lv_aload_n hx hb dX3_reverse_40 rfl (lv_at hl 2 rfl) ?_
        refine wt_get hx hb hts cfX3 hown hK hW (cg3 k0) rfl 0 (by decide) q39 dX3_reverse_41 (fun v hv => ?_)
        obtain ⟨x41, rfl, k41⟩ : gr N 20 v := hv
        refine lv_iload_n hx hb dX3_reverse_44 rfl (lv_at hl 1 rfl) ?_
        refine lv_iload_n hx hb dX3_reverse_45 rfl (lv_at hl 0 rfl) ?_
        refine wt_iastp hx hb hK hW hS 0 (cg20 k41) (ce k41 (by decide)) rfl (ir_in r19 (by decide) (by decide)) (gi_mk r26) dX3_reverse_46 (fun H locs hW hS oq => ?_)
        have nh0_1 := nh0_1.kept (oq _ (ne_kind k0 k41 (by decide)))
        obtain ⟨x47, e47⟩ : ∃ y : Int32, y = v2_1 + 1 := ⟨_, rfl⟩
        have r47 : ir x47 1 12 := ir_w (ir_add e47 rv2_1_9 (ir_c (1) (by decide) : ir (1 : Int32) (1) (1)) (by decide) (by decide)) (by decide) (by decide)
        have t47 : x47.toInt = v2_1.toInt + (1) := it_add e47 rv2_1_9 (ir_c (1) (by decide) : ir (1 : Int32) (1) (1)) (by decide) (by decide)
        refine lv_iinc (v := x47) (lv' := [(1, .int x47), (3, .int x26), (2, .int x19), (0, .ref h0)]) hx hb dX3_reverse_47 hl (k := 3) rfl (by rw [e47]; rfl) (by decide) rfl (fun ls hl => ?_)
        refine lv_goto (tgt := 2) hx hb dX3_reverse_50 (by decide) ?_
        exact w2 _ _ _ (ih2 _ _ _ x47 hW hS (lv_sub hl [3, 0] rfl) (ir_w (lo' := 0) (hi' := 12) r47 (by decide) (by decide)) (by have h9 := r47; omega))
  refine lv_iconst (v := 0) hx hb dX3_reverse_0 (by decide) ?_
  refine lv_istore_n (lv' := [(1, .int (0 : Int32)), (0, .ref h0)]) hx hb dX3_reverse_1 rfl hl (by decide) rfl (fun ls hl => ?_)
  exact w2 _ _ _ (L2 13 _ _ _ (0 : Int32) hW hS (lv_sub hl [1, 0] rfl) (ir_w (lo' := 0) (hi' := 12) (ir_c (0) (by decide) : ir (0 : Int32) (0) (0)) (by decide) (by decide)) (by have h9 := (ir_c (0) (by decide) : ir (0 : Int32) (0) (0)); omega))
set_option maxHeartbeats 4000000 in
set_option maxRecDepth 100000 in
theorem m_X3_isSameReversed (l : Launch) (N : c_N) (h0 : Nat) (k0 : N.2.2.1 h0 = some 3) : cMi l yX3_isSameReversed cX3_isSameReversed 2 .boolean { frames := 0, cells := 0, slots := 0, locals := 0 } [.ref h0] N [] cT0 (fun r => ir r 0 1) := by
  refine Met.ofW (cc := cX3_isSameReversed) (maxL := 2) (ret := some .boolean) (by decide) rfl ?_
  intro p e s m args below meth c s₁ B hml hv
  obtain ⟨rfl, ⟨hK, hW, hT, hnn⟩, hB⟩ := hv
  have hx := B.exec
  have hb := B.bytes
  have hr := B.returns
  have hts : ∀ w ∈ lw_g, w.before _ s = true := fun w h => atoms_spec (ws := wc_ws yX3_isSameReversed cX3_isSameReversed 2 (some .boolean)) B.pre w (List.mem_cons_of_mem _ h)
  have hown : s.vm.findClass RX3 = some m.cls := findClass_of_methodNamed B.named
  have hlocks := B.notSynchronized
  have hS : va_S (cE N []) s.heap s.heap [] := va_S.rf
  have hl := lv_entry ([.ref h0]) (n := 2) (Nat.le_of_ble_eq_true rfl)
  rw [lg_entry_eq]
  generalize (lg_sl ([.ref h0]) ++ List.replicate (2 - (lg_sl ([.ref h0])).length) Slot.unset).toArray = ls at hl ⊢
  have hl : lv_has ls 2 [(0, .ref h0)] := hl
  refine wq_all ?_
  intro WW w1 w2
  have L2 : ∀ (n : Nat) (H : Heap) (locs : List Loc) (ls : Array Slot) (v2_1 : Int32), cW N H → va_S (cE N []) s.heap H locs → lv_has ls 2 [(0, .ref h0), (1, .int v2_1)] → ir v2_1 0 12 → 12 - v2_1.toInt < (n : Int) → WW H locs (F0 m 2 ls []) := by
    intro n
    induction n with
    | zero =>
      intro H locs ls v2_1 hW hS hl rv2_1 mu2
      exfalso
      omega
    | succ n ih2 =>
      intro H locs ls v2_1 hW hS hl rv2_1 mu2
      refine w1 _ _ _ ?_
      refine lv_iload_n hx hb dX3_isSameReversed_2 rfl (lv_at hl 1 rfl) ?_
      refine lv_aload_n hx hb dX3_isSameReversed_3 rfl (lv_at hl 0 rfl) ?_
      refine wt_getp hx hb hts cfX3 hown hK hW (cg3 k0) rfl 1 (by decide) (Or.inl (hts _ q43)) dX3_isSameReversed_4 (fun v hv nh0_1 => ?_)
      obtain ⟨x4, rfl, r4⟩ : gi 0 24 v := hv
      refine lv_iconst (v := 2) hx hb dX3_isSameReversed_7 (by decide) ?_
      refine lv_idiv hx hb dX3_isSameReversed_8 (by decide) ?_
      refine lv_topi (fun x8 e8 => ?_)
      have t8 := ir_divc e8 r4 (by decide) 2 (by decide) (by decide) (by decide)
      have r8 : ir x8 0 12 := by have t := ir_divc e8 r4 (by decide) 2 (by decide) (by decide) (by decide); have h9 := r4; constructor <;> omega
      refine lv_icmp_ge (tgt := 42) hx hb dX3_isSameReversed_9 (by decide) (fun c9 => ?_) (fun c9 => ?_)
      · have d9 := Int32.le_iff_toInt_le.mp c9
        refine lv_iconst (v := 1) hx hb dX3_isSameReversed_42 (by decide) ?_
        exact W.zret (v := (1 : Int32)) hx hb hr rfl (fun t ht _ => ⟨⟨(1 : Int32), (), rfl, (⟨by decide, by decide⟩), cW_at ht hW⟩, hS.F ht⟩) hS.2.2 dX3_isSameReversed_43
      · have rv2_1_9 : ir v2_1 0 11 := ⟨(rv2_1).1, Int.le_trans (rf_lt (rf_nle c9) rv2_1 r8).1 (by decide)⟩
        have rx8_9 : ir x8 1 12 := ⟨Int.le_trans (by decide) (rf_lt (rf_nle c9) rv2_1 r8).2, (r8).2⟩
        have d9 := Int32.lt_iff_toInt_lt.mp (rf_nle c9)
        refine lv_aload_n hx hb dX3_isSameReversed_12 rfl (lv_at hl 0 rfl) ?_
        refine wt_get hx hb hts cfX3 hown hK hW (cg3 k0) rfl 0 (by decide) q39 dX3_isSameReversed_13 (fun v hv => ?_)
        obtain ⟨x13, rfl, k13⟩ : gr N 20 v := hv
        refine lv_iload_n hx hb dX3_isSameReversed_16 rfl (lv_at hl 1 rfl) ?_
        refine wt_iald hx hb hK hW 0 (cg20 k13) rfl (ir_in (ir_w (lo' := 0) (hi' := 23) rv2_1_9 (by decide) (by decide)) (by decide) (by decide)) dX3_isSameReversed_17 (fun v hv => ?_)
        obtain ⟨x17, rfl, r17⟩ : gi 0 383 v := hv
        refine lv_aload_n hx hb dX3_isSameReversed_18 rfl (lv_at hl 0 rfl) ?_
        refine wt_get hx hb hts cfX3 hown hK hW (cg3 k0) rfl 0 (by decide) q39 dX3_isSameReversed_19 (fun v hv => ?_)
        obtain ⟨x19, rfl, k19⟩ : gr N 20 v := hv
        refine lv_aload_n hx hb dX3_isSameReversed_22 rfl (lv_at hl 0 rfl) ?_
        refine wt_rel hx hb hts cfX3 hown hK nh0_1 rfl (by decide) (Or.inl (hts _ q43)) dX3_isSameReversed_23 ?_
        refine lv_iconst (v := 1) hx hb dX3_isSameReversed_26 (by decide) ?_
        refine lv_isub hx hb dX3_isSameReversed_27 ?_
        refine lv_topi (fun x27 e27 => ?_)
        have t27 : x27.toInt = x4.toInt - (1) := it_sub e27 r4 (ir_c (1) (by decide) : ir (1 : Int32) (1) (1)) (by decide) (by decide)
        have r27 : ir x27 (-1) 23 := ir_w (ir_sub e27 r4 (ir_c (1) (by decide) : ir (1 : Int32) (1) (1)) (by decide) (by decide)) (by decide) (by decide)
        refine lv_iload_n hx hb dX3_isSameReversed_28 rfl (lv_at hl 1 rfl) ?_
        refine lv_isub hx hb dX3_isSameReversed_29 ?_
        refine lv_topi (fun x29 e29 => ?_)
        have t29 : x29.toInt = x27.toInt - v2_1.toInt := it_sub e29 r27 rv2_1_9 (by decide) (by decide)
        have r29 : ir x29 0 23 := by have h6 := r27; have h7 := rv2_1_9; constructor <;> omega
        refine wt_iald hx hb hK hW 0 (cg20 k19) rfl (ir_in r29 (by decide) (by decide)) dX3_isSameReversed_30 (fun v hv => ?_)
        obtain ⟨x30, rfl, r30⟩ : gi 0 383 v := hv
        refine lv_icmp_eq (tgt := 36) hx hb dX3_isSameReversed_31 (by decide) (fun c31 => ?_) (fun c31 => ?_)
        · have rx27_31_1 : ir x27 0 23 := by have h6 := t29; have h7 := r27; have h8 := rv2_1_9; have h9 := r29; constructor <;> omega
          have rx4_31_2 : ir x4 1 24 := by have h6 := t27; have h7 := r4; have h8 := (ir_c (1) (by decide) : ir (1 : Int32) (1) (1)); have h9 := rx27_31_1; constructor <;> omega
          obtain ⟨x36, e36⟩ : ∃ y : Int32, y = v2_1 + 1 := ⟨_, rfl⟩
          have r36 : ir x36 1 12 := ir_w (ir_add e36 rv2_1_9 (ir_c (1) (by decide) : ir (1 : Int32) (1) (1)) (by decide) (by decide)) (by decide) (by decide)
          have t36 : x36.toInt = v2_1.toInt + (1) := it_add e36 rv2_1_9 (ir_c (1) (by decide) : ir (1 : Int32) (1) (1)) (by decide) (by decide)
          refine lv_iinc (v := x36) (lv' := [(1, .int x36), (0, .ref h0)]) hx hb dX3_isSameReversed_36 hl (k := 1) rfl (by rw [e36]; rfl) (by decide) rfl (fun ls hl => ?_)
          refine lv_goto (tgt := 2) hx hb dX3_isSameReversed_39 (by decide) ?_
          exact w2 _ _ _ (ih2 _ _ _ x36 hW hS (lv_sub hl [1, 0] rfl) (ir_w (lo' := 0) (hi' := 12) r36 (by decide) (by decide)) (by have h9 := r36; omega))
        · have rx27_31_1 : ir x27 0 23 := by have h6 := t29; have h7 := r27; have h8 := rv2_1_9; have h9 := r29; constructor <;> omega
          have rx4_31_2 : ir x4 1 24 := by have h6 := t27; have h7 := r4; have h8 := (ir_c (1) (by decide) : ir (1 : Int32) (1) (1)); have h9 := rx27_31_1; constructor <;> omega
          refine lv_iconst (v := 0) hx hb dX3_isSameReversed_34 (by decide) ?_
          exact W.zret (v := (0 : Int32)) hx hb hr rfl (fun t ht _ => ⟨⟨(0 : Int32), (), rfl, (⟨by decide, by decide⟩), cW_at ht hW⟩, hS.F ht⟩) hS.2.2 dX3_isSameReversed_35
  refine lv_iconst (v := 0) hx hb dX3_isSameReversed_0 (by decide) ?_
  refine lv_istore_n (lv' := [(1, .int (0 : Int32)), (0, .ref h0)]) hx hb dX3_isSameReversed_1 rfl hl (by decide) rfl (fun ls hl => ?_)
  exact w2 _ _ _ (L2 13 _ _ _ (0 : Int32) hW hS (lv_sub hl [1, 0] rfl) (ir_w (lo' := 0) (hi' := 12) (ir_c (0) (by decide) : ir (0 : Int32) (0) (0)) (by decide) (by decide)) (by have h9 := (ir_c (0) (by decide) : ir (0 : Int32) (0) (0)); omega))
set_option maxHeartbeats 4000000 in
set_option maxRecDepth 100000 in
theorem m_X3_repeatsAfter (l : Launch) (N : c_N) (h0 : Nat) (k0 : N.2.2.1 h0 = some 3) (p1 : Int32) (rp1 : ir p1 1 24) : cMi l yX3_repeatsAfter cX3_repeatsAfter 3 .boolean { frames := 0, cells := 0, slots := 0, locals := 0 } [.ref h0, .int p1] N [] cT0 (fun r => ir r 0 1) := by
  refine Met.ofW (cc := cX3_repeatsAfter) (maxL := 3) (ret := some .boolean) (by decide) rfl ?_
  intro p e s m args below meth c s₁ B hml hv
  obtain ⟨rfl, ⟨hK, hW, hT, hnn⟩, hB⟩ := hv
  have hx := B.exec
  have hb := B.bytes
  have hr := B.returns
  have hts : ∀ w ∈ lw_g, w.before _ s = true := fun w h => atoms_spec (ws := wc_ws yX3_repeatsAfter cX3_repeatsAfter 3 (some .boolean)) B.pre w (List.mem_cons_of_mem _ h)
  have hown : s.vm.findClass RX3 = some m.cls := findClass_of_methodNamed B.named
  have hlocks := B.notSynchronized
  have hS : va_S (cE N []) s.heap s.heap [] := va_S.rf
  have hl := lv_entry ([.ref h0, .int p1]) (n := 3) (Nat.le_of_ble_eq_true rfl)
  rw [lg_entry_eq]
  generalize (lg_sl ([.ref h0, .int p1]) ++ List.replicate (3 - (lg_sl ([.ref h0, .int p1])).length) Slot.unset).toArray = ls at hl ⊢
  have hl : lv_has ls 3 [(0, .ref h0), (1, .int p1)] := hl
  refine wq_all ?_
  intro WW w1 w2
  have L2 : ∀ (n : Nat) (H : Heap) (locs : List Loc) (ls : Array Slot) (v2_2 : Int32), cW N H → va_S (cE N []) s.heap H locs → lv_has ls 3 [(0, .ref h0), (1, .int p1), (2, .int v2_2)] → ir p1 1 24 → ir v2_2 0 23 → 23 - v2_2.toInt < (n : Int) → WW H locs (F0 m 2 ls []) := by
    intro n
    induction n with
    | zero =>
      intro H locs ls v2_2 hW hS hl rv2_1 rv2_2 mu2
      exfalso
      omega
    | succ n ih2 =>
      intro H locs ls v2_2 hW hS hl rv2_1 rv2_2 mu2
      refine w1 _ _ _ ?_
      refine lv_iload_n hx hb dX3_repeatsAfter_2 rfl (lv_at hl 2 rfl) ?_
      refine lv_iload_n hx hb dX3_repeatsAfter_3 rfl (lv_at hl 1 rfl) ?_
      refine lv_iadd hx hb dX3_repeatsAfter_4 ?_
      refine lv_topi (fun x4 e4 => ?_)
      have t4 : x4.toInt = v2_2.toInt + p1.toInt := it_add e4 rv2_2 rv2_1 (by decide) (by decide)
      have r4 : ir x4 1 47 := ir_w (ir_add e4 rv2_2 rv2_1 (by decide) (by decide)) (by decide) (by decide)
      refine lv_aload_n hx hb dX3_repeatsAfter_5 rfl (lv_at hl 0 rfl) ?_
      refine wt_getp hx hb hts cfX3 hown hK hW (cg3 k0) rfl 1 (by decide) (Or.inl (hts _ q43)) dX3_repeatsAfter_6 (fun v hv nh0_1 => ?_)
      obtain ⟨x6, rfl, r6⟩ : gi 0 24 v := hv
      refine lv_icmp_ge (tgt := 37) hx hb dX3_repeatsAfter_9 (by decide) (fun c9 => ?_) (fun c9 => ?_)
      · refine lv_iconst (v := 1) hx hb dX3_repeatsAfter_37 (by decide) ?_
        exact W.zret (v := (1 : Int32)) hx hb hr rfl (fun t ht _ => ⟨⟨(1 : Int32), (), rfl, (⟨by decide, by decide⟩), cW_at ht hW⟩, hS.F ht⟩) hS.2.2 dX3_repeatsAfter_38
      · have rx4_9 : ir x4 1 23 := ⟨(r4).1, Int.le_trans (rf_lt (rf_nle c9) r4 r6).1 (by decide)⟩
        have rx6_9 : ir x6 2 24 := ⟨Int.le_trans (by decide) (rf_lt (rf_nle c9) r4 r6).2, (r6).2⟩
        have rv2_2_9_1 : ir v2_2 0 22 := by have h6 := t4; have h7 := rv2_2; have h8 := rv2_1; have h9 := rx4_9; constructor <;> omega
        have rp1_9_2 : ir p1 1 23 := by have h6 := t4; have h7 := rv2_2_9_1; have h8 := rv2_1; have h9 := rx4_9; constructor <;> omega
        refine lv_aload_n hx hb dX3_repeatsAfter_12 rfl (lv_at hl 0 rfl) ?_
        refine wt_get hx hb hts cfX3 hown hK hW (cg3 k0) rfl 0 (by decide) q39 dX3_repeatsAfter_13 (fun v hv => ?_)
        obtain ⟨x13, rfl, k13⟩ : gr N 20 v := hv
        refine lv_iload_n hx hb dX3_repeatsAfter_16 rfl (lv_at hl 2 rfl) ?_
        refine wt_iald hx hb hK hW 0 (cg20 k13) rfl (ir_in (ir_w (lo' := 0) (hi' := 23) rv2_2_9_1 (by decide) (by decide)) (by decide) (by decide)) dX3_repeatsAfter_17 (fun v hv => ?_)
        obtain ⟨x17, rfl, r17⟩ : gi 0 383 v := hv
        refine lv_aload_n hx hb dX3_repeatsAfter_18 rfl (lv_at hl 0 rfl) ?_
        refine wt_get hx hb hts cfX3 hown hK hW (cg3 k0) rfl 0 (by decide) q39 dX3_repeatsAfter_19 (fun v hv => ?_)
        obtain ⟨x19, rfl, k19⟩ : gr N 20 v := hv
        refine lv_iload_n hx hb dX3_repeatsAfter_22 rfl (lv_at hl 2 rfl) ?_
        refine lv_iload_n hx hb dX3_repeatsAfter_23 rfl (lv_at hl 1 rfl) ?_
        refine lv_iadd hx hb dX3_repeatsAfter_24 ?_
        refine lv_topi (fun x24 e24 => ?_)
        have t24 : x24.toInt = v2_2.toInt + p1.toInt := it_add e24 rv2_2_9_1 rp1_9_2 (by decide) (by decide)
        have r24 : ir x24 1 23 := rf_eq (e24.trans e4.symm) rx4_9
        refine wt_iald hx hb hK hW 0 (cg20 k19) rfl (ir_in (ir_w (lo' := 0) (hi' := 23) r24 (by decide) (by decide)) (by decide) (by decide)) dX3_repeatsAfter_25 (fun v hv => ?_)
        obtain ⟨x25, rfl, r25⟩ : gi 0 383 v := hv
        refine lv_icmp_eq (tgt := 31) hx hb dX3_repeatsAfter_26 (by decide) (fun c26 => ?_) (fun c26 => ?_)
        · obtain ⟨x31, e31⟩ : ∃ y : Int32, y = v2_2 + 1 := ⟨_, rfl⟩
          have r31 : ir x31 1 23 := ir_w (ir_add e31 rv2_2_9_1 (ir_c (1) (by decide) : ir (1 : Int32) (1) (1)) (by decide) (by decide)) (by decide) (by decide)
          have t31 : x31.toInt = v2_2.toInt + (1) := it_add e31 rv2_2_9_1 (ir_c (1) (by decide) : ir (1 : Int32) (1) (1)) (by decide) (by decide)
          refine lv_iinc (v := x31) (lv' := [(2, .int x31), (0, .ref h0), (1, .int p1)]) hx hb dX3_repeatsAfter_31 hl (k := 2) rfl (by rw [e31]; rfl) (by decide) rfl (fun ls hl => ?_)
          refine lv_goto (tgt := 2) hx hb dX3_repeatsAfter_34 (by decide) ?_
          exact w2 _ _ _ (ih2 _ _ _ x31 hW hS (lv_sub hl [1, 2, 0] rfl) (ir_w (lo' := 1) (hi' := 24) rp1_9_2 (by decide) (by decide)) (ir_w (lo' := 0) (hi' := 23) r31 (by decide) (by decide)) (by have h9 := r31; omega))
        · refine lv_iconst (v := 0) hx hb dX3_repeatsAfter_29 (by decide) ?_
          exact W.zret (v := (0 : Int32)) hx hb hr rfl (fun t ht _ => ⟨⟨(0 : Int32), (), rfl, (⟨by decide, by decide⟩), cW_at ht hW⟩, hS.F ht⟩) hS.2.2 dX3_repeatsAfter_30
  refine lv_iconst (v := 0) hx hb dX3_repeatsAfter_0 (by decide) ?_
  refine lv_istore_n (lv' := [(2, .int (0 : Int32)), (0, .ref h0), (1, .int p1)]) hx hb dX3_repeatsAfter_1 rfl hl (by decide) rfl (fun ls hl => ?_)
  exact w2 _ _ _ (L2 24 _ _ _ (0 : Int32) hW hS (lv_sub hl [1, 2, 0] rfl) rp1 (ir_w (lo' := 0) (hi' := 23) (ir_c (0) (by decide) : ir (0 : Int32) (0) (0)) (by decide) (by decide)) (by have h9 := (ir_c (0) (by decide) : ir (0 : Int32) (0) (0)); omega))
set_option maxHeartbeats 4000000 in
set_option maxRecDepth 100000 in
theorem m_X3_countOfMaterial (l : Launch) (N : c_N) (h0 : Nat) (k0 : N.2.2.1 h0 = some 3) (p1 : Int32) : cMi l yX3_countOfMaterial cX3_countOfMaterial 4 .int { frames := 1, cells := 0, slots := 0, locals := 20 } [.ref h0, .int p1] N [] cT0 (fun _ => True) := by
  refine Met.ofW (cc := cX3_countOfMaterial) (maxL := 4) (ret := some .int) (by decide) rfl ?_
  intro p e s m args below meth c s₁ B hml hv
  obtain ⟨rfl, ⟨hK, hW, hT, hnn⟩, hB⟩ := hv
  have hx := B.exec
  have hb := B.bytes
  have hr := B.returns
  have hts : ∀ w ∈ lw_g, w.before _ s = true := fun w h => atoms_spec (ws := wc_ws yX3_countOfMaterial cX3_countOfMaterial 4 (some .int)) B.pre w (List.mem_cons_of_mem _ h)
  have hown : s.vm.findClass RX3 = some m.cls := findClass_of_methodNamed B.named
  have hlocks := B.notSynchronized
  have hS : va_S (cE N []) s.heap s.heap [] := va_S.rf
  have hl := lv_entry ([.ref h0, .int p1]) (n := 4) (Nat.le_of_ble_eq_true rfl)
  rw [lg_entry_eq]
  generalize (lg_sl ([.ref h0, .int p1]) ++ List.replicate (4 - (lg_sl ([.ref h0, .int p1])).length) Slot.unset).toArray = ls at hl ⊢
  have hl : lv_has ls 4 [(0, .ref h0), (1, .int p1)] := hl
  refine wq_all ?_
  intro WW w1 w2
  have L4 : ∀ (n : Nat) (H : Heap) (locs : List Loc) (ls : Array Slot) (v4_2 : Int32) (v4_3 : Int32), cW N H → va_S (cE N []) s.heap H locs → lv_has ls 4 [(0, .ref h0), (1, .int p1), (2, .int v4_2), (3, .int v4_3)] → ir v4_3 0 24 → 24 - v4_3.toInt < (n : Int) → WW H locs (F0 m 4 ls []) := by
    intro n
    induction n with
    | zero =>
      intro H locs ls v4_2 v4_3 hW hS hl rv4_3 mu4
      exfalso
      omega
    | succ n ih4 =>
      intro H locs ls v4_2 v4_3 hW hS hl rv4_3 mu4
      have J31 : ∀ (H : Heap) (locs : List Loc) (ls : Array Slot) (w31_0 : Int32) (u31_0 : Int32), cW N H → va_S (cE N []) s.heap H locs → lv_has ls 4 [(0, .ref h0), (1, .int p1), (3, .int v4_3)] → ir v4_3 0 23 → ir w31_0 0 1 → ir u31_0 1 24 → wt_pin N.1 vwCl h0 3 1 (.int u31_0) H → WW H locs (F0 m 31 ls [.int w31_0, .int v4_2]) := by
        intro H locs ls w31_0 u31_0 hW hS hl rv31_3 rw31_0 ru31_0 nh0_1
        refine w1 _ _ _ ?_
        refine lv_iadd hx hb dX3_countOfMaterial_31 ?_
        refine lv_topi (fun x31 e31 => ?_)
        refine lv_istore_n (lv' := [(2, .int x31), (0, .ref h0), (1, .int p1), (3, .int v4_3)]) hx hb dX3_countOfMaterial_32 rfl hl (by decide) rfl (fun ls hl => ?_)
        obtain ⟨x33, e33⟩ : ∃ y : Int32, y = v4_3 + 1 := ⟨_, rfl⟩
        have r33 : ir x33 1 24 := ir_w (ir_add e33 rv31_3 (ir_c (1) (by decide) : ir (1 : Int32) (1) (1)) (by decide) (by decide)) (by decide) (by decide)
        have t33 : x33.toInt = v4_3.toInt + (1) := it_add e33 rv31_3 (ir_c (1) (by decide) : ir (1 : Int32) (1) (1)) (by decide) (by decide)
        refine lv_iinc (v := x33) (lv' := [(3, .int x33), (2, .int x31), (0, .ref h0), (1, .int p1)]) hx hb dX3_countOfMaterial_33 hl (k := 3) rfl (by rw [e33]; rfl) (by decide) rfl (fun ls hl => ?_)
        refine lv_goto (tgt := 4) hx hb dX3_countOfMaterial_36 (by decide) ?_
        exact w2 _ _ _ (ih4 _ _ _ x31 x33 hW hS (lv_sub hl [2, 3, 1, 0] rfl) (ir_w (lo' := 0) (hi' := 24) r33 (by decide) (by decide)) (by have h9 := r33; omega))
      refine w1 _ _ _ ?_
      refine lv_iload_n hx hb dX3_countOfMaterial_4 rfl (lv_at hl 3 rfl) ?_
      refine lv_aload_n hx hb dX3_countOfMaterial_5 rfl (lv_at hl 0 rfl) ?_
      refine wt_getp hx hb hts cfX3 hown hK hW (cg3 k0) rfl 1 (by decide) (Or.inl (hts _ q43)) dX3_countOfMaterial_6 (fun v hv nh0_1 => ?_)
      obtain ⟨x6, rfl, r6⟩ : gi 0 24 v := hv
      refine lv_icmp_ge (tgt := 39) hx hb dX3_countOfMaterial_9 (by decide) (fun c9 => ?_) (fun c9 => ?_)
      · refine lv_iload_n hx hb dX3_countOfMaterial_39 rfl (lv_at hl 2 rfl) ?_
        exact W.iret (v := v4_2) hx hb hr (fun t ht _ => ⟨⟨v4_2, (), rfl, trivial, cW_at ht hW⟩, hS.F ht⟩) hS.2.2 dX3_countOfMaterial_40
      · have rv4_3_9 : ir v4_3 0 23 := ⟨(rv4_3).1, Int.le_trans (rf_lt (rf_nle c9) rv4_3 r6).1 (by decide)⟩
        have rx6_9 : ir x6 1 24 := ⟨Int.le_trans (by decide) (rf_lt (rf_nle c9) rv4_3 r6).2, (r6).2⟩
        refine lv_iload_n hx hb dX3_countOfMaterial_12 rfl (lv_at hl 2 rfl) ?_
        refine lv_aload_n hx hb dX3_countOfMaterial_13 rfl (lv_at hl 0 rfl) ?_
        refine wt_get hx hb hts cfX3 hown hK hW (cg3 k0) rfl 0 (by decide) q39 dX3_countOfMaterial_14 (fun v hv => ?_)
        obtain ⟨x14, rfl, k14⟩ : gr N 20 v := hv
        refine lv_iload_n hx hb dX3_countOfMaterial_17 rfl (lv_at hl 3 rfl) ?_
        refine wt_iald hx hb hK hW 0 (cg20 k14) rfl (ir_in rv4_3_9 (by decide) (by decide)) dX3_countOfMaterial_18 (fun v hv => ?_)
        obtain ⟨x18, rfl, r18⟩ : gi 0 383 v := hv
        refine cp_i (wt_runSN (As := [.int x18]) (rest := [.int v4_2]) ⟨hx, hb, hml, hown, hts⟩ hnn (m_X10_materialOf l x18 r18) wm_X10_materialOf q457 ⟨rfl, rfl⟩ ⟨Nat.le_of_ble_eq_true rfl, Nat.le_of_ble_eq_true rfl⟩ pS_pre rfl hl.1 rfl (Nat.le_of_ble_eq_true rfl) dX3_countOfMaterial_19 ⟨Nat.zero_le _, Nat.zero_le _⟩) hW hS (fun x19 H locs hp hW hS oq => ?_)
        have nh0_1 := nh0_1.kept (oq _ nh0_1.lt (cE_not k0 (by decide)))
        have r19 : ir x19 0 5 := hp
        refine lv_iload_n hx hb dX3_countOfMaterial_22 rfl (lv_at hl 1 rfl) ?_
        refine lv_icmp_ne (tgt := 30) hx hb dX3_countOfMaterial_23 (by decide) (fun c23 => ?_) (fun c23 => ?_)
        · refine lv_iconst (v := 0) hx hb dX3_countOfMaterial_30 (by decide) ?_
          exact w2 _ _ _ (J31 _ _ _ (0 : Int32) x6 hW hS (lv_sub hl [0, 1, 3] rfl) rv4_3_9 (ir_w (lo' := 0) (hi' := 1) (ir_c (0) (by decide) : ir (0 : Int32) (0) (0)) (by decide) (by decide)) rx6_9 nh0_1)
        · have rp1_23 : ir p1 0 5 := rf_eq c23.symm r19
          refine lv_iconst (v := 1) hx hb dX3_countOfMaterial_26 (by decide) ?_
          refine lv_goto (tgt := 31) hx hb dX3_countOfMaterial_27 (by decide) ?_
          exact w2 _ _ _ (J31 _ _ _ (1 : Int32) x6 hW hS (lv_sub hl [0, 1, 3] rfl) rv4_3_9 (ir_w (lo' := 0) (hi' := 1) (ir_c (1) (by decide) : ir (1 : Int32) (1) (1)) (by decide) (by decide)) rx6_9 nh0_1)
  refine lv_iconst (v := 0) hx hb dX3_countOfMaterial_0 (by decide) ?_
  refine lv_istore_n (lv' := [(2, .int (0 : Int32)), (0, .ref h0), (1, .int p1)]) hx hb dX3_countOfMaterial_1 rfl hl (by decide) rfl (fun ls hl => ?_)
  refine lv_iconst (v := 0) hx hb dX3_countOfMaterial_2 (by decide) ?_
  refine lv_istore_n (lv' := [(3, .int (0 : Int32)), (2, .int (0 : Int32)), (0, .ref h0), (1, .int p1)]) hx hb dX3_countOfMaterial_3 rfl hl (by decide) rfl (fun ls hl => ?_)
  exact w2 _ _ _ (L4 25 _ _ _ (0 : Int32) (0 : Int32) hW hS (lv_sub hl [2, 3, 1, 0] rfl) (ir_w (lo' := 0) (hi' := 24) (ir_c (0) (by decide) : ir (0 : Int32) (0) (0)) (by decide) (by decide)) (by have h9 := (ir_c (0) (by decide) : ir (0 : Int32) (0) (0)); omega))
set_option maxHeartbeats 4000000 in
set_option maxRecDepth 100000 in
theorem m_X3_countOfTangent (l : Launch) (N : c_N) (h0 : Nat) (k0 : N.2.2.1 h0 = some 3) (p1 : Int32) (p2 : Int32) : cMi l yX3_countOfTangent cX3_countOfTangent 5 .int { frames := 1, cells := 0, slots := 0, locals := 20 } [.ref h0, .int p1, .int p2] N [] cT0 (fun _ => True) := by
  refine Met.ofW (cc := cX3_countOfTangent) (maxL := 5) (ret := some .int) (by decide) rfl ?_
  intro p e s m args below meth c s₁ B hml hv
  obtain ⟨rfl, ⟨hK, hW, hT, hnn⟩, hB⟩ := hv
  have hx := B.exec
  have hb := B.bytes
  have hr := B.returns
  have hts : ∀ w ∈ lw_g, w.before _ s = true := fun w h => atoms_spec (ws := wc_ws yX3_countOfTangent cX3_countOfTangent 5 (some .int)) B.pre w (List.mem_cons_of_mem _ h)
  have hown : s.vm.findClass RX3 = some m.cls := findClass_of_methodNamed B.named
  have hlocks := B.notSynchronized
  have hS : va_S (cE N []) s.heap s.heap [] := va_S.rf
  have hl := lv_entry ([.ref h0, .int p1, .int p2]) (n := 5) (Nat.le_of_ble_eq_true rfl)
  rw [lg_entry_eq]
  generalize (lg_sl ([.ref h0, .int p1, .int p2]) ++ List.replicate (5 - (lg_sl ([.ref h0, .int p1, .int p2])).length) Slot.unset).toArray = ls at hl ⊢
  have hl : lv_has ls 5 [(0, .ref h0), (1, .int p1), (2, .int p2)] := hl
  refine wq_all ?_
  intro WW w1 w2
  have L5 : ∀ (n : Nat) (H : Heap) (locs : List Loc) (ls : Array Slot) (v5_3 : Int32) (v5_4 : Int32), cW N H → va_S (cE N []) s.heap H locs → lv_has ls 5 [(0, .ref h0), (1, .int p1), (2, .int p2), (3, .int v5_3), (4, .int v5_4)] → ir v5_4 0 24 → 24 - v5_4.toInt < (n : Int) → WW H locs (F0 m 5 ls []) := by
    intro n
    induction n with
    | zero =>
      intro H locs ls v5_3 v5_4 hW hS hl rv5_4 mu5
      exfalso
      omega
    | succ n ih5 =>
      intro H locs ls v5_3 v5_4 hW hS hl rv5_4 mu5
      have J48 : ∀ (H : Heap) (locs : List Loc) (ls : Array Slot) (w48_0 : Int32) (u48_0 : Int32), cW N H → va_S (cE N []) s.heap H locs → lv_has ls 5 [(0, .ref h0), (1, .int p1), (2, .int p2), (4, .int v5_4)] → ir v5_4 0 23 → ir w48_0 0 1 → ir u48_0 1 24 → wt_pin N.1 vwCl h0 3 1 (.int u48_0) H → WW H locs (F0 m 48 ls [.int w48_0, .int v5_3]) := by
        intro H locs ls w48_0 u48_0 hW hS hl rv48_4 rw48_0 ru48_0 nh0_1
        refine w1 _ _ _ ?_
        refine lv_iadd hx hb dX3_countOfTangent_48 ?_
        refine lv_topi (fun x48 e48 => ?_)
        refine lv_istore_n (lv' := [(3, .int x48), (0, .ref h0), (1, .int p1), (2, .int p2), (4, .int v5_4)]) hx hb dX3_countOfTangent_49 rfl hl (by decide) rfl (fun ls hl => ?_)
        obtain ⟨x50, e50⟩ : ∃ y : Int32, y = v5_4 + 1 := ⟨_, rfl⟩
        have r50 : ir x50 1 24 := ir_w (ir_add e50 rv48_4 (ir_c (1) (by decide) : ir (1 : Int32) (1) (1)) (by decide) (by decide)) (by decide) (by decide)
        have t50 : x50.toInt = v5_4.toInt + (1) := it_add e50 rv48_4 (ir_c (1) (by decide) : ir (1 : Int32) (1) (1)) (by decide) (by decide)
        refine lv_iinc (v := x50) (lv' := [(4, .int x50), (3, .int x48), (0, .ref h0), (1, .int p1), (2, .int p2)]) hx hb dX3_countOfTangent_50 hl (k := 4) rfl (by rw [e50]; rfl) (by decide) rfl (fun ls hl => ?_)
        refine lv_goto (tgt := 5) hx hb dX3_countOfTangent_53 (by decide) ?_
        exact w2 _ _ _ (ih5 _ _ _ x48 x50 hW hS (lv_sub hl [2, 3, 4, 1, 0] rfl) (ir_w (lo' := 0) (hi' := 24) r50 (by decide) (by decide)) (by have h9 := r50; omega))
      have J47 : ∀ (H : Heap) (locs : List Loc) (ls : Array Slot) (u47_0 : Int32), cW N H → va_S (cE N []) s.heap H locs → lv_has ls 5 [(0, .ref h0), (1, .int p1), (2, .int p2), (4, .int v5_4)] → ir v5_4 0 23 → ir u47_0 1 24 → wt_pin N.1 vwCl h0 3 1 (.int u47_0) H → WW H locs (F0 m 47 ls [.int v5_3]) := by
        intro H locs ls u47_0 hW hS hl rv47_4 ru47_0 nh0_1
        refine w1 _ _ _ ?_
        refine lv_iconst (v := 0) hx hb dX3_countOfTangent_47 (by decide) ?_
        exact w2 _ _ _ (J48 _ _ _ (0 : Int32) u47_0 hW hS (lv_sub hl [0, 1, 2, 3] rfl) rv47_4 (ir_w (lo' := 0) (hi' := 1) (ir_c (0) (by decide) : ir (0 : Int32) (0) (0)) (by decide) (by decide)) ru47_0 nh0_1)
      refine w1 _ _ _ ?_
      refine lv_iload hx hb dX3_countOfTangent_5 (lv_at hl 4 rfl) ?_
      refine lv_aload_n hx hb dX3_countOfTangent_7 rfl (lv_at hl 0 rfl) ?_
      refine wt_getp hx hb hts cfX3 hown hK hW (cg3 k0) rfl 1 (by decide) (Or.inl (hts _ q43)) dX3_countOfTangent_8 (fun v hv nh0_1 => ?_)
      obtain ⟨x8, rfl, r8⟩ : gi 0 24 v := hv
      refine lv_icmp_ge (tgt := 56) hx hb dX3_countOfTangent_11 (by decide) (fun c11 => ?_) (fun c11 => ?_)
      · refine lv_iload_n hx hb dX3_countOfTangent_56 rfl (lv_at hl 3 rfl) ?_
        exact W.iret (v := v5_3) hx hb hr (fun t ht _ => ⟨⟨v5_3, (), rfl, trivial, cW_at ht hW⟩, hS.F ht⟩) hS.2.2 dX3_countOfTangent_57
      · have rv5_4_11 : ir v5_4 0 23 := ⟨(rv5_4).1, Int.le_trans (rf_lt (rf_nle c11) rv5_4 r8).1 (by decide)⟩
        have rx8_11 : ir x8 1 24 := ⟨Int.le_trans (by decide) (rf_lt (rf_nle c11) rv5_4 r8).2, (r8).2⟩
        refine lv_iload_n hx hb dX3_countOfTangent_14 rfl (lv_at hl 3 rfl) ?_
        refine lv_aload_n hx hb dX3_countOfTangent_15 rfl (lv_at hl 0 rfl) ?_
        refine wt_get hx hb hts cfX3 hown hK hW (cg3 k0) rfl 0 (by decide) q39 dX3_countOfTangent_16 (fun v hv => ?_)
        obtain ⟨x16, rfl, k16⟩ : gr N 20 v := hv
        refine lv_iload hx hb dX3_countOfTangent_19 (lv_at hl 4 rfl) ?_
        refine wt_iald hx hb hK hW 0 (cg20 k16) rfl (ir_in rv5_4_11 (by decide) (by decide)) dX3_countOfTangent_21 (fun v hv => ?_)
        obtain ⟨x21, rfl, r21⟩ : gi 0 383 v := hv
        refine cp_i (wt_runSN (As := [.int x21]) (rest := [.int v5_3]) ⟨hx, hb, hml, hown, hts⟩ hnn (m_X10_pOf l x21) wm_X10_pOf q860 ⟨rfl, rfl⟩ ⟨Nat.le_of_ble_eq_true rfl, Nat.le_of_ble_eq_true rfl⟩ pS_pre rfl hl.1 rfl (Nat.le_of_ble_eq_true rfl) dX3_countOfTangent_22 ⟨Nat.zero_le _, Nat.zero_le _⟩) hW hS (fun x22 H locs hp hW hS oq => ?_)
        have nh0_1 := nh0_1.kept (oq _ nh0_1.lt (cE_not k0 (by decide)))
        have r22 : ir x22 0 7 := hp
        refine lv_iload_n hx hb dX3_countOfTangent_25 rfl (lv_at hl 1 rfl) ?_
        refine lv_icmp_ne (tgt := 47) hx hb dX3_countOfTangent_26 (by decide) (fun c26 => ?_) (fun c26 => ?_)
        · exact w2 _ _ _ (J47 _ _ _ x8 hW hS (lv_sub hl [0, 1, 2, 4] rfl) rv5_4_11 rx8_11 nh0_1)
        · have rp1_26 : ir p1 0 7 := rf_eq c26.symm r22
          refine lv_aload_n hx hb dX3_countOfTangent_29 rfl (lv_at hl 0 rfl) ?_
          refine wt_get hx hb hts cfX3 hown hK hW (cg3 k0) rfl 0 (by decide) q39 dX3_countOfTangent_30 (fun v hv => ?_)
          obtain ⟨x30, rfl, k30⟩ : gr N 20 v := hv
          refine lv_iload hx hb dX3_countOfTangent_33 (lv_at hl 4 rfl) ?_
          refine wt_iald hx hb hK hW 0 (cg20 k30) rfl (ir_in rv5_4_11 (by decide) (by decide)) dX3_countOfTangent_35 (fun v hv => ?_)
          obtain ⟨x35, rfl, r35⟩ : gi 0 383 v := hv
          refine cp_i (wt_runSN (As := [.int x35]) (rest := [.int v5_3]) ⟨hx, hb, hml, hown, hts⟩ hnn (m_X10_qOf l x35) wm_X10_qOf q861 ⟨rfl, rfl⟩ ⟨Nat.le_of_ble_eq_true rfl, Nat.le_of_ble_eq_true rfl⟩ pS_pre rfl hl.1 rfl (Nat.le_of_ble_eq_true rfl) dX3_countOfTangent_36 ⟨Nat.zero_le _, Nat.zero_le _⟩) hW hS (fun x36 H locs hp hW hS oq => ?_)
          have nh0_1 := nh0_1.kept (oq _ nh0_1.lt (cE_not k0 (by decide)))
          have r36 : ir x36 0 7 := hp
          refine lv_iload_n hx hb dX3_countOfTangent_39 rfl (lv_at hl 2 rfl) ?_
          refine lv_icmp_ne (tgt := 47) hx hb dX3_countOfTangent_40 (by decide) (fun c40 => ?_) (fun c40 => ?_)
          · exact w2 _ _ _ (J47 _ _ _ x8 hW hS (lv_sub hl [0, 1, 2, 4] rfl) rv5_4_11 rx8_11 nh0_1)
          · have rp2_40 : ir p2 0 7 := rf_eq c40.symm r36
            refine lv_iconst (v := 1) hx hb dX3_countOfTangent_43 (by decide) ?_
            refine lv_goto (tgt := 48) hx hb dX3_countOfTangent_44 (by decide) ?_
            exact w2 _ _ _ (J48 _ _ _ (1 : Int32) x8 hW hS (lv_sub hl [0, 1, 2, 4] rfl) rv5_4_11 (ir_w (lo' := 0) (hi' := 1) (ir_c (1) (by decide) : ir (1 : Int32) (1) (1)) (by decide) (by decide)) rx8_11 nh0_1)
  refine lv_iconst (v := 0) hx hb dX3_countOfTangent_0 (by decide) ?_
  refine lv_istore_n (lv' := [(3, .int (0 : Int32)), (0, .ref h0), (1, .int p1), (2, .int p2)]) hx hb dX3_countOfTangent_1 rfl hl (by decide) rfl (fun ls hl => ?_)
  refine lv_iconst (v := 0) hx hb dX3_countOfTangent_2 (by decide) ?_
  refine lv_istore (lv' := [(4, .int (0 : Int32)), (3, .int (0 : Int32)), (0, .ref h0), (1, .int p1), (2, .int p2)]) hx hb dX3_countOfTangent_3 hl (by decide) rfl (fun ls hl => ?_)
  exact w2 _ _ _ (L5 25 _ _ _ (0 : Int32) (0 : Int32) hW hS (lv_sub hl [2, 3, 4, 1, 0] rfl) (ir_w (lo' := 0) (hi' := 24) (ir_c (0) (by decide) : ir (0 : Int32) (0) (0)) (by decide) (by decide)) (by have h9 := (ir_c (0) (by decide) : ir (0 : Int32) (0) (0)); omega))
set_option maxHeartbeats 4000000 in
set_option maxRecDepth 100000 in
theorem m_X3_materialBits (l : Launch) (N : c_N) (h0 : Nat) (k0 : N.2.2.1 h0 = some 3) : cMi l yX3_materialBits cX3_materialBits 3 .int { frames := 1, cells := 0, slots := 0, locals := 20 } [.ref h0] N [] cT0 (fun _ => True) := by
  refine Met.ofW (cc := cX3_materialBits) (maxL := 3) (ret := some .int) (by decide) rfl ?_
  intro p e s m args below meth c s₁ B hml hv
  obtain ⟨rfl, ⟨hK, hW, hT, hnn⟩, hB⟩ := hv
  have hx := B.exec
  have hb := B.bytes
  have hr := B.returns
  have hts : ∀ w ∈ lw_g, w.before _ s = true := fun w h => atoms_spec (ws := wc_ws yX3_materialBits cX3_materialBits 3 (some .int)) B.pre w (List.mem_cons_of_mem _ h)
  have hown : s.vm.findClass RX3 = some m.cls := findClass_of_methodNamed B.named
  have hlocks := B.notSynchronized
  have hS : va_S (cE N []) s.heap s.heap [] := va_S.rf
  have hl := lv_entry ([.ref h0]) (n := 3) (Nat.le_of_ble_eq_true rfl)
  rw [lg_entry_eq]
  generalize (lg_sl ([.ref h0]) ++ List.replicate (3 - (lg_sl ([.ref h0])).length) Slot.unset).toArray = ls at hl ⊢
  have hl : lv_has ls 3 [(0, .ref h0)] := hl
  refine wq_all ?_
  intro WW w1 w2
  have L4 : ∀ (n : Nat) (H : Heap) (locs : List Loc) (ls : Array Slot) (v4_1 : Int32) (v4_2 : Int32), cW N H → va_S (cE N []) s.heap H locs → lv_has ls 3 [(0, .ref h0), (1, .int v4_1), (2, .int v4_2)] → ir v4_2 0 24 → 24 - v4_2.toInt < (n : Int) → WW H locs (F0 m 4 ls []) := by
    intro n
    induction n with
    | zero =>
      intro H locs ls v4_1 v4_2 hW hS hl rv4_2 mu4
      exfalso
      omega
    | succ n ih4 =>
      intro H locs ls v4_1 v4_2 hW hS hl rv4_2 mu4
      refine w1 _ _ _ ?_
      refine lv_iload_n hx hb dX3_materialBits_4 rfl (lv_at hl 2 rfl) ?_
      refine lv_aload_n hx hb dX3_materialBits_5 rfl (lv_at hl 0 rfl) ?_
      refine wt_getp hx hb hts cfX3 hown hK hW (cg3 k0) rfl 1 (by decide) (Or.inl (hts _ q43)) dX3_materialBits_6 (fun v hv nh0_1 => ?_)
      obtain ⟨x6, rfl, r6⟩ : gi 0 24 v := hv
      refine lv_icmp_ge (tgt := 32) hx hb dX3_materialBits_9 (by decide) (fun c9 => ?_) (fun c9 => ?_)
      · refine lv_iload_n hx hb dX3_materialBits_32 rfl (lv_at hl 1 rfl) ?_
        exact W.iret (v := v4_1) hx hb hr (fun t ht _ => ⟨⟨v4_1, (), rfl, trivial, cW_at ht hW⟩, hS.F ht⟩) hS.2.2 dX3_materialBits_33
      · have rv4_2_9 : ir v4_2 0 23 := ⟨(rv4_2).1, Int.le_trans (rf_lt (rf_nle c9) rv4_2 r6).1 (by decide)⟩
        have rx6_9 : ir x6 1 24 := ⟨Int.le_trans (by decide) (rf_lt (rf_nle c9) rv4_2 r6).2, (r6).2⟩
        refine lv_iload_n hx hb dX3_materialBits_12 rfl (lv_at hl 1 rfl) ?_
        refine lv_iconst (v := 1) hx hb dX3_materialBits_13 (by decide) ?_
        refine lv_aload_n hx hb dX3_materialBits_14 rfl (lv_at hl 0 rfl) ?_
        refine wt_get hx hb hts cfX3 hown hK hW (cg3 k0) rfl 0 (by decide) q39 dX3_materialBits_15 (fun v hv => ?_)
        obtain ⟨x15, rfl, k15⟩ : gr N 20 v := hv
        refine lv_iload_n hx hb dX3_materialBits_18 rfl (lv_at hl 2 rfl) ?_
        refine wt_iald hx hb hK hW 0 (cg20 k15) rfl (ir_in rv4_2_9 (by decide) (by decide)) dX3_materialBits_19 (fun v hv => ?_)
        obtain ⟨x19, rfl, r19⟩ : gi 0 383 v := hv
        refine cp_i (wt_runSN (As := [.int x19]) (rest := [.int (1 : Int32), .int v4_1]) ⟨hx, hb, hml, hown, hts⟩ hnn (m_X10_materialOf l x19 r19) wm_X10_materialOf q457 ⟨rfl, rfl⟩ ⟨Nat.le_of_ble_eq_true rfl, Nat.le_of_ble_eq_true rfl⟩ pS_pre rfl hl.1 rfl (Nat.le_of_ble_eq_true rfl) dX3_materialBits_20 ⟨Nat.zero_le _, Nat.zero_le _⟩) hW hS (fun x20 H locs hp hW hS oq => ?_)
        have nh0_1 := nh0_1.kept (oq _ nh0_1.lt (cE_not k0 (by decide)))
        have r20 : ir x20 0 5 := hp
        refine lv_ishl hx hb dX3_materialBits_23 ?_
        refine lv_topi (fun x23 e23 => ?_)
        refine lv_ior hx hb dX3_materialBits_24 ?_
        refine lv_topi (fun x24 e24 => ?_)
        refine lv_istore_n (lv' := [(1, .int x24), (0, .ref h0), (2, .int v4_2)]) hx hb dX3_materialBits_25 rfl hl (by decide) rfl (fun ls hl => ?_)
        obtain ⟨x26, e26⟩ : ∃ y : Int32, y = v4_2 + 1 := ⟨_, rfl⟩
        have r26 : ir x26 1 24 := ir_w (ir_add e26 rv4_2_9 (ir_c (1) (by decide) : ir (1 : Int32) (1) (1)) (by decide) (by decide)) (by decide) (by decide)
        have t26 : x26.toInt = v4_2.toInt + (1) := it_add e26 rv4_2_9 (ir_c (1) (by decide) : ir (1 : Int32) (1) (1)) (by decide) (by decide)
        refine lv_iinc (v := x26) (lv' := [(2, .int x26), (1, .int x24), (0, .ref h0)]) hx hb dX3_materialBits_26 hl (k := 2) rfl (by rw [e26]; rfl) (by decide) rfl (fun ls hl => ?_)
        refine lv_goto (tgt := 4) hx hb dX3_materialBits_29 (by decide) ?_
        exact w2 _ _ _ (ih4 _ _ _ x24 x26 hW hS (lv_sub hl [2, 1, 0] rfl) (ir_w (lo' := 0) (hi' := 24) r26 (by decide) (by decide)) (by have h9 := r26; omega))
  refine lv_iconst (v := 0) hx hb dX3_materialBits_0 (by decide) ?_
  refine lv_istore_n (lv' := [(1, .int (0 : Int32)), (0, .ref h0)]) hx hb dX3_materialBits_1 rfl hl (by decide) rfl (fun ls hl => ?_)
  refine lv_iconst (v := 0) hx hb dX3_materialBits_2 (by decide) ?_
  refine lv_istore_n (lv' := [(2, .int (0 : Int32)), (1, .int (0 : Int32)), (0, .ref h0)]) hx hb dX3_materialBits_3 rfl hl (by decide) rfl (fun ls hl => ?_)
  exact w2 _ _ _ (L4 25 _ _ _ (0 : Int32) (0 : Int32) hW hS (lv_sub hl [2, 1, 0] rfl) (ir_w (lo' := 0) (hi' := 24) (ir_c (0) (by decide) : ir (0 : Int32) (0) (0)) (by decide) (by decide)) (by have h9 := (ir_c (0) (by decide) : ir (0 : Int32) (0) (0)); omega))
set_option maxHeartbeats 4000000 in
set_option maxRecDepth 100000 in
theorem m_X1_keep (l : Launch) (N : c_N) (h0 : Nat) (k0 : N.2.2.1 h0 = some 1) (p1 : Nat) (kp1 : N.2.2.1 p1 = some 3) (p2 : Int32) (rp2 : ir p2 0 1) : cMv l yX1_keep cX1_keep 3 { frames := 2, cells := 0, slots := 0, locals := 61 } [.ref h0, .ref p1, .int p2] N [1, 3, 20, 30] cT0 cT0 := by
  refine Met.ofW (cc := cX1_keep) (maxL := 3) (ret := none) (by decide) rfl ?_
  intro p e s m args below meth c s₁ B hml hv
  obtain ⟨rfl, ⟨hK, hW, hT, hnn⟩, hB⟩ := hv
  have hx := B.exec
  have hb := B.bytes
  have hr := B.returns
  have hts : ∀ w ∈ lw_g, w.before _ s = true := fun w h => atoms_spec (ws := wc_ws yX1_keep cX1_keep 3 none) B.pre w (List.mem_cons_of_mem _ h)
  have hown : s.vm.findClass RX1 = some m.cls := findClass_of_methodNamed B.named
  have hlocks := B.notSynchronized
  have hS : va_S (cE N [1, 3, 20, 30]) s.heap s.heap [] := va_S.rf
  have hl := lv_entry ([.ref h0, .ref p1, .int p2]) (n := 3) (Nat.le_of_ble_eq_true rfl)
  rw [lg_entry_eq]
  generalize (lg_sl ([.ref h0, .ref p1, .int p2]) ++ List.replicate (3 - (lg_sl ([.ref h0, .ref p1, .int p2])).length) Slot.unset).toArray = ls at hl ⊢
  have hl : lv_has ls 3 [(0, .ref h0), (1, .ref p1), (2, .int p2)] := hl
  refine wq_all ?_
  intro WW w1 w2
  refine lv_aload_n hx hb dX1_keep_0 rfl (lv_at hl 0 rfl) ?_
  refine wt_get hx hb hts cfX1 hown hK hW (cg1 k0) rfl 0 (by decide) q105 dX1_keep_1 (fun v hv => ?_)
  obtain ⟨x1, rfl, k1⟩ : gr N 29 v := hv
  refine lv_aload_n hx hb dX1_keep_4 rfl (lv_at hl 0 rfl) ?_
  refine wt_getp hx hb hts cfX1 hown hK hW (cg1 k0) rfl 2 (by decide) (Or.inl (hts _ q107)) dX1_keep_5 (fun v hv nh0_2 => ?_)
  obtain ⟨x5, rfl, r5⟩ : gi 0 9 v := hv
  refine wt_aald hx hb hK hW 4 (cg29 k1) rfl (ir_in r5 (by decide) (by decide)) dX1_keep_8 (fun v hv => ?_)
  obtain ⟨x8, rfl, k8⟩ : gr N 3 v := hv
  refine lv_aload_n hx hb dX1_keep_9 rfl (lv_at hl 1 rfl) ?_
  refine cc_v (wt_runV (As := [.ref p1]) (rest := []) ⟨hx, hb, hml, hown, hts⟩ (m_X3_copyOf l N x8 k8 p1 kp1) wm_X3_copyOf q420 ⟨rfl, rfl⟩ ⟨Nat.le_of_ble_eq_true rfl, Nat.le_of_ble_eq_true rfl⟩ (cS_preV hK hW hT hnn hS (cg3 k8) rfl rfl trivial) rfl hl.1 rfl (Nat.le_of_ble_eq_true rfl) dX1_keep_10 ⟨Nat.zero_le _, Nat.zero_le _⟩) hS (by decide) (fun H locs hW hS oq hB2 => ?_)
  have nh0_2 := nh0_2.kept (oq _ nh0_2.lt (cE_not k0 (by decide)))
  refine lv_aload_n hx hb dX1_keep_13 rfl (lv_at hl 0 rfl) ?_
  refine wt_get hx hb hts cfX1 hown hK hW (cg1 k0) rfl 1 (by decide) q106 dX1_keep_14 (fun v hv => ?_)
  obtain ⟨x14, rfl, k14⟩ : gr N 30 v := hv
  refine lv_aload_n hx hb dX1_keep_17 rfl (lv_at hl 0 rfl) ?_
  refine wt_rel hx hb hts cfX1 hown hK nh0_2 rfl (by decide) (Or.inl (hts _ q107)) dX1_keep_18 ?_
  refine lv_iload_n hx hb dX1_keep_21 rfl (lv_at hl 2 rfl) ?_
  refine wt_zastp hx hb hK hW hS 2 (cg30 k14) (ce k14 (by decide)) rfl (ir_in r5 (by decide) (by decide)) (by rw [nar01 rp2]; exact (gi_mk rp2)) dX1_keep_22 (fun H locs hW hS oq => ?_)
  have nh0_2 := nh0_2.kept (oq _ (ne_kind k0 k14 (by decide)))
  refine lv_aload_n hx hb dX1_keep_23 rfl (lv_at hl 0 rfl) ?_
  refine lv_aload_n hx hb dX1_keep_24 rfl (lv_at hl 0 rfl) ?_
  refine wt_rel hx hb hts cfX1 hown hK nh0_2 rfl (by decide) (Or.inl (hts _ q107)) dX1_keep_25 ?_
  refine lv_iconst (v := 1) hx hb dX1_keep_28 (by decide) ?_
  refine lv_iadd hx hb dX1_keep_29 ?_
  refine lv_topi (fun x29 e29 => ?_)
  have t29 : x29.toInt = x5.toInt + (1) := it_add e29 r5 (ir_c (1) (by decide) : ir (1 : Int32) (1) (1)) (by decide) (by decide)
  have r29 : ir x29 1 10 := ir_w (ir_add e29 r5 (ir_c (1) (by decide) : ir (1 : Int32) (1) (1)) (by decide) (by decide)) (by decide) (by decide)
  refine lv_bipush (v := 10) hx hb dX1_keep_30 (by decide) ?_
  refine lv_irem hx hb dX1_keep_32 (by decide) ?_
  refine lv_topi (fun x32 e32 => ?_)
  have r32 : ir x32 0 9 := ir_remr e32 r29 (by decide) 10 (by decide) (by decide) (by decide) (by decide)
  refine wt_putp hx hb hts cfX1 tyX1 tyX1_ok nmX1 hown hK hW hS (cg1 k0) (ce k0 (by decide)) rfl 2 (by decide) (Or.inl (hts _ q107)) rfl rfl rfl (gi_mk r32) dX1_keep_33 (fun H locs hW hS oq o2 np => ?_)
  have nh0_2 : wt_pin N.1 vwCl h0 1 2 (.int x32) H := np
  refine lv_aload_n hx hb dX1_keep_36 rfl (lv_at hl 0 rfl) ?_
  refine lv_aload_n hx hb dX1_keep_37 rfl (lv_at hl 0 rfl) ?_
  refine wt_getp hx hb hts cfX1 hown hK hW (cg1 k0) rfl 3 (by decide) (Or.inl (hts _ q108)) dX1_keep_38 (fun v hv nh0_3 => ?_)
  obtain ⟨x38, rfl, r38⟩ : gi 0 10 v := hv
  refine lv_iconst (v := 1) hx hb dX1_keep_41 (by decide) ?_
  refine lv_iadd hx hb dX1_keep_42 ?_
  refine lv_topi (fun x42 e42 => ?_)
  have t42 : x42.toInt = x38.toInt + (1) := it_add e42 r38 (ir_c (1) (by decide) : ir (1 : Int32) (1) (1)) (by decide) (by decide)
  have r42 : ir x42 1 11 := ir_w (ir_add e42 r38 (ir_c (1) (by decide) : ir (1 : Int32) (1) (1)) (by decide) (by decide)) (by decide) (by decide)
  refine lv_bipush (v := 10) hx hb dX1_keep_43 (by decide) ?_
  refine va_mmin hx hb (hml.trans hl.1.symm) hown (hts _ q427) (hts _ q398) (hts _ q13) (hts _ q399) (Nat.le_of_ble_eq_true rfl) (Nat.le_of_ble_eq_true rfl) (Nat.zero_le _) (Nat.zero_le _) dX1_keep_45 ?_
  refine lv_topi (fun x45 e45 => ?_)
  have r45 : ir x45 1 10 := ir_min e45 r42 (ir_c (10) (by decide) : ir (10 : Int32) (10) (10)) (by decide) (by decide) (by decide) (by decide)
  refine wt_putp hx hb hts cfX1 tyX1 tyX1_ok nmX1 hown hK hW hS (cg1 k0) (ce k0 (by decide)) rfl 3 (by decide) (Or.inl (hts _ q108)) rfl rfl rfl (gi_mk (ir_w (lo' := 0) (hi' := 10) r45 (by decide) (by decide))) dX1_keep_48 (fun H locs hW hS oq o2 np => ?_)
  have nh0_2 := o2 2 _ (by decide) (by decide) nh0_2
  have nh0_3 : wt_pin N.1 vwCl h0 1 3 (.int x45) H := np
  exact W.vret hx hb hr (fun t ht _ => ⟨⟨(), rfl, trivial, cW_at ht hW, trivial⟩, hS.F ht⟩) hS.2.2 dX1_keep_51
set_option maxHeartbeats 4000000 in
set_option maxRecDepth 100000 in
theorem m_X1_takeBack (l : Launch) (N : c_N) (h0 : Nat) (k0 : N.2.2.1 h0 = some 1) (p1 : Nat) (kp1 : N.2.2.1 p1 = some 3) : cMi l yX1_takeBack cX1_takeBack 2 .boolean { frames := 2, cells := 0, slots := 0, locals := 61 } [.ref h0, .ref p1] N [1, 3, 20] cT0 (fun r => ir r 0 1) := by
  refine Met.ofW (cc := cX1_takeBack) (maxL := 2) (ret := some .boolean) (by decide) rfl ?_
  intro p e s m args below meth c s₁ B hml hv
  obtain ⟨rfl, ⟨hK, hW, hT, hnn⟩, hB⟩ := hv
  have hx := B.exec
  have hb := B.bytes
  have hr := B.returns
  have hts : ∀ w ∈ lw_g, w.before _ s = true := fun w h => atoms_spec (ws := wc_ws yX1_takeBack cX1_takeBack 2 (some .boolean)) B.pre w (List.mem_cons_of_mem _ h)
  have hown : s.vm.findClass RX1 = some m.cls := findClass_of_methodNamed B.named
  have hlocks := B.notSynchronized
  have hS : va_S (cE N [1, 3, 20]) s.heap s.heap [] := va_S.rf
  have hl := lv_entry ([.ref h0, .ref p1]) (n := 2) (Nat.le_of_ble_eq_true rfl)
  rw [lg_entry_eq]
  generalize (lg_sl ([.ref h0, .ref p1]) ++ List.replicate (2 - (lg_sl ([.ref h0, .ref p1])).length) Slot.unset).toArray = ls at hl ⊢
  have hl : lv_has ls 2 [(0, .ref h0), (1, .ref p1)] := hl
  refine wq_all ?_
  intro WW w1 w2
  refine lv_aload_n hx hb dX1_takeBack_0 rfl (lv_at hl 0 rfl) ?_
  refine wt_getp hx hb hts cfX1 hown hK hW (cg1 k0) rfl 3 (by decide) (Or.inl (hts _ q108)) dX1_takeBack_1 (fun v hv nh0_3 => ?_)
  obtain ⟨x1, rfl, r1⟩ : gi 0 10 v := hv
  refine lv_if_ne (tgt := 9) hx hb dX1_takeBack_4 (by decide) (fun c4 => ?_) (fun c4 => ?_)
  · have rx1_4 : ir x1 1 10 := rf_ne0 c4 r1
    refine lv_aload_n hx hb dX1_takeBack_9 rfl (lv_at hl 0 rfl) ?_
    refine lv_aload_n hx hb dX1_takeBack_10 rfl (lv_at hl 0 rfl) ?_
    refine wt_getp hx hb hts cfX1 hown hK hW (cg1 k0) rfl 2 (by decide) (Or.inl (hts _ q107)) dX1_takeBack_11 (fun v hv nh0_2 => ?_)
    obtain ⟨x11, rfl, r11⟩ : gi 0 9 v := hv
    refine lv_bipush (v := 10) hx hb dX1_takeBack_14 (by decide) ?_
    refine lv_iadd hx hb dX1_takeBack_16 ?_
    refine lv_topi (fun x16 e16 => ?_)
    have t16 : x16.toInt = x11.toInt + (10) := it_add e16 r11 (ir_c (10) (by decide) : ir (10 : Int32) (10) (10)) (by decide) (by decide)
    have r16 : ir x16 10 19 := ir_w (ir_add e16 r11 (ir_c (10) (by decide) : ir (10 : Int32) (10) (10)) (by decide) (by decide)) (by decide) (by decide)
    refine lv_iconst (v := 1) hx hb dX1_takeBack_17 (by decide) ?_
    refine lv_isub hx hb dX1_takeBack_18 ?_
    refine lv_topi (fun x18 e18 => ?_)
    have t18 : x18.toInt = x16.toInt - (1) := it_sub e18 r16 (ir_c (1) (by decide) : ir (1 : Int32) (1) (1)) (by decide) (by decide)
    have r18 : ir x18 9 18 := ir_w (ir_sub e18 r16 (ir_c (1) (by decide) : ir (1 : Int32) (1) (1)) (by decide) (by decide)) (by decide) (by decide)
    refine lv_bipush (v := 10) hx hb dX1_takeBack_19 (by decide) ?_
    refine lv_irem hx hb dX1_takeBack_21 (by decide) ?_
    refine lv_topi (fun x21 e21 => ?_)
    have r21 : ir x21 0 9 := ir_remr e21 r18 (by decide) 10 (by decide) (by decide) (by decide) (by decide)
    refine wt_putp hx hb hts cfX1 tyX1 tyX1_ok nmX1 hown hK hW hS (cg1 k0) (ce k0 (by decide)) rfl 2 (by decide) (Or.inl (hts _ q107)) rfl rfl rfl (gi_mk r21) dX1_takeBack_22 (fun H locs hW hS oq o2 np => ?_)
    have nh0_3 := o2 3 _ (by decide) (by decide) nh0_3
    have nh0_2 : wt_pin N.1 vwCl h0 1 2 (.int x21) H := np
    refine lv_aload_n hx hb dX1_takeBack_25 rfl (lv_at hl 0 rfl) ?_
    refine lv_dup hx hb dX1_takeBack_26 rfl ?_
    refine wt_rel hx hb hts cfX1 hown hK nh0_3 rfl (by decide) (Or.inl (hts _ q108)) dX1_takeBack_27 ?_
    refine lv_iconst (v := 1) hx hb dX1_takeBack_30 (by decide) ?_
    refine lv_isub hx hb dX1_takeBack_31 ?_
    refine lv_topi (fun x31 e31 => ?_)
    have t31 : x31.toInt = x1.toInt - (1) := it_sub e31 rx1_4 (ir_c (1) (by decide) : ir (1 : Int32) (1) (1)) (by decide) (by decide)
    have r31 : ir x31 0 9 := ir_w (ir_sub e31 rx1_4 (ir_c (1) (by decide) : ir (1 : Int32) (1) (1)) (by decide) (by decide)) (by decide) (by decide)
    refine wt_putp hx hb hts cfX1 tyX1 tyX1_ok nmX1 hown hK hW hS (cg1 k0) (ce k0 (by decide)) rfl 3 (by decide) (Or.inl (hts _ q108)) rfl rfl rfl (gi_mk (ir_w (lo' := 0) (hi' := 10) r31 (by decide) (by decide))) dX1_takeBack_32 (fun H locs hW hS oq o2 np => ?_)
    have nh0_2 := o2 2 _ (by decide) (by decide) nh0_2
    have nh0_3 : wt_pin N.1 vwCl h0 1 3 (.int x31) H := np
    refine lv_aload_n hx hb dX1_takeBack_35 rfl (lv_at hl 1 rfl) ?_
    refine lv_aload_n hx hb dX1_takeBack_36 rfl (lv_at hl 0 rfl) ?_
    refine wt_get hx hb hts cfX1 hown hK hW (cg1 k0) rfl 0 (by decide) q105 dX1_takeBack_37 (fun v hv => ?_)
    obtain ⟨x37, rfl, k37⟩ : gr N 29 v := hv
    refine lv_aload_n hx hb dX1_takeBack_40 rfl (lv_at hl 0 rfl) ?_
    refine wt_rel hx hb hts cfX1 hown hK nh0_2 rfl (by decide) (Or.inl (hts _ q107)) dX1_takeBack_41 ?_
    refine wt_aald hx hb hK hW 4 (cg29 k37) rfl (ir_in r21 (by decide) (by decide)) dX1_takeBack_44 (fun v hv => ?_)
    obtain ⟨x44, rfl, k44⟩ : gr N 3 v := hv
    refine cc_v (wt_runV (As := [.ref x44]) (rest := []) ⟨hx, hb, hml, hown, hts⟩ (m_X3_copyOf l N p1 kp1 x44 k44) wm_X3_copyOf q420 ⟨rfl, rfl⟩ ⟨Nat.le_of_ble_eq_true rfl, Nat.le_of_ble_eq_true rfl⟩ (cS_preV hK hW hT hnn hS (cg3 kp1) rfl rfl trivial) rfl hl.1 rfl (Nat.le_of_ble_eq_true rfl) dX1_takeBack_45 ⟨Nat.zero_le _, Nat.zero_le _⟩) hS (by decide) (fun H locs hW hS oq hB2 => ?_)
    have nh0_2 := nh0_2.kept (oq _ nh0_2.lt (cE_not k0 (by decide)))
    have nh0_3 := nh0_3.kept (oq _ nh0_3.lt (cE_not k0 (by decide)))
    refine lv_aload_n hx hb dX1_takeBack_48 rfl (lv_at hl 0 rfl) ?_
    refine wt_get hx hb hts cfX1 hown hK hW (cg1 k0) rfl 1 (by decide) q106 dX1_takeBack_49 (fun v hv => ?_)
    obtain ⟨x49, rfl, k49⟩ : gr N 30 v := hv
    refine lv_aload_n hx hb dX1_takeBack_52 rfl (lv_at hl 0 rfl) ?_
    refine wt_rel hx hb hts cfX1 hown hK nh0_2 rfl (by decide) (Or.inl (hts _ q107)) dX1_takeBack_53 ?_
    refine wt_zald hx hb hK hW 2 (cg30 k49) rfl (ir_in r21 (by decide) (by decide)) dX1_takeBack_56 (fun v hv => ?_)
    obtain ⟨x56, rfl, r56⟩ : gi 0 1 v := hv
    exact W.zret (v := x56) hx hb hr (nar01 r56) (fun t ht _ => ⟨⟨x56, (), rfl, r56, cW_at ht hW⟩, hS.F ht⟩) hS.2.2 dX1_takeBack_57
  · have rx1_4 : ir x1 0 0 := rf_eq c4 (ir_c (0) (by decide) : ir (0 : Int32) (0) (0))
    refine lv_iconst (v := 0) hx hb dX1_takeBack_7 (by decide) ?_
    exact W.zret (v := (0 : Int32)) hx hb hr rfl (fun t ht _ => ⟨⟨(0 : Int32), (), rfl, (⟨by decide, by decide⟩), cW_at ht hW⟩, hS.F ht⟩) hS.2.2 dX1_takeBack_8
