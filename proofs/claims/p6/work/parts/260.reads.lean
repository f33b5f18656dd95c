set_option maxHeartbeats 4000000 in
set_option maxRecDepth 100000 in
theorem m_X11_counts (l : Launch) (N : c_N) (h0 : Nat) (k0 : N.2.2.1 h0 = some 11) (hO : mOK N) (V : Nat → Value) (p1 : Int32) (rp1 : ir p1 0 100000) (g26 : Int32) : cMv l yX11_counts cX11_counts 2 { frames := 1, cells := 0, slots := 0, locals := 23 } [.ref h0, .int p1] N [11] (fun H => mI N h0 H ∧ kp N h0 [26, 31] V H ∧ wt_pin N.1 vwCl h0 11 26 (.int g26) H ∧ gP N 52 53 24 (fun j => (j : Int) < g26.toInt + p1.toInt) H) (fun H => mI N h0 H ∧ kp N h0 [26, 31] V H ∧ ∃ x : Int32, pI N h0 26 x H ∧ g26.toInt ≤ x.toInt) := by
  refine Met.ofW (cc := cX11_counts) (maxL := 2) (ret := none) (by decide) rfl ?_
  intro p e s m args below meth c s₁ B hml hv
  obtain ⟨rfl, ⟨hK, hW, hT, hnn⟩, hB⟩ := hv
  obtain ⟨hI, hV, hB⟩ := hB
  have hGR := hB.2
  have nh0_26 := hB.1
  have rg26 : ir g26 0 100000 := gi_r (cpin_P hW (cg11 k0) rfl (by decide) nh0_26)
  have hx := B.exec
  have hb := B.bytes
  have hr := B.returns
  have hts : ∀ w ∈ lw_g, w.before _ s = true := fun w h => atoms_spec (ws := wc_ws yX11_counts cX11_counts 2 none) B.pre w (List.mem_cons_of_mem _ h)
  have hown : s.vm.findClass RX11 = some m.cls := findClass_of_methodNamed B.named
  have hlocks := B.notSynchronized
  have hS : va_S (cE N [11]) s.heap s.heap [] := va_S.rf
  have hl := lv_entry ([.ref h0, .int p1]) (n := 2) (Nat.le_of_ble_eq_true rfl)
  rw [lg_entry_eq]
  generalize (lg_sl ([.ref h0, .int p1]) ++ List.replicate (2 - (lg_sl ([.ref h0, .int p1])).length) Slot.unset).toArray = ls at hl ⊢
  have hl : lv_has ls 2 [(0, .ref h0), (1, .int p1)] := hl
  refine wq_all ?_
  intro WW w1 w2
  refine lv_aload_n hx hb dX11_counts_0 rfl (lv_at hl 0 rfl) ?_
  refine lv_ldc hx hb hown (hts _ q1156) dX11_counts_1 ?_
  refine lv_aload_n hx hb dX11_counts_3 rfl (lv_at hl 0 rfl) ?_
  refine wt_rel hx hb hts cfX11 hown hK nh0_26 rfl (by decide) (Or.inl (hts _ q898)) dX11_counts_4 ?_
  refine lv_iload_n hx hb dX11_counts_7 rfl (lv_at hl 1 rfl) ?_
  refine lv_iadd hx hb dX11_counts_8 ?_
  refine lv_topi (fun x8 e8 => ?_)
  have t8 : x8.toInt = g26.toInt + p1.toInt := it_add e8 rg26 rp1 (by decide) (by decide)
  have r8 : ir x8 0 200000 := ir_w (ir_add e8 rg26 rp1 (by decide) (by decide)) (by decide) (by decide)
  refine va_mmin hx hb (hml.trans hl.1.symm) hown (hts _ q1157) (hts _ q398) (hts _ q13) (hts _ q399) (Nat.le_of_ble_eq_true rfl) (Nat.le_of_ble_eq_true rfl) (Nat.zero_le _) (Nat.zero_le _) dX11_counts_9 ?_
  refine lv_topi (fun x9 e9 => ?_)
  have r9 : ir x9 0 100000 := ir_min e9 (ir_c (100000) (by decide) : ir (100000 : Int32) (100000) (100000)) r8 (by decide) (by decide) (by decide) (by decide)
  obtain ⟨v, hv, nh0_29⟩ := cpin hW (cg11 k0) rfl 29 (by decide)
  obtain ⟨xp29_3, rfl, rp29_3⟩ : gi 0 4 v := hv
  obtain ⟨v, hv, nh0_31⟩ := cpin hW (cg11 k0) rfl 31 (by decide)
  obtain ⟨xp31_4, rfl, rp31_4⟩ : gi (-1) 200 v := hv
  have hrel := QB_rel hI.2.2.2.1 nh0_26 nh0_31
  have hBa := QB_aB hI.2.2.2.1 nh0_26 nh0_29
  have m9 := it_min e9
  have q9 : (100000 : Int32).toInt = 100000 := by decide
  refine wt_putp hx hb hts cfX11 tyX11 tyX11_ok nmX11 hown hK hW hS (cg11 k0) (ce k0 (by decide)) rfl 26 (by decide) (Or.inl (hts _ q898)) rfl rfl rfl (gi_mk r9) dX11_counts_12 (fun H locs hW hS oq o2 np => ?_)
  have nh0_29 := o2 29 _ (by decide) (by decide) nh0_29
  have nh0_31 := o2 31 _ (by decide) (by decide) nh0_31
  have nh0_26 : wt_pin N.1 vwCl h0 11 26 (.int x9) H := np
  have hV := hV.put (by decide) o2
  have hBa := hBa.fr k0 oq (by decide)
  have hGR := hGR.put k0 oq (by decide) (by decide)
  obtain ⟨iL, iP, iR, iB, iM⟩ := hI
  have iL := QL.fr.put iL k0 oq o2 (by decide) (by decide)
  have iP := QP.fr.put iP k0 oq o2 (by decide) (by decide)
  have iM := QM.fr.put iM k0 oq o2 (by decide) (by decide)
  have iR : QR N h0 H := ⟨_, nh0_26, hGR.sub (fun j hj h => by have h : (j : Int) < x9.toInt := h; show (j : Int) < g26.toInt + p1.toInt; have h6 := rp1; have h7 := rg26; omega)⟩
  refine lv_aload_n hx hb dX11_counts_15 rfl (lv_at hl 0 rfl) ?_
  refine wt_rel hx hb hts cfX11 hown hK nh0_26 rfl (by decide) (Or.inl (hts _ q898)) dX11_counts_16 ?_
  refine lv_bipush (v := 24) hx hb dX11_counts_19 (by decide) ?_
  refine lv_icmp_le (tgt := 40) hx hb dX11_counts_21 (by decide) (fun c21 => ?_) (fun c21 => ?_)
  · have rx9_21 : ir x9 0 24 := ⟨(r9).1, Int.le_trans (rf_le c21 r9 (ir_c (24) (by decide) : ir (24 : Int32) (24) (24))).1 (by decide)⟩
    have d21 := Int32.le_iff_toInt_le.mp c21
    have iB : QB N h0 H := QB_mk nh0_26 nh0_29 nh0_31 (Or.inl (by have h9 := rx9_21; omega)) (hBa.mono (by omega) (Int.le_refl _))
    have hI : mI N h0 H := ⟨iL, iP, iR, iB, iM⟩
    exact W.vret hx hb hr (fun t ht _ => ⟨⟨(), rfl, trivial, cW_at ht hW, ⟨mI_at ht hI, kp_at ht hV, ⟨_, pin_at ht nh0_26, by omega⟩⟩⟩, hS.F ht⟩) hS.2.2 dX11_counts_40
  · have rx9_21 : ir x9 25 100000 := ⟨Int.le_trans (by decide) (rf_lt (rf_nle c21) (ir_c (24) (by decide) : ir (24 : Int32) (24) (24)) r9).2, (r9).2⟩
    have d21 := Int32.lt_iff_toInt_lt.mp (rf_nle c21)
    refine lv_aload_n hx hb dX11_counts_24 rfl (lv_at hl 0 rfl) ?_
    refine wt_rel hx hb hts cfX11 hown hK nh0_31 rfl (by decide) (Or.inl (hts _ q903)) dX11_counts_25 ?_
    refine lv_iconst (v := -1) hx hb dX11_counts_28 (by decide) ?_
    refine lv_icmp_ne (tgt := 40) hx hb dX11_counts_29 (by decide) (fun c29 => ?_) (fun c29 => ?_)
    · have rxp31_4_29 : ir xp31_4 0 200 := rf_nel c29 rp31_4 (by decide) (by decide)
      have iB : QB N h0 H := QB_mk nh0_26 nh0_29 nh0_31 (Or.inr (ne_m1 rxp31_4_29 (by decide))) (hBa.mono (by omega) (Int.le_refl _))
      have hI : mI N h0 H := ⟨iL, iP, iR, iB, iM⟩
      exact W.vret hx hb hr (fun t ht _ => ⟨⟨(), rfl, trivial, cW_at ht hW, ⟨mI_at ht hI, kp_at ht hV, ⟨_, pin_at ht nh0_26, by omega⟩⟩⟩, hS.F ht⟩) hS.2.2 dX11_counts_40
    · have rxp31_4_29 : ir xp31_4 (-1) (-1) := rf_eq c29 (ir_c (-1) (by decide) : ir (-1 : Int32) (-1) (-1))
      refine lv_aload_n hx hb dX11_counts_32 rfl (lv_at hl 0 rfl) ?_
      refine lv_aload_n hx hb dX11_counts_33 rfl (lv_at hl 0 rfl) ?_
      refine wt_getp hx hb hts cfX11 hown hK hW (cg11 k0) rfl 30 (by decide) (Or.inl (hts _ q902)) dX11_counts_34 (fun v hv nh0_30 => ?_)
      obtain ⟨x34, rfl, r34⟩ : gi 0 200 v := hv
      refine wt_putp hx hb hts cfX11 tyX11 tyX11_ok nmX11 hown hK hW hS (cg11 k0) (ce k0 (by decide)) rfl 31 (by decide) (Or.inl (hts _ q903)) rfl rfl rfl (gi_mk (ir_w (lo' := -1) (hi' := 200) r34 (by decide) (by decide))) dX11_counts_37 (fun H locs hW hS oq o2 np => ?_)
      have nh0_29 := o2 29 _ (by decide) (by decide) nh0_29
      have nh0_26 := o2 26 _ (by decide) (by decide) nh0_26
      have nh0_30 := o2 30 _ (by decide) (by decide) nh0_30
      have nh0_31 : wt_pin N.1 vwCl h0 11 31 (.int x34) H := np
      have hV := hV.put (by decide) o2
      have hBa := hBa.fr k0 oq (by decide)
      have hGR := hGR.put k0 oq (by decide) (by decide)
      have iL := QL.fr.put iL k0 oq o2 (by decide) (by decide)
      have iP := QP.fr.put iP k0 oq o2 (by decide) (by decide)
      have iR := QR.fr.put iR k0 oq o2 (by decide) (by decide)
      have iM := QM.fr.put iM k0 oq o2 (by decide) (by decide)
      have iB : QB N h0 H := QB_mk nh0_26 nh0_29 nh0_31 (Or.inr (ne_m1 r34 (by decide))) (hBa.mono (by omega) (Int.le_refl _))
      have hI : mI N h0 H := ⟨iL, iP, iR, iB, iM⟩
      exact W.vret hx hb hr (fun t ht _ => ⟨⟨(), rfl, trivial, cW_at ht hW, ⟨mI_at ht hI, kp_at ht hV, ⟨_, pin_at ht nh0_26, by omega⟩⟩⟩, hS.F ht⟩) hS.2.2 dX11_counts_40
set_option maxHeartbeats 4000000 in
set_option maxRecDepth 100000 in
theorem m_X11_comes (l : Launch) (N : c_N) (h0 : Nat) (k0 : N.2.2.1 h0 = some 11) (hO : mOK N) (V : Nat → Value) (p1 : Int32) (rp1 : ir p1 0 5) (p2 : Int32) (rp2 : ir p2 0 6) (p3 : Int32) (rp3 : ir p3 0 6) (hz : p2.toInt ≠ 0 ∨ p3.toInt ≠ 0) : cMv l yX11_comes cX11_comes 4 { frames := 2, cells := 0, slots := 0, locals := 44 } [.ref h0, .int p1, .int p2, .int p3] N [11, 51, 52, 53] (fun H => mI N h0 H ∧ kp N h0 [26, 31] V H) (fun H => mI N h0 H ∧ kp N h0 [26, 31] V H) := by
  refine Met.ofW (cc := cX11_comes) (maxL := 4) (ret := none) (by decide) rfl ?_
  intro p e s m args below meth c s₁ B hml hv
  obtain ⟨rfl, ⟨hK, hW, hT, hnn⟩, hB⟩ := hv
  obtain ⟨hI, hV⟩ := hB
  have hx := B.exec
  have hb := B.bytes
  have hr := B.returns
  have hts : ∀ w ∈ lw_g, w.before _ s = true := fun w h => atoms_spec (ws := wc_ws yX11_comes cX11_comes 4 none) B.pre w (List.mem_cons_of_mem _ h)
  have hown : s.vm.findClass RX11 = some m.cls := findClass_of_methodNamed B.named
  have hlocks := B.notSynchronized
  have hS : va_S (cE N [11, 51, 52, 53]) s.heap s.heap [] := va_S.rf
  have hl := lv_entry ([.ref h0, .int p1, .int p2, .int p3]) (n := 4) (Nat.le_of_ble_eq_true rfl)
  rw [lg_entry_eq]
  generalize (lg_sl ([.ref h0, .int p1, .int p2, .int p3]) ++ List.replicate (4 - (lg_sl ([.ref h0, .int p1, .int p2, .int p3])).length) Slot.unset).toArray = ls at hl ⊢
  have hl : lv_has ls 4 [(0, .ref h0), (1, .int p1), (2, .int p2), (3, .int p3)] := hl
  refine wq_all ?_
  intro WW w1 w2
  refine lv_aload_n hx hb dX11_comes_0 rfl (lv_at hl 0 rfl) ?_
  refine wt_getp hx hb hts cfX11 hown hK hW (cg11 k0) rfl 26 (by decide) (Or.inl (hts _ q898)) dX11_comes_1 (fun v hv nh0_26 => ?_)
  obtain ⟨x1, rfl, r1⟩ : gi 0 100000 v := hv
  refine lv_bipush (v := 24) hx hb dX11_comes_4 (by decide) ?_
  refine lv_icmp_ge (tgt := 39) hx hb dX11_comes_6 (by decide) (fun c6 => ?_) (fun c6 => ?_)
  · have rx1_6 : ir x1 24 100000 := ⟨Int.le_trans (by decide) (rf_le c6 (ir_c (24) (by decide) : ir (24 : Int32) (24) (24)) r1).2, (r1).2⟩
    have d6 := Int32.le_iff_toInt_le.mp c6
    refine lv_aload_n hx hb dX11_comes_39 rfl (lv_at hl 0 rfl) ?_
    refine lv_iconst (v := 1) hx hb dX11_comes_40 (by decide) ?_
    obtain ⟨V1, hV1⟩ := kp_all hW k0
    have hWo := hW
    have hGR := QR_gp hI.2.2.1 nh0_26
    refine cc_v (B2 := fun H => mI N h0 H ∧ kp N h0 [26, 31] V1 H ∧ ∃ x : Int32, pI N h0 26 x H ∧ x1.toInt ≤ x.toInt) (wt_runV (As := [.int (1 : Int32)]) (rest := []) ⟨hx, hb, hml, hown, hts⟩ (m_X11_counts l N h0 k0 hO V1 (1 : Int32) (ir_w (lo' := 0) (hi' := 100000) (ir_c (1) (by decide) : ir (1 : Int32) (1) (1)) (by decide) (by decide)) x1) wm_X11_counts q1152 ⟨rfl, rfl⟩ ⟨Nat.le_of_ble_eq_true rfl, Nat.le_of_ble_eq_true rfl⟩ (cS_preV (B := fun H => mI N h0 H ∧ kp N h0 [26, 31] V1 H ∧ wt_pin N.1 vwCl h0 11 26 (.int x1) H ∧ gP N 52 53 24 (fun j => (j : Int) < x1.toInt + (1 : Int32).toInt) H) hK hW hT hnn hS (cg11 k0) rfl rfl (And.intro hI (And.intro (kp_of (F := [26, 31]) hV1) (And.intro nh0_26 (hGR.sub (fun j hj h => by have h : (j : Int) < x1.toInt + (1 : Int32).toInt := h; show (j : Int) < x1.toInt; have l30 : (1 : Int32).toInt = 1 := (by decide); have h30 := rx1_6; omega)))))) rfl hl.1 rfl (Nat.le_of_ble_eq_true rfl) dX11_comes_41 ⟨Nat.zero_le _, Nat.zero_le _⟩) hS (by decide) (fun H locs hW hS oq hB2 => ?_)
    obtain ⟨hI, hV2, hB2⟩ := hB2
    have hV := kp_call hV hV1 hV2 (by decide)
    have hGR := hGR.same hWo oq (by decide) (by decide)
    obtain ⟨xx41_26, nh0_26, lc41⟩ := hB2
    have rxx41_26 : ir xx41_26 0 100000 := gi_r (cpin_P hW (cg11 k0) rfl (by decide) nh0_26)
    exact W.vret hx hb hr (fun t ht _ => ⟨⟨(), rfl, trivial, cW_at ht hW, ⟨mI_at ht hI, kp_at ht hV⟩⟩, hS.F ht⟩) hS.2.2 dX11_comes_44
  · have rx1_6 : ir x1 0 23 := ⟨(r1).1, Int.le_trans (rf_lt (rf_nle c6) r1 (ir_c (24) (by decide) : ir (24 : Int32) (24) (24))).1 (by decide)⟩
    have d6 := Int32.lt_iff_toInt_lt.mp (rf_nle c6)
    refine lv_aload_n hx hb dX11_comes_9 rfl (lv_at hl 0 rfl) ?_
    refine wt_get hx hb hts cfX11 hown hK hW (cg11 k0) rfl 23 (by decide) q895 dX11_comes_10 (fun v hv => ?_)
    obtain ⟨x10, rfl, k10⟩ : gr N 51 v := hv
    refine lv_aload_n hx hb dX11_comes_13 rfl (lv_at hl 0 rfl) ?_
    refine wt_rel hx hb hts cfX11 hown hK nh0_26 rfl (by decide) (Or.inl (hts _ q898)) dX11_comes_14 ?_
    refine lv_iload_n hx hb dX11_comes_17 rfl (lv_at hl 1 rfl) ?_
    refine wt_iastp hx hb hK hW hS 0 (cg51 k10) (ce k10 (by decide)) rfl (ir_in rx1_6 (by decide) (by decide)) (gi_mk rp1) dX11_comes_18 (fun H locs hW hS oq => ?_)
    have nh0_26 := nh0_26.kept (oq _ (ne_kind k0 k10 (by decide)))
    have hV := hV.keep (oq _ (ne_kind k0 k10 (by decide)))
    have hI := mI.fr.arr hI k0 k10 oq (by decide) (by decide)
    have hGR := QR_gp hI.2.2.1 nh0_26
    refine lv_aload_n hx hb dX11_comes_19 rfl (lv_at hl 0 rfl) ?_
    refine wt_get hx hb hts cfX11 hown hK hW (cg11 k0) rfl 24 (by decide) q896 dX11_comes_20 (fun v hv => ?_)
    obtain ⟨x20, rfl, k20⟩ : gr N 52 v := hv
    refine lv_aload_n hx hb dX11_comes_23 rfl (lv_at hl 0 rfl) ?_
    refine wt_rel hx hb hts cfX11 hown hK nh0_26 rfl (by decide) (Or.inl (hts _ q898)) dX11_comes_24 ?_
    refine lv_iload_n hx hb dX11_comes_27 rfl (lv_at hl 2 rfl) ?_
    obtain ⟨fr28, hfr28⟩ := row_exi hW (cg52 k20)
    refine wt_iastx hx hb hK hW hS 0 (cg52 k20) (ce k20 (by decide)) rfl (ir_in rx1_6 (by decide) (by decide)) (gi_mk rp2) dX11_comes_28 (fun H locs hW hS oq hat => ?_)
    have nh0_26 := nh0_26.kept (oq _ (ne_kind k0 k20 (by decide)))
    have aps28 := ap_of (hat _ hfr28)
    have hV := hV.keep (oq _ (ne_kind k0 k20 (by decide)))
    obtain ⟨iL, iP, iR, iB, iM⟩ := hI
    have iL := QL.fr.arr iL k0 k20 oq (by decide) (by decide)
    have iP := QP.fr.arr iP k0 k20 oq (by decide) (by decide)
    have iB := QB.fr.arr iB k0 k20 oq (by decide) (by decide)
    have iM := QM.fr.arr iM k0 k20 oq (by decide) (by decide)
    have hGR := hGR.stA hO (by decide) (by decide) k20 hfr28 (hat _ hfr28) oq
    refine lv_aload_n hx hb dX11_comes_29 rfl (lv_at hl 0 rfl) ?_
    refine wt_get hx hb hts cfX11 hown hK hW (cg11 k0) rfl 25 (by decide) q897 dX11_comes_30 (fun v hv => ?_)
    obtain ⟨x30, rfl, k30⟩ : gr N 53 v := hv
    refine lv_aload_n hx hb dX11_comes_33 rfl (lv_at hl 0 rfl) ?_
    refine wt_rel hx hb hts cfX11 hown hK nh0_26 rfl (by decide) (Or.inl (hts _ q898)) dX11_comes_34 ?_
    refine lv_iload_n hx hb dX11_comes_37 rfl (lv_at hl 3 rfl) ?_
    obtain ⟨fr38, hfr38⟩ := row_exi hW (cg53 k30)
    refine wt_iastx hx hb hK hW hS 0 (cg53 k30) (ce k30 (by decide)) rfl (ir_in rx1_6 (by decide) (by decide)) (gi_mk rp3) dX11_comes_38 (fun H locs hW hS oq hat => ?_)
    have nh0_26 := nh0_26.kept (oq _ (ne_kind k0 k30 (by decide)))
    have aps28 := aps28.kept (oq _ (ne_kind k20 k30 (by decide)))
    have aps38 := ap_of (hat _ hfr38)
    have hV := hV.keep (oq _ (ne_kind k0 k30 (by decide)))
    have iL := QL.fr.arr iL k0 k30 oq (by decide) (by decide)
    have iP := QP.fr.arr iP k0 k30 oq (by decide) (by decide)
    have iB := QB.fr.arr iB k0 k30 oq (by decide) (by decide)
    have iM := QM.fr.arr iM k0 k30 oq (by decide) (by decide)
    have hGR := hGR.stU hO (by decide) (by decide) k30 hfr38 (hat _ hfr38) oq
    have hGR : gP N 52 53 24 (fun j => (j : Int) < x1.toInt + 1) H := (hGR.ins hO (by decide) (by decide) k20 k30 aps28 aps38 rfl hz).sub (fun j hj h => by have h : (j : Int) < x1.toInt + 1 := h; show ((((j : Int) < x1.toInt) ∧ j ≠ x1.toNatClampNeg) ∧ j ≠ x1.toNatClampNeg) ∨ j = x1.toNatClampNeg; have h30 := rx1_6; have k40 := (ir_clamp rx1_6 (by decide)).1; omega)
    have iR : QR N h0 H := ⟨_, nh0_26, hGR.sub (fun j hj h => by have h : (j : Int) < x1.toInt := h; show (j : Int) < x1.toInt + 1; omega)⟩
    have hI : mI N h0 H := ⟨iL, iP, iR, iB, iM⟩
    refine lv_aload_n hx hb dX11_comes_39 rfl (lv_at hl 0 rfl) ?_
    refine lv_iconst (v := 1) hx hb dX11_comes_40 (by decide) ?_
    obtain ⟨V1, hV1⟩ := kp_all hW k0
    have hWo := hW
    refine cc_v (B2 := fun H => mI N h0 H ∧ kp N h0 [26, 31] V1 H ∧ ∃ x : Int32, pI N h0 26 x H ∧ x1.toInt ≤ x.toInt) (wt_runV (As := [.int (1 : Int32)]) (rest := []) ⟨hx, hb, hml, hown, hts⟩ (m_X11_counts l N h0 k0 hO V1 (1 : Int32) (ir_w (lo' := 0) (hi' := 100000) (ir_c (1) (by decide) : ir (1 : Int32) (1) (1)) (by decide) (by decide)) x1) wm_X11_counts q1152 ⟨rfl, rfl⟩ ⟨Nat.le_of_ble_eq_true rfl, Nat.le_of_ble_eq_true rfl⟩ (cS_preV (B := fun H => mI N h0 H ∧ kp N h0 [26, 31] V1 H ∧ wt_pin N.1 vwCl h0 11 26 (.int x1) H ∧ gP N 52 53 24 (fun j => (j : Int) < x1.toInt + (1 : Int32).toInt) H) hK hW hT hnn hS (cg11 k0) rfl rfl (And.intro hI (And.intro (kp_of (F := [26, 31]) hV1) (And.intro nh0_26 (hGR.sub (fun j hj h => by have h : (j : Int) < x1.toInt + (1 : Int32).toInt := h; show (j : Int) < x1.toInt + 1; have l30 : (1 : Int32).toInt = 1 := (by decide); have h30 := rx1_6; omega)))))) rfl hl.1 rfl (Nat.le_of_ble_eq_true rfl) dX11_comes_41 ⟨Nat.zero_le _, Nat.zero_le _⟩) hS (by decide) (fun H locs hW hS oq hB2 => ?_)
    obtain ⟨hI, hV2, hB2⟩ := hB2
    have hV := kp_call hV hV1 hV2 (by decide)
    have hGR := hGR.same hWo oq (by decide) (by decide)
    obtain ⟨xx41_26, nh0_26, lc41⟩ := hB2
    have rxx41_26 : ir xx41_26 0 100000 := gi_r (cpin_P hW (cg11 k0) rfl (by decide) nh0_26)
    exact W.vret hx hb hr (fun t ht _ => ⟨⟨(), rfl, trivial, cW_at ht hW, ⟨mI_at ht hI, kp_at ht hV⟩⟩, hS.F ht⟩) hS.2.2 dX11_comes_44
set_option maxHeartbeats 4000000 in
set_option maxRecDepth 100000 in
theorem m_X11_shuts (l : Launch) (N : c_N) (h0 : Nat) (k0 : N.2.2.1 h0 = some 11) (hO : mOK N) (V : Nat → Value) (g29 : Int32) (ho : 1 ≤ g29.toInt) : cMv l yX11_shuts cX11_shuts 5 { frames := 2, cells := 0, slots := 0, locals := 44 } [.ref h0] N [11, 51, 52, 53] (fun H => mI N h0 H ∧ kp N h0 [26, 29, 31] V H ∧ wt_pin N.1 vwCl h0 11 29 (.int g29) H) (fun H => mI N h0 H ∧ kp N h0 [26, 29, 31] V H) := by
  refine Met.ofW (cc := cX11_shuts) (maxL := 5) (ret := none) (by decide) rfl ?_
  intro p e s m args below meth c s₁ B hml hv
  obtain ⟨rfl, ⟨hK, hW, hT, hnn⟩, hB⟩ := hv
  obtain ⟨hI, hV, hB⟩ := hB
  have nh0_29 := hB
  have rg29 : ir g29 0 4 := gi_r (cpin_P hW (cg11 k0) rfl (by decide) nh0_29)
  have hx := B.exec
  have hb := B.bytes
  have hr := B.returns
  have hts : ∀ w ∈ lw_g, w.before _ s = true := fun w h => atoms_spec (ws := wc_ws yX11_shuts cX11_shuts 5 none) B.pre w (List.mem_cons_of_mem _ h)
  have hown : s.vm.findClass RX11 = some m.cls := findClass_of_methodNamed B.named
  have hlocks := B.notSynchronized
  have hS : va_S (cE N [11, 51, 52, 53]) s.heap s.heap [] := va_S.rf
  have hl := lv_entry ([.ref h0]) (n := 5) (Nat.le_of_ble_eq_true rfl)
  rw [lg_entry_eq]
  generalize (lg_sl ([.ref h0]) ++ List.replicate (5 - (lg_sl ([.ref h0])).length) Slot.unset).toArray = ls at hl ⊢
  have hl : lv_has ls 5 [(0, .ref h0)] := hl
  refine wq_all ?_
  intro WW w1 w2
  have L37 : ∀ (n : Nat) (H : Heap) (locs : List Loc) (ls : Array Slot) (v37_1 : Int32) (v37_2 : Int32) (v37_3 : Int32) (u37_0 : Int32) (u37_1 : Int32), cW N H → mI N h0 H → kp N h0 [26, 29, 31] V H → va_S (cE N [11, 51, 52, 53]) s.heap H locs → lv_has ls 5 [(0, .ref h0), (1, .int v37_1), (2, .int v37_2), (3, .int v37_3)] → ir v37_1 0 100000 → ir v37_2 0 100000 → ir v37_3 1 9 → ir u37_0 0 100000 → wt_pin N.1 vwCl h0 11 26 (.int u37_0) H → ir u37_1 0 3 → wt_pin N.1 vwCl h0 11 29 (.int u37_1) H → v37_2.toInt + v37_1.toInt ≤ u37_0.toInt → 9 - v37_3.toInt < (n : Int) → WW H locs (F0 m 37 ls []) := by
    intro n
    induction n with
    | zero =>
      intro H locs ls v37_1 v37_2 v37_3 u37_0 u37_1 hW hI hV hS hl rv37_1 rv37_2 rv37_3 ru37_0 nh0_26 ru37_1 nh0_29 rw37_0 mu37
      exfalso
      omega
    | succ n ih37 =>
      intro H locs ls v37_1 v37_2 v37_3 u37_0 u37_1 hW hI hV hS hl rv37_1 rv37_2 rv37_3 ru37_0 nh0_26 ru37_1 nh0_29 rw37_0 mu37
      have J140 : ∀ (H : Heap) (locs : List Loc) (ls : Array Slot) , cW N H → mI N h0 H → kp N h0 [26, 29, 31] V H → gP N 52 53 24 (fun j => (j : Int) < u37_0.toInt + v37_1.toInt) H → va_S (cE N [11, 51, 52, 53]) s.heap H locs → lv_has ls 5 [(0, .ref h0), (1, .int v37_1), (2, .int v37_2), (3, .int v37_3)] → ir v37_1 0 100000 → ir v37_2 0 100000 → ir v37_3 1 8 → ir u37_0 0 100000 → wt_pin N.1 vwCl h0 11 26 (.int u37_0) H → ir u37_1 0 3 → wt_pin N.1 vwCl h0 11 29 (.int u37_1) H → WW H locs (F0 m 140 ls []) := by
        intro H locs ls  hW hI hV hGR hS hl rv140_1 rv140_2 rv140_3 ru140_0 nh0_26 ru140_1 nh0_29
        refine w1 _ _ _ ?_
        refine lv_aload_n hx hb dX11_shuts_140 rfl (lv_at hl 0 rfl) ?_
        refine lv_iload_n hx hb dX11_shuts_141 rfl (lv_at hl 1 rfl) ?_
        obtain ⟨V1, hV1⟩ := kp_all hW k0
        have hWo := hW
        refine cc_v (B2 := fun H => mI N h0 H ∧ kp N h0 [26, 31] V1 H ∧ ∃ x : Int32, pI N h0 26 x H ∧ u37_0.toInt ≤ x.toInt) (wt_runV (As := [.int v37_1]) (rest := []) ⟨hx, hb, hml, hown, hts⟩ (m_X11_counts l N h0 k0 hO V1 v37_1 rv140_1 u37_0) wm_X11_counts q1152 ⟨rfl, rfl⟩ ⟨Nat.le_of_ble_eq_true rfl, Nat.le_of_ble_eq_true rfl⟩ (cS_preV (B := fun H => mI N h0 H ∧ kp N h0 [26, 31] V1 H ∧ wt_pin N.1 vwCl h0 11 26 (.int u37_0) H ∧ gP N 52 53 24 (fun j => (j : Int) < u37_0.toInt + v37_1.toInt) H) hK hW hT hnn hS (cg11 k0) rfl rfl (And.intro hI (And.intro (kp_of (F := [26, 31]) hV1) (And.intro nh0_26 hGR)))) rfl hl.1 rfl (Nat.le_of_ble_eq_true rfl) dX11_shuts_142 ⟨Nat.zero_le _, Nat.zero_le _⟩) hS (by decide) (fun H locs hW hS oq hB2 => ?_)
        obtain ⟨hI, hV2, hB2⟩ := hB2
        have hV := kp_call hV hV1 hV2 (by decide)
        have hGR := hGR.same hWo oq (by decide) (by decide)
        obtain ⟨xx142_26, nh0_26, lc142⟩ := hB2
        have rxx142_26 : ir xx142_26 0 100000 := gi_r (cpin_P hW (cg11 k0) rfl (by decide) nh0_26)
        have nh0_29 := kp_use hV1 hV2 (by decide) (by decide) nh0_29
        obtain ⟨x145, e145⟩ : ∃ y : Int32, y = v37_3 + 1 := ⟨_, rfl⟩
        have r145 : ir x145 2 9 := ir_w (ir_add e145 rv140_3 (ir_c (1) (by decide) : ir (1 : Int32) (1) (1)) (by decide) (by decide)) (by decide) (by decide)
        have t145 : x145.toInt = v37_3.toInt + (1) := it_add e145 rv140_3 (ir_c (1) (by decide) : ir (1 : Int32) (1) (1)) (by decide) (by decide)
        refine lv_iinc (v := x145) (lv' := [(3, .int x145), (0, .ref h0), (1, .int v37_1), (2, .int v37_2)]) hx hb dX11_shuts_145 hl (k := 3) rfl (by rw [e145]; rfl) (by decide) rfl (fun ls hl => ?_)
        refine lv_goto (tgt := 37) hx hb dX11_shuts_148 (by decide) ?_
        exact w2 _ _ _ (ih37 _ _ _ v37_1 v37_2 x145 xx142_26 u37_1 hW hI hV hS (lv_sub hl [1, 2, 3, 0] rfl) rv140_1 rv140_2 (ir_w (lo' := 1) (hi' := 9) r145 (by decide) (by decide)) rxx142_26 nh0_26 ru140_1 nh0_29 (by have h20 := rv140_1; have h21 := rv140_2; have h22 := rxx142_26; omega) (by have h9 := r145; omega))
      have L53 : ∀ (n : Nat) (H : Heap) (locs : List Loc) (ls : Array Slot) (v53_4 : Int32), cW N H → mI N h0 H → kp N h0 [26, 29, 31] V H → gP N 52 53 24 (fun j => (j : Int) < u37_0.toInt + v53_4.toInt) H → va_S (cE N [11, 51, 52, 53]) s.heap H locs → lv_has ls 5 [(0, .ref h0), (1, .int v37_1), (2, .int v37_2), (3, .int v37_3), (4, .int v53_4)] → ir v37_1 0 100000 → ir v37_2 0 100000 → ir v37_3 1 8 → ir v53_4 0 24 → ir u37_0 0 100000 → wt_pin N.1 vwCl h0 11 26 (.int u37_0) H → ir u37_1 0 3 → wt_pin N.1 vwCl h0 11 29 (.int u37_1) H → 24 - v53_4.toInt < (n : Int) → WW H locs (F0 m 53 ls []) := by
        intro n
        induction n with
        | zero =>
          intro H locs ls v53_4 hW hI hV hGR hS hl rv53_1 rv53_2 rv53_3 rv53_4 ru53_0 nh0_26 ru53_1 nh0_29 mu53
          exfalso
          omega
        | succ n ih53 =>
          intro H locs ls v53_4 hW hI hV hGR hS hl rv53_1 rv53_2 rv53_3 rv53_4 ru53_0 nh0_26 ru53_1 nh0_29 mu53
          refine w1 _ _ _ ?_
          refine lv_iload hx hb dX11_shuts_53 (lv_at hl 4 rfl) ?_
          refine lv_iload_n hx hb dX11_shuts_55 rfl (lv_at hl 1 rfl) ?_
          refine lv_icmp_ge (tgt := 140) hx hb dX11_shuts_56 (by decide) (fun c56 => ?_) (fun c56 => ?_)
          · have rv37_1_56 : ir v37_1 0 24 := ⟨(rv53_1).1, Int.le_trans (rf_le c56 rv53_1 rv53_4).1 (by decide)⟩
            have d56 := Int32.le_iff_toInt_le.mp c56
            exact w2 _ _ _ (J140 _ _ _  hW hI hV (hGR.sub (fun j hj h => by have h : (j : Int) < u37_0.toInt + v37_1.toInt := h; show (j : Int) < u37_0.toInt + v53_4.toInt; have h30 := ru53_0; have h31 := rv37_1_56; have h32 := rv53_4; omega)) hS (lv_sub hl [0, 1, 2, 3] rfl) (ir_w (lo' := 0) (hi' := 100000) rv37_1_56 (by decide) (by decide)) rv53_2 rv53_3 ru53_0 nh0_26 ru53_1 nh0_29)
          · have rv37_1_56 : ir v37_1 1 100000 := ⟨Int.le_trans (by decide) (rf_lt (rf_nle c56) rv53_4 rv53_1).2, (rv53_1).2⟩
            have d56 := Int32.lt_iff_toInt_lt.mp (rf_nle c56)
            refine lv_aload_n hx hb dX11_shuts_59 rfl (lv_at hl 0 rfl) ?_
            refine wt_rel hx hb hts cfX11 hown hK nh0_26 rfl (by decide) (Or.inl (hts _ q898)) dX11_shuts_60 ?_
            refine lv_iload hx hb dX11_shuts_63 (lv_at hl 4 rfl) ?_
            refine lv_iadd hx hb dX11_shuts_65 ?_
            refine lv_topi (fun x65 e65 => ?_)
            have t65 : x65.toInt = u37_0.toInt + v53_4.toInt := it_add e65 ru53_0 rv53_4 (by decide) (by decide)
            have r65 : ir x65 0 100024 := ir_w (ir_add e65 ru53_0 rv53_4 (by decide) (by decide)) (by decide) (by decide)
            refine lv_bipush (v := 24) hx hb dX11_shuts_66 (by decide) ?_
            refine lv_icmp_ge (tgt := 140) hx hb dX11_shuts_68 (by decide) (fun c68 => ?_) (fun c68 => ?_)
            · have rx65_68 : ir x65 24 100024 := ⟨Int.le_trans (by decide) (rf_le c68 (ir_c (24) (by decide) : ir (24 : Int32) (24) (24)) r65).2, (r65).2⟩
              have d68 := Int32.le_iff_toInt_le.mp c68
              exact w2 _ _ _ (J140 _ _ _  hW hI hV (hGR.sub (fun j hj h => by have h : (j : Int) < u37_0.toInt + v37_1.toInt := h; show (j : Int) < u37_0.toInt + v53_4.toInt; have h30 := ru53_0; have h31 := rv37_1_56; have h32 := rv53_4; omega)) hS (lv_sub hl [0, 1, 2, 3] rfl) (ir_w (lo' := 0) (hi' := 100000) rv37_1_56 (by decide) (by decide)) rv53_2 rv53_3 ru53_0 nh0_26 ru53_1 nh0_29)
            · have rx65_68 : ir x65 0 23 := ⟨(r65).1, Int.le_trans (rf_lt (rf_nle c68) r65 (ir_c (24) (by decide) : ir (24 : Int32) (24) (24))).1 (by decide)⟩
              have d68 := Int32.lt_iff_toInt_lt.mp (rf_nle c68)
              have ru37_0_68_1 : ir u37_0 0 23 := by have h6 := t65; have h7 := ru53_0; have h8 := rv53_4; have h9 := rx65_68; constructor <;> omega
              have rv53_4_68_2 : ir v53_4 0 23 := by have h6 := t65; have h7 := ru37_0_68_1; have h8 := rv53_4; have h9 := rx65_68; constructor <;> omega
              refine lv_aload_n hx hb dX11_shuts_71 rfl (lv_at hl 0 rfl) ?_
              refine wt_getp hx hb hts cfX11 hown hK hW (cg11 k0) rfl 23 (by decide) (Or.inl (hts _ q895)) dX11_shuts_72 (fun v hv nh0_23 => ?_)
              obtain ⟨x72, rfl, k72⟩ : gr N 51 v := hv
              refine lv_aload_n hx hb dX11_shuts_75 rfl (lv_at hl 0 rfl) ?_
              refine wt_rel hx hb hts cfX11 hown hK nh0_26 rfl (by decide) (Or.inl (hts _ q898)) dX11_shuts_76 ?_
              refine lv_iload hx hb dX11_shuts_79 (lv_at hl 4 rfl) ?_
              refine lv_iadd hx hb dX11_shuts_81 ?_
              refine lv_topi (fun x81 e81 => ?_)
              have t81 : x81.toInt = u37_0.toInt + v53_4.toInt := it_add e81 ru37_0_68_1 rv53_4_68_2 (by decide) (by decide)
              have r81 : ir x81 0 23 := rf_eq (e81.trans e65.symm) rx65_68
              refine lv_aload_n hx hb dX11_shuts_82 rfl (lv_at hl 0 rfl) ?_
              refine wt_rel hx hb hts cfX11 hown hK nh0_23 rfl (by decide) (Or.inl (hts _ q895)) dX11_shuts_83 ?_
              refine lv_iload_n hx hb dX11_shuts_86 rfl (lv_at hl 2 rfl) ?_
              refine lv_iload hx hb dX11_shuts_87 (lv_at hl 4 rfl) ?_
              refine lv_iadd hx hb dX11_shuts_89 ?_
              refine lv_topi (fun x89 e89 => ?_)
              have t89 : x89.toInt = v37_2.toInt + v53_4.toInt := it_add e89 rv53_2 rv53_4_68_2 (by decide) (by decide)
              have r89 : ir x89 0 22 := by have h6 := rv53_2; have h7 := rv53_4_68_2; constructor <;> omega
              refine wt_iald hx hb hK hW 0 (cg51 k72) rfl (ir_in (ir_w (lo' := 0) (hi' := 23) r89 (by decide) (by decide)) (by decide) (by decide)) dX11_shuts_90 (fun v hv => ?_)
              obtain ⟨x90, rfl, r90⟩ : gi 0 5 v := hv
              refine wt_iastp hx hb hK hW hS 0 (cg51 k72) (ce k72 (by decide)) rfl (ir_in r81 (by decide) (by decide)) (gi_mk r90) dX11_shuts_91 (fun H locs hW hS oq => ?_)
              have nh0_26 := nh0_26.kept (oq _ (ne_kind k0 k72 (by decide)))
              have nh0_29 := nh0_29.kept (oq _ (ne_kind k0 k72 (by decide)))
              have nh0_23 := nh0_23.kept (oq _ (ne_kind k0 k72 (by decide)))
              have hV := hV.keep (oq _ (ne_kind k0 k72 (by decide)))
              have hGR := hGR.put k72 oq (by decide) (by decide)
              have hI := mI.fr.arr hI k0 k72 oq (by decide) (by decide)
              refine lv_aload_n hx hb dX11_shuts_92 rfl (lv_at hl 0 rfl) ?_
              refine wt_getp hx hb hts cfX11 hown hK hW (cg11 k0) rfl 24 (by decide) (Or.inl (hts _ q896)) dX11_shuts_93 (fun v hv nh0_24 => ?_)
              obtain ⟨x93, rfl, k93⟩ : gr N 52 v := hv
              refine lv_aload_n hx hb dX11_shuts_96 rfl (lv_at hl 0 rfl) ?_
              refine wt_rel hx hb hts cfX11 hown hK nh0_26 rfl (by decide) (Or.inl (hts _ q898)) dX11_shuts_97 ?_
              refine lv_iload hx hb dX11_shuts_100 (lv_at hl 4 rfl) ?_
              refine lv_iadd hx hb dX11_shuts_102 ?_
              refine lv_topi (fun x102 e102 => ?_)
              have t102 : x102.toInt = u37_0.toInt + v53_4.toInt := it_add e102 ru37_0_68_1 rv53_4_68_2 (by decide) (by decide)
              have r102 : ir x102 0 23 := rf_eq (e102.trans e65.symm) rx65_68
              refine lv_aload_n hx hb dX11_shuts_103 rfl (lv_at hl 0 rfl) ?_
              refine wt_rel hx hb hts cfX11 hown hK nh0_24 rfl (by decide) (Or.inl (hts _ q896)) dX11_shuts_104 ?_
              refine lv_iload_n hx hb dX11_shuts_107 rfl (lv_at hl 2 rfl) ?_
              refine lv_iload hx hb dX11_shuts_108 (lv_at hl 4 rfl) ?_
              refine lv_iadd hx hb dX11_shuts_110 ?_
              refine lv_topi (fun x110 e110 => ?_)
              have t110 : x110.toInt = v37_2.toInt + v53_4.toInt := it_add e110 rv53_2 rv53_4_68_2 (by decide) (by decide)
              have r110 : ir x110 0 22 := by have h6 := rv53_2; have h7 := rv53_4_68_2; constructor <;> omega
              refine wt_ialdx hx hb hK hW 0 (cg52 k93) rfl (ir_in (ir_w (lo' := 0) (hi' := 23) r110 (by decide) (by decide)) (by decide) (by decide)) dX11_shuts_111 (fun v hv ap111 => ?_)
              obtain ⟨x111, rfl, r111⟩ : gi 0 6 v := hv
              obtain ⟨fr112, hfr112⟩ := row_exi hW (cg52 k93)
              refine wt_iastx hx hb hK hW hS 0 (cg52 k93) (ce k93 (by decide)) rfl (ir_in r102 (by decide) (by decide)) (gi_mk r111) dX11_shuts_112 (fun H locs hW hS oq hat => ?_)
              have nh0_26 := nh0_26.kept (oq _ (ne_kind k0 k93 (by decide)))
              have nh0_29 := nh0_29.kept (oq _ (ne_kind k0 k93 (by decide)))
              have nh0_23 := nh0_23.kept (oq _ (ne_kind k0 k93 (by decide)))
              have nh0_24 := nh0_24.kept (oq _ (ne_kind k0 k93 (by decide)))
              have ap111 := ap111.st hat (by have h8 := (ir_clamp r110 (by decide)).1; have h9 := (ir_clamp r102 (by decide)).1; omega)
              have aps112 := ap_of (hat _ hfr112)
              have hV := hV.keep (oq _ (ne_kind k0 k93 (by decide)))
              obtain ⟨iL, iP, iR, iB, iM⟩ := hI
              have iL := QL.fr.arr iL k0 k93 oq (by decide) (by decide)
              have iP := QP.fr.arr iP k0 k93 oq (by decide) (by decide)
              have iB := QB.fr.arr iB k0 k93 oq (by decide) (by decide)
              have iM := QM.fr.arr iM k0 k93 oq (by decide) (by decide)
              have hGR := hGR.stA hO (by decide) (by decide) k93 hfr112 (hat _ hfr112) oq
              refine lv_aload_n hx hb dX11_shuts_113 rfl (lv_at hl 0 rfl) ?_
              refine wt_getp hx hb hts cfX11 hown hK hW (cg11 k0) rfl 25 (by decide) (Or.inl (hts _ q897)) dX11_shuts_114 (fun v hv nh0_25 => ?_)
              obtain ⟨x114, rfl, k114⟩ : gr N 53 v := hv
              refine lv_aload_n hx hb dX11_shuts_117 rfl (lv_at hl 0 rfl) ?_
              refine wt_rel hx hb hts cfX11 hown hK nh0_26 rfl (by decide) (Or.inl (hts _ q898)) dX11_shuts_118 ?_
              refine lv_iload hx hb dX11_shuts_121 (lv_at hl 4 rfl) ?_
              refine lv_iadd hx hb dX11_shuts_123 ?_
              refine lv_topi (fun x123 e123 => ?_)
              have t123 : x123.toInt = u37_0.toInt + v53_4.toInt := it_add e123 ru37_0_68_1 rv53_4_68_2 (by decide) (by decide)
              have r123 : ir x123 0 23 := rf_eq (e123.trans e65.symm) rx65_68
              refine lv_aload_n hx hb dX11_shuts_124 rfl (lv_at hl 0 rfl) ?_
              refine wt_rel hx hb hts cfX11 hown hK nh0_25 rfl (by decide) (Or.inl (hts _ q897)) dX11_shuts_125 ?_
              refine lv_iload_n hx hb dX11_shuts_128 rfl (lv_at hl 2 rfl) ?_
              refine lv_iload hx hb dX11_shuts_129 (lv_at hl 4 rfl) ?_
              refine lv_iadd hx hb dX11_shuts_131 ?_
              refine lv_topi (fun x131 e131 => ?_)
              have t131 : x131.toInt = v37_2.toInt + v53_4.toInt := it_add e131 rv53_2 rv53_4_68_2 (by decide) (by decide)
              have r131 : ir x131 0 22 := by have h6 := rv53_2; have h7 := rv53_4_68_2; constructor <;> omega
              refine wt_ialdx hx hb hK hW 0 (cg53 k114) rfl (ir_in (ir_w (lo' := 0) (hi' := 23) r131 (by decide) (by decide)) (by decide) (by decide)) dX11_shuts_132 (fun v hv ap132 => ?_)
              obtain ⟨x132, rfl, r132⟩ : gi 0 6 v := hv
              have q131 : x131 = x110 := e131.trans e110.symm
              rw [q131] at ap132
              have hz133 := gP_use hGR k93 k114 ap111 ap132 (by have h8 := (ir_clamp r110 (by decide)).1; omega) (by show ((x110.toNatClampNeg : Int) < u37_0.toInt + v53_4.toInt) ∧ x110.toNatClampNeg ≠ x102.toNatClampNeg; have h8 := (ir_clamp r110 (by decide)).1; have k40 := (ir_clamp r102 (by decide)).1; omega)
              obtain ⟨fr133, hfr133⟩ := row_exi hW (cg53 k114)
              refine wt_iastx hx hb hK hW hS 0 (cg53 k114) (ce k114 (by decide)) rfl (ir_in r123 (by decide) (by decide)) (gi_mk r132) dX11_shuts_133 (fun H locs hW hS oq hat => ?_)
              have nh0_26 := nh0_26.kept (oq _ (ne_kind k0 k114 (by decide)))
              have nh0_29 := nh0_29.kept (oq _ (ne_kind k0 k114 (by decide)))
              have nh0_23 := nh0_23.kept (oq _ (ne_kind k0 k114 (by decide)))
              have nh0_24 := nh0_24.kept (oq _ (ne_kind k0 k114 (by decide)))
              have nh0_25 := nh0_25.kept (oq _ (ne_kind k0 k114 (by decide)))
              have ap111 := ap111.kept (oq _ (ne_kind k93 k114 (by decide)))
              have aps112 := aps112.kept (oq _ (ne_kind k93 k114 (by decide)))
              have aps133 := ap_of (hat _ hfr133)
              have hV := hV.keep (oq _ (ne_kind k0 k114 (by decide)))
              have iL := QL.fr.arr iL k0 k114 oq (by decide) (by decide)
              have iP := QP.fr.arr iP k0 k114 oq (by decide) (by decide)
              have iB := QB.fr.arr iB k0 k114 oq (by decide) (by decide)
              have iM := QM.fr.arr iM k0 k114 oq (by decide) (by decide)
              have hGR := hGR.stU hO (by decide) (by decide) k114 hfr133 (hat _ hfr133) oq
              have hGR : gP N 52 53 24 (fun j => (j : Int) < u37_0.toInt + v53_4.toInt + 1) H := (hGR.ins hO (by decide) (by decide) k93 k114 aps112 aps133 (by rw [e123, e102]) hz133).sub (fun j hj h => by have h : (j : Int) < u37_0.toInt + v53_4.toInt + 1 := h; show ((((j : Int) < u37_0.toInt + v53_4.toInt) ∧ j ≠ x102.toNatClampNeg) ∧ j ≠ x123.toNatClampNeg) ∨ j = x102.toNatClampNeg; have h30 := ru37_0_68_1; have h31 := rv53_4_68_2; have h32 := r102; have h33 := r123; have k40 := (ir_clamp r102 (by decide)).1; have k41 := (ir_clamp r123 (by decide)).1; omega)
              have iR : QR N h0 H := ⟨_, nh0_26, hGR.sub (fun j hj h => by have h : (j : Int) < u37_0.toInt := h; show (j : Int) < u37_0.toInt + v53_4.toInt + 1; have h6 := rv53_4_68_2; omega)⟩
              have hI : mI N h0 H := ⟨iL, iP, iR, iB, iM⟩
              obtain ⟨x134, e134⟩ : ∃ y : Int32, y = v53_4 + 1 := ⟨_, rfl⟩
              have r134 : ir x134 1 24 := ir_w (ir_add e134 rv53_4_68_2 (ir_c (1) (by decide) : ir (1 : Int32) (1) (1)) (by decide) (by decide)) (by decide) (by decide)
              have t134 : x134.toInt = v53_4.toInt + (1) := it_add e134 rv53_4_68_2 (ir_c (1) (by decide) : ir (1 : Int32) (1) (1)) (by decide) (by decide)
              refine lv_iinc (v := x134) (lv' := [(4, .int x134), (0, .ref h0), (1, .int v37_1), (2, .int v37_2), (3, .int v37_3)]) hx hb dX11_shuts_134 hl (k := 4) rfl (by rw [e134]; rfl) (by decide) rfl (fun ls hl => ?_)
              refine lv_goto (tgt := 53) hx hb dX11_shuts_137 (by decide) ?_
              exact w2 _ _ _ (ih53 _ _ _ x134 hW hI hV (hGR.sub (fun j hj h => by have h : (j : Int) < u37_0.toInt + x134.toInt := h; show (j : Int) < u37_0.toInt + v53_4.toInt + 1; have h30 := ru37_0_68_1; have h31 := rv53_4_68_2; have h32 := r134; omega)) hS (lv_sub hl [1, 2, 3, 4, 0] rfl) (ir_w (lo' := 0) (hi' := 100000) rv37_1_56 (by decide) (by decide)) rv53_2 rv53_3 (ir_w (lo' := 0) (hi' := 24) r134 (by decide) (by decide)) (ir_w (lo' := 0) (hi' := 100000) ru37_0_68_1 (by decide) (by decide)) nh0_26 ru53_1 nh0_29 (by have h9 := r134; omega))
      refine w1 _ _ _ ?_
      refine lv_iload_n hx hb dX11_shuts_37 rfl (lv_at hl 3 rfl) ?_
      refine lv_aload_n hx hb dX11_shuts_38 rfl (lv_at hl 0 rfl) ?_
      refine wt_getp hx hb hts cfX11 hown hK hW (cg11 k0) rfl 27 (by decide) (Or.inl (hts _ q899)) dX11_shuts_39 (fun v hv nh0_27 => ?_)
      obtain ⟨x39, rfl, k39⟩ : gr N 54 v := hv
      refine lv_aload_n hx hb dX11_shuts_42 rfl (lv_at hl 0 rfl) ?_
      refine wt_rel hx hb hts cfX11 hown hK nh0_29 rfl (by decide) (Or.inl (hts _ q901)) dX11_shuts_43 ?_
      refine wt_iald hx hb hK hW 0 (cg54 k39) rfl (ir_in ru37_1 (by decide) (by decide)) dX11_shuts_46 (fun v hv => ?_)
      obtain ⟨x46, rfl, r46⟩ : gi 0 9 v := hv
      refine lv_icmp_ge (tgt := 151) hx hb dX11_shuts_47 (by decide) (fun c47 => ?_) (fun c47 => ?_)
      · have d47 := Int32.le_iff_toInt_le.mp c47
        exact W.vret hx hb hr (fun t ht _ => ⟨⟨(), rfl, trivial, cW_at ht hW, ⟨mI_at ht hI, kp_at ht hV⟩⟩, hS.F ht⟩) hS.2.2 dX11_shuts_151
      · have rv37_3_47 : ir v37_3 1 8 := ⟨(rv37_3).1, Int.le_trans (rf_lt (rf_nle c47) rv37_3 r46).1 (by decide)⟩
        have rx46_47 : ir x46 2 9 := ⟨Int.le_trans (by decide) (rf_lt (rf_nle c47) rv37_3 r46).2, (r46).2⟩
        have d47 := Int32.lt_iff_toInt_lt.mp (rf_nle c47)
        refine lv_iconst (v := 0) hx hb dX11_shuts_50 (by decide) ?_
        refine lv_istore (lv' := [(4, .int (0 : Int32)), (0, .ref h0), (1, .int v37_1), (2, .int v37_2), (3, .int v37_3)]) hx hb dX11_shuts_51 hl (by decide) rfl (fun ls hl => ?_)
        have hGR := QR_gp hI.2.2.1 nh0_26
        exact w2 _ _ _ (L53 25 _ _ _ (0 : Int32) hW hI hV (hGR.sub (fun j hj h => by have h : (j : Int) < u37_0.toInt + (0 : Int32).toInt := h; show (j : Int) < u37_0.toInt; have l30 : (0 : Int32).toInt = 0 := (by decide); have h30 := ru37_0; omega)) hS (lv_sub hl [1, 2, 3, 4, 0] rfl) rv37_1 rv37_2 rv37_3_47 (ir_w (lo' := 0) (hi' := 24) (ir_c (0) (by decide) : ir (0 : Int32) (0) (0)) (by decide) (by decide)) ru37_0 nh0_26 ru37_1 nh0_29 (by have h9 := (ir_c (0) (by decide) : ir (0 : Int32) (0) (0)); omega))
  have rgo : ir g29 1 4 := ⟨ho, rg29.2⟩
  obtain ⟨v, hv, nh0_26⟩ := cpin hW (cg11 k0) rfl 26 (by decide)
  obtain ⟨xp26_3, rfl, rp26_3⟩ : gi 0 100000 v := hv
  obtain ⟨v, hv, nh0_31⟩ := cpin hW (cg11 k0) rfl 31 (by decide)
  obtain ⟨xp31_4, rfl, rp31_4⟩ : gi (-1) 200 v := hv
  have hrel := QB_rel hI.2.2.2.1 nh0_26 nh0_31
  have hBa := QB_aB hI.2.2.2.1 nh0_26 nh0_29
  refine lv_aload_n hx hb dX11_shuts_0 rfl (lv_at hl 0 rfl) ?_
  refine lv_dup hx hb dX11_shuts_1 rfl ?_
  refine wt_rel hx hb hts cfX11 hown hK nh0_29 rfl (by decide) (Or.inl (hts _ q901)) dX11_shuts_2 ?_
  refine lv_iconst (v := 1) hx hb dX11_shuts_5 (by decide) ?_
  refine lv_isub hx hb dX11_shuts_6 ?_
  refine lv_topi (fun x6 e6 => ?_)
  have t6 : x6.toInt = g29.toInt - (1) := it_sub e6 rgo (ir_c (1) (by decide) : ir (1 : Int32) (1) (1)) (by decide) (by decide)
  have r6 : ir x6 0 3 := ir_w (ir_sub e6 rgo (ir_c (1) (by decide) : ir (1 : Int32) (1) (1)) (by decide) (by decide)) (by decide) (by decide)
  refine wt_putp hx hb hts cfX11 tyX11 tyX11_ok nmX11 hown hK hW hS (cg11 k0) (ce k0 (by decide)) rfl 29 (by decide) (Or.inl (hts _ q901)) rfl rfl rfl (gi_mk (ir_w (lo' := 0) (hi' := 4) r6 (by decide) (by decide))) dX11_shuts_7 (fun H locs hW hS oq o2 np => ?_)
  have nh0_26 := o2 26 _ (by decide) (by decide) nh0_26
  have nh0_31 := o2 31 _ (by decide) (by decide) nh0_31
  have nh0_29 : wt_pin N.1 vwCl h0 11 29 (.int x6) H := np
  have hV := hV.put (by decide) o2
  have hBa := hBa.fr k0 oq (by decide)
  obtain ⟨iL, iP, iR, iB, iM⟩ := hI
  have iL := QL.fr.put iL k0 oq o2 (by decide) (by decide)
  have iP := QP.fr.put iP k0 oq o2 (by decide) (by decide)
  have iR := QR.fr.put iR k0 oq o2 (by decide) (by decide)
  have iM := QM.fr.put iM k0 oq o2 (by decide) (by decide)
  have iB : QB N h0 H := QB_mk nh0_26 nh0_29 nh0_31 hrel (hBa.mono (Int.le_refl _) (by omega))
  have hI : mI N h0 H := ⟨iL, iP, iR, iB, iM⟩
  refine lv_aload_n hx hb dX11_shuts_10 rfl (lv_at hl 0 rfl) ?_
  refine wt_rel hx hb hts cfX11 hown hK nh0_26 rfl (by decide) (Or.inl (hts _ q898)) dX11_shuts_11 ?_
  refine lv_aload_n hx hb dX11_shuts_14 rfl (lv_at hl 0 rfl) ?_
  refine wt_getp hx hb hts cfX11 hown hK hW (cg11 k0) rfl 28 (by decide) (Or.inl (hts _ q900)) dX11_shuts_15 (fun v hv nh0_28 => ?_)
  obtain ⟨x15, rfl, k15⟩ : gr N 55 v := hv
  refine lv_aload_n hx hb dX11_shuts_18 rfl (lv_at hl 0 rfl) ?_
  refine wt_rel hx hb hts cfX11 hown hK nh0_29 rfl (by decide) (Or.inl (hts _ q901)) dX11_shuts_19 ?_
  refine wt_ialdx hx hb hK hW 0 (cg55 k15) rfl (ir_in r6 (by decide) (by decide)) dX11_shuts_22 (fun v hv ap22 => ?_)
  obtain ⟨x22, rfl, r22⟩ : gi 0 100000 v := hv
  have l22 : x22.toInt ≤ xp26_3.toInt := hBa.get k15 ap22 r6 (by decide) (by decide) (by omega)
  refine lv_isub hx hb dX11_shuts_23 ?_
  refine lv_topi (fun x23 e23 => ?_)
  have t23 : x23.toInt = xp26_3.toInt - x22.toInt := it_sub e23 rp26_3 r22 (by decide) (by decide)
  have r23 : ir x23 0 100000 := by have h6 := rp26_3; have h7 := r22; constructor <;> omega
  refine lv_istore_n (lv' := [(1, .int x23), (0, .ref h0)]) hx hb dX11_shuts_24 rfl hl (by decide) rfl (fun ls hl => ?_)
  refine lv_aload_n hx hb dX11_shuts_25 rfl (lv_at hl 1 rfl) ?_
  refine wt_rel hx hb hts cfX11 hown hK nh0_28 rfl (by decide) (Or.inl (hts _ q900)) dX11_shuts_26 ?_
  refine lv_aload_n hx hb dX11_shuts_29 rfl (lv_at hl 1 rfl) ?_
  refine wt_rel hx hb hts cfX11 hown hK nh0_29 rfl (by decide) (Or.inl (hts _ q901)) dX11_shuts_30 ?_
  refine wt_ialdx hx hb hK hW 0 (cg55 k15) rfl (ir_in r6 (by decide) (by decide)) dX11_shuts_33 (fun v hv ap33 => ?_)
  obtain ⟨x33, rfl, r33⟩ : gi 0 100000 v := hv
  have q33 : x33 = x22 := ap_inj ap33 ap22 (ir_in r6 (by decide) (by decide))
  have q33 : x33.toInt = x22.toInt := by rw [q33]
  refine lv_istore_n (lv' := [(2, .int x33), (1, .int x23), (0, .ref h0)]) hx hb dX11_shuts_34 rfl hl (by decide) rfl (fun ls hl => ?_)
  refine lv_iconst (v := 1) hx hb dX11_shuts_35 (by decide) ?_
  refine lv_istore_n (lv' := [(3, .int (1 : Int32)), (2, .int x33), (1, .int x23), (0, .ref h0)]) hx hb dX11_shuts_36 rfl hl (by decide) rfl (fun ls hl => ?_)
  exact w2 _ _ _ (L37 9 _ _ _ x23 x33 (1 : Int32) xp26_3 x6 hW hI hV hS (lv_sub hl [3, 2, 1, 0] rfl) r23 r33 (ir_w (lo' := 1) (hi' := 9) (ir_c (1) (by decide) : ir (1 : Int32) (1) (1)) (by decide) (by decide)) rp26_3 nh0_26 r6 nh0_29 (by have h20 := r23; have h21 := r33; have h22 := rp26_3; omega) (by have h9 := (ir_c (1) (by decide) : ir (1 : Int32) (1) (1)); omega))
set_option maxHeartbeats 4000000 in
set_option maxRecDepth 100000 in
theorem m_X11_readBehind (l : Launch) (N : c_N) (h0 : Nat) (k0 : N.2.2.1 h0 = some 11) (hO : mOK N) (V : Nat → Value) (p1 : Int32) (rp1 : ir p1 0 5) (g18 : Int32) : cMv l yX11_readBehind cX11_readBehind 5 { frames := 3, cells := 0, slots := 0, locals := 67 } [.ref h0, .int p1] N [11, 51, 52, 53] (fun H => mI N h0 H ∧ kp N h0 [18, 19, 20, 21, 22, 26, 31] V H ∧ wt_pin N.1 vwCl h0 11 18 (.int g18) H) (fun H => mI N h0 H ∧ kp N h0 [18, 19, 20, 21, 22, 26, 31] V H ∧ ∃ x : Int32, pI N h0 18 x H ∧ g18.toInt ≤ x.toInt) := by
  refine Met.ofW (cc := cX11_readBehind) (maxL := 5) (ret := none) (by decide) rfl ?_
  intro p e s m args below meth c s₁ B hml hv
  obtain ⟨rfl, ⟨hK, hW, hT, hnn⟩, hB⟩ := hv
  obtain ⟨hI, hV, hB⟩ := hB
  have nh0_18 := hB
  have rg18 : ir g18 0 200 := gi_r (cpin_P hW (cg11 k0) rfl (by decide) nh0_18)
  have hx := B.exec
  have hb := B.bytes
  have hr := B.returns
  have hts : ∀ w ∈ lw_g, w.before _ s = true := fun w h => atoms_spec (ws := wc_ws yX11_readBehind cX11_readBehind 5 none) B.pre w (List.mem_cons_of_mem _ h)
  have hown : s.vm.findClass RX11 = some m.cls := findClass_of_methodNamed B.named
  have hlocks := B.notSynchronized
  have hS : va_S (cE N [11, 51, 52, 53]) s.heap s.heap [] := va_S.rf
  have hl := lv_entry ([.ref h0, .int p1]) (n := 5) (Nat.le_of_ble_eq_true rfl)
  rw [lg_entry_eq]
  generalize (lg_sl ([.ref h0, .int p1]) ++ List.replicate (5 - (lg_sl ([.ref h0, .int p1])).length) Slot.unset).toArray = ls at hl ⊢
  have hl : lv_has ls 5 [(0, .ref h0), (1, .int p1)] := hl
  refine wq_all ?_
  intro WW w1 w2
  refine lv_aload_n hx hb dX11_readBehind_0 rfl (lv_at hl 0 rfl) ?_
  obtain ⟨v, hv, nh0_15⟩ := cpin hW (cg11 k0) rfl 15 (by decide)
  obtain ⟨x1_15, rfl, r1_15⟩ : gi 0 200 v := hv
  obtain ⟨V1, hV1⟩ := kp_all hW k0
  refine cc_i2 (B2 := fun r H => mI N h0 H ∧ kp N h0 [18] V1 H ∧ ∃ x : Int32, pI N h0 18 x H ∧ ir x 0 200 ∧ g18.toInt ≤ x.toInt ∧ (¬ r = -1 → x.toInt ≤ 199)) (wt_runV (As := []) (rest := []) ⟨hx, hb, hml, hown, hts⟩ (m_X11_see l N h0 k0 hO V1 x1_15 g18) wm_X11_see q1140 ⟨rfl, rfl⟩ ⟨Nat.le_of_ble_eq_true rfl, Nat.le_of_ble_eq_true rfl⟩ (cS_preV (B := fun H => mI N h0 H ∧ kp N h0 [18] V1 H ∧ wt_pin N.1 vwCl h0 11 15 (.int x1_15) H ∧ wt_pin N.1 vwCl h0 11 18 (.int g18) H) hK hW hT hnn hS (cg11 k0) rfl rfl (And.intro hI (And.intro (kp_of (F := [18]) hV1) (And.intro nh0_15 nh0_18)))) rfl hl.1 rfl (Nat.le_of_ble_eq_true rfl) dX11_readBehind_1 ⟨Nat.zero_le _, Nat.zero_le _⟩) hS (by decide) (fun x1 H locs hp hW hS oq hB2 => ?_)
  obtain ⟨hI, hV2, hB2⟩ := hB2
  have hV := kp_call hV hV1 hV2 (by decide)
  obtain ⟨xa1, nh0_18, ra1, lm1, la1⟩ := hB2
  have nh0_15 := kp_use hV1 hV2 (by decide) (by decide) nh0_15
  have r1 : ir x1 (-1) 255 := hp
  refine lv_istore_n (lv' := [(2, .int x1), (0, .ref h0), (1, .int p1)]) hx hb dX11_readBehind_4 rfl hl (by decide) rfl (fun ls hl => ?_)
  refine lv_iload_n hx hb dX11_readBehind_5 rfl (lv_at hl 0 rfl) ?_
  refine lv_bipush (v := 104) hx hb dX11_readBehind_6 (by decide) ?_
  refine lv_icmp_ne (tgt := 29) hx hb dX11_readBehind_8 (by decide) (fun c8 => ?_) (fun c8 => ?_)
  · refine lv_aload_n hx hb dX11_readBehind_29 rfl (lv_at hl 1 rfl) ?_
    refine lv_aload_n hx hb dX11_readBehind_30 rfl (lv_at hl 1 rfl) ?_
    refine wt_rel hx hb hts cfX11 hown hK nh0_18 rfl (by decide) (Or.inl (hts _ q890)) dX11_readBehind_31 ?_
    obtain ⟨V1, hV1⟩ := kp_all hW k0
    refine cc_i2 (B2 := fun r H => mI N h0 H ∧ kp N h0 [] V1 H ∧ (¬ r = 0 → ∀ aT : Nat, N.2.2.1 aT = some 50 → ∃ x : Int32, wt_ap (N.2.1 0) 200 aT xa1.toNatClampNeg (.int x) H ∧ ir x 48 57)) (wt_runV (As := [.int xa1]) (rest := []) ⟨hx, hb, hml, hown, hts⟩ (m_X11_isDigit l N h0 k0 hO V1 xa1 ra1) wm_X11_isDigit q1158 ⟨rfl, rfl⟩ ⟨Nat.le_of_ble_eq_true rfl, Nat.le_of_ble_eq_true rfl⟩ (cS_preV (B := fun H => mI N h0 H ∧ kp N h0 [] V1 H) hK hW hT hnn hS (cg11 k0) rfl rfl (And.intro hI (kp_of (F := []) hV1))) rfl hl.1 rfl (Nat.le_of_ble_eq_true rfl) dX11_readBehind_34 ⟨Nat.zero_le _, Nat.zero_le _⟩) hS (by decide) (fun x34 H locs hp hW hS oq hB2 => ?_)
    obtain ⟨hI, hV2, hB2⟩ := hB2
    have hV := kp_call hV hV1 hV2 (by decide)
    have hq34 := hB2
    have nh0_18 := kp_use hV1 hV2 (by decide) (by decide) nh0_18
    have nh0_15 := kp_use hV1 hV2 (by decide) (by decide) nh0_15
    obtain ⟨r34, b34⟩ := hp
    refine lv_if_ne (tgt := 48) hx hb dX11_readBehind_37 (by decide) (fun c37 => ?_) (fun c37 => ?_)
    · have rx34_37 : ir x34 1 1 := rf_ne0 c37 r34
      have bx34_37 := b34 c37
      refine lv_aload_n hx hb dX11_readBehind_48 rfl (lv_at hl 1 rfl) ?_
      refine wt_rel hx hb hts cfX11 hown hK nh0_18 rfl (by decide) (Or.inl (hts _ q890)) dX11_readBehind_49 ?_
      refine lv_istore_n (lv' := [(3, .int xa1), (2, .int x1), (0, .ref h0), (1, .int p1)]) hx hb dX11_readBehind_52 rfl hl (by decide) rfl (fun ls hl => ?_)
      refine lv_aload_n hx hb dX11_readBehind_53 rfl (lv_at hl 2 rfl) ?_
      obtain ⟨V1, hV1⟩ := kp_all hW k0
      refine cc_v (B2 := fun H => mI N h0 H ∧ kp N h0 [18, 21, 22] V1 H ∧ ∃ x : Int32, pI N h0 18 x H ∧ xa1.toInt ≤ x.toInt) (wt_runV (As := []) (rest := []) ⟨hx, hb, hml, hown, hts⟩ (m_X11_readNumber l N h0 k0 hO V1 xa1) wm_X11_readNumber q1168 ⟨rfl, rfl⟩ ⟨Nat.le_of_ble_eq_true rfl, Nat.le_of_ble_eq_true rfl⟩ (cS_preV (B := fun H => mI N h0 H ∧ kp N h0 [18, 21, 22] V1 H ∧ wt_pin N.1 vwCl h0 11 18 (.int xa1) H) hK hW hT hnn hS (cg11 k0) rfl rfl (And.intro hI (And.intro (kp_of (F := [18, 21, 22]) hV1) nh0_18))) rfl hl.1 rfl (Nat.le_of_ble_eq_true rfl) dX11_readBehind_54 ⟨Nat.zero_le _, Nat.zero_le _⟩) hS (by decide) (fun H locs hW hS oq hB2 => ?_)
      obtain ⟨hI, hV2, hB2⟩ := hB2
      have hV := kp_call hV hV1 hV2 (by decide)
      obtain ⟨xx54_18, nh0_18, lm54⟩ := hB2
      have rxx54_18 : ir xx54_18 0 200 := gi_r (cpin_P hW (cg11 k0) rfl (by decide) nh0_18)
      have nh0_15 := kp_use hV1 hV2 (by decide) (by decide) nh0_15
      refine lv_aload_n hx hb dX11_readBehind_57 rfl (lv_at hl 2 rfl) ?_
      obtain ⟨V1, hV1⟩ := kp_all hW k0
      refine cc_i2 (B2 := fun r H => mI N h0 H ∧ kp N h0 [18] V1 H ∧ ∃ x : Int32, pI N h0 18 x H ∧ ir x 0 200 ∧ xx54_18.toInt ≤ x.toInt ∧ (¬ r = -1 → x.toInt ≤ 199)) (wt_runV (As := []) (rest := []) ⟨hx, hb, hml, hown, hts⟩ (m_X11_see l N h0 k0 hO V1 x1_15 xx54_18) wm_X11_see q1140 ⟨rfl, rfl⟩ ⟨Nat.le_of_ble_eq_true rfl, Nat.le_of_ble_eq_true rfl⟩ (cS_preV (B := fun H => mI N h0 H ∧ kp N h0 [18] V1 H ∧ wt_pin N.1 vwCl h0 11 15 (.int x1_15) H ∧ wt_pin N.1 vwCl h0 11 18 (.int xx54_18) H) hK hW hT hnn hS (cg11 k0) rfl rfl (And.intro hI (And.intro (kp_of (F := [18]) hV1) (And.intro nh0_15 nh0_18)))) rfl hl.1 rfl (Nat.le_of_ble_eq_true rfl) dX11_readBehind_58 ⟨Nat.zero_le _, Nat.zero_le _⟩) hS (by decide) (fun x58 H locs hp hW hS oq hB2 => ?_)
      obtain ⟨hI, hV2, hB2⟩ := hB2
      have hV := kp_call hV hV1 hV2 (by decide)
      obtain ⟨xa58, nh0_18, ra58, lm58, la58⟩ := hB2
      have nh0_15 := kp_use hV1 hV2 (by decide) (by decide) nh0_15
      have r58 : ir x58 (-1) 255 := hp
      refine lv_bipush (v := 47) hx hb dX11_readBehind_61 (by decide) ?_
      refine lv_icmp_eq (tgt := 79) hx hb dX11_readBehind_63 (by decide) (fun c63 => ?_) (fun c63 => ?_)
      · have rx58_63 : ir x58 47 47 := rf_eq c63 (ir_c (47) (by decide) : ir (47 : Int32) (47) (47))
        refine lv_aload_n hx hb dX11_readBehind_79 rfl (lv_at hl 2 rfl) ?_
        refine wt_getp hx hb hts cfX11 hown hK hW (cg11 k0) rfl 21 (by decide) (Or.inl (hts _ q893)) dX11_readBehind_80 (fun v hv nh0_21 => ?_)
        obtain ⟨x80, rfl, r80⟩ : gi 0 100 v := hv
        refine lv_istore (lv' := [(4, .int x80), (3, .int xa1), (2, .int x1), (0, .ref h0), (1, .int p1)]) hx hb dX11_readBehind_83 hl (by decide) rfl (fun ls hl => ?_)
        refine lv_iload hx hb dX11_readBehind_85 (lv_at hl 0 rfl) ?_
        refine lv_bipush (v := 6) hx hb dX11_readBehind_87 (by decide) ?_
        refine lv_icmp_le (tgt := 102) hx hb dX11_readBehind_89 (by decide) (fun c89 => ?_) (fun c89 => ?_)
        · have rx80_89 : ir x80 0 6 := ⟨(r80).1, Int.le_trans (rf_le c89 r80 (ir_c (6) (by decide) : ir (6 : Int32) (6) (6))).1 (by decide)⟩
          have d89 := Int32.le_iff_toInt_le.mp c89
          refine lv_aload_n hx hb dX11_readBehind_102 rfl (lv_at hl 3 rfl) ?_
          refine lv_dup hx hb dX11_readBehind_103 rfl ?_
          refine wt_rel hx hb hts cfX11 hown hK nh0_18 rfl (by decide) (Or.inl (hts _ q890)) dX11_readBehind_104 ?_
          refine lv_iconst (v := 1) hx hb dX11_readBehind_107 (by decide) ?_
          have rb58 : ir xa58 0 199 := ⟨ra58.1, la58 (fun h => by have h9 := rx58_63; rw [h] at h9; exact absurd h9 (by decide))⟩
          refine lv_iadd hx hb dX11_readBehind_108 ?_
          refine lv_topi (fun x108 e108 => ?_)
          have t108 : x108.toInt = xa58.toInt + (1) := it_add e108 rb58 (ir_c (1) (by decide) : ir (1 : Int32) (1) (1)) (by decide) (by decide)
          have r108 : ir x108 1 200 := ir_w (ir_add e108 rb58 (ir_c (1) (by decide) : ir (1 : Int32) (1) (1)) (by decide) (by decide)) (by decide) (by decide)
          refine wt_putp hx hb hts cfX11 tyX11 tyX11_ok nmX11 hown hK hW hS (cg11 k0) (ce k0 (by decide)) rfl 18 (by decide) (Or.inl (hts _ q890)) rfl rfl rfl (gi_mk (ir_w (lo' := 0) (hi' := 200) r108 (by decide) (by decide))) dX11_readBehind_109 (fun H locs hW hS oq o2 np => ?_)
          have nh0_15 := o2 15 _ (by decide) (by decide) nh0_15
          have nh0_21 := o2 21 _ (by decide) (by decide) nh0_21
          have nh0_18 : wt_pin N.1 vwCl h0 11 18 (.int x108) H := np
          have hV := hV.put (by decide) o2
          have hI := mI.fr.put hI k0 oq o2 (by decide) (by decide)
          refine lv_aload_n hx hb dX11_readBehind_112 rfl (lv_at hl 3 rfl) ?_
          obtain ⟨V1, hV1⟩ := kp_all hW k0
          refine cc_i2 (B2 := fun r H => mI N h0 H ∧ kp N h0 [18] V1 H ∧ ∃ x : Int32, pI N h0 18 x H ∧ ir x 0 200 ∧ x108.toInt ≤ x.toInt ∧ (¬ r = -1 → x.toInt ≤ 199)) (wt_runV (As := []) (rest := []) ⟨hx, hb, hml, hown, hts⟩ (m_X11_see l N h0 k0 hO V1 x1_15 x108) wm_X11_see q1140 ⟨rfl, rfl⟩ ⟨Nat.le_of_ble_eq_true rfl, Nat.le_of_ble_eq_true rfl⟩ (cS_preV (B := fun H => mI N h0 H ∧ kp N h0 [18] V1 H ∧ wt_pin N.1 vwCl h0 11 15 (.int x1_15) H ∧ wt_pin N.1 vwCl h0 11 18 (.int x108) H) hK hW hT hnn hS (cg11 k0) rfl rfl (And.intro hI (And.intro (kp_of (F := [18]) hV1) (And.intro nh0_15 nh0_18)))) rfl hl.1 rfl (Nat.le_of_ble_eq_true rfl) dX11_readBehind_113 ⟨Nat.zero_le _, Nat.zero_le _⟩) hS (by decide) (fun x113 H locs hp hW hS oq hB2 => ?_)
          obtain ⟨hI, hV2, hB2⟩ := hB2
          have hV := kp_call hV hV1 hV2 (by decide)
          obtain ⟨xa113, nh0_18, ra113, lm113, la113⟩ := hB2
          have nh0_15 := kp_use hV1 hV2 (by decide) (by decide) nh0_15
          have nh0_21 := kp_use hV1 hV2 (by decide) (by decide) nh0_21
          have r113 : ir x113 (-1) 255 := hp
          refine lv_pop hx hb dX11_readBehind_116 rfl ?_
          refine lv_aload_n hx hb dX11_readBehind_117 rfl (lv_at hl 3 rfl) ?_
          refine lv_aload_n hx hb dX11_readBehind_118 rfl (lv_at hl 3 rfl) ?_
          refine wt_rel hx hb hts cfX11 hown hK nh0_18 rfl (by decide) (Or.inl (hts _ q890)) dX11_readBehind_119 ?_
          obtain ⟨V1, hV1⟩ := kp_all hW k0
          refine cc_i2 (B2 := fun r H => mI N h0 H ∧ kp N h0 [] V1 H ∧ (¬ r = 0 → ∀ aT : Nat, N.2.2.1 aT = some 50 → ∃ x : Int32, wt_ap (N.2.1 0) 200 aT xa113.toNatClampNeg (.int x) H ∧ ir x 48 57)) (wt_runV (As := [.int xa113]) (rest := []) ⟨hx, hb, hml, hown, hts⟩ (m_X11_isDigit l N h0 k0 hO V1 xa113 ra113) wm_X11_isDigit q1158 ⟨rfl, rfl⟩ ⟨Nat.le_of_ble_eq_true rfl, Nat.le_of_ble_eq_true rfl⟩ (cS_preV (B := fun H => mI N h0 H ∧ kp N h0 [] V1 H) hK hW hT hnn hS (cg11 k0) rfl rfl (And.intro hI (kp_of (F := []) hV1))) rfl hl.1 rfl (Nat.le_of_ble_eq_true rfl) dX11_readBehind_122 ⟨Nat.zero_le _, Nat.zero_le _⟩) hS (by decide) (fun x122 H locs hp hW hS oq hB2 => ?_)
          obtain ⟨hI, hV2, hB2⟩ := hB2
          have hV := kp_call hV hV1 hV2 (by decide)
          have hq122 := hB2
          have nh0_15 := kp_use hV1 hV2 (by decide) (by decide) nh0_15
          have nh0_21 := kp_use hV1 hV2 (by decide) (by decide) nh0_21
          have nh0_18 := kp_use hV1 hV2 (by decide) (by decide) nh0_18
          obtain ⟨r122, b122⟩ := hp
          refine lv_if_ne (tgt := 138) hx hb dX11_readBehind_125 (by decide) (fun c125 => ?_) (fun c125 => ?_)
          · have rx122_125 : ir x122 1 1 := rf_ne0 c125 r122
            have bx122_125 := b122 c125
            refine lv_aload_n hx hb dX11_readBehind_138 rfl (lv_at hl 3 rfl) ?_
            obtain ⟨V1, hV1⟩ := kp_all hW k0
            refine cc_v (B2 := fun H => mI N h0 H ∧ kp N h0 [18, 21, 22] V1 H ∧ ∃ x : Int32, pI N h0 18 x H ∧ xa113.toInt ≤ x.toInt) (wt_runV (As := []) (rest := []) ⟨hx, hb, hml, hown, hts⟩ (m_X11_readNumber l N h0 k0 hO V1 xa113) wm_X11_readNumber q1168 ⟨rfl, rfl⟩ ⟨Nat.le_of_ble_eq_true rfl, Nat.le_of_ble_eq_true rfl⟩ (cS_preV (B := fun H => mI N h0 H ∧ kp N h0 [18, 21, 22] V1 H ∧ wt_pin N.1 vwCl h0 11 18 (.int xa113) H) hK hW hT hnn hS (cg11 k0) rfl rfl (And.intro hI (And.intro (kp_of (F := [18, 21, 22]) hV1) nh0_18))) rfl hl.1 rfl (Nat.le_of_ble_eq_true rfl) dX11_readBehind_139 ⟨Nat.zero_le _, Nat.zero_le _⟩) hS (by decide) (fun H locs hW hS oq hB2 => ?_)
            obtain ⟨hI, hV2, hB2⟩ := hB2
            have hV := kp_call hV hV1 hV2 (by decide)
            obtain ⟨xx139_18, nh0_18, lm139⟩ := hB2
            have rxx139_18 : ir xx139_18 0 200 := gi_r (cpin_P hW (cg11 k0) rfl (by decide) nh0_18)
            have nh0_15 := kp_use hV1 hV2 (by decide) (by decide) nh0_15
            refine lv_aload_n hx hb dX11_readBehind_142 rfl (lv_at hl 3 rfl) ?_
            refine wt_getp hx hb hts cfX11 hown hK hW (cg11 k0) rfl 21 (by decide) (Or.inl (hts _ q893)) dX11_readBehind_143 (fun v hv nh0_21 => ?_)
            obtain ⟨x143, rfl, r143⟩ : gi 0 100 v := hv
            refine lv_i2l hx hb dX11_readBehind_146 rfl ?_
            refine lv_topl (fun x146 e146 => ?_)
            have r146 : lr x146 0 100 := by rw [e146]; exact i2l_r r143
            have t146 : x146.toInt = x143.toInt := by rw [e146]; exact Int32.toInt_toInt64 x143
            refine lv_lconst (v := 1) hx hb dX11_readBehind_147 (by decide) ?_
            refine lv_ldc2 hx hb hown (hts _ q1083) dX11_readBehind_148 ?_
            refine cp_i (wt_runS (As := [.long x146, .long (1 : Int64), .long (6 : Int64)]) (rest := []) ⟨hx, hb, hml, hown, hts⟩ (m_X11_isIn l x146 (1 : Int64) (6 : Int64)) wm_X11_isIn q1050 ⟨rfl, rfl⟩ ⟨Nat.le_of_ble_eq_true rfl, Nat.le_of_ble_eq_true rfl⟩ pS_pre rfl hl.1 rfl (Nat.le_of_ble_eq_true rfl) dX11_readBehind_151 ⟨Nat.zero_le _, Nat.zero_le _⟩) hW hS (fun x151 H locs hp hW1 hS oq => ?_)
            have hV := hV.same hW k0 oq
            have hI := mI.fr.same hI hW oq
            have hW := hW1
            have nh0_15 := nh0_15.kept (oq _ nh0_15.lt (cE_not k0 (by decide)))
            have nh0_18 := nh0_18.kept (oq _ nh0_18.lt (cE_not k0 (by decide)))
            have nh0_21 := nh0_21.kept (oq _ nh0_21.lt (cE_not k0 (by decide)))
            obtain ⟨r151, b151⟩ := hp
            refine lv_if_ne (tgt := 169) hx hb dX11_readBehind_154 (by decide) (fun c154 => ?_) (fun c154 => ?_)
            · have rx151_154 : ir x151 1 1 := rf_ne0 c154 r151
              have bx151_154 := b151 c154
              have rbx146_154 : lr x146 1 6 := by have h5 := bx151_154; have h6 := r146; have h7 := (lr_c (1) (by decide) : lr (1 : Int64) (1) (1)); have h8 := (lr_c (6) (by decide) : lr (6 : Int64) (6) (6)); constructor <;> omega
              have rx143_154 : ir x143 1 6 := i2l_b e146 rbx146_154
              refine lv_aload_n hx hb dX11_readBehind_169 rfl (lv_at hl 3 rfl) ?_
              refine lv_iload_n hx hb dX11_readBehind_170 rfl (lv_at hl 4 rfl) ?_
              refine lv_iload hx hb dX11_readBehind_171 (lv_at hl 0 rfl) ?_
              refine lv_aload_n hx hb dX11_readBehind_173 rfl (lv_at hl 3 rfl) ?_
              refine wt_rel hx hb hts cfX11 hown hK nh0_21 rfl (by decide) (Or.inl (hts _ q893)) dX11_readBehind_174 ?_
              obtain ⟨V1, hV1⟩ := kp_all hW k0
              refine cc_v (B2 := fun H => mI N h0 H ∧ kp N h0 [26, 31] V1 H) (wt_runV (As := [.int p1, .int x80, .int x143]) (rest := []) ⟨hx, hb, hml, hown, hts⟩ (m_X11_comes l N h0 k0 hO V1 p1 rp1 x80 rx80_89 x143 (ir_w (lo' := 0) (hi' := 6) rx143_154 (by decide) (by decide)) (Or.inr (by have h9 := rx143_154; omega))) wm_X11_comes q1182 ⟨rfl, rfl⟩ ⟨Nat.le_of_ble_eq_true rfl, Nat.le_of_ble_eq_true rfl⟩ (cS_preV (B := fun H => mI N h0 H ∧ kp N h0 [26, 31] V1 H) hK hW hT hnn hS (cg11 k0) rfl rfl (And.intro hI (kp_of (F := [26, 31]) hV1))) rfl hl.1 rfl (Nat.le_of_ble_eq_true rfl) dX11_readBehind_177 ⟨Nat.zero_le _, Nat.zero_le _⟩) hS (by decide) (fun H locs hW hS oq hB2 => ?_)
              obtain ⟨hI, hV2⟩ := hB2
              have hV := kp_call hV hV1 hV2 (by decide)
              have nh0_15 := kp_use hV1 hV2 (by decide) (by decide) nh0_15
              have nh0_18 := kp_use hV1 hV2 (by decide) (by decide) nh0_18
              have nh0_21 := kp_use hV1 hV2 (by decide) (by decide) nh0_21
              exact W.vret hx hb hr (fun t ht _ => ⟨⟨(), rfl, trivial, cW_at ht hW, ⟨mI_at ht hI, kp_at ht hV, ⟨_, pin_at ht nh0_18, by omega⟩⟩⟩, hS.F ht⟩) hS.2.2 dX11_readBehind_180
            · have rx151_154 : ir x151 0 0 := rf_eq c154 (ir_c (0) (by decide) : ir (0 : Int32) (0) (0))
              refine lv_aload_n hx hb dX11_readBehind_157 rfl (lv_at hl 3 rfl) ?_
              refine lv_iconst (v := 2) hx hb dX11_readBehind_158 (by decide) ?_
              refine lv_aload_n hx hb dX11_readBehind_159 rfl (lv_at hl 3 rfl) ?_
              refine wt_getp hx hb hts cfX11 hown hK hW (cg11 k0) rfl 22 (by decide) (Or.inl (hts _ q894)) dX11_readBehind_160 (fun v hv nh0_22 => ?_)
              obtain ⟨x160, rfl⟩ : ga v := hv
              obtain ⟨V1, hV1⟩ := kp_all hW k0
              refine cc_v (B2 := fun H => mI N h0 H ∧ kp N h0 [19, 20] V1 H ∧ ∃ y : Int32, pI N h0 19 y H ∧ ¬ y = 0) (wt_runV (As := [.int (2 : Int32), .int x160]) (rest := []) ⟨hx, hb, hml, hown, hts⟩ (m_X11_fails l N h0 k0 hO V1 (2 : Int32) x160 (by decide)) wm_X11_fails q1172 ⟨rfl, rfl⟩ ⟨Nat.le_of_ble_eq_true rfl, Nat.le_of_ble_eq_true rfl⟩ (cS_preV (B := fun H => mI N h0 H ∧ kp N h0 [19, 20] V1 H) hK hW hT hnn hS (cg11 k0) rfl rfl (And.intro hI (kp_of (F := [19, 20]) hV1))) rfl hl.1 rfl (Nat.le_of_ble_eq_true rfl) dX11_readBehind_163 ⟨Nat.zero_le _, Nat.zero_le _⟩) hS (by decide) (fun H locs hW hS oq hB2 => ?_)
              obtain ⟨hI, hV2, hB2⟩ := hB2
              have hV := kp_call hV hV1 hV2 (by decide)
              obtain ⟨xx163_19, nh0_19, hbad163⟩ := hB2
              have nh0_15 := kp_use hV1 hV2 (by decide) (by decide) nh0_15
              have nh0_18 := kp_use hV1 hV2 (by decide) (by decide) nh0_18
              have nh0_21 := kp_use hV1 hV2 (by decide) (by decide) nh0_21
              have nh0_22 := kp_use hV1 hV2 (by decide) (by decide) nh0_22
              refine lv_goto (tgt := 180) hx hb dX11_readBehind_166 (by decide) ?_
              exact W.vret hx hb hr (fun t ht _ => ⟨⟨(), rfl, trivial, cW_at ht hW, ⟨mI_at ht hI, kp_at ht hV, ⟨_, pin_at ht nh0_18, by omega⟩⟩⟩, hS.F ht⟩) hS.2.2 dX11_readBehind_180
          · have rx122_125 : ir x122 0 0 := rf_eq c125 (ir_c (0) (by decide) : ir (0 : Int32) (0) (0))
            refine lv_aload_n hx hb dX11_readBehind_128 rfl (lv_at hl 3 rfl) ?_
            refine lv_iconst (v := 1) hx hb dX11_readBehind_129 (by decide) ?_
            refine lv_aload_n hx hb dX11_readBehind_130 rfl (lv_at hl 3 rfl) ?_
            refine wt_rel hx hb hts cfX11 hown hK nh0_18 rfl (by decide) (Or.inl (hts _ q890)) dX11_readBehind_131 ?_
            obtain ⟨V1, hV1⟩ := kp_all hW k0
            refine cc_v (B2 := fun H => mI N h0 H ∧ kp N h0 [19, 20] V1 H ∧ ∃ y : Int32, pI N h0 19 y H ∧ ¬ y = 0) (wt_runV (As := [.int (1 : Int32), .int xa113]) (rest := []) ⟨hx, hb, hml, hown, hts⟩ (m_X11_fails l N h0 k0 hO V1 (1 : Int32) xa113 (by decide)) wm_X11_fails q1172 ⟨rfl, rfl⟩ ⟨Nat.le_of_ble_eq_true rfl, Nat.le_of_ble_eq_true rfl⟩ (cS_preV (B := fun H => mI N h0 H ∧ kp N h0 [19, 20] V1 H) hK hW hT hnn hS (cg11 k0) rfl rfl (And.intro hI (kp_of (F := [19, 20]) hV1))) rfl hl.1 rfl (Nat.le_of_ble_eq_true rfl) dX11_readBehind_134 ⟨Nat.zero_le _, Nat.zero_le _⟩) hS (by decide) (fun H locs hW hS oq hB2 => ?_)
            obtain ⟨hI, hV2, hB2⟩ := hB2
            have hV := kp_call hV hV1 hV2 (by decide)
            obtain ⟨xx134_19, nh0_19, hbad134⟩ := hB2
            have nh0_15 := kp_use hV1 hV2 (by decide) (by decide) nh0_15
            have nh0_21 := kp_use hV1 hV2 (by decide) (by decide) nh0_21
            have nh0_18 := kp_use hV1 hV2 (by decide) (by decide) nh0_18
            exact W.vret hx hb hr (fun t ht _ => ⟨⟨(), rfl, trivial, cW_at ht hW, ⟨mI_at ht hI, kp_at ht hV, ⟨_, pin_at ht nh0_18, by omega⟩⟩⟩, hS.F ht⟩) hS.2.2 dX11_readBehind_137
        · have rx80_89 : ir x80 7 100 := ⟨Int.le_trans (by decide) (rf_lt (rf_nle c89) (ir_c (6) (by decide) : ir (6 : Int32) (6) (6)) r80).2, (r80).2⟩
          have d89 := Int32.lt_iff_toInt_lt.mp (rf_nle c89)
          refine lv_aload_n hx hb dX11_readBehind_92 rfl (lv_at hl 3 rfl) ?_
          refine lv_iconst (v := 2) hx hb dX11_readBehind_93 (by decide) ?_
          refine lv_aload_n hx hb dX11_readBehind_94 rfl (lv_at hl 3 rfl) ?_
          refine wt_getp hx hb hts cfX11 hown hK hW (cg11 k0) rfl 22 (by decide) (Or.inl (hts _ q894)) dX11_readBehind_95 (fun v hv nh0_22 => ?_)
          obtain ⟨x95, rfl⟩ : ga v := hv
          obtain ⟨V1, hV1⟩ := kp_all hW k0
          refine cc_v (B2 := fun H => mI N h0 H ∧ kp N h0 [19, 20] V1 H ∧ ∃ y : Int32, pI N h0 19 y H ∧ ¬ y = 0) (wt_runV (As := [.int (2 : Int32), .int x95]) (rest := []) ⟨hx, hb, hml, hown, hts⟩ (m_X11_fails l N h0 k0 hO V1 (2 : Int32) x95 (by decide)) wm_X11_fails q1172 ⟨rfl, rfl⟩ ⟨Nat.le_of_ble_eq_true rfl, Nat.le_of_ble_eq_true rfl⟩ (cS_preV (B := fun H => mI N h0 H ∧ kp N h0 [19, 20] V1 H) hK hW hT hnn hS (cg11 k0) rfl rfl (And.intro hI (kp_of (F := [19, 20]) hV1))) rfl hl.1 rfl (Nat.le_of_ble_eq_true rfl) dX11_readBehind_98 ⟨Nat.zero_le _, Nat.zero_le _⟩) hS (by decide) (fun H locs hW hS oq hB2 => ?_)
          obtain ⟨hI, hV2, hB2⟩ := hB2
          have hV := kp_call hV hV1 hV2 (by decide)
          obtain ⟨xx98_19, nh0_19, hbad98⟩ := hB2
          have nh0_18 := kp_use hV1 hV2 (by decide) (by decide) nh0_18
          have nh0_15 := kp_use hV1 hV2 (by decide) (by decide) nh0_15
          have nh0_21 := kp_use hV1 hV2 (by decide) (by decide) nh0_21
          have nh0_22 := kp_use hV1 hV2 (by decide) (by decide) nh0_22
          exact W.vret hx hb hr (fun t ht _ => ⟨⟨(), rfl, trivial, cW_at ht hW, ⟨mI_at ht hI, kp_at ht hV, ⟨_, pin_at ht nh0_18, by omega⟩⟩⟩, hS.F ht⟩) hS.2.2 dX11_readBehind_101
      · refine lv_aload_n hx hb dX11_readBehind_66 rfl (lv_at hl 2 rfl) ?_
        refine lv_iload_n hx hb dX11_readBehind_67 rfl (lv_at hl 0 rfl) ?_
        refine wt_putp hx hb hts cfX11 tyX11 tyX11_ok nmX11 hown hK hW hS (cg11 k0) (ce k0 (by decide)) rfl 18 (by decide) (Or.inl (hts _ q890)) rfl rfl rfl (gi_mk (ir_w (lo' := 0) (hi' := 200) bx34_37 (by decide) (by decide))) dX11_readBehind_68 (fun H locs hW hS oq o2 np => ?_)
        have nh0_15 := o2 15 _ (by decide) (by decide) nh0_15
        have nh0_18 : wt_pin N.1 vwCl h0 11 18 (.int xa1) H := np
        have hV := hV.put (by decide) o2
        have hI := mI.fr.put hI k0 oq o2 (by decide) (by decide)
        refine lv_aload_n hx hb dX11_readBehind_71 rfl (lv_at hl 2 rfl) ?_
        refine lv_iload_n hx hb dX11_readBehind_72 rfl (lv_at hl 3 rfl) ?_
        refine lv_iconst (v := 1) hx hb dX11_readBehind_73 (by decide) ?_
        refine lv_iconst (v := 1) hx hb dX11_readBehind_74 (by decide) ?_
        obtain ⟨V1, hV1⟩ := kp_all hW k0
        refine cc_v (B2 := fun H => mI N h0 H ∧ kp N h0 [26, 31] V1 H) (wt_runV (As := [.int p1, .int (1 : Int32), .int (1 : Int32)]) (rest := []) ⟨hx, hb, hml, hown, hts⟩ (m_X11_comes l N h0 k0 hO V1 p1 rp1 (1 : Int32) (ir_w (lo' := 0) (hi' := 6) (ir_c (1) (by decide) : ir (1 : Int32) (1) (1)) (by decide) (by decide)) (1 : Int32) (ir_w (lo' := 0) (hi' := 6) (ir_c (1) (by decide) : ir (1 : Int32) (1) (1)) (by decide) (by decide)) (Or.inl (by have h9 := (ir_c (1) (by decide) : ir (1 : Int32) (1) (1)); omega))) wm_X11_comes q1182 ⟨rfl, rfl⟩ ⟨Nat.le_of_ble_eq_true rfl, Nat.le_of_ble_eq_true rfl⟩ (cS_preV (B := fun H => mI N h0 H ∧ kp N h0 [26, 31] V1 H) hK hW hT hnn hS (cg11 k0) rfl rfl (And.intro hI (kp_of (F := [26, 31]) hV1))) rfl hl.1 rfl (Nat.le_of_ble_eq_true rfl) dX11_readBehind_75 ⟨Nat.zero_le _, Nat.zero_le _⟩) hS (by decide) (fun H locs hW hS oq hB2 => ?_)
        obtain ⟨hI, hV2⟩ := hB2
        have hV := kp_call hV hV1 hV2 (by decide)
        have nh0_15 := kp_use hV1 hV2 (by decide) (by decide) nh0_15
        have nh0_18 := kp_use hV1 hV2 (by decide) (by decide) nh0_18
        exact W.vret hx hb hr (fun t ht _ => ⟨⟨(), rfl, trivial, cW_at ht hW, ⟨mI_at ht hI, kp_at ht hV, ⟨_, pin_at ht nh0_18, by omega⟩⟩⟩, hS.F ht⟩) hS.2.2 dX11_readBehind_78
    · have rx34_37 : ir x34 0 0 := rf_eq c37 (ir_c (0) (by decide) : ir (0 : Int32) (0) (0))
      refine lv_aload_n hx hb dX11_readBehind_40 rfl (lv_at hl 1 rfl) ?_
      refine lv_iload_n hx hb dX11_readBehind_41 rfl (lv_at hl 2 rfl) ?_
      refine lv_iconst (v := 1) hx hb dX11_readBehind_42 (by decide) ?_
      refine lv_iconst (v := 1) hx hb dX11_readBehind_43 (by decide) ?_
      obtain ⟨V1, hV1⟩ := kp_all hW k0
      refine cc_v (B2 := fun H => mI N h0 H ∧ kp N h0 [26, 31] V1 H) (wt_runV (As := [.int p1, .int (1 : Int32), .int (1 : Int32)]) (rest := []) ⟨hx, hb, hml, hown, hts⟩ (m_X11_comes l N h0 k0 hO V1 p1 rp1 (1 : Int32) (ir_w (lo' := 0) (hi' := 6) (ir_c (1) (by decide) : ir (1 : Int32) (1) (1)) (by decide) (by decide)) (1 : Int32) (ir_w (lo' := 0) (hi' := 6) (ir_c (1) (by decide) : ir (1 : Int32) (1) (1)) (by decide) (by decide)) (Or.inl (by have h9 := (ir_c (1) (by decide) : ir (1 : Int32) (1) (1)); omega))) wm_X11_comes q1182 ⟨rfl, rfl⟩ ⟨Nat.le_of_ble_eq_true rfl, Nat.le_of_ble_eq_true rfl⟩ (cS_preV (B := fun H => mI N h0 H ∧ kp N h0 [26, 31] V1 H) hK hW hT hnn hS (cg11 k0) rfl rfl (And.intro hI (kp_of (F := [26, 31]) hV1))) rfl hl.1 rfl (Nat.le_of_ble_eq_true rfl) dX11_readBehind_44 ⟨Nat.zero_le _, Nat.zero_le _⟩) hS (by decide) (fun H locs hW hS oq hB2 => ?_)
      obtain ⟨hI, hV2⟩ := hB2
      have hV := kp_call hV hV1 hV2 (by decide)
      have nh0_18 := kp_use hV1 hV2 (by decide) (by decide) nh0_18
      have nh0_15 := kp_use hV1 hV2 (by decide) (by decide) nh0_15
      exact W.vret hx hb hr (fun t ht _ => ⟨⟨(), rfl, trivial, cW_at ht hW, ⟨mI_at ht hI, kp_at ht hV, ⟨_, pin_at ht nh0_18, by omega⟩⟩⟩, hS.F ht⟩) hS.2.2 dX11_readBehind_47
  · have rx1_8 : ir x1 104 104 := rf_eq c8 (ir_c (104) (by decide) : ir (104 : Int32) (104) (104))
    refine lv_aload_n hx hb dX11_readBehind_11 rfl (lv_at hl 1 rfl) ?_
    refine lv_dup hx hb dX11_readBehind_12 rfl ?_
    refine wt_rel hx hb hts cfX11 hown hK nh0_18 rfl (by decide) (Or.inl (hts _ q890)) dX11_readBehind_13 ?_
    refine lv_iconst (v := 1) hx hb dX11_readBehind_16 (by decide) ?_
    have rb1 : ir xa1 0 199 := ⟨ra1.1, la1 (fun h => by have h9 := rx1_8; rw [h] at h9; exact absurd h9 (by decide))⟩
    refine lv_iadd hx hb dX11_readBehind_17 ?_
    refine lv_topi (fun x17 e17 => ?_)
    have t17 : x17.toInt = xa1.toInt + (1) := it_add e17 rb1 (ir_c (1) (by decide) : ir (1 : Int32) (1) (1)) (by decide) (by decide)
    have r17 : ir x17 1 200 := ir_w (ir_add e17 rb1 (ir_c (1) (by decide) : ir (1 : Int32) (1) (1)) (by decide) (by decide)) (by decide) (by decide)
    refine wt_putp hx hb hts cfX11 tyX11 tyX11_ok nmX11 hown hK hW hS (cg11 k0) (ce k0 (by decide)) rfl 18 (by decide) (Or.inl (hts _ q890)) rfl rfl rfl (gi_mk (ir_w (lo' := 0) (hi' := 200) r17 (by decide) (by decide))) dX11_readBehind_18 (fun H locs hW hS oq o2 np => ?_)
    have nh0_15 := o2 15 _ (by decide) (by decide) nh0_15
    have nh0_18 : wt_pin N.1 vwCl h0 11 18 (.int x17) H := np
    have hV := hV.put (by decide) o2
    have hI := mI.fr.put hI k0 oq o2 (by decide) (by decide)
    refine lv_aload_n hx hb dX11_readBehind_21 rfl (lv_at hl 1 rfl) ?_
    refine lv_iload_n hx hb dX11_readBehind_22 rfl (lv_at hl 2 rfl) ?_
    refine lv_iconst (v := 1) hx hb dX11_readBehind_23 (by decide) ?_
    refine lv_iconst (v := 0) hx hb dX11_readBehind_24 (by decide) ?_
    obtain ⟨V1, hV1⟩ := kp_all hW k0
    refine cc_v (B2 := fun H => mI N h0 H ∧ kp N h0 [26, 31] V1 H) (wt_runV (As := [.int p1, .int (1 : Int32), .int (0 : Int32)]) (rest := []) ⟨hx, hb, hml, hown, hts⟩ (m_X11_comes l N h0 k0 hO V1 p1 rp1 (1 : Int32) (ir_w (lo' := 0) (hi' := 6) (ir_c (1) (by decide) : ir (1 : Int32) (1) (1)) (by decide) (by decide)) (0 : Int32) (ir_w (lo' := 0) (hi' := 6) (ir_c (0) (by decide) : ir (0 : Int32) (0) (0)) (by decide) (by decide)) (Or.inl (by have h9 := (ir_c (1) (by decide) : ir (1 : Int32) (1) (1)); omega))) wm_X11_comes q1182 ⟨rfl, rfl⟩ ⟨Nat.le_of_ble_eq_true rfl, Nat.le_of_ble_eq_true rfl⟩ (cS_preV (B := fun H => mI N h0 H ∧ kp N h0 [26, 31] V1 H) hK hW hT hnn hS (cg11 k0) rfl rfl (And.intro hI (kp_of (F := [26, 31]) hV1))) rfl hl.1 rfl (Nat.le_of_ble_eq_true rfl) dX11_readBehind_25 ⟨Nat.zero_le _, Nat.zero_le _⟩) hS (by decide) (fun H locs hW hS oq hB2 => ?_)
    obtain ⟨hI, hV2⟩ := hB2
    have hV := kp_call hV hV1 hV2 (by decide)
    have nh0_15 := kp_use hV1 hV2 (by decide) (by decide) nh0_15
    have nh0_18 := kp_use hV1 hV2 (by decide) (by decide) nh0_18
    exact W.vret hx hb hr (fun t ht _ => ⟨⟨(), rfl, trivial, cW_at ht hW, ⟨mI_at ht hI, kp_at ht hV, ⟨_, pin_at ht nh0_18, by omega⟩⟩⟩, hS.F ht⟩) hS.2.2 dX11_readBehind_28
set_option maxHeartbeats 4000000 in
set_option maxRecDepth 100000 in
theorem m_X11_readOpen (l : Launch) (N : c_N) (h0 : Nat) (k0 : N.2.2.1 h0 = some 11) (hO : mOK N) (V : Nat → Value) (g18 : Int32) : cMv l yX11_readOpen cX11_readOpen 3 { frames := 3, cells := 0, slots := 0, locals := 66 } [.ref h0] N [11, 54, 55] (fun H => mI N h0 H ∧ kp N h0 [18, 19, 20, 21, 22, 29] V H ∧ wt_pin N.1 vwCl h0 11 18 (.int g18) H) (fun H => mI N h0 H ∧ kp N h0 [18, 19, 20, 21, 22, 29] V H ∧ ∃ x y : Int32, pI N h0 18 x H ∧ pI N h0 19 y H ∧ (g18.toInt < x.toInt ∨ ¬ y = 0)) := by
  refine Met.ofW (cc := cX11_readOpen) (maxL := 3) (ret := none) (by decide) rfl ?_
  intro p e s m args below meth c s₁ B hml hv
  obtain ⟨rfl, ⟨hK, hW, hT, hnn⟩, hB⟩ := hv
  obtain ⟨hI, hV, hB⟩ := hB
  have nh0_18 := hB
  have rg18 : ir g18 0 200 := gi_r (cpin_P hW (cg11 k0) rfl (by decide) nh0_18)
  have hx := B.exec
  have hb := B.bytes
  have hr := B.returns
  have hts : ∀ w ∈ lw_g, w.before _ s = true := fun w h => atoms_spec (ws := wc_ws yX11_readOpen cX11_readOpen 3 none) B.pre w (List.mem_cons_of_mem _ h)
  have hown : s.vm.findClass RX11 = some m.cls := findClass_of_methodNamed B.named
  have hlocks := B.notSynchronized
  have hS : va_S (cE N [11, 54, 55]) s.heap s.heap [] := va_S.rf
  have hl := lv_entry ([.ref h0]) (n := 3) (Nat.le_of_ble_eq_true rfl)
  rw [lg_entry_eq]
  generalize (lg_sl ([.ref h0]) ++ List.replicate (3 - (lg_sl ([.ref h0])).length) Slot.unset).toArray = ls at hl ⊢
  have hl : lv_has ls 3 [(0, .ref h0)] := hl
  refine wq_all ?_
  intro WW w1 w2
  refine lv_aload_n hx hb dX11_readOpen_0 rfl (lv_at hl 0 rfl) ?_
  obtain ⟨V1, hV1⟩ := kp_all hW k0
  refine cc_v (B2 := fun H => mI N h0 H ∧ kp N h0 [18, 21, 22] V1 H ∧ ∃ x : Int32, pI N h0 18 x H ∧ g18.toInt ≤ x.toInt) (wt_runV (As := []) (rest := []) ⟨hx, hb, hml, hown, hts⟩ (m_X11_readNumber l N h0 k0 hO V1 g18) wm_X11_readNumber q1168 ⟨rfl, rfl⟩ ⟨Nat.le_of_ble_eq_true rfl, Nat.le_of_ble_eq_true rfl⟩ (cS_preV (B := fun H => mI N h0 H ∧ kp N h0 [18, 21, 22] V1 H ∧ wt_pin N.1 vwCl h0 11 18 (.int g18) H) hK hW hT hnn hS (cg11 k0) rfl rfl (And.intro hI (And.intro (kp_of (F := [18, 21, 22]) hV1) nh0_18))) rfl hl.1 rfl (Nat.le_of_ble_eq_true rfl) dX11_readOpen_1 ⟨Nat.zero_le _, Nat.zero_le _⟩) hS (by decide) (fun H locs hW hS oq hB2 => ?_)
  obtain ⟨hI, hV2, hB2⟩ := hB2
  have hV := kp_call hV hV1 hV2 (by decide)
  obtain ⟨xx1_18, nh0_18, lm1⟩ := hB2
  have rxx1_18 : ir xx1_18 0 200 := gi_r (cpin_P hW (cg11 k0) rfl (by decide) nh0_18)
  refine lv_aload_n hx hb dX11_readOpen_4 rfl (lv_at hl 0 rfl) ?_
  refine wt_getp hx hb hts cfX11 hown hK hW (cg11 k0) rfl 21 (by decide) (Or.inl (hts _ q893)) dX11_readOpen_5 (fun v hv nh0_21 => ?_)
  obtain ⟨x5, rfl, r5⟩ : gi 0 100 v := hv
  refine lv_istore_n (lv' := [(1, .int x5), (0, .ref h0)]) hx hb dX11_readOpen_8 rfl hl (by decide) rfl (fun ls hl => ?_)
  refine lv_aload_n hx hb dX11_readOpen_9 rfl (lv_at hl 1 rfl) ?_
  refine wt_getp hx hb hts cfX11 hown hK hW (cg11 k0) rfl 22 (by decide) (Or.inl (hts _ q894)) dX11_readOpen_10 (fun v hv nh0_22 => ?_)
  obtain ⟨x10, rfl⟩ : ga v := hv
  refine lv_istore_n (lv' := [(2, .int x10), (1, .int x5), (0, .ref h0)]) hx hb dX11_readOpen_13 rfl hl (by decide) rfl (fun ls hl => ?_)
  refine lv_aload_n hx hb dX11_readOpen_14 rfl (lv_at hl 2 rfl) ?_
  obtain ⟨v, hv, nh0_15⟩ := cpin hW (cg11 k0) rfl 15 (by decide)
  obtain ⟨x15_15, rfl, r15_15⟩ : gi 0 200 v := hv
  obtain ⟨V1, hV1⟩ := kp_all hW k0
  refine cc_i2 (B2 := fun r H => mI N h0 H ∧ kp N h0 [18] V1 H ∧ ∃ x : Int32, pI N h0 18 x H ∧ ir x 0 200 ∧ xx1_18.toInt ≤ x.toInt ∧ (¬ r = -1 → x.toInt ≤ 199)) (wt_runV (As := []) (rest := []) ⟨hx, hb, hml, hown, hts⟩ (m_X11_see l N h0 k0 hO V1 x15_15 xx1_18) wm_X11_see q1140 ⟨rfl, rfl⟩ ⟨Nat.le_of_ble_eq_true rfl, Nat.le_of_ble_eq_true rfl⟩ (cS_preV (B := fun H => mI N h0 H ∧ kp N h0 [18] V1 H ∧ wt_pin N.1 vwCl h0 11 15 (.int x15_15) H ∧ wt_pin N.1 vwCl h0 11 18 (.int xx1_18) H) hK hW hT hnn hS (cg11 k0) rfl rfl (And.intro hI (And.intro (kp_of (F := [18]) hV1) (And.intro nh0_15 nh0_18)))) rfl hl.1 rfl (Nat.le_of_ble_eq_true rfl) dX11_readOpen_15 ⟨Nat.zero_le _, Nat.zero_le _⟩) hS (by decide) (fun x15 H locs hp hW hS oq hB2 => ?_)
  obtain ⟨hI, hV2, hB2⟩ := hB2
  have hV := kp_call hV hV1 hV2 (by decide)
  obtain ⟨xa15, nh0_18, ra15, lm15, la15⟩ := hB2
  have nh0_21 := kp_use hV1 hV2 (by decide) (by decide) nh0_21
  have nh0_22 := kp_use hV1 hV2 (by decide) (by decide) nh0_22
  have nh0_15 := kp_use hV1 hV2 (by decide) (by decide) nh0_15
  have r15 : ir x15 (-1) 255 := hp
  refine lv_bipush (v := 40) hx hb dX11_readOpen_18 (by decide) ?_
  refine lv_icmp_eq (tgt := 35) hx hb dX11_readOpen_20 (by decide) (fun c20 => ?_) (fun c20 => ?_)
  · have rx15_20 : ir x15 40 40 := rf_eq c20 (ir_c (40) (by decide) : ir (40 : Int32) (40) (40))
    refine lv_iload_n hx hb dX11_readOpen_35 rfl (lv_at hl 1 rfl) ?_
    refine lv_i2l hx hb dX11_readOpen_36 rfl ?_
    refine lv_topl (fun x36 e36 => ?_)
    have r36 : lr x36 0 100 := by rw [e36]; exact i2l_r r5
    have t36 : x36.toInt = x5.toInt := by rw [e36]; exact Int32.toInt_toInt64 x5
    refine lv_lconst (v := 1) hx hb dX11_readOpen_37 (by decide) ?_
    refine lv_ldc2 hx hb hown (hts _ q1053) dX11_readOpen_38 ?_
    refine cp_i (wt_runS (As := [.long x36, .long (1 : Int64), .long (9 : Int64)]) (rest := []) ⟨hx, hb, hml, hown, hts⟩ (m_X11_isIn l x36 (1 : Int64) (9 : Int64)) wm_X11_isIn q1050 ⟨rfl, rfl⟩ ⟨Nat.le_of_ble_eq_true rfl, Nat.le_of_ble_eq_true rfl⟩ pS_pre rfl hl.1 rfl (Nat.le_of_ble_eq_true rfl) dX11_readOpen_41 ⟨Nat.zero_le _, Nat.zero_le _⟩) hW hS (fun x41 H locs hp hW1 hS oq => ?_)
    have hV := hV.same hW k0 oq
    have hI := mI.fr.same hI hW oq
    have hW := hW1
    have nh0_18 := nh0_18.kept (oq _ nh0_18.lt (cE_not k0 (by decide)))
    have nh0_21 := nh0_21.kept (oq _ nh0_21.lt (cE_not k0 (by decide)))
    have nh0_22 := nh0_22.kept (oq _ nh0_22.lt (cE_not k0 (by decide)))
    have nh0_15 := nh0_15.kept (oq _ nh0_15.lt (cE_not k0 (by decide)))
    obtain ⟨r41, b41⟩ := hp
    refine lv_if_ne (tgt := 56) hx hb dX11_readOpen_44 (by decide) (fun c44 => ?_) (fun c44 => ?_)
    · have rx41_44 : ir x41 1 1 := rf_ne0 c44 r41
      have bx41_44 := b41 c44
      have rbx36_44 : lr x36 1 9 := by have h5 := bx41_44; have h6 := r36; have h7 := (lr_c (1) (by decide) : lr (1 : Int64) (1) (1)); have h8 := (lr_c (9) (by decide) : lr (9 : Int64) (9) (9)); constructor <;> omega
      have rx5_44 : ir x5 1 9 := i2l_b e36 rbx36_44
      refine lv_aload_n hx hb dX11_readOpen_56 rfl (lv_at hl 2 rfl) ?_
      refine wt_getp hx hb hts cfX11 hown hK hW (cg11 k0) rfl 29 (by decide) (Or.inl (hts _ q901)) dX11_readOpen_57 (fun v hv nh0_29 => ?_)
      obtain ⟨x57, rfl, r57⟩ : gi 0 4 v := hv
      refine lv_iconst (v := 4) hx hb dX11_readOpen_60 (by decide) ?_
      refine lv_icmp_ne (tgt := 76) hx hb dX11_readOpen_61 (by decide) (fun c61 => ?_) (fun c61 => ?_)
      · have rx57_61 : ir x57 0 3 := rf_neu c61 r57 (by decide) (by decide)
        refine lv_aload_n hx hb dX11_readOpen_76 rfl (lv_at hl 2 rfl) ?_
        refine lv_dup hx hb dX11_readOpen_77 rfl ?_
        refine wt_rel hx hb hts cfX11 hown hK nh0_18 rfl (by decide) (Or.inl (hts _ q890)) dX11_readOpen_78 ?_
        refine lv_iconst (v := 1) hx hb dX11_readOpen_81 (by decide) ?_
        have rb15 : ir xa15 0 199 := ⟨ra15.1, la15 (fun h => by have h9 := rx15_20; rw [h] at h9; exact absurd h9 (by decide))⟩
        refine lv_iadd hx hb dX11_readOpen_82 ?_
        refine lv_topi (fun x82 e82 => ?_)
        have t82 : x82.toInt = xa15.toInt + (1) := it_add e82 rb15 (ir_c (1) (by decide) : ir (1 : Int32) (1) (1)) (by decide) (by decide)
        have r82 : ir x82 1 200 := ir_w (ir_add e82 rb15 (ir_c (1) (by decide) : ir (1 : Int32) (1) (1)) (by decide) (by decide)) (by decide) (by decide)
        refine wt_putp hx hb hts cfX11 tyX11 tyX11_ok nmX11 hown hK hW hS (cg11 k0) (ce k0 (by decide)) rfl 18 (by decide) (Or.inl (hts _ q890)) rfl rfl rfl (gi_mk (ir_w (lo' := 0) (hi' := 200) r82 (by decide) (by decide))) dX11_readOpen_83 (fun H locs hW hS oq o2 np => ?_)
        have nh0_21 := o2 21 _ (by decide) (by decide) nh0_21
        have nh0_22 := o2 22 _ (by decide) (by decide) nh0_22
        have nh0_15 := o2 15 _ (by decide) (by decide) nh0_15
        have nh0_29 := o2 29 _ (by decide) (by decide) nh0_29
        have nh0_18 : wt_pin N.1 vwCl h0 11 18 (.int x82) H := np
        have hV := hV.put (by decide) o2
        have hI := mI.fr.put hI k0 oq o2 (by decide) (by decide)
        refine lv_aload_n hx hb dX11_readOpen_86 rfl (lv_at hl 2 rfl) ?_
        refine wt_get hx hb hts cfX11 hown hK hW (cg11 k0) rfl 27 (by decide) q899 dX11_readOpen_87 (fun v hv => ?_)
        obtain ⟨x87, rfl, k87⟩ : gr N 54 v := hv
        refine lv_aload_n hx hb dX11_readOpen_90 rfl (lv_at hl 2 rfl) ?_
        refine wt_rel hx hb hts cfX11 hown hK nh0_29 rfl (by decide) (Or.inl (hts _ q901)) dX11_readOpen_91 ?_
        refine lv_iload_n hx hb dX11_readOpen_94 rfl (lv_at hl 1 rfl) ?_
        refine wt_iastp hx hb hK hW hS 0 (cg54 k87) (ce k87 (by decide)) rfl (ir_in rx57_61 (by decide) (by decide)) (gi_mk (ir_w (lo' := 0) (hi' := 9) rx5_44 (by decide) (by decide))) dX11_readOpen_95 (fun H locs hW hS oq => ?_)
        have nh0_21 := nh0_21.kept (oq _ (ne_kind k0 k87 (by decide)))
        have nh0_22 := nh0_22.kept (oq _ (ne_kind k0 k87 (by decide)))
        have nh0_15 := nh0_15.kept (oq _ (ne_kind k0 k87 (by decide)))
        have nh0_29 := nh0_29.kept (oq _ (ne_kind k0 k87 (by decide)))
        have nh0_18 := nh0_18.kept (oq _ (ne_kind k0 k87 (by decide)))
        have hV := hV.keep (oq _ (ne_kind k0 k87 (by decide)))
        have hI := mI.fr.arr hI k0 k87 oq (by decide) (by decide)
        obtain ⟨v, hv, nh0_26⟩ := cpin hW (cg11 k0) rfl 26 (by decide)
        obtain ⟨xp26_4, rfl, rp26_4⟩ : gi 0 100000 v := hv
        obtain ⟨v, hv, nh0_31⟩ := cpin hW (cg11 k0) rfl 31 (by decide)
        obtain ⟨xp31_5, rfl, rp31_5⟩ : gi (-1) 200 v := hv
        have hrel := QB_rel hI.2.2.2.1 nh0_26 nh0_31
        have hBa := QB_aB hI.2.2.2.1 nh0_26 nh0_29
        refine lv_aload_n hx hb dX11_readOpen_96 rfl (lv_at hl 2 rfl) ?_
        refine wt_get hx hb hts cfX11 hown hK hW (cg11 k0) rfl 28 (by decide) q900 dX11_readOpen_97 (fun v hv => ?_)
        obtain ⟨x97, rfl, k97⟩ : gr N 55 v := hv
        refine lv_aload_n hx hb dX11_readOpen_100 rfl (lv_at hl 2 rfl) ?_
        refine wt_rel hx hb hts cfX11 hown hK nh0_29 rfl (by decide) (Or.inl (hts _ q901)) dX11_readOpen_101 ?_
        refine lv_aload_n hx hb dX11_readOpen_104 rfl (lv_at hl 2 rfl) ?_
        refine wt_rel hx hb hts cfX11 hown hK nh0_26 rfl (by decide) (Or.inl (hts _ q898)) dX11_readOpen_105 ?_
        obtain ⟨fr108, hfr108⟩ := row_exi hW (cg55 k97)
        refine wt_iastx hx hb hK hW hS 0 (cg55 k97) (ce k97 (by decide)) rfl (ir_in rx57_61 (by decide) (by decide)) (gi_mk rp26_4) dX11_readOpen_108 (fun H locs hW hS oq hat => ?_)
        have nh0_21 := nh0_21.kept (oq _ (ne_kind k0 k97 (by decide)))
        have nh0_22 := nh0_22.kept (oq _ (ne_kind k0 k97 (by decide)))
        have nh0_15 := nh0_15.kept (oq _ (ne_kind k0 k97 (by decide)))
        have nh0_29 := nh0_29.kept (oq _ (ne_kind k0 k97 (by decide)))
        have nh0_18 := nh0_18.kept (oq _ (ne_kind k0 k97 (by decide)))
        have nh0_26 := nh0_26.kept (oq _ (ne_kind k0 k97 (by decide)))
        have nh0_31 := nh0_31.kept (oq _ (ne_kind k0 k97 (by decide)))
        have aps108 := ap_of (hat _ hfr108)
        have hV := hV.keep (oq _ (ne_kind k0 k97 (by decide)))
        obtain ⟨iL, iP, iR, iB, iM⟩ := hI
        have iL := QL.fr.arr iL k0 k97 oq (by decide) (by decide)
        have iP := QP.fr.arr iP k0 k97 oq (by decide) (by decide)
        have iR := QR.fr.arr iR k0 k97 oq (by decide) (by decide)
        have iM := QM.fr.arr iM k0 k97 oq (by decide) (by decide)
        have hBa := hBa.st hO k97 hfr108 (hat _ hfr108) rx57_61 (by decide) rfl (Int.le_refl _)
        refine lv_aload_n hx hb dX11_readOpen_109 rfl (lv_at hl 2 rfl) ?_
        refine lv_dup hx hb dX11_readOpen_110 rfl ?_
        refine wt_rel hx hb hts cfX11 hown hK nh0_29 rfl (by decide) (Or.inl (hts _ q901)) dX11_readOpen_111 ?_
        refine lv_iconst (v := 1) hx hb dX11_readOpen_114 (by decide) ?_
        refine lv_iadd hx hb dX11_readOpen_115 ?_
        refine lv_topi (fun x115 e115 => ?_)
        have t115 : x115.toInt = x57.toInt + (1) := it_add e115 rx57_61 (ir_c (1) (by decide) : ir (1 : Int32) (1) (1)) (by decide) (by decide)
        have r115 : ir x115 1 4 := ir_w (ir_add e115 rx57_61 (ir_c (1) (by decide) : ir (1 : Int32) (1) (1)) (by decide) (by decide)) (by decide) (by decide)
        refine wt_putp hx hb hts cfX11 tyX11 tyX11_ok nmX11 hown hK hW hS (cg11 k0) (ce k0 (by decide)) rfl 29 (by decide) (Or.inl (hts _ q901)) rfl rfl rfl (gi_mk (ir_w (lo' := 0) (hi' := 4) r115 (by decide) (by decide))) dX11_readOpen_116 (fun H locs hW hS oq o2 np => ?_)
        have nh0_21 := o2 21 _ (by decide) (by decide) nh0_21
        have nh0_22 := o2 22 _ (by decide) (by decide) nh0_22
        have nh0_15 := o2 15 _ (by decide) (by decide) nh0_15
        have nh0_18 := o2 18 _ (by decide) (by decide) nh0_18
        have nh0_26 := o2 26 _ (by decide) (by decide) nh0_26
        have nh0_31 := o2 31 _ (by decide) (by decide) nh0_31
        have aps108 := aps108.kept (oq _ (ne_kind k97 k0 (by decide)))
        have nh0_29 : wt_pin N.1 vwCl h0 11 29 (.int x115) H := np
        have hV := hV.put (by decide) o2
        have hBa := hBa.fr k0 oq (by decide)
        have iL := QL.fr.put iL k0 oq o2 (by decide) (by decide)
        have iP := QP.fr.put iP k0 oq o2 (by decide) (by decide)
        have iR := QR.fr.put iR k0 oq o2 (by decide) (by decide)
        have iM := QM.fr.put iM k0 oq o2 (by decide) (by decide)
        have iB : QB N h0 H := QB_mk nh0_26 nh0_29 nh0_31 hrel (hBa.mono (Int.le_refl _) (by omega))
        have hI : mI N h0 H := ⟨iL, iP, iR, iB, iM⟩
        obtain ⟨v, hv, nh0_19⟩ := cpin hW (cg11 k0) rfl 19 (by decide)
        obtain ⟨xp19_6, rfl⟩ : ga v := hv
        exact W.vret hx hb hr (fun t ht _ => ⟨⟨(), rfl, trivial, cW_at ht hW, ⟨mI_at ht hI, kp_at ht hV, ⟨_, _, pin_at ht nh0_18, pin_at ht nh0_19, Or.inl (by omega)⟩⟩⟩, hS.F ht⟩) hS.2.2 dX11_readOpen_119
      · have rx57_61 : ir x57 4 4 := rf_eq c61 (ir_c (4) (by decide) : ir (4 : Int32) (4) (4))
        refine lv_aload_n hx hb dX11_readOpen_64 rfl (lv_at hl 2 rfl) ?_
        refine lv_iconst (v := 3) hx hb dX11_readOpen_65 (by decide) ?_
        refine lv_aload_n hx hb dX11_readOpen_66 rfl (lv_at hl 2 rfl) ?_
        refine wt_rel hx hb hts cfX11 hown hK nh0_18 rfl (by decide) (Or.inl (hts _ q890)) dX11_readOpen_67 ?_
        obtain ⟨V1, hV1⟩ := kp_all hW k0
        refine cc_v (B2 := fun H => mI N h0 H ∧ kp N h0 [19, 20] V1 H ∧ ∃ y : Int32, pI N h0 19 y H ∧ ¬ y = 0) (wt_runV (As := [.int (3 : Int32), .int xa15]) (rest := []) ⟨hx, hb, hml, hown, hts⟩ (m_X11_fails l N h0 k0 hO V1 (3 : Int32) xa15 (by decide)) wm_X11_fails q1172 ⟨rfl, rfl⟩ ⟨Nat.le_of_ble_eq_true rfl, Nat.le_of_ble_eq_true rfl⟩ (cS_preV (B := fun H => mI N h0 H ∧ kp N h0 [19, 20] V1 H) hK hW hT hnn hS (cg11 k0) rfl rfl (And.intro hI (kp_of (F := [19, 20]) hV1))) rfl hl.1 rfl (Nat.le_of_ble_eq_true rfl) dX11_readOpen_70 ⟨Nat.zero_le _, Nat.zero_le _⟩) hS (by decide) (fun H locs hW hS oq hB2 => ?_)
        obtain ⟨hI, hV2, hB2⟩ := hB2
        have hV := kp_call hV hV1 hV2 (by decide)
        obtain ⟨xx70_19, nh0_19, hbad70⟩ := hB2
        have nh0_18 := kp_use hV1 hV2 (by decide) (by decide) nh0_18
        have nh0_21 := kp_use hV1 hV2 (by decide) (by decide) nh0_21
        have nh0_22 := kp_use hV1 hV2 (by decide) (by decide) nh0_22
        have nh0_15 := kp_use hV1 hV2 (by decide) (by decide) nh0_15
        have nh0_29 := kp_use hV1 hV2 (by decide) (by decide) nh0_29
        refine lv_goto (tgt := 119) hx hb dX11_readOpen_73 (by decide) ?_
        exact W.vret hx hb hr (fun t ht _ => ⟨⟨(), rfl, trivial, cW_at ht hW, ⟨mI_at ht hI, kp_at ht hV, ⟨_, _, pin_at ht nh0_18, pin_at ht nh0_19, Or.inr hbad70⟩⟩⟩, hS.F ht⟩) hS.2.2 dX11_readOpen_119
    · have rx41_44 : ir x41 0 0 := rf_eq c44 (ir_c (0) (by decide) : ir (0 : Int32) (0) (0))
      refine lv_aload_n hx hb dX11_readOpen_47 rfl (lv_at hl 2 rfl) ?_
      refine lv_iconst (v := 2) hx hb dX11_readOpen_48 (by decide) ?_
      refine lv_iload_n hx hb dX11_readOpen_49 rfl (lv_at hl 0 rfl) ?_
      obtain ⟨V1, hV1⟩ := kp_all hW k0
      refine cc_v (B2 := fun H => mI N h0 H ∧ kp N h0 [19, 20] V1 H ∧ ∃ y : Int32, pI N h0 19 y H ∧ ¬ y = 0) (wt_runV (As := [.int (2 : Int32), .int x10]) (rest := []) ⟨hx, hb, hml, hown, hts⟩ (m_X11_fails l N h0 k0 hO V1 (2 : Int32) x10 (by decide)) wm_X11_fails q1172 ⟨rfl, rfl⟩ ⟨Nat.le_of_ble_eq_true rfl, Nat.le_of_ble_eq_true rfl⟩ (cS_preV (B := fun H => mI N h0 H ∧ kp N h0 [19, 20] V1 H) hK hW hT hnn hS (cg11 k0) rfl rfl (And.intro hI (kp_of (F := [19, 20]) hV1))) rfl hl.1 rfl (Nat.le_of_ble_eq_true rfl) dX11_readOpen_50 ⟨Nat.zero_le _, Nat.zero_le _⟩) hS (by decide) (fun H locs hW hS oq hB2 => ?_)
      obtain ⟨hI, hV2, hB2⟩ := hB2
      have hV := kp_call hV hV1 hV2 (by decide)
      obtain ⟨xx50_19, nh0_19, hbad50⟩ := hB2
      have nh0_18 := kp_use hV1 hV2 (by decide) (by decide) nh0_18
      have nh0_21 := kp_use hV1 hV2 (by decide) (by decide) nh0_21
      have nh0_22 := kp_use hV1 hV2 (by decide) (by decide) nh0_22
      have nh0_15 := kp_use hV1 hV2 (by decide) (by decide) nh0_15
      refine lv_goto (tgt := 119) hx hb dX11_readOpen_53 (by decide) ?_
      exact W.vret hx hb hr (fun t ht _ => ⟨⟨(), rfl, trivial, cW_at ht hW, ⟨mI_at ht hI, kp_at ht hV, ⟨_, _, pin_at ht nh0_18, pin_at ht nh0_19, Or.inr hbad50⟩⟩⟩, hS.F ht⟩) hS.2.2 dX11_readOpen_119
  · refine lv_aload_n hx hb dX11_readOpen_23 rfl (lv_at hl 2 rfl) ?_
    refine lv_iconst (v := 1) hx hb dX11_readOpen_24 (by decide) ?_
    refine lv_aload_n hx hb dX11_readOpen_25 rfl (lv_at hl 2 rfl) ?_
    refine wt_rel hx hb hts cfX11 hown hK nh0_18 rfl (by decide) (Or.inl (hts _ q890)) dX11_readOpen_26 ?_
    obtain ⟨V1, hV1⟩ := kp_all hW k0
    refine cc_v (B2 := fun H => mI N h0 H ∧ kp N h0 [19, 20] V1 H ∧ ∃ y : Int32, pI N h0 19 y H ∧ ¬ y = 0) (wt_runV (As := [.int (1 : Int32), .int xa15]) (rest := []) ⟨hx, hb, hml, hown, hts⟩ (m_X11_fails l N h0 k0 hO V1 (1 : Int32) xa15 (by decide)) wm_X11_fails q1172 ⟨rfl, rfl⟩ ⟨Nat.le_of_ble_eq_true rfl, Nat.le_of_ble_eq_true rfl⟩ (cS_preV (B := fun H => mI N h0 H ∧ kp N h0 [19, 20] V1 H) hK hW hT hnn hS (cg11 k0) rfl rfl (And.intro hI (kp_of (F := [19, 20]) hV1))) rfl hl.1 rfl (Nat.le_of_ble_eq_true rfl) dX11_readOpen_29 ⟨Nat.zero_le _, Nat.zero_le _⟩) hS (by decide) (fun H locs hW hS oq hB2 => ?_)
    obtain ⟨hI, hV2, hB2⟩ := hB2
    have hV := kp_call hV hV1 hV2 (by decide)
    obtain ⟨xx29_19, nh0_19, hbad29⟩ := hB2
    have nh0_18 := kp_use hV1 hV2 (by decide) (by decide) nh0_18
    have nh0_21 := kp_use hV1 hV2 (by decide) (by decide) nh0_21
    have nh0_22 := kp_use hV1 hV2 (by decide) (by decide) nh0_22
    have nh0_15 := kp_use hV1 hV2 (by decide) (by decide) nh0_15
    refine lv_goto (tgt := 119) hx hb dX11_readOpen_32 (by decide) ?_
    exact W.vret hx hb hr (fun t ht _ => ⟨⟨(), rfl, trivial, cW_at ht hW, ⟨mI_at ht hI, kp_at ht hV, ⟨_, _, pin_at ht nh0_18, pin_at ht nh0_19, Or.inr hbad29⟩⟩⟩, hS.F ht⟩) hS.2.2 dX11_readOpen_119
set_option maxHeartbeats 4000000 in
set_option maxRecDepth 100000 in
theorem m_X11_readItem (l : Launch) (N : c_N) (h0 : Nat) (k0 : N.2.2.1 h0 = some 11) (hO : mOK N) (V : Nat → Value) (g18 : Int32) : cMv l yX11_readItem cX11_readItem 2 { frames := 4, cells := 0, slots := 0, locals := 91 } [.ref h0] N [11, 51, 52, 53, 54, 55] (fun H => mI N h0 H ∧ kp N h0 [18, 19, 20, 21, 22, 26, 29, 30, 31] V H ∧ wt_pin N.1 vwCl h0 11 18 (.int g18) H) (fun H => mI N h0 H ∧ kp N h0 [18, 19, 20, 21, 22, 26, 29, 30, 31] V H ∧ ∃ x y : Int32, pI N h0 18 x H ∧ pI N h0 19 y H ∧ (g18.toInt < x.toInt ∨ ¬ y = 0)) := by
  refine Met.ofW (cc := cX11_readItem) (maxL := 2) (ret := none) (by decide) rfl ?_
  intro p e s m args below meth c s₁ B hml hv
  obtain ⟨rfl, ⟨hK, hW, hT, hnn⟩, hB⟩ := hv
  obtain ⟨hI, hV, hB⟩ := hB
  have nh0_18 := hB
  have rg18 : ir g18 0 200 := gi_r (cpin_P hW (cg11 k0) rfl (by decide) nh0_18)
  have hx := B.exec
  have hb := B.bytes
  have hr := B.returns
  have hts : ∀ w ∈ lw_g, w.before _ s = true := fun w h => atoms_spec (ws := wc_ws yX11_readItem cX11_readItem 2 none) B.pre w (List.mem_cons_of_mem _ h)
  have hown : s.vm.findClass RX11 = some m.cls := findClass_of_methodNamed B.named
  have hlocks := B.notSynchronized
  have hS : va_S (cE N [11, 51, 52, 53, 54, 55]) s.heap s.heap [] := va_S.rf
  have hl := lv_entry ([.ref h0]) (n := 2) (Nat.le_of_ble_eq_true rfl)
  rw [lg_entry_eq]
  generalize (lg_sl ([.ref h0]) ++ List.replicate (2 - (lg_sl ([.ref h0])).length) Slot.unset).toArray = ls at hl ⊢
  have hl : lv_has ls 2 [(0, .ref h0)] := hl
  refine wq_all ?_
  intro WW w1 w2
  refine lv_aload_n hx hb dX11_readItem_0 rfl (lv_at hl 0 rfl) ?_
  obtain ⟨v, hv, nh0_15⟩ := cpin hW (cg11 k0) rfl 15 (by decide)
  obtain ⟨x1_15, rfl, r1_15⟩ : gi 0 200 v := hv
  obtain ⟨V1, hV1⟩ := kp_all hW k0
  refine cc_i2 (B2 := fun r H => mI N h0 H ∧ kp N h0 [18] V1 H ∧ ∃ x : Int32, pI N h0 18 x H ∧ ir x 0 200 ∧ g18.toInt ≤ x.toInt ∧ (¬ r = -1 → x.toInt ≤ 199)) (wt_runV (As := []) (rest := []) ⟨hx, hb, hml, hown, hts⟩ (m_X11_see l N h0 k0 hO V1 x1_15 g18) wm_X11_see q1140 ⟨rfl, rfl⟩ ⟨Nat.le_of_ble_eq_true rfl, Nat.le_of_ble_eq_true rfl⟩ (cS_preV (B := fun H => mI N h0 H ∧ kp N h0 [18] V1 H ∧ wt_pin N.1 vwCl h0 11 15 (.int x1_15) H ∧ wt_pin N.1 vwCl h0 11 18 (.int g18) H) hK hW hT hnn hS (cg11 k0) rfl rfl (And.intro hI (And.intro (kp_of (F := [18]) hV1) (And.intro nh0_15 nh0_18)))) rfl hl.1 rfl (Nat.le_of_ble_eq_true rfl) dX11_readItem_1 ⟨Nat.zero_le _, Nat.zero_le _⟩) hS (by decide) (fun x1 H locs hp hW hS oq hB2 => ?_)
  obtain ⟨hI, hV2, hB2⟩ := hB2
  have hV := kp_call hV hV1 hV2 (by decide)
  obtain ⟨xa1, nh0_18, ra1, lm1, la1⟩ := hB2
  have nh0_15 := kp_use hV1 hV2 (by decide) (by decide) nh0_15
  have r1 : ir x1 (-1) 255 := hp
  refine lv_istore_n (lv' := [(1, .int x1), (0, .ref h0)]) hx hb dX11_readItem_4 rfl hl (by decide) rfl (fun ls hl => ?_)
  refine lv_aload_n hx hb dX11_readItem_5 rfl (lv_at hl 1 rfl) ?_
  refine wt_getp hx hb hts cfX11 hown hK hW (cg11 k0) rfl 29 (by decide) (Or.inl (hts _ q901)) dX11_readItem_6 (fun v hv nh0_29 => ?_)
  obtain ⟨x6, rfl, r6⟩ : gi 0 4 v := hv
  refine lv_if_ne (tgt := 20) hx hb dX11_readItem_9 (by decide) (fun c9 => ?_) (fun c9 => ?_)
  · have rx6_9 : ir x6 1 4 := rf_ne0 c9 r6
    refine lv_iload_n hx hb dX11_readItem_20 rfl (lv_at hl 0 rfl) ?_
    refine lv_bipush (v := 41) hx hb dX11_readItem_21 (by decide) ?_
    refine lv_icmp_ne (tgt := 50) hx hb dX11_readItem_23 (by decide) (fun c23 => ?_) (fun c23 => ?_)
    · refine lv_aload_n hx hb dX11_readItem_50 rfl (lv_at hl 1 rfl) ?_
      refine lv_aload_n hx hb dX11_readItem_51 rfl (lv_at hl 1 rfl) ?_
      refine wt_rel hx hb hts cfX11 hown hK nh0_18 rfl (by decide) (Or.inl (hts _ q890)) dX11_readItem_52 ?_
      obtain ⟨V1, hV1⟩ := kp_all hW k0
      refine cc_i2 (B2 := fun r H => mI N h0 H ∧ kp N h0 [] V1 H ∧ (¬ r = 0 → ∀ aT : Nat, N.2.2.1 aT = some 50 → ∃ x : Int32, wt_ap (N.2.1 0) 200 aT xa1.toNatClampNeg (.int x) H ∧ ir x 48 57)) (wt_runV (As := [.int xa1]) (rest := []) ⟨hx, hb, hml, hown, hts⟩ (m_X11_isDigit l N h0 k0 hO V1 xa1 ra1) wm_X11_isDigit q1158 ⟨rfl, rfl⟩ ⟨Nat.le_of_ble_eq_true rfl, Nat.le_of_ble_eq_true rfl⟩ (cS_preV (B := fun H => mI N h0 H ∧ kp N h0 [] V1 H) hK hW hT hnn hS (cg11 k0) rfl rfl (And.intro hI (kp_of (F := []) hV1))) rfl hl.1 rfl (Nat.le_of_ble_eq_true rfl) dX11_readItem_55 ⟨Nat.zero_le _, Nat.zero_le _⟩) hS (by decide) (fun x55 H locs hp hW hS oq hB2 => ?_)
      obtain ⟨hI, hV2, hB2⟩ := hB2
      have hV := kp_call hV hV1 hV2 (by decide)
      have hq55 := hB2
      have nh0_18 := kp_use hV1 hV2 (by decide) (by decide) nh0_18
      have nh0_15 := kp_use hV1 hV2 (by decide) (by decide) nh0_15
      have nh0_29 := kp_use hV1 hV2 (by decide) (by decide) nh0_29
      obtain ⟨r55, b55⟩ := hp
      refine lv_if_eq (tgt := 68) hx hb dX11_readItem_58 (by decide) (fun c58 => ?_) (fun c58 => ?_)
      · have rx55_58 : ir x55 0 0 := rf_eq c58 (ir_c (0) (by decide) : ir (0 : Int32) (0) (0))
        refine lv_iload_n hx hb dX11_readItem_68 rfl (lv_at hl 0 rfl) ?_
        refine lv_i2l hx hb dX11_readItem_69 rfl ?_
        refine lv_topl (fun x69 e69 => ?_)
        have r69 : lr x69 (-1) 255 := by rw [e69]; exact i2l_r r1
        have t69 : x69.toInt = x1.toInt := by rw [e69]; exact Int32.toInt_toInt64 x1
        refine lv_ldc2 hx hb hown (hts _ q1176) dX11_readItem_70 ?_
        refine lv_ldc2 hx hb hown (hts _ q1177) dX11_readItem_73 ?_
        refine cp_i (wt_runS (As := [.long x69, .long (65 : Int64), .long (70 : Int64)]) (rest := []) ⟨hx, hb, hml, hown, hts⟩ (m_X11_isIn l x69 (65 : Int64) (70 : Int64)) wm_X11_isIn q1050 ⟨rfl, rfl⟩ ⟨Nat.le_of_ble_eq_true rfl, Nat.le_of_ble_eq_true rfl⟩ pS_pre rfl hl.1 rfl (Nat.le_of_ble_eq_true rfl) dX11_readItem_76 ⟨Nat.zero_le _, Nat.zero_le _⟩) hW hS (fun x76 H locs hp hW1 hS oq => ?_)
        have hV := hV.same hW k0 oq
        have hI := mI.fr.same hI hW oq
        have hW := hW1
        have nh0_18 := nh0_18.kept (oq _ nh0_18.lt (cE_not k0 (by decide)))
        have nh0_15 := nh0_15.kept (oq _ nh0_15.lt (cE_not k0 (by decide)))
        have nh0_29 := nh0_29.kept (oq _ nh0_29.lt (cE_not k0 (by decide)))
        obtain ⟨r76, b76⟩ := hp
        refine lv_if_eq (tgt := 103) hx hb dX11_readItem_79 (by decide) (fun c79 => ?_) (fun c79 => ?_)
        · have rx76_79 : ir x76 0 0 := rf_eq c79 (ir_c (0) (by decide) : ir (0 : Int32) (0) (0))
          refine lv_aload_n hx hb dX11_readItem_103 rfl (lv_at hl 1 rfl) ?_
          refine lv_iconst (v := 1) hx hb dX11_readItem_104 (by decide) ?_
          refine lv_aload_n hx hb dX11_readItem_105 rfl (lv_at hl 1 rfl) ?_
          refine wt_rel hx hb hts cfX11 hown hK nh0_18 rfl (by decide) (Or.inl (hts _ q890)) dX11_readItem_106 ?_
          obtain ⟨V1, hV1⟩ := kp_all hW k0
          refine cc_v (B2 := fun H => mI N h0 H ∧ kp N h0 [19, 20] V1 H ∧ ∃ y : Int32, pI N h0 19 y H ∧ ¬ y = 0) (wt_runV (As := [.int (1 : Int32), .int xa1]) (rest := []) ⟨hx, hb, hml, hown, hts⟩ (m_X11_fails l N h0 k0 hO V1 (1 : Int32) xa1 (by decide)) wm_X11_fails q1172 ⟨rfl, rfl⟩ ⟨Nat.le_of_ble_eq_true rfl, Nat.le_of_ble_eq_true rfl⟩ (cS_preV (B := fun H => mI N h0 H ∧ kp N h0 [19, 20] V1 H) hK hW hT hnn hS (cg11 k0) rfl rfl (And.intro hI (kp_of (F := [19, 20]) hV1))) rfl hl.1 rfl (Nat.le_of_ble_eq_true rfl) dX11_readItem_109 ⟨Nat.zero_le _, Nat.zero_le _⟩) hS (by decide) (fun H locs hW hS oq hB2 => ?_)
          obtain ⟨hI, hV2, hB2⟩ := hB2
          have hV := kp_call hV hV1 hV2 (by decide)
          obtain ⟨xx109_19, nh0_19, hbad109⟩ := hB2
          have nh0_18 := kp_use hV1 hV2 (by decide) (by decide) nh0_18
          have nh0_15 := kp_use hV1 hV2 (by decide) (by decide) nh0_15
          have nh0_29 := kp_use hV1 hV2 (by decide) (by decide) nh0_29
          exact W.vret hx hb hr (fun t ht _ => ⟨⟨(), rfl, trivial, cW_at ht hW, ⟨mI_at ht hI, kp_at ht hV, ⟨_, _, pin_at ht nh0_18, pin_at ht nh0_19, Or.inr hbad109⟩⟩⟩, hS.F ht⟩) hS.2.2 dX11_readItem_112
        · have rx76_79 : ir x76 1 1 := rf_ne0 c79 r76
          have bx76_79 := b76 c79
          have rbx69_79 : lr x69 65 70 := by have h5 := bx76_79; have h6 := r69; have h7 := (lr_c (65) (by decide) : lr (65 : Int64) (65) (65)); have h8 := (lr_c (70) (by decide) : lr (70 : Int64) (70) (70)); constructor <;> omega
          have rx1_79 : ir x1 65 70 := i2l_b e69 rbx69_79
          refine lv_aload_n hx hb dX11_readItem_82 rfl (lv_at hl 1 rfl) ?_
          refine lv_dup hx hb dX11_readItem_83 rfl ?_
          refine wt_rel hx hb hts cfX11 hown hK nh0_18 rfl (by decide) (Or.inl (hts _ q890)) dX11_readItem_84 ?_
          refine lv_iconst (v := 1) hx hb dX11_readItem_87 (by decide) ?_
          have rb1 : ir xa1 0 199 := ⟨ra1.1, la1 (fun h => by have h9 := rx1_79; rw [h] at h9; exact absurd h9 (by decide))⟩
          refine lv_iadd hx hb dX11_readItem_88 ?_
          refine lv_topi (fun x88 e88 => ?_)
          have t88 : x88.toInt = xa1.toInt + (1) := it_add e88 rb1 (ir_c (1) (by decide) : ir (1 : Int32) (1) (1)) (by decide) (by decide)
          have r88 : ir x88 1 200 := ir_w (ir_add e88 rb1 (ir_c (1) (by decide) : ir (1 : Int32) (1) (1)) (by decide) (by decide)) (by decide) (by decide)
          refine wt_putp hx hb hts cfX11 tyX11 tyX11_ok nmX11 hown hK hW hS (cg11 k0) (ce k0 (by decide)) rfl 18 (by decide) (Or.inl (hts _ q890)) rfl rfl rfl (gi_mk (ir_w (lo' := 0) (hi' := 200) r88 (by decide) (by decide))) dX11_readItem_89 (fun H locs hW hS oq o2 np => ?_)
          have nh0_15 := o2 15 _ (by decide) (by decide) nh0_15
          have nh0_29 := o2 29 _ (by decide) (by decide) nh0_29
          have nh0_18 : wt_pin N.1 vwCl h0 11 18 (.int x88) H := np
          have hV := hV.put (by decide) o2
          have hI := mI.fr.put hI k0 oq o2 (by decide) (by decide)
          refine lv_aload_n hx hb dX11_readItem_92 rfl (lv_at hl 1 rfl) ?_
          refine lv_iload_n hx hb dX11_readItem_93 rfl (lv_at hl 0 rfl) ?_
          refine lv_bipush (v := 65) hx hb dX11_readItem_94 (by decide) ?_
          refine lv_isub hx hb dX11_readItem_96 ?_
          refine lv_topi (fun x96 e96 => ?_)
          have t96 : x96.toInt = x1.toInt - (65) := it_sub e96 rx1_79 (ir_c (65) (by decide) : ir (65 : Int32) (65) (65)) (by decide) (by decide)
          have r96 : ir x96 0 5 := ir_w (ir_sub e96 rx1_79 (ir_c (65) (by decide) : ir (65 : Int32) (65) (65)) (by decide) (by decide)) (by decide) (by decide)
          obtain ⟨V1, hV1⟩ := kp_all hW k0
          refine cc_v (B2 := fun H => mI N h0 H ∧ kp N h0 [18, 19, 20, 21, 22, 26, 31] V1 H ∧ ∃ x : Int32, pI N h0 18 x H ∧ x88.toInt ≤ x.toInt) (wt_runV (As := [.int x96]) (rest := []) ⟨hx, hb, hml, hown, hts⟩ (m_X11_readBehind l N h0 k0 hO V1 x96 r96 x88) wm_X11_readBehind q1178 ⟨rfl, rfl⟩ ⟨Nat.le_of_ble_eq_true rfl, Nat.le_of_ble_eq_true rfl⟩ (cS_preV (B := fun H => mI N h0 H ∧ kp N h0 [18, 19, 20, 21, 22, 26, 31] V1 H ∧ wt_pin N.1 vwCl h0 11 18 (.int x88) H) hK hW hT hnn hS (cg11 k0) rfl rfl (And.intro hI (And.intro (kp_of (F := [18, 19, 20, 21, 22, 26, 31]) hV1) nh0_18))) rfl hl.1 rfl (Nat.le_of_ble_eq_true rfl) dX11_readItem_97 ⟨Nat.zero_le _, Nat.zero_le _⟩) hS (by decide) (fun H locs hW hS oq hB2 => ?_)
          obtain ⟨hI, hV2, hB2⟩ := hB2
          have hV := kp_call hV hV1 hV2 (by decide)
          obtain ⟨xx97_18, nh0_18, lm97⟩ := hB2
          have rxx97_18 : ir xx97_18 0 200 := gi_r (cpin_P hW (cg11 k0) rfl (by decide) nh0_18)
          have nh0_15 := kp_use hV1 hV2 (by decide) (by decide) nh0_15
          have nh0_29 := kp_use hV1 hV2 (by decide) (by decide) nh0_29
          refine lv_goto (tgt := 112) hx hb dX11_readItem_100 (by decide) ?_
          obtain ⟨v, hv, nh0_19⟩ := cpin hW (cg11 k0) rfl 19 (by decide)
          obtain ⟨xp19_4, rfl⟩ : ga v := hv
          exact W.vret hx hb hr (fun t ht _ => ⟨⟨(), rfl, trivial, cW_at ht hW, ⟨mI_at ht hI, kp_at ht hV, ⟨_, _, pin_at ht nh0_18, pin_at ht nh0_19, Or.inl (by omega)⟩⟩⟩, hS.F ht⟩) hS.2.2 dX11_readItem_112
      · have rx55_58 : ir x55 1 1 := rf_ne0 c58 r55
        have bx55_58 := b55 c58
        refine lv_aload_n hx hb dX11_readItem_61 rfl (lv_at hl 1 rfl) ?_
        obtain ⟨V1, hV1⟩ := kp_all hW k0
        refine cc_v (B2 := fun H => mI N h0 H ∧ kp N h0 [18, 19, 20, 21, 22, 29] V1 H ∧ ∃ x y : Int32, pI N h0 18 x H ∧ pI N h0 19 y H ∧ (xa1.toInt < x.toInt ∨ ¬ y = 0)) (wt_runV (As := []) (rest := []) ⟨hx, hb, hml, hown, hts⟩ (m_X11_readOpen l N h0 k0 hO V1 xa1) wm_X11_readOpen q1164 ⟨rfl, rfl⟩ ⟨Nat.le_of_ble_eq_true rfl, Nat.le_of_ble_eq_true rfl⟩ (cS_preV (B := fun H => mI N h0 H ∧ kp N h0 [18, 19, 20, 21, 22, 29] V1 H ∧ wt_pin N.1 vwCl h0 11 18 (.int xa1) H) hK hW hT hnn hS (cg11 k0) rfl rfl (And.intro hI (And.intro (kp_of (F := [18, 19, 20, 21, 22, 29]) hV1) nh0_18))) rfl hl.1 rfl (Nat.le_of_ble_eq_true rfl) dX11_readItem_62 ⟨Nat.zero_le _, Nat.zero_le _⟩) hS (by decide) (fun H locs hW hS oq hB2 => ?_)
        obtain ⟨hI, hV2, hB2⟩ := hB2
        have hV := kp_call hV hV1 hV2 (by decide)
        obtain ⟨xx62_18, xx62_19, nh0_18, nh0_19, hd62⟩ := hB2
        have rxx62_18 : ir xx62_18 0 200 := gi_r (cpin_P hW (cg11 k0) rfl (by decide) nh0_18)
        have nh0_15 := kp_use hV1 hV2 (by decide) (by decide) nh0_15
        refine lv_goto (tgt := 112) hx hb dX11_readItem_65 (by decide) ?_
        exact W.vret hx hb hr (fun t ht _ => ⟨⟨(), rfl, trivial, cW_at ht hW, ⟨mI_at ht hI, kp_at ht hV, ⟨_, _, pin_at ht nh0_18, pin_at ht nh0_19, hd62.imp (by omega) id⟩⟩⟩, hS.F ht⟩) hS.2.2 dX11_readItem_112
    · have rx1_23 : ir x1 41 41 := rf_eq c23 (ir_c (41) (by decide) : ir (41 : Int32) (41) (41))
      refine lv_aload_n hx hb dX11_readItem_26 rfl (lv_at hl 1 rfl) ?_
      refine wt_rel hx hb hts cfX11 hown hK nh0_29 rfl (by decide) (Or.inl (hts _ q901)) dX11_readItem_27 ?_
      refine lv_if_le (tgt := 50) hx hb dX11_readItem_30 (by decide) (fun c30 => ?_) (fun c30 => ?_)
      · exact absurd (rf_le c30 rx6_9 (ir_c (0) (by decide) : ir (0 : Int32) (0) (0))) (by have h8 := rx6_9; have h9 := (ir_c (0) (by decide) : ir (0 : Int32) (0) (0)); omega)
      · have d30 := Int32.lt_iff_toInt_lt.mp (rf_nle c30)
        refine lv_aload_n hx hb dX11_readItem_33 rfl (lv_at hl 1 rfl) ?_
        refine lv_dup hx hb dX11_readItem_34 rfl ?_
        refine wt_rel hx hb hts cfX11 hown hK nh0_18 rfl (by decide) (Or.inl (hts _ q890)) dX11_readItem_35 ?_
        refine lv_iconst (v := 1) hx hb dX11_readItem_38 (by decide) ?_
        have rb1 : ir xa1 0 199 := ⟨ra1.1, la1 (fun h => by have h9 := rx1_23; rw [h] at h9; exact absurd h9 (by decide))⟩
        refine lv_iadd hx hb dX11_readItem_39 ?_
        refine lv_topi (fun x39 e39 => ?_)
        have t39 : x39.toInt = xa1.toInt + (1) := it_add e39 rb1 (ir_c (1) (by decide) : ir (1 : Int32) (1) (1)) (by decide) (by decide)
        have r39 : ir x39 1 200 := ir_w (ir_add e39 rb1 (ir_c (1) (by decide) : ir (1 : Int32) (1) (1)) (by decide) (by decide)) (by decide) (by decide)
        refine wt_putp hx hb hts cfX11 tyX11 tyX11_ok nmX11 hown hK hW hS (cg11 k0) (ce k0 (by decide)) rfl 18 (by decide) (Or.inl (hts _ q890)) rfl rfl rfl (gi_mk (ir_w (lo' := 0) (hi' := 200) r39 (by decide) (by decide))) dX11_readItem_40 (fun H locs hW hS oq o2 np => ?_)
        have nh0_15 := o2 15 _ (by decide) (by decide) nh0_15
        have nh0_29 := o2 29 _ (by decide) (by decide) nh0_29
        have nh0_18 : wt_pin N.1 vwCl h0 11 18 (.int x39) H := np
        have hV := hV.put (by decide) o2
        have hI := mI.fr.put hI k0 oq o2 (by decide) (by decide)
        refine lv_aload_n hx hb dX11_readItem_43 rfl (lv_at hl 1 rfl) ?_
        obtain ⟨V1, hV1⟩ := kp_all hW k0
        refine cc_v (B2 := fun H => mI N h0 H ∧ kp N h0 [26, 29, 31] V1 H) (wt_runV (As := []) (rest := []) ⟨hx, hb, hml, hown, hts⟩ (m_X11_shuts l N h0 k0 hO V1 x6 (by have h9 := rx6_9; omega)) wm_X11_shuts q1148 ⟨rfl, rfl⟩ ⟨Nat.le_of_ble_eq_true rfl, Nat.le_of_ble_eq_true rfl⟩ (cS_preV (B := fun H => mI N h0 H ∧ kp N h0 [26, 29, 31] V1 H ∧ wt_pin N.1 vwCl h0 11 29 (.int x6) H) hK hW hT hnn hS (cg11 k0) rfl rfl (And.intro hI (And.intro (kp_of (F := [26, 29, 31]) hV1) nh0_29))) rfl hl.1 rfl (Nat.le_of_ble_eq_true rfl) dX11_readItem_44 ⟨Nat.zero_le _, Nat.zero_le _⟩) hS (by decide) (fun H locs hW hS oq hB2 => ?_)
        obtain ⟨hI, hV2⟩ := hB2
        have hV := kp_call hV hV1 hV2 (by decide)
        have nh0_15 := kp_use hV1 hV2 (by decide) (by decide) nh0_15
        have nh0_18 := kp_use hV1 hV2 (by decide) (by decide) nh0_18
        refine lv_goto (tgt := 112) hx hb dX11_readItem_47 (by decide) ?_
        obtain ⟨v, hv, nh0_19⟩ := cpin hW (cg11 k0) rfl 19 (by decide)
        obtain ⟨xp19_5, rfl⟩ : ga v := hv
        exact W.vret hx hb hr (fun t ht _ => ⟨⟨(), rfl, trivial, cW_at ht hW, ⟨mI_at ht hI, kp_at ht hV, ⟨_, _, pin_at ht nh0_18, pin_at ht nh0_19, Or.inl (by omega)⟩⟩⟩, hS.F ht⟩) hS.2.2 dX11_readItem_112
  · have rx6_9 : ir x6 0 0 := rf_eq c9 (ir_c (0) (by decide) : ir (0 : Int32) (0) (0))
    refine lv_aload_n hx hb dX11_readItem_12 rfl (lv_at hl 1 rfl) ?_
    refine lv_aload_n hx hb dX11_readItem_13 rfl (lv_at hl 1 rfl) ?_
    refine wt_rel hx hb hts cfX11 hown hK nh0_18 rfl (by decide) (Or.inl (hts _ q890)) dX11_readItem_14 ?_
    refine wt_putp hx hb hts cfX11 tyX11 tyX11_ok nmX11 hown hK hW hS (cg11 k0) (ce k0 (by decide)) rfl 30 (by decide) (Or.inl (hts _ q902)) rfl rfl rfl (gi_mk ra1) dX11_readItem_17 (fun H locs hW hS oq o2 np => ?_)
    have nh0_18 := o2 18 _ (by decide) (by decide) nh0_18
    have nh0_15 := o2 15 _ (by decide) (by decide) nh0_15
    have nh0_29 := o2 29 _ (by decide) (by decide) nh0_29
    have nh0_30 : wt_pin N.1 vwCl h0 11 30 (.int xa1) H := np
    have hV := hV.put (by decide) o2
    have hI := mI.fr.put hI k0 oq o2 (by decide) (by decide)
    refine lv_iload_n hx hb dX11_readItem_20 rfl (lv_at hl 0 rfl) ?_
    refine lv_bipush (v := 41) hx hb dX11_readItem_21 (by decide) ?_
    refine lv_icmp_ne (tgt := 50) hx hb dX11_readItem_23 (by decide) (fun c23 => ?_) (fun c23 => ?_)
    · refine lv_aload_n hx hb dX11_readItem_50 rfl (lv_at hl 1 rfl) ?_
      refine lv_aload_n hx hb dX11_readItem_51 rfl (lv_at hl 1 rfl) ?_
      refine wt_rel hx hb hts cfX11 hown hK nh0_18 rfl (by decide) (Or.inl (hts _ q890)) dX11_readItem_52 ?_
      obtain ⟨V1, hV1⟩ := kp_all hW k0
      refine cc_i2 (B2 := fun r H => mI N h0 H ∧ kp N h0 [] V1 H ∧ (¬ r = 0 → ∀ aT : Nat, N.2.2.1 aT = some 50 → ∃ x : Int32, wt_ap (N.2.1 0) 200 aT xa1.toNatClampNeg (.int x) H ∧ ir x 48 57)) (wt_runV (As := [.int xa1]) (rest := []) ⟨hx, hb, hml, hown, hts⟩ (m_X11_isDigit l N h0 k0 hO V1 xa1 ra1) wm_X11_isDigit q1158 ⟨rfl, rfl⟩ ⟨Nat.le_of_ble_eq_true rfl, Nat.le_of_ble_eq_true rfl⟩ (cS_preV (B := fun H => mI N h0 H ∧ kp N h0 [] V1 H) hK hW hT hnn hS (cg11 k0) rfl rfl (And.intro hI (kp_of (F := []) hV1))) rfl hl.1 rfl (Nat.le_of_ble_eq_true rfl) dX11_readItem_55 ⟨Nat.zero_le _, Nat.zero_le _⟩) hS (by decide) (fun x55 H locs hp hW hS oq hB2 => ?_)
      obtain ⟨hI, hV2, hB2⟩ := hB2
      have hV := kp_call hV hV1 hV2 (by decide)
      have hq55 := hB2
      have nh0_18 := kp_use hV1 hV2 (by decide) (by decide) nh0_18
      have nh0_15 := kp_use hV1 hV2 (by decide) (by decide) nh0_15
      have nh0_29 := kp_use hV1 hV2 (by decide) (by decide) nh0_29
      have nh0_30 := kp_use hV1 hV2 (by decide) (by decide) nh0_30
      obtain ⟨r55, b55⟩ := hp
      refine lv_if_eq (tgt := 68) hx hb dX11_readItem_58 (by decide) (fun c58 => ?_) (fun c58 => ?_)
      · have rx55_58 : ir x55 0 0 := rf_eq c58 (ir_c (0) (by decide) : ir (0 : Int32) (0) (0))
        refine lv_iload_n hx hb dX11_readItem_68 rfl (lv_at hl 0 rfl) ?_
        refine lv_i2l hx hb dX11_readItem_69 rfl ?_
        refine lv_topl (fun x69 e69 => ?_)
        have r69 : lr x69 (-1) 255 := by rw [e69]; exact i2l_r r1
        have t69 : x69.toInt = x1.toInt := by rw [e69]; exact Int32.toInt_toInt64 x1
        refine lv_ldc2 hx hb hown (hts _ q1176) dX11_readItem_70 ?_
        refine lv_ldc2 hx hb hown (hts _ q1177) dX11_readItem_73 ?_
        refine cp_i (wt_runS (As := [.long x69, .long (65 : Int64), .long (70 : Int64)]) (rest := []) ⟨hx, hb, hml, hown, hts⟩ (m_X11_isIn l x69 (65 : Int64) (70 : Int64)) wm_X11_isIn q1050 ⟨rfl, rfl⟩ ⟨Nat.le_of_ble_eq_true rfl, Nat.le_of_ble_eq_true rfl⟩ pS_pre rfl hl.1 rfl (Nat.le_of_ble_eq_true rfl) dX11_readItem_76 ⟨Nat.zero_le _, Nat.zero_le _⟩) hW hS (fun x76 H locs hp hW1 hS oq => ?_)
        have hV := hV.same hW k0 oq
        have hI := mI.fr.same hI hW oq
        have hW := hW1
        have nh0_18 := nh0_18.kept (oq _ nh0_18.lt (cE_not k0 (by decide)))
        have nh0_15 := nh0_15.kept (oq _ nh0_15.lt (cE_not k0 (by decide)))
        have nh0_29 := nh0_29.kept (oq _ nh0_29.lt (cE_not k0 (by decide)))
        have nh0_30 := nh0_30.kept (oq _ nh0_30.lt (cE_not k0 (by decide)))
        obtain ⟨r76, b76⟩ := hp
        refine lv_if_eq (tgt := 103) hx hb dX11_readItem_79 (by decide) (fun c79 => ?_) (fun c79 => ?_)
        · have rx76_79 : ir x76 0 0 := rf_eq c79 (ir_c (0) (by decide) : ir (0 : Int32) (0) (0))
          refine lv_aload_n hx hb dX11_readItem_103 rfl (lv_at hl 1 rfl) ?_
          refine lv_iconst (v := 1) hx hb dX11_readItem_104 (by decide) ?_
          refine lv_aload_n hx hb dX11_readItem_105 rfl (lv_at hl 1 rfl) ?_
          refine wt_rel hx hb hts cfX11 hown hK nh0_18 rfl (by decide) (Or.inl (hts _ q890)) dX11_readItem_106 ?_
          obtain ⟨V1, hV1⟩ := kp_all hW k0
          refine cc_v (B2 := fun H => mI N h0 H ∧ kp N h0 [19, 20] V1 H ∧ ∃ y : Int32, pI N h0 19 y H ∧ ¬ y = 0) (wt_runV (As := [.int (1 : Int32), .int xa1]) (rest := []) ⟨hx, hb, hml, hown, hts⟩ (m_X11_fails l N h0 k0 hO V1 (1 : Int32) xa1 (by decide)) wm_X11_fails q1172 ⟨rfl, rfl⟩ ⟨Nat.le_of_ble_eq_true rfl, Nat.le_of_ble_eq_true rfl⟩ (cS_preV (B := fun H => mI N h0 H ∧ kp N h0 [19, 20] V1 H) hK hW hT hnn hS (cg11 k0) rfl rfl (And.intro hI (kp_of (F := [19, 20]) hV1))) rfl hl.1 rfl (Nat.le_of_ble_eq_true rfl) dX11_readItem_109 ⟨Nat.zero_le _, Nat.zero_le _⟩) hS (by decide) (fun H locs hW hS oq hB2 => ?_)
          obtain ⟨hI, hV2, hB2⟩ := hB2
          have hV := kp_call hV hV1 hV2 (by decide)
          obtain ⟨xx109_19, nh0_19, hbad109⟩ := hB2
          have nh0_18 := kp_use hV1 hV2 (by decide) (by decide) nh0_18
          have nh0_15 := kp_use hV1 hV2 (by decide) (by decide) nh0_15
          have nh0_29 := kp_use hV1 hV2 (by decide) (by decide) nh0_29
          have nh0_30 := kp_use hV1 hV2 (by decide) (by decide) nh0_30
          exact W.vret hx hb hr (fun t ht _ => ⟨⟨(), rfl, trivial, cW_at ht hW, ⟨mI_at ht hI, kp_at ht hV, ⟨_, _, pin_at ht nh0_18, pin_at ht nh0_19, Or.inr hbad109⟩⟩⟩, hS.F ht⟩) hS.2.2 dX11_readItem_112
        · have rx76_79 : ir x76 1 1 := rf_ne0 c79 r76
          have bx76_79 := b76 c79
          have rbx69_79 : lr x69 65 70 := by have h5 := bx76_79; have h6 := r69; have h7 := (lr_c (65) (by decide) : lr (65 : Int64) (65) (65)); have h8 := (lr_c (70) (by decide) : lr (70 : Int64) (70) (70)); constructor <;> omega
          have rx1_79 : ir x1 65 70 := i2l_b e69 rbx69_79
          refine lv_aload_n hx hb dX11_readItem_82 rfl (lv_at hl 1 rfl) ?_
          refine lv_dup hx hb dX11_readItem_83 rfl ?_
          refine wt_rel hx hb hts cfX11 hown hK nh0_18 rfl (by decide) (Or.inl (hts _ q890)) dX11_readItem_84 ?_
          refine lv_iconst (v := 1) hx hb dX11_readItem_87 (by decide) ?_
          have rb1 : ir xa1 0 199 := ⟨ra1.1, la1 (fun h => by have h9 := rx1_79; rw [h] at h9; exact absurd h9 (by decide))⟩
          refine lv_iadd hx hb dX11_readItem_88 ?_
          refine lv_topi (fun x88 e88 => ?_)
          have t88 : x88.toInt = xa1.toInt + (1) := it_add e88 rb1 (ir_c (1) (by decide) : ir (1 : Int32) (1) (1)) (by decide) (by decide)
          have r88 : ir x88 1 200 := ir_w (ir_add e88 rb1 (ir_c (1) (by decide) : ir (1 : Int32) (1) (1)) (by decide) (by decide)) (by decide) (by decide)
          refine wt_putp hx hb hts cfX11 tyX11 tyX11_ok nmX11 hown hK hW hS (cg11 k0) (ce k0 (by decide)) rfl 18 (by decide) (Or.inl (hts _ q890)) rfl rfl rfl (gi_mk (ir_w (lo' := 0) (hi' := 200) r88 (by decide) (by decide))) dX11_readItem_89 (fun H locs hW hS oq o2 np => ?_)
          have nh0_15 := o2 15 _ (by decide) (by decide) nh0_15
          have nh0_29 := o2 29 _ (by decide) (by decide) nh0_29
          have nh0_30 := o2 30 _ (by decide) (by decide) nh0_30
          have nh0_18 : wt_pin N.1 vwCl h0 11 18 (.int x88) H := np
          have hV := hV.put (by decide) o2
          have hI := mI.fr.put hI k0 oq o2 (by decide) (by decide)
          refine lv_aload_n hx hb dX11_readItem_92 rfl (lv_at hl 1 rfl) ?_
          refine lv_iload_n hx hb dX11_readItem_93 rfl (lv_at hl 0 rfl) ?_
          refine lv_bipush (v := 65) hx hb dX11_readItem_94 (by decide) ?_
          refine lv_isub hx hb dX11_readItem_96 ?_
          refine lv_topi (fun x96 e96 => ?_)
          have t96 : x96.toInt = x1.toInt - (65) := it_sub e96 rx1_79 (ir_c (65) (by decide) : ir (65 : Int32) (65) (65)) (by decide) (by decide)
          have r96 : ir x96 0 5 := ir_w (ir_sub e96 rx1_79 (ir_c (65) (by decide) : ir (65 : Int32) (65) (65)) (by decide) (by decide)) (by decide) (by decide)
          obtain ⟨V1, hV1⟩ := kp_all hW k0
          refine cc_v (B2 := fun H => mI N h0 H ∧ kp N h0 [18, 19, 20, 21, 22, 26, 31] V1 H ∧ ∃ x : Int32, pI N h0 18 x H ∧ x88.toInt ≤ x.toInt) (wt_runV (As := [.int x96]) (rest := []) ⟨hx, hb, hml, hown, hts⟩ (m_X11_readBehind l N h0 k0 hO V1 x96 r96 x88) wm_X11_readBehind q1178 ⟨rfl, rfl⟩ ⟨Nat.le_of_ble_eq_true rfl, Nat.le_of_ble_eq_true rfl⟩ (cS_preV (B := fun H => mI N h0 H ∧ kp N h0 [18, 19, 20, 21, 22, 26, 31] V1 H ∧ wt_pin N.1 vwCl h0 11 18 (.int x88) H) hK hW hT hnn hS (cg11 k0) rfl rfl (And.intro hI (And.intro (kp_of (F := [18, 19, 20, 21, 22, 26, 31]) hV1) nh0_18))) rfl hl.1 rfl (Nat.le_of_ble_eq_true rfl) dX11_readItem_97 ⟨Nat.zero_le _, Nat.zero_le _⟩) hS (by decide) (fun H locs hW hS oq hB2 => ?_)
          obtain ⟨hI, hV2, hB2⟩ := hB2
          have hV := kp_call hV hV1 hV2 (by decide)
          obtain ⟨xx97_18, nh0_18, lm97⟩ := hB2
          have rxx97_18 : ir xx97_18 0 200 := gi_r (cpin_P hW (cg11 k0) rfl (by decide) nh0_18)
          have nh0_15 := kp_use hV1 hV2 (by decide) (by decide) nh0_15
          have nh0_29 := kp_use hV1 hV2 (by decide) (by decide) nh0_29
          have nh0_30 := kp_use hV1 hV2 (by decide) (by decide) nh0_30
          refine lv_goto (tgt := 112) hx hb dX11_readItem_100 (by decide) ?_
          obtain ⟨v, hv, nh0_19⟩ := cpin hW (cg11 k0) rfl 19 (by decide)
          obtain ⟨xp19_6, rfl⟩ : ga v := hv
          exact W.vret hx hb hr (fun t ht _ => ⟨⟨(), rfl, trivial, cW_at ht hW, ⟨mI_at ht hI, kp_at ht hV, ⟨_, _, pin_at ht nh0_18, pin_at ht nh0_19, Or.inl (by omega)⟩⟩⟩, hS.F ht⟩) hS.2.2 dX11_readItem_112
      · have rx55_58 : ir x55 1 1 := rf_ne0 c58 r55
        have bx55_58 := b55 c58
        refine lv_aload_n hx hb dX11_readItem_61 rfl (lv_at hl 1 rfl) ?_
        obtain ⟨V1, hV1⟩ := kp_all hW k0
        refine cc_v (B2 := fun H => mI N h0 H ∧ kp N h0 [18, 19, 20, 21, 22, 29] V1 H ∧ ∃ x y : Int32, pI N h0 18 x H ∧ pI N h0 19 y H ∧ (xa1.toInt < x.toInt ∨ ¬ y = 0)) (wt_runV (As := []) (rest := []) ⟨hx, hb, hml, hown, hts⟩ (m_X11_readOpen l N h0 k0 hO V1 xa1) wm_X11_readOpen q1164 ⟨rfl, rfl⟩ ⟨Nat.le_of_ble_eq_true rfl, Nat.le_of_ble_eq_true rfl⟩ (cS_preV (B := fun H => mI N h0 H ∧ kp N h0 [18, 19, 20, 21, 22, 29] V1 H ∧ wt_pin N.1 vwCl h0 11 18 (.int xa1) H) hK hW hT hnn hS (cg11 k0) rfl rfl (And.intro hI (And.intro (kp_of (F := [18, 19, 20, 21, 22, 29]) hV1) nh0_18))) rfl hl.1 rfl (Nat.le_of_ble_eq_true rfl) dX11_readItem_62 ⟨Nat.zero_le _, Nat.zero_le _⟩) hS (by decide) (fun H locs hW hS oq hB2 => ?_)
        obtain ⟨hI, hV2, hB2⟩ := hB2
        have hV := kp_call hV hV1 hV2 (by decide)
        obtain ⟨xx62_18, xx62_19, nh0_18, nh0_19, hd62⟩ := hB2
        have rxx62_18 : ir xx62_18 0 200 := gi_r (cpin_P hW (cg11 k0) rfl (by decide) nh0_18)
        have nh0_15 := kp_use hV1 hV2 (by decide) (by decide) nh0_15
        have nh0_30 := kp_use hV1 hV2 (by decide) (by decide) nh0_30
        refine lv_goto (tgt := 112) hx hb dX11_readItem_65 (by decide) ?_
        exact W.vret hx hb hr (fun t ht _ => ⟨⟨(), rfl, trivial, cW_at ht hW, ⟨mI_at ht hI, kp_at ht hV, ⟨_, _, pin_at ht nh0_18, pin_at ht nh0_19, hd62.imp (by omega) id⟩⟩⟩, hS.F ht⟩) hS.2.2 dX11_readItem_112
    · have rx1_23 : ir x1 41 41 := rf_eq c23 (ir_c (41) (by decide) : ir (41 : Int32) (41) (41))
      refine lv_aload_n hx hb dX11_readItem_26 rfl (lv_at hl 1 rfl) ?_
      refine wt_rel hx hb hts cfX11 hown hK nh0_29 rfl (by decide) (Or.inl (hts _ q901)) dX11_readItem_27 ?_
      refine lv_if_le (tgt := 50) hx hb dX11_readItem_30 (by decide) (fun c30 => ?_) (fun c30 => ?_)
      · have d30 := Int32.le_iff_toInt_le.mp c30
        refine lv_aload_n hx hb dX11_readItem_50 rfl (lv_at hl 1 rfl) ?_
        refine lv_aload_n hx hb dX11_readItem_51 rfl (lv_at hl 1 rfl) ?_
        refine wt_rel hx hb hts cfX11 hown hK nh0_18 rfl (by decide) (Or.inl (hts _ q890)) dX11_readItem_52 ?_
        obtain ⟨V1, hV1⟩ := kp_all hW k0
        refine cc_i2 (B2 := fun r H => mI N h0 H ∧ kp N h0 [] V1 H ∧ (¬ r = 0 → ∀ aT : Nat, N.2.2.1 aT = some 50 → ∃ x : Int32, wt_ap (N.2.1 0) 200 aT xa1.toNatClampNeg (.int x) H ∧ ir x 48 57)) (wt_runV (As := [.int xa1]) (rest := []) ⟨hx, hb, hml, hown, hts⟩ (m_X11_isDigit l N h0 k0 hO V1 xa1 ra1) wm_X11_isDigit q1158 ⟨rfl, rfl⟩ ⟨Nat.le_of_ble_eq_true rfl, Nat.le_of_ble_eq_true rfl⟩ (cS_preV (B := fun H => mI N h0 H ∧ kp N h0 [] V1 H) hK hW hT hnn hS (cg11 k0) rfl rfl (And.intro hI (kp_of (F := []) hV1))) rfl hl.1 rfl (Nat.le_of_ble_eq_true rfl) dX11_readItem_55 ⟨Nat.zero_le _, Nat.zero_le _⟩) hS (by decide) (fun x55 H locs hp hW hS oq hB2 => ?_)
        obtain ⟨hI, hV2, hB2⟩ := hB2
        have hV := kp_call hV hV1 hV2 (by decide)
        have hq55 := hB2
        have nh0_18 := kp_use hV1 hV2 (by decide) (by decide) nh0_18
        have nh0_15 := kp_use hV1 hV2 (by decide) (by decide) nh0_15
        have nh0_29 := kp_use hV1 hV2 (by decide) (by decide) nh0_29
        have nh0_30 := kp_use hV1 hV2 (by decide) (by decide) nh0_30
        obtain ⟨r55, b55⟩ := hp
        refine lv_if_eq (tgt := 68) hx hb dX11_readItem_58 (by decide) (fun c58 => ?_) (fun c58 => ?_)
        · have rx55_58 : ir x55 0 0 := rf_eq c58 (ir_c (0) (by decide) : ir (0 : Int32) (0) (0))
          refine lv_iload_n hx hb dX11_readItem_68 rfl (lv_at hl 0 rfl) ?_
          refine lv_i2l hx hb dX11_readItem_69 rfl ?_
          refine lv_topl (fun x69 e69 => ?_)
          have r69 : lr x69 41 41 := by rw [e69]; exact i2l_r rx1_23
          have t69 : x69.toInt = x1.toInt := by rw [e69]; exact Int32.toInt_toInt64 x1
          refine lv_ldc2 hx hb hown (hts _ q1176) dX11_readItem_70 ?_
          refine lv_ldc2 hx hb hown (hts _ q1177) dX11_readItem_73 ?_
          refine cp_i (wt_runS (As := [.long x69, .long (65 : Int64), .long (70 : Int64)]) (rest := []) ⟨hx, hb, hml, hown, hts⟩ (m_X11_isIn l x69 (65 : Int64) (70 : Int64)) wm_X11_isIn q1050 ⟨rfl, rfl⟩ ⟨Nat.le_of_ble_eq_true rfl, Nat.le_of_ble_eq_true rfl⟩ pS_pre rfl hl.1 rfl (Nat.le_of_ble_eq_true rfl) dX11_readItem_76 ⟨Nat.zero_le _, Nat.zero_le _⟩) hW hS (fun x76 H locs hp hW1 hS oq => ?_)
          have hV := hV.same hW k0 oq
          have hI := mI.fr.same hI hW oq
          have hW := hW1
          have nh0_18 := nh0_18.kept (oq _ nh0_18.lt (cE_not k0 (by decide)))
          have nh0_15 := nh0_15.kept (oq _ nh0_15.lt (cE_not k0 (by decide)))
          have nh0_29 := nh0_29.kept (oq _ nh0_29.lt (cE_not k0 (by decide)))
          have nh0_30 := nh0_30.kept (oq _ nh0_30.lt (cE_not k0 (by decide)))
          obtain ⟨r76, b76⟩ := hp
          refine lv_if_eq (tgt := 103) hx hb dX11_readItem_79 (by decide) (fun c79 => ?_) (fun c79 => ?_)
          · have rx76_79 : ir x76 0 0 := rf_eq c79 (ir_c (0) (by decide) : ir (0 : Int32) (0) (0))
            refine lv_aload_n hx hb dX11_readItem_103 rfl (lv_at hl 1 rfl) ?_
            refine lv_iconst (v := 1) hx hb dX11_readItem_104 (by decide) ?_
            refine lv_aload_n hx hb dX11_readItem_105 rfl (lv_at hl 1 rfl) ?_
            refine wt_rel hx hb hts cfX11 hown hK nh0_18 rfl (by decide) (Or.inl (hts _ q890)) dX11_readItem_106 ?_
            obtain ⟨V1, hV1⟩ := kp_all hW k0
            refine cc_v (B2 := fun H => mI N h0 H ∧ kp N h0 [19, 20] V1 H ∧ ∃ y : Int32, pI N h0 19 y H ∧ ¬ y = 0) (wt_runV (As := [.int (1 : Int32), .int xa1]) (rest := []) ⟨hx, hb, hml, hown, hts⟩ (m_X11_fails l N h0 k0 hO V1 (1 : Int32) xa1 (by decide)) wm_X11_fails q1172 ⟨rfl, rfl⟩ ⟨Nat.le_of_ble_eq_true rfl, Nat.le_of_ble_eq_true rfl⟩ (cS_preV (B := fun H => mI N h0 H ∧ kp N h0 [19, 20] V1 H) hK hW hT hnn hS (cg11 k0) rfl rfl (And.intro hI (kp_of (F := [19, 20]) hV1))) rfl hl.1 rfl (Nat.le_of_ble_eq_true rfl) dX11_readItem_109 ⟨Nat.zero_le _, Nat.zero_le _⟩) hS (by decide) (fun H locs hW hS oq hB2 => ?_)
            obtain ⟨hI, hV2, hB2⟩ := hB2
            have hV := kp_call hV hV1 hV2 (by decide)
            obtain ⟨xx109_19, nh0_19, hbad109⟩ := hB2
            have nh0_18 := kp_use hV1 hV2 (by decide) (by decide) nh0_18
            have nh0_15 := kp_use hV1 hV2 (by decide) (by decide) nh0_15
            have nh0_29 := kp_use hV1 hV2 (by decide) (by decide) nh0_29
            have nh0_30 := kp_use hV1 hV2 (by decide) (by decide) nh0_30
            exact W.vret hx hb hr (fun t ht _ => ⟨⟨(), rfl, trivial, cW_at ht hW, ⟨mI_at ht hI, kp_at ht hV, ⟨_, _, pin_at ht nh0_18, pin_at ht nh0_19, Or.inr hbad109⟩⟩⟩, hS.F ht⟩) hS.2.2 dX11_readItem_112
          · have rx76_79 : ir x76 1 1 := rf_ne0 c79 r76
            have bx76_79 := b76 c79
            exact absurd bx76_79 (by have h6 := r69; have h7 := (lr_c (65) (by decide) : lr (65 : Int64) (65) (65)); have h8 := (lr_c (70) (by decide) : lr (70 : Int64) (70) (70)); omega)
        · have rx55_58 : ir x55 1 1 := rf_ne0 c58 r55
          have bx55_58 := b55 c58
          refine lv_aload_n hx hb dX11_readItem_61 rfl (lv_at hl 1 rfl) ?_
          obtain ⟨V1, hV1⟩ := kp_all hW k0
          refine cc_v (B2 := fun H => mI N h0 H ∧ kp N h0 [18, 19, 20, 21, 22, 29] V1 H ∧ ∃ x y : Int32, pI N h0 18 x H ∧ pI N h0 19 y H ∧ (xa1.toInt < x.toInt ∨ ¬ y = 0)) (wt_runV (As := []) (rest := []) ⟨hx, hb, hml, hown, hts⟩ (m_X11_readOpen l N h0 k0 hO V1 xa1) wm_X11_readOpen q1164 ⟨rfl, rfl⟩ ⟨Nat.le_of_ble_eq_true rfl, Nat.le_of_ble_eq_true rfl⟩ (cS_preV (B := fun H => mI N h0 H ∧ kp N h0 [18, 19, 20, 21, 22, 29] V1 H ∧ wt_pin N.1 vwCl h0 11 18 (.int xa1) H) hK hW hT hnn hS (cg11 k0) rfl rfl (And.intro hI (And.intro (kp_of (F := [18, 19, 20, 21, 22, 29]) hV1) nh0_18))) rfl hl.1 rfl (Nat.le_of_ble_eq_true rfl) dX11_readItem_62 ⟨Nat.zero_le _, Nat.zero_le _⟩) hS (by decide) (fun H locs hW hS oq hB2 => ?_)
          obtain ⟨hI, hV2, hB2⟩ := hB2
          have hV := kp_call hV hV1 hV2 (by decide)
          obtain ⟨xx62_18, xx62_19, nh0_18, nh0_19, hd62⟩ := hB2
          have rxx62_18 : ir xx62_18 0 200 := gi_r (cpin_P hW (cg11 k0) rfl (by decide) nh0_18)
          have nh0_15 := kp_use hV1 hV2 (by decide) (by decide) nh0_15
          have nh0_30 := kp_use hV1 hV2 (by decide) (by decide) nh0_30
          refine lv_goto (tgt := 112) hx hb dX11_readItem_65 (by decide) ?_
          exact W.vret hx hb hr (fun t ht _ => ⟨⟨(), rfl, trivial, cW_at ht hW, ⟨mI_at ht hI, kp_at ht hV, ⟨_, _, pin_at ht nh0_18, pin_at ht nh0_19, hd62.imp (by omega) id⟩⟩⟩, hS.F ht⟩) hS.2.2 dX11_readItem_112
      · exact absurd (rf_lt (rf_nle c30) (ir_c (0) (by decide) : ir (0 : Int32) (0) (0)) rx6_9) (by have h8 := (ir_c (0) (by decide) : ir (0 : Int32) (0) (0)); have h9 := rx6_9; omega)
