set_option maxHeartbeats 4000000 in
set_option maxRecDepth 100000 in
theorem m_X2_step (l : Launch) (N : c_N) (h0 : Nat) (k0 : N.2.2.1 h0 = some 2) (p1 : Int32) (rp1 : ir p1 0 23) (p2 : Nat) (kp2 : N.2.2.1 p2 = some 3) (p3 : Nat) (kp3 : N.2.2.1 p3 = some 5) (p4 : Int32) (rp4 : ir p4 1 4) : cMv l yX2_step cX2_step 5 { frames := 3, cells := 0, slots := 0, locals := 84 } [.ref h0, .int p1, .ref p2, .ref p3, .int p4] N [4, 8] cT0 cT0 := by
  refine Met.ofW (cc := cX2_step) (maxL := 5) (ret := none) (by decide) rfl ?_
  intro p e s m args below meth c s₁ B hml hv
  obtain ⟨rfl, ⟨hK, hW, hT, hnn⟩, hB⟩ := hv
  have hx := B.exec
  have hb := B.bytes
  have hr := B.returns
  have hts : ∀ w ∈ lw_g, w.before _ s = true := fun w h => atoms_spec (ws := wc_ws yX2_step cX2_step 5 none) B.pre w (List.mem_cons_of_mem _ h)
  have hown : s.vm.findClass RX2 = some m.cls := findClass_of_methodNamed B.named
  have hlocks := B.notSynchronized
  have hS : va_S (cE N [4, 8]) s.heap s.heap [] := va_S.rf
  have hl := lv_entry ([.ref h0, .int p1, .ref p2, .ref p3, .int p4]) (n := 5) (Nat.le_of_ble_eq_true rfl)
  rw [lg_entry_eq]
  generalize (lg_sl ([.ref h0, .int p1, .ref p2, .ref p3, .int p4]) ++ List.replicate (5 - (lg_sl ([.ref h0, .int p1, .ref p2, .ref p3, .int p4])).length) Slot.unset).toArray = ls at hl ⊢
  have hl : lv_has ls 5 [(0, .ref h0), (1, .int p1), (2, .ref p2), (3, .ref p3), (4, .int p4)] := hl
  refine wq_all ?_
  intro WW w1 w2
  refine lv_aload_n hx hb dX2_step_0 rfl (lv_at hl 0 rfl) ?_
  refine wt_get hx hb hts cfX2 hown hK hW (cg2 k0) rfl 3 (by decide) q280 dX2_step_1 (fun v hv => ?_)
  obtain ⟨x1, rfl, k1⟩ : gr N 8 v := hv
  refine lv_iload hx hb dX2_step_4 (lv_at hl 4 rfl) ?_
  refine cc_v (wt_runV (As := [.int p4]) (rest := []) ⟨hx, hb, hml, hown, hts⟩ (m_X8_raise l N x1 k1 p4 rp4) wm_X8_raise q564 ⟨rfl, rfl⟩ ⟨Nat.le_of_ble_eq_true rfl, Nat.le_of_ble_eq_true rfl⟩ (cS_preV hK hW hT hnn hS (cg8 k1) rfl rfl trivial) rfl hl.1 rfl (Nat.le_of_ble_eq_true rfl) dX2_step_6 ⟨Nat.zero_le _, Nat.zero_le _⟩) hS (by decide) (fun H locs hW hS oq hB2 => ?_)
  refine lv_aload_n hx hb dX2_step_9 rfl (lv_at hl 0 rfl) ?_
  refine wt_get hx hb hts cfX2 hown hK hW (cg2 k0) rfl 0 (by decide) q276 dX2_step_10 (fun v hv => ?_)
  obtain ⟨x10, rfl, k10⟩ : gr N 32 v := hv
  refine lv_iload_n hx hb dX2_step_13 rfl (lv_at hl 1 rfl) ?_
  refine wt_aald hx hb hK hW 5 (cg32 k10) rfl (ir_in rp1 (by decide) (by decide)) dX2_step_14 (fun v hv => ?_)
  obtain ⟨x14, rfl, k14⟩ : gr N 4 v := hv
  refine lv_aload_n hx hb dX2_step_15 rfl (lv_at hl 3 rfl) ?_
  refine lv_aload_n hx hb dX2_step_16 rfl (lv_at hl 2 rfl) ?_
  refine wt_getN hx hb hts cfX3 hown hK hW (cg3 kp2) rfl 0 (by decide) hnn q40 dX2_step_17 (fun v hv => ?_)
  obtain ⟨x17, rfl, k17⟩ : gr N 20 v := hv
  refine lv_iload_n hx hb dX2_step_20 rfl (lv_at hl 1 rfl) ?_
  refine wt_iald hx hb hK hW 0 (cg20 k17) rfl (ir_in rp1 (by decide) (by decide)) dX2_step_21 (fun v hv => ?_)
  obtain ⟨x21, rfl, r21⟩ : gi 0 383 v := hv
  refine cp_i (wt_runSN (As := [.int x21]) (rest := [.ref p3, .ref x14]) ⟨hx, hb, hml, hown, hts⟩ hnn (m_X10_materialOf l x21 r21) wm_X10_materialOf q565 ⟨rfl, rfl⟩ ⟨Nat.le_of_ble_eq_true rfl, Nat.le_of_ble_eq_true rfl⟩ pS_pre rfl hl.1 rfl (Nat.le_of_ble_eq_true rfl) dX2_step_22 ⟨Nat.zero_le _, Nat.zero_le _⟩) hW hS (fun x22 H locs hp hW hS oq => ?_)
  have r22 : ir x22 0 5 := hp
  refine lv_aload_n hx hb dX2_step_25 rfl (lv_at hl 0 rfl) ?_
  refine wt_get hx hb hts cfX2 hown hK hW (cg2 k0) rfl 3 (by decide) q280 dX2_step_26 (fun v hv => ?_)
  obtain ⟨x26, rfl, k26⟩ : gr N 8 v := hv
  refine cc_v (wt_runV (As := [.ref p3, .int x22, .ref x26]) (rest := []) ⟨hx, hb, hml, hown, hts⟩ (m_X4_ofLayer l N x14 k14 p3 kp3 x22 r22 x26 k26) wm_X4_ofLayer q566 ⟨rfl, rfl⟩ ⟨Nat.le_of_ble_eq_true rfl, Nat.le_of_ble_eq_true rfl⟩ (cS_preV hK hW hT hnn hS (cg4 k14) rfl rfl trivial) rfl hl.1 rfl (Nat.le_of_ble_eq_true rfl) dX2_step_29 ⟨Nat.zero_le _, Nat.zero_le _⟩) hS (by decide) (fun H locs hW hS oq hB2 => ?_)
  refine lv_aload_n hx hb dX2_step_32 rfl (lv_at hl 0 rfl) ?_
  refine wt_get hx hb hts cfX2 hown hK hW (cg2 k0) rfl 1 (by decide) q277 dX2_step_33 (fun v hv => ?_)
  obtain ⟨x33, rfl, k33⟩ : gr N 33 v := hv
  refine lv_iload_n hx hb dX2_step_36 rfl (lv_at hl 1 rfl) ?_
  refine lv_iconst (v := 1) hx hb dX2_step_37 (by decide) ?_
  refine lv_iadd hx hb dX2_step_38 ?_
  refine lv_topi (fun x38 e38 => ?_)
  have t38 : x38.toInt = p1.toInt + (1) := it_add e38 rp1 (ir_c (1) (by decide) : ir (1 : Int32) (1) (1)) (by decide) (by decide)
  have r38 : ir x38 1 24 := ir_w (ir_add e38 rp1 (ir_c (1) (by decide) : ir (1 : Int32) (1) (1)) (by decide) (by decide)) (by decide) (by decide)
  refine wt_aald hx hb hK hW 5 (cg33 k33) rfl (ir_in (ir_w (lo' := 0) (hi' := 24) r38 (by decide) (by decide)) (by decide) (by decide)) dX2_step_39 (fun v hv => ?_)
  obtain ⟨x39, rfl, k39⟩ : gr N 4 v := hv
  refine lv_aload_n hx hb dX2_step_40 rfl (lv_at hl 0 rfl) ?_
  refine wt_get hx hb hts cfX2 hown hK hW (cg2 k0) rfl 1 (by decide) q277 dX2_step_41 (fun v hv => ?_)
  obtain ⟨x41, rfl, k41⟩ : gr N 33 v := hv
  refine lv_iload_n hx hb dX2_step_44 rfl (lv_at hl 1 rfl) ?_
  refine wt_aald hx hb hK hW 5 (cg33 k41) rfl (ir_in (ir_w (lo' := 0) (hi' := 24) rp1 (by decide) (by decide)) (by decide) (by decide)) dX2_step_45 (fun v hv => ?_)
  obtain ⟨x45, rfl, k45⟩ : gr N 4 v := hv
  refine lv_aload_n hx hb dX2_step_46 rfl (lv_at hl 0 rfl) ?_
  refine wt_get hx hb hts cfX2 hown hK hW (cg2 k0) rfl 0 (by decide) q276 dX2_step_47 (fun v hv => ?_)
  obtain ⟨x47, rfl, k47⟩ : gr N 32 v := hv
  refine lv_iload_n hx hb dX2_step_50 rfl (lv_at hl 1 rfl) ?_
  refine wt_aald hx hb hK hW 5 (cg32 k47) rfl (ir_in rp1 (by decide) (by decide)) dX2_step_51 (fun v hv => ?_)
  obtain ⟨x51, rfl, k51⟩ : gr N 4 v := hv
  refine cc_v (wt_runV (As := [.ref x45, .ref x51]) (rest := []) ⟨hx, hb, hml, hown, hts⟩ (m_X4_ofRowAndLayer l N x39 k39 x45 k45 x51 k51) wm_X4_ofRowAndLayer q581 ⟨rfl, rfl⟩ ⟨Nat.le_of_ble_eq_true rfl, Nat.le_of_ble_eq_true rfl⟩ (cS_preV hK hW hT hnn hS (cg4 k39) rfl rfl trivial) rfl hl.1 rfl (Nat.le_of_ble_eq_true rfl) dX2_step_52 ⟨Nat.zero_le _, Nat.zero_le _⟩) hS (by decide) (fun H locs hW hS oq hB2 => ?_)
  exact W.vret hx hb hr (fun t ht _ => ⟨⟨(), rfl, trivial, cW_at ht hW, trivial⟩, hS.F ht⟩) hS.2.2 dX2_step_55
set_option maxHeartbeats 4000000 in
set_option maxRecDepth 100000 in
theorem m_X2_climb (l : Launch) (N : c_N) (h0 : Nat) (k0 : N.2.2.1 h0 = some 2) (p1 : Nat) (kp1 : N.2.2.1 p1 = some 3) (p2 : Nat) (kp2 : N.2.2.1 p2 = some 5) (p3 : Int32) (rp3 : ir p3 1 4) (p4 : Int32) : cMv l yX2_climb cX2_climb 6 { frames := 4, cells := 0, slots := 0, locals := 108 } [.ref h0, .ref p1, .ref p2, .int p3, .int p4] N [2, 4, 8] cT0 cT0 := by
  refine Met.ofW (cc := cX2_climb) (maxL := 6) (ret := none) (by decide) rfl ?_
  intro p e s m args below meth c s₁ B hml hv
  obtain ⟨rfl, ⟨hK, hW, hT, hnn⟩, hB⟩ := hv
  have hx := B.exec
  have hb := B.bytes
  have hr := B.returns
  have hts : ∀ w ∈ lw_g, w.before _ s = true := fun w h => atoms_spec (ws := wc_ws yX2_climb cX2_climb 6 none) B.pre w (List.mem_cons_of_mem _ h)
  have hown : s.vm.findClass RX2 = some m.cls := findClass_of_methodNamed B.named
  have hlocks := B.notSynchronized
  have hS : va_S (cE N [2, 4, 8]) s.heap s.heap [] := va_S.rf
  have hl := lv_entry ([.ref h0, .ref p1, .ref p2, .int p3, .int p4]) (n := 6) (Nat.le_of_ble_eq_true rfl)
  rw [lg_entry_eq]
  generalize (lg_sl ([.ref h0, .ref p1, .ref p2, .int p3, .int p4]) ++ List.replicate (6 - (lg_sl ([.ref h0, .ref p1, .ref p2, .int p3, .int p4])).length) Slot.unset).toArray = ls at hl ⊢
  have hl : lv_has ls 6 [(0, .ref h0), (1, .ref p1), (2, .ref p2), (3, .int p3), (4, .int p4)] := hl
  refine wq_all ?_
  intro WW w1 w2
  have L29 : ∀ (n : Nat) (H : Heap) (locs : List Loc) (ls : Array Slot) (v29_5 : Int32) (u29_0 : Int32) (u29_1 : Int32), cW N H → va_S (cE N [2, 4, 8]) s.heap H locs → lv_has ls 6 [(0, .ref h0), (1, .ref p1), (2, .ref p2), (3, .int p3), (5, .int v29_5)] → ir p3 1 4 → ir v29_5 0 24 → ir u29_0 0 24 → wt_pin N.1 vwCl h0 2 4 (.int u29_0) H → ir u29_1 0 24 → wt_pin N.1 vwCl p1 3 1 (.int u29_1) H → 24 - v29_5.toInt < (n : Int) → WW H locs (F0 m 29 ls []) := by
    intro n
    induction n with
    | zero =>
      intro H locs ls v29_5 u29_0 u29_1 hW hS hl rv29_3 rv29_5 ru29_0 nh0_4 ru29_1 np1_1 mu29
      exfalso
      omega
    | succ n ih29 =>
      intro H locs ls v29_5 u29_0 u29_1 hW hS hl rv29_3 rv29_5 ru29_0 nh0_4 ru29_1 np1_1 mu29
      refine w1 _ _ _ ?_
      refine lv_iload hx hb dX2_climb_29 (lv_at hl 4 rfl) ?_
      refine lv_aload_n hx hb dX2_climb_31 rfl (lv_at hl 0 rfl) ?_
      refine wt_rel hx hb hts cfX2 hown hK nh0_4 rfl (by decide) (Or.inl (hts _ q281)) dX2_climb_32 ?_
      refine lv_icmp_ge (tgt := 67) hx hb dX2_climb_35 (by decide) (fun c35 => ?_) (fun c35 => ?_)
      · exact W.vret hx hb hr (fun t ht _ => ⟨⟨(), rfl, trivial, cW_at ht hW, trivial⟩, hS.F ht⟩) hS.2.2 dX2_climb_67
      · have rv29_5_35 : ir v29_5 0 23 := ⟨(rv29_5).1, Int.le_trans (rf_lt (rf_nle c35) rv29_5 ru29_0).1 (by decide)⟩
        have ru29_0_35 : ir u29_0 1 24 := ⟨Int.le_trans (by decide) (rf_lt (rf_nle c35) rv29_5 ru29_0).2, (ru29_0).2⟩
        refine lv_aload_n hx hb dX2_climb_38 rfl (lv_at hl 0 rfl) ?_
        refine wt_get hx hb hts cfX2 hown hK hW (cg2 k0) rfl 3 (by decide) q280 dX2_climb_39 (fun v hv => ?_)
        obtain ⟨x39, rfl, k39⟩ : gr N 8 v := hv
        refine lv_aload_n hx hb dX2_climb_42 rfl (lv_at hl 1 rfl) ?_
        refine wt_getN hx hb hts cfX3 hown hK hW (cg3 kp1) rfl 0 (by decide) hnn q40 dX2_climb_43 (fun v hv => ?_)
        obtain ⟨x43, rfl, k43⟩ : gr N 20 v := hv
        refine lv_iload hx hb dX2_climb_46 (lv_at hl 4 rfl) ?_
        refine wt_iald hx hb hK hW 0 (cg20 k43) rfl (ir_in rv29_5_35 (by decide) (by decide)) dX2_climb_48 (fun v hv => ?_)
        obtain ⟨x48, rfl, r48⟩ : gi 0 383 v := hv
        refine cc_v (wt_runV (As := [.int x48]) (rest := []) ⟨hx, hb, hml, hown, hts⟩ (m_X8_ofCode l N x39 k39 x48) wm_X8_ofCode q559 ⟨rfl, rfl⟩ ⟨Nat.le_of_ble_eq_true rfl, Nat.le_of_ble_eq_true rfl⟩ (cS_preV hK hW hT hnn hS (cg8 k39) rfl rfl trivial) rfl hl.1 rfl (Nat.le_of_ble_eq_true rfl) dX2_climb_49 ⟨Nat.zero_le _, Nat.zero_le _⟩) hS (by decide) (fun H locs hW hS oq hB2 => ?_)
        have nh0_4 := nh0_4.kept (oq _ nh0_4.lt (cE_not k0 (by decide)))
        have np1_1 := np1_1.kept (oq _ np1_1.lt (cE_not kp1 (by decide)))
        refine lv_aload_n hx hb dX2_climb_52 rfl (lv_at hl 0 rfl) ?_
        refine lv_iload hx hb dX2_climb_53 (lv_at hl 4 rfl) ?_
        refine lv_aload_n hx hb dX2_climb_55 rfl (lv_at hl 1 rfl) ?_
        refine lv_aload_n hx hb dX2_climb_56 rfl (lv_at hl 2 rfl) ?_
        refine lv_iload_n hx hb dX2_climb_57 rfl (lv_at hl 3 rfl) ?_
        refine cc_v (wt_runV (As := [.int v29_5, .ref p1, .ref p2, .int p3]) (rest := []) ⟨hx, hb, hml, hown, hts⟩ (m_X2_step l N h0 k0 v29_5 rv29_5_35 p1 kp1 p2 kp2 p3 rv29_3) wm_X2_step q560 ⟨rfl, rfl⟩ ⟨Nat.le_of_ble_eq_true rfl, Nat.le_of_ble_eq_true rfl⟩ (cS_preV hK hW hT hnn hS (cg2 k0) rfl rfl trivial) rfl hl.1 rfl (Nat.le_of_ble_eq_true rfl) dX2_climb_58 ⟨Nat.zero_le _, Nat.zero_le _⟩) hS (by decide) (fun H locs hW hS oq hB2 => ?_)
        have nh0_4 := nh0_4.kept (oq _ nh0_4.lt (cE_not k0 (by decide)))
        have np1_1 := np1_1.kept (oq _ np1_1.lt (cE_not kp1 (by decide)))
        obtain ⟨x61, e61⟩ : ∃ y : Int32, y = v29_5 + 1 := ⟨_, rfl⟩
        have r61 : ir x61 1 24 := ir_w (ir_add e61 rv29_5_35 (ir_c (1) (by decide) : ir (1 : Int32) (1) (1)) (by decide) (by decide)) (by decide) (by decide)
        have t61 : x61.toInt = v29_5.toInt + (1) := it_add e61 rv29_5_35 (ir_c (1) (by decide) : ir (1 : Int32) (1) (1)) (by decide) (by decide)
        refine lv_iinc (v := x61) (lv' := [(5, .int x61), (0, .ref h0), (1, .ref p1), (2, .ref p2), (3, .int p3)]) hx hb dX2_climb_61 hl (k := 4) rfl (by rw [e61]; rfl) (by decide) rfl (fun ls hl => ?_)
        refine lv_goto (tgt := 29) hx hb dX2_climb_64 (by decide) ?_
        exact w2 _ _ _ (ih29 _ _ _ x61 u29_0 u29_1 hW hS (lv_sub hl [1, 2, 3, 4, 0] rfl) rv29_3 (ir_w (lo' := 0) (hi' := 24) r61 (by decide) (by decide)) (ir_w (lo' := 0) (hi' := 24) ru29_0_35 (by decide) (by decide)) nh0_4 ru29_1 np1_1 (by have h9 := r61; omega))
  refine lv_aload_n hx hb dX2_climb_0 rfl (lv_at hl 0 rfl) ?_
  refine lv_iconst (v := 0) hx hb dX2_climb_1 (by decide) ?_
  refine lv_iload hx hb dX2_climb_2 (lv_at hl 4 rfl) ?_
  refine lv_aload_n hx hb dX2_climb_4 rfl (lv_at hl 1 rfl) ?_
  refine wt_getp hx hb hts cfX3 hown hK hW (cg3 kp1) rfl 1 (by decide) (Or.inr ⟨_, lw_n_use hnn q44⟩) dX2_climb_5 (fun v hv np1_1 => ?_)
  obtain ⟨x5, rfl, r5⟩ : gi 0 24 v := hv
  refine va_mmin hx hb (hml.trans hl.1.symm) hown (hts _ q551) (hts _ q398) (hts _ q13) (hts _ q399) (Nat.le_of_ble_eq_true rfl) (Nat.le_of_ble_eq_true rfl) (Nat.zero_le _) (Nat.zero_le _) dX2_climb_8 ?_
  refine lv_topi (fun x8 e8 => ?_)
  have r8 : ir x8 (-2147483648) 24 := ir_min e8 (ir_any p4) r5 (by decide) (by decide) (by decide) (by decide)
  refine va_mmax hx hb (hml.trans hl.1.symm) hown (hts _ q552) (hts _ q553) (hts _ q13) (hts _ q554) (Nat.le_of_ble_eq_true rfl) (Nat.le_of_ble_eq_true rfl) (Nat.zero_le _) (Nat.zero_le _) dX2_climb_11 ?_
  refine lv_topi (fun x11 e11 => ?_)
  have r11 : ir x11 0 24 := ir_max e11 (ir_c (0) (by decide) : ir (0 : Int32) (0) (0)) r8 (by decide) (by decide) (by decide) (by decide)
  refine wt_putp hx hb hts cfX2 tyX2 tyX2_ok nmX2 hown hK hW hS (cg2 k0) (ce k0 (by decide)) rfl 4 (by decide) (Or.inl (hts _ q281)) rfl rfl rfl (gi_mk r11) dX2_climb_14 (fun H locs hW hS oq o2 np => ?_)
  have np1_1 := np1_1.kept (oq _ (ne_kind kp1 k0 (by decide)))
  have nh0_4 : wt_pin N.1 vwCl h0 2 4 (.int x11) H := np
  refine lv_aload_n hx hb dX2_climb_17 rfl (lv_at hl 0 rfl) ?_
  refine wt_get hx hb hts cfX2 hown hK hW (cg2 k0) rfl 1 (by decide) q277 dX2_climb_18 (fun v hv => ?_)
  obtain ⟨x18, rfl, k18⟩ : gr N 33 v := hv
  refine lv_iconst (v := 0) hx hb dX2_climb_21 (by decide) ?_
  refine wt_aald hx hb hK hW 5 (cg33 k18) rfl (ir_in (ir_w (lo' := 0) (hi' := 24) (ir_c (0) (by decide) : ir (0 : Int32) (0) (0)) (by decide) (by decide)) (by decide) (by decide)) dX2_climb_22 (fun v hv => ?_)
  obtain ⟨x22, rfl, k22⟩ : gr N 4 v := hv
  refine cc_v (wt_runV (As := []) (rest := []) ⟨hx, hb, hml, hown, hts⟩ (m_X4_toUnit l N x22 k22) wm_X4_toUnit q555 ⟨rfl, rfl⟩ ⟨Nat.le_of_ble_eq_true rfl, Nat.le_of_ble_eq_true rfl⟩ (cS_preV hK hW hT hnn hS (cg4 k22) rfl rfl trivial) rfl hl.1 rfl (Nat.le_of_ble_eq_true rfl) dX2_climb_23 ⟨Nat.zero_le _, Nat.zero_le _⟩) hS (by decide) (fun H locs hW hS oq hB2 => ?_)
  have np1_1 := np1_1.kept (oq _ np1_1.lt (cE_not kp1 (by decide)))
  have nh0_4 := nh0_4.kept (oq _ nh0_4.lt (cE_not k0 (by decide)))
  refine lv_iconst (v := 0) hx hb dX2_climb_26 (by decide) ?_
  refine lv_istore (lv' := [(5, .int (0 : Int32)), (0, .ref h0), (1, .ref p1), (2, .ref p2), (3, .int p3), (4, .int p4)]) hx hb dX2_climb_27 hl (by decide) rfl (fun ls hl => ?_)
  exact w2 _ _ _ (L29 25 _ _ _ (0 : Int32) x11 x5 hW hS (lv_sub hl [1, 2, 3, 4, 0] rfl) rp3 (ir_w (lo' := 0) (hi' := 24) (ir_c (0) (by decide) : ir (0 : Int32) (0) (0)) (by decide) (by decide)) r11 nh0_4 r5 np1_1 (by have h9 := (ir_c (0) (by decide) : ir (0 : Int32) (0) (0)); omega))
set_option maxHeartbeats 4000000 in
set_option maxRecDepth 100000 in
theorem m_X2_climbSlipped (l : Launch) (N : c_N) (h0 : Nat) (k0 : N.2.2.1 h0 = some 2) (p1 : Nat) (kp1 : N.2.2.1 p1 = some 3) (p2 : Nat) (kp2 : N.2.2.1 p2 = some 5) (p3 : Int32) (rp3 : ir p3 1 4) (p4 : Int32) (rp4 : ir p4 2 12) (p5 : Int32) : cMv l yX2_climbSlipped cX2_climbSlipped 7 { frames := 4, cells := 0, slots := 0, locals := 108 } [.ref h0, .ref p1, .ref p2, .int p3, .int p4, .int p5] N [2, 4, 8] cT0 cT0 := by
  refine Met.ofW (cc := cX2_climbSlipped) (maxL := 7) (ret := none) (by decide) rfl ?_
  intro p e s m args below meth c s₁ B hml hv
  obtain ⟨rfl, ⟨hK, hW, hT, hnn⟩, hB⟩ := hv
  have hx := B.exec
  have hb := B.bytes
  have hr := B.returns
  have hts : ∀ w ∈ lw_g, w.before _ s = true := fun w h => atoms_spec (ws := wc_ws yX2_climbSlipped cX2_climbSlipped 7 none) B.pre w (List.mem_cons_of_mem _ h)
  have hown : s.vm.findClass RX2 = some m.cls := findClass_of_methodNamed B.named
  have hlocks := B.notSynchronized
  have hS : va_S (cE N [2, 4, 8]) s.heap s.heap [] := va_S.rf
  have hl := lv_entry ([.ref h0, .ref p1, .ref p2, .int p3, .int p4, .int p5]) (n := 7) (Nat.le_of_ble_eq_true rfl)
  rw [lg_entry_eq]
  generalize (lg_sl ([.ref h0, .ref p1, .ref p2, .int p3, .int p4, .int p5]) ++ List.replicate (7 - (lg_sl ([.ref h0, .ref p1, .ref p2, .int p3, .int p4, .int p5])).length) Slot.unset).toArray = ls at hl ⊢
  have hl : lv_has ls 7 [(0, .ref h0), (1, .ref p1), (2, .ref p2), (3, .int p3), (4, .int p4), (5, .int p5)] := hl
  refine wq_all ?_
  intro WW w1 w2
  have L20 : ∀ (n : Nat) (H : Heap) (locs : List Loc) (ls : Array Slot) (v20_6 : Int32) (u20_0 : Int32) (u20_1 : Int32), cW N H → va_S (cE N [2, 4, 8]) s.heap H locs → lv_has ls 7 [(0, .ref h0), (1, .ref p1), (2, .ref p2), (3, .int p3), (4, .int p4), (5, .int p5), (6, .int v20_6)] → ir p3 1 4 → ir p4 2 12 → ir v20_6 0 24 → ir u20_0 0 24 → wt_pin N.1 vwCl h0 2 4 (.int u20_0) H → ir u20_1 0 24 → wt_pin N.1 vwCl p1 3 1 (.int u20_1) H → 24 - v20_6.toInt < (n : Int) → WW H locs (F0 m 20 ls []) := by
    intro n
    induction n with
    | zero =>
      intro H locs ls v20_6 u20_0 u20_1 hW hS hl rv20_3 rv20_4 rv20_6 ru20_0 nh0_4 ru20_1 np1_1 mu20
      exfalso
      omega
    | succ n ih20 =>
      intro H locs ls v20_6 u20_0 u20_1 hW hS hl rv20_3 rv20_4 rv20_6 ru20_0 nh0_4 ru20_1 np1_1 mu20
      refine w1 _ _ _ ?_
      refine lv_iload hx hb dX2_climbSlipped_20 (lv_at hl 6 rfl) ?_
      refine lv_aload_n hx hb dX2_climbSlipped_22 rfl (lv_at hl 0 rfl) ?_
      refine wt_rel hx hb hts cfX2 hown hK nh0_4 rfl (by decide) (Or.inl (hts _ q281)) dX2_climbSlipped_23 ?_
      refine lv_icmp_ge (tgt := 74) hx hb dX2_climbSlipped_26 (by decide) (fun c26 => ?_) (fun c26 => ?_)
      · exact W.vret hx hb hr (fun t ht _ => ⟨⟨(), rfl, trivial, cW_at ht hW, trivial⟩, hS.F ht⟩) hS.2.2 dX2_climbSlipped_74
      · have rv20_6_26 : ir v20_6 0 23 := ⟨(rv20_6).1, Int.le_trans (rf_lt (rf_nle c26) rv20_6 ru20_0).1 (by decide)⟩
        have ru20_0_26 : ir u20_0 1 24 := ⟨Int.le_trans (by decide) (rf_lt (rf_nle c26) rv20_6 ru20_0).2, (ru20_0).2⟩
        refine lv_aload_n hx hb dX2_climbSlipped_29 rfl (lv_at hl 0 rfl) ?_
        refine wt_get hx hb hts cfX2 hown hK hW (cg2 k0) rfl 3 (by decide) q280 dX2_climbSlipped_30 (fun v hv => ?_)
        obtain ⟨x30, rfl, k30⟩ : gr N 8 v := hv
        refine lv_aload_n hx hb dX2_climbSlipped_33 rfl (lv_at hl 1 rfl) ?_
        refine wt_getN hx hb hts cfX3 hown hK hW (cg3 kp1) rfl 0 (by decide) hnn q40 dX2_climbSlipped_34 (fun v hv => ?_)
        obtain ⟨x34, rfl, k34⟩ : gr N 20 v := hv
        refine lv_iload hx hb dX2_climbSlipped_37 (lv_at hl 6 rfl) ?_
        refine wt_iald hx hb hK hW 0 (cg20 k34) rfl (ir_in rv20_6_26 (by decide) (by decide)) dX2_climbSlipped_39 (fun v hv => ?_)
        obtain ⟨x39, rfl, r39⟩ : gi 0 383 v := hv
        refine cc_v (wt_runV (As := [.int x39]) (rest := []) ⟨hx, hb, hml, hown, hts⟩ (m_X8_ofCode l N x30 k30 x39) wm_X8_ofCode q559 ⟨rfl, rfl⟩ ⟨Nat.le_of_ble_eq_true rfl, Nat.le_of_ble_eq_true rfl⟩ (cS_preV hK hW hT hnn hS (cg8 k30) rfl rfl trivial) rfl hl.1 rfl (Nat.le_of_ble_eq_true rfl) dX2_climbSlipped_40 ⟨Nat.zero_le _, Nat.zero_le _⟩) hS (by decide) (fun H locs hW hS oq hB2 => ?_)
        have nh0_4 := nh0_4.kept (oq _ nh0_4.lt (cE_not k0 (by decide)))
        have np1_1 := np1_1.kept (oq _ np1_1.lt (cE_not kp1 (by decide)))
        refine lv_aload_n hx hb dX2_climbSlipped_43 rfl (lv_at hl 0 rfl) ?_
        refine wt_get hx hb hts cfX2 hown hK hW (cg2 k0) rfl 3 (by decide) q280 dX2_climbSlipped_44 (fun v hv => ?_)
        obtain ⟨x44, rfl, k44⟩ : gr N 8 v := hv
        refine lv_iload hx hb dX2_climbSlipped_47 (lv_at hl 4 rfl) ?_
        refine lv_iload hx hb dX2_climbSlipped_49 (lv_at hl 5 rfl) ?_
        refine lv_iload hx hb dX2_climbSlipped_51 (lv_at hl 6 rfl) ?_
        refine cp_i (wt_runSN (As := [.int p5, .int v20_6]) (rest := [.int p4, .ref x44]) ⟨hx, hb, hml, hown, hts⟩ hnn (m_X10_isInSet l p5 v20_6) wm_X10_isInSet q691 ⟨rfl, rfl⟩ ⟨Nat.le_of_ble_eq_true rfl, Nat.le_of_ble_eq_true rfl⟩ pS_pre rfl hl.1 rfl (Nat.le_of_ble_eq_true rfl) dX2_climbSlipped_53 ⟨Nat.zero_le _, Nat.zero_le _⟩) hW hS (fun x53 H locs hp hW hS oq => ?_)
        have nh0_4 := nh0_4.kept (oq _ nh0_4.lt (cE_not k0 (by decide)))
        have np1_1 := np1_1.kept (oq _ np1_1.lt (cE_not kp1 (by decide)))
        have r53 : ir x53 0 1 := hp
        refine cc_v (wt_runV (As := [.int p4, .int x53]) (rest := []) ⟨hx, hb, hml, hown, hts⟩ (m_X8_slip l N x44 k44 p4 x53 r53) wm_X8_slip q694 ⟨rfl, rfl⟩ ⟨Nat.le_of_ble_eq_true rfl, Nat.le_of_ble_eq_true rfl⟩ (cS_preV hK hW hT hnn hS (cg8 k44) rfl rfl trivial) rfl hl.1 rfl (Nat.le_of_ble_eq_true rfl) dX2_climbSlipped_56 ⟨Nat.zero_le _, Nat.zero_le _⟩) hS (by decide) (fun H locs hW hS oq hB2 => ?_)
        have nh0_4 := nh0_4.kept (oq _ nh0_4.lt (cE_not k0 (by decide)))
        have np1_1 := np1_1.kept (oq _ np1_1.lt (cE_not kp1 (by decide)))
        refine lv_aload_n hx hb dX2_climbSlipped_59 rfl (lv_at hl 0 rfl) ?_
        refine lv_iload hx hb dX2_climbSlipped_60 (lv_at hl 6 rfl) ?_
        refine lv_aload_n hx hb dX2_climbSlipped_62 rfl (lv_at hl 1 rfl) ?_
        refine lv_aload_n hx hb dX2_climbSlipped_63 rfl (lv_at hl 2 rfl) ?_
        refine lv_iload_n hx hb dX2_climbSlipped_64 rfl (lv_at hl 3 rfl) ?_
        refine cc_v (wt_runV (As := [.int v20_6, .ref p1, .ref p2, .int p3]) (rest := []) ⟨hx, hb, hml, hown, hts⟩ (m_X2_step l N h0 k0 v20_6 rv20_6_26 p1 kp1 p2 kp2 p3 rv20_3) wm_X2_step q560 ⟨rfl, rfl⟩ ⟨Nat.le_of_ble_eq_true rfl, Nat.le_of_ble_eq_true rfl⟩ (cS_preV hK hW hT hnn hS (cg2 k0) rfl rfl trivial) rfl hl.1 rfl (Nat.le_of_ble_eq_true rfl) dX2_climbSlipped_65 ⟨Nat.zero_le _, Nat.zero_le _⟩) hS (by decide) (fun H locs hW hS oq hB2 => ?_)
        have nh0_4 := nh0_4.kept (oq _ nh0_4.lt (cE_not k0 (by decide)))
        have np1_1 := np1_1.kept (oq _ np1_1.lt (cE_not kp1 (by decide)))
        obtain ⟨x68, e68⟩ : ∃ y : Int32, y = v20_6 + 1 := ⟨_, rfl⟩
        have r68 : ir x68 1 24 := ir_w (ir_add e68 rv20_6_26 (ir_c (1) (by decide) : ir (1 : Int32) (1) (1)) (by decide) (by decide)) (by decide) (by decide)
        have t68 : x68.toInt = v20_6.toInt + (1) := it_add e68 rv20_6_26 (ir_c (1) (by decide) : ir (1 : Int32) (1) (1)) (by decide) (by decide)
        refine lv_iinc (v := x68) (lv' := [(6, .int x68), (0, .ref h0), (1, .ref p1), (2, .ref p2), (3, .int p3), (4, .int p4), (5, .int p5)]) hx hb dX2_climbSlipped_68 hl (k := 6) rfl (by rw [e68]; rfl) (by decide) rfl (fun ls hl => ?_)
        refine lv_goto (tgt := 20) hx hb dX2_climbSlipped_71 (by decide) ?_
        exact w2 _ _ _ (ih20 _ _ _ x68 u20_0 u20_1 hW hS (lv_sub hl [1, 2, 3, 4, 5, 6, 0] rfl) rv20_3 rv20_4 (ir_w (lo' := 0) (hi' := 24) r68 (by decide) (by decide)) (ir_w (lo' := 0) (hi' := 24) ru20_0_26 (by decide) (by decide)) nh0_4 ru20_1 np1_1 (by have h9 := r68; omega))
  refine lv_aload_n hx hb dX2_climbSlipped_0 rfl (lv_at hl 0 rfl) ?_
  refine lv_aload_n hx hb dX2_climbSlipped_1 rfl (lv_at hl 1 rfl) ?_
  refine wt_getp hx hb hts cfX3 hown hK hW (cg3 kp1) rfl 1 (by decide) (Or.inr ⟨_, lw_n_use hnn q44⟩) dX2_climbSlipped_2 (fun v hv np1_1 => ?_)
  obtain ⟨x2, rfl, r2⟩ : gi 0 24 v := hv
  refine wt_putp hx hb hts cfX2 tyX2 tyX2_ok nmX2 hown hK hW hS (cg2 k0) (ce k0 (by decide)) rfl 4 (by decide) (Or.inl (hts _ q281)) rfl rfl rfl (gi_mk r2) dX2_climbSlipped_5 (fun H locs hW hS oq o2 np => ?_)
  have np1_1 := np1_1.kept (oq _ (ne_kind kp1 k0 (by decide)))
  have nh0_4 : wt_pin N.1 vwCl h0 2 4 (.int x2) H := np
  refine lv_aload_n hx hb dX2_climbSlipped_8 rfl (lv_at hl 0 rfl) ?_
  refine wt_get hx hb hts cfX2 hown hK hW (cg2 k0) rfl 1 (by decide) q277 dX2_climbSlipped_9 (fun v hv => ?_)
  obtain ⟨x9, rfl, k9⟩ : gr N 33 v := hv
  refine lv_iconst (v := 0) hx hb dX2_climbSlipped_12 (by decide) ?_
  refine wt_aald hx hb hK hW 5 (cg33 k9) rfl (ir_in (ir_w (lo' := 0) (hi' := 24) (ir_c (0) (by decide) : ir (0 : Int32) (0) (0)) (by decide) (by decide)) (by decide) (by decide)) dX2_climbSlipped_13 (fun v hv => ?_)
  obtain ⟨x13, rfl, k13⟩ : gr N 4 v := hv
  refine cc_v (wt_runV (As := []) (rest := []) ⟨hx, hb, hml, hown, hts⟩ (m_X4_toUnit l N x13 k13) wm_X4_toUnit q555 ⟨rfl, rfl⟩ ⟨Nat.le_of_ble_eq_true rfl, Nat.le_of_ble_eq_true rfl⟩ (cS_preV hK hW hT hnn hS (cg4 k13) rfl rfl trivial) rfl hl.1 rfl (Nat.le_of_ble_eq_true rfl) dX2_climbSlipped_14 ⟨Nat.zero_le _, Nat.zero_le _⟩) hS (by decide) (fun H locs hW hS oq hB2 => ?_)
  have np1_1 := np1_1.kept (oq _ np1_1.lt (cE_not kp1 (by decide)))
  have nh0_4 := nh0_4.kept (oq _ nh0_4.lt (cE_not k0 (by decide)))
  refine lv_iconst (v := 0) hx hb dX2_climbSlipped_17 (by decide) ?_
  refine lv_istore (lv' := [(6, .int (0 : Int32)), (0, .ref h0), (1, .ref p1), (2, .ref p2), (3, .int p3), (4, .int p4), (5, .int p5)]) hx hb dX2_climbSlipped_18 hl (by decide) rfl (fun ls hl => ?_)
  exact w2 _ _ _ (L20 25 _ _ _ (0 : Int32) x2 x2 hW hS (lv_sub hl [1, 2, 3, 4, 5, 6, 0] rfl) rp3 rp4 (ir_w (lo' := 0) (hi' := 24) (ir_c (0) (by decide) : ir (0 : Int32) (0) (0)) (by decide) (by decide)) r2 nh0_4 r2 np1_1 (by have h9 := (ir_c (0) (by decide) : ir (0 : Int32) (0) (0)); omega))
set_option maxHeartbeats 4000000 in
set_option maxRecDepth 100000 in
theorem m_X2_whole (l : Launch) (N : c_N) (h0 : Nat) (k0 : N.2.2.1 h0 = some 2) : cMr l yX2_whole cX2_whole 1 (.object "ThinCoats$Matrix") { frames := 0, cells := 0, slots := 0, locals := 0 } [.ref h0] N [] cT0 4 := by
  refine Met.ofW (cc := cX2_whole) (maxL := 1) (ret := some (.object "ThinCoats$Matrix")) (by decide) rfl ?_
  intro p e s m args below meth c s₁ B hml hv
  obtain ⟨rfl, ⟨hK, hW, hT, hnn⟩, hB⟩ := hv
  have hx := B.exec
  have hb := B.bytes
  have hr := B.returns
  have hts : ∀ w ∈ lw_g, w.before _ s = true := fun w h => atoms_spec (ws := wc_ws yX2_whole cX2_whole 1 (some (.object "ThinCoats$Matrix"))) B.pre w (List.mem_cons_of_mem _ h)
  have hown : s.vm.findClass RX2 = some m.cls := findClass_of_methodNamed B.named
  have hlocks := B.notSynchronized
  have hS : va_S (cE N []) s.heap s.heap [] := va_S.rf
  have hl := lv_entry ([.ref h0]) (n := 1) (Nat.le_of_ble_eq_true rfl)
  rw [lg_entry_eq]
  generalize (lg_sl ([.ref h0]) ++ List.replicate (1 - (lg_sl ([.ref h0])).length) Slot.unset).toArray = ls at hl ⊢
  have hl : lv_has ls 1 [(0, .ref h0)] := hl
  refine wq_all ?_
  intro WW w1 w2
  refine lv_aload_n hx hb dX2_whole_0 rfl (lv_at hl 0 rfl) ?_
  refine wt_get hx hb hts cfX2 hown hK hW (cg2 k0) rfl 1 (by decide) q277 dX2_whole_1 (fun v hv => ?_)
  obtain ⟨x1, rfl, k1⟩ : gr N 33 v := hv
  refine lv_aload_n hx hb dX2_whole_4 rfl (lv_at hl 0 rfl) ?_
  refine wt_getp hx hb hts cfX2 hown hK hW (cg2 k0) rfl 4 (by decide) (Or.inl (hts _ q281)) dX2_whole_5 (fun v hv nh0_4 => ?_)
  obtain ⟨x5, rfl, r5⟩ : gi 0 24 v := hv
  refine wt_aald hx hb hK hW 5 (cg33 k1) rfl (ir_in r5 (by decide) (by decide)) dX2_whole_8 (fun v hv => ?_)
  obtain ⟨x8, rfl, k8⟩ : gr N 4 v := hv
  exact W.aret hx hb hr (Or.inl ⟨_, rfl⟩) (Or.inr ⟨_, rfl⟩) (fun t ht _ => ⟨⟨(), x8, rfl, trivial, k8, cW_at ht hW⟩, hS.F ht⟩) hS.2.2 dX2_whole_9
set_option maxHeartbeats 4000000 in
set_option maxRecDepth 100000 in
theorem m_X2_changeTail (l : Launch) (N : c_N) (h0 : Nat) (k0 : N.2.2.1 h0 = some 2) (p1 : Nat) (kp1 : N.2.2.1 p1 = some 2) (p2 : Int32) (rp2 : ir p2 0 2147483647) (p3 : Int32) : cMv l yX2_changeTail cX2_changeTail 6 { frames := 3, cells := 0, slots := 0, locals := 82 } [.ref h0, .ref p1, .int p2, .int p3] N [4] cT0 cT0 := by
  refine Met.ofW (cc := cX2_changeTail) (maxL := 6) (ret := none) (by decide) rfl ?_
  intro p e s m args below meth c s₁ B hml hv
  obtain ⟨rfl, ⟨hK, hW, hT, hnn⟩, hB⟩ := hv
  have hx := B.exec
  have hb := B.bytes
  have hr := B.returns
  have hts : ∀ w ∈ lw_g, w.before _ s = true := fun w h => atoms_spec (ws := wc_ws yX2_changeTail cX2_changeTail 6 none) B.pre w (List.mem_cons_of_mem _ h)
  have hown : s.vm.findClass RX2 = some m.cls := findClass_of_methodNamed B.named
  have hlocks := B.notSynchronized
  have hS : va_S (cE N [4]) s.heap s.heap [] := va_S.rf
  have hl := lv_entry ([.ref h0, .ref p1, .int p2, .int p3]) (n := 6) (Nat.le_of_ble_eq_true rfl)
  rw [lg_entry_eq]
  generalize (lg_sl ([.ref h0, .ref p1, .int p2, .int p3]) ++ List.replicate (6 - (lg_sl ([.ref h0, .ref p1, .int p2, .int p3])).length) Slot.unset).toArray = ls at hl ⊢
  have hl : lv_has ls 6 [(0, .ref h0), (1, .ref p1), (2, .int p2), (3, .int p3)] := hl
  refine wq_all ?_
  intro WW w1 w2
  have L3 : ∀ (n : Nat) (H : Heap) (locs : List Loc) (ls : Array Slot) (v3_4 : Int32), cW N H → va_S (cE N [4]) s.heap H locs → lv_has ls 6 [(0, .ref h0), (1, .ref p1), (3, .int p3), (4, .int v3_4)] → ir v3_4 0 2147483647 → 2147483647 - v3_4.toInt < (n : Int) → WW H locs (F0 m 3 ls []) := by
    intro n
    induction n with
    | zero =>
      intro H locs ls v3_4 hW hS hl rv3_4 mu3
      exfalso
      omega
    | succ n ih3 =>
      intro H locs ls v3_4 hW hS hl rv3_4 mu3
      have J45 : ∀ (H : Heap) (locs : List Loc) (ls : Array Slot) (w45_0 : Nat) (u45_0 : Int32), cW N H → va_S (cE N [4]) s.heap H locs → lv_has ls 6 [(0, .ref h0), (1, .ref p1), (3, .int p3), (4, .int v3_4)] → ir v3_4 0 23 → N.2.2.1 w45_0 = some 4 → ir u45_0 1 24 → wt_pin N.1 vwCl h0 2 4 (.int u45_0) H → WW H locs (F0 m 45 ls [.ref w45_0]) := by
        intro H locs ls w45_0 u45_0 hW hS hl rv45_4 kw45_0 ru45_0 nh0_4
        refine w1 _ _ _ ?_
        refine lv_astore (lv' := [(5, .ref w45_0), (0, .ref h0), (1, .ref p1), (3, .int p3), (4, .int v3_4)]) hx hb dX2_changeTail_45 hl (by decide) rfl (fun ls hl => ?_)
        refine lv_aload_n hx hb dX2_changeTail_47 rfl (lv_at hl 1 rfl) ?_
        refine wt_get hx hb hts cfX2 hown hK hW (cg2 k0) rfl 1 (by decide) q277 dX2_changeTail_48 (fun v hv => ?_)
        obtain ⟨x48, rfl, k48⟩ : gr N 33 v := hv
        refine lv_iload hx hb dX2_changeTail_51 (lv_at hl 4 rfl) ?_
        refine lv_iconst (v := 1) hx hb dX2_changeTail_53 (by decide) ?_
        refine lv_iadd hx hb dX2_changeTail_54 ?_
        refine lv_topi (fun x54 e54 => ?_)
        have t54 : x54.toInt = v3_4.toInt + (1) := it_add e54 rv45_4 (ir_c (1) (by decide) : ir (1 : Int32) (1) (1)) (by decide) (by decide)
        have r54 : ir x54 1 24 := ir_w (ir_add e54 rv45_4 (ir_c (1) (by decide) : ir (1 : Int32) (1) (1)) (by decide) (by decide)) (by decide) (by decide)
        refine wt_aald hx hb hK hW 5 (cg33 k48) rfl (ir_in (ir_w (lo' := 0) (hi' := 24) r54 (by decide) (by decide)) (by decide) (by decide)) dX2_changeTail_55 (fun v hv => ?_)
        obtain ⟨x55, rfl, k55⟩ : gr N 4 v := hv
        refine lv_aload_n hx hb dX2_changeTail_56 rfl (lv_at hl 1 rfl) ?_
        refine wt_get hx hb hts cfX2 hown hK hW (cg2 k0) rfl 1 (by decide) q277 dX2_changeTail_57 (fun v hv => ?_)
        obtain ⟨x57, rfl, k57⟩ : gr N 33 v := hv
        refine lv_iload hx hb dX2_changeTail_60 (lv_at hl 4 rfl) ?_
        refine wt_aald hx hb hK hW 5 (cg33 k57) rfl (ir_in (ir_w (lo' := 0) (hi' := 24) rv45_4 (by decide) (by decide)) (by decide) (by decide)) dX2_changeTail_62 (fun v hv => ?_)
        obtain ⟨x62, rfl, k62⟩ : gr N 4 v := hv
        refine lv_aload hx hb dX2_changeTail_63 (lv_at hl 0 rfl) ?_
        refine cc_v (wt_runV (As := [.ref x62, .ref w45_0]) (rest := []) ⟨hx, hb, hml, hown, hts⟩ (m_X4_ofRowAndLayer l N x55 k55 x62 k62 w45_0 kw45_0) wm_X4_ofRowAndLayer q581 ⟨rfl, rfl⟩ ⟨Nat.le_of_ble_eq_true rfl, Nat.le_of_ble_eq_true rfl⟩ (cS_preV hK hW hT hnn hS (cg4 k55) rfl rfl trivial) rfl hl.1 rfl (Nat.le_of_ble_eq_true rfl) dX2_changeTail_65 ⟨Nat.zero_le _, Nat.zero_le _⟩) hS (by decide) (fun H locs hW hS oq hB2 => ?_)
        have nh0_4 := nh0_4.kept (oq _ nh0_4.lt (cE_not k0 (by decide)))
        obtain ⟨x68, e68⟩ : ∃ y : Int32, y = v3_4 + 1 := ⟨_, rfl⟩
        have r68 : ir x68 1 24 := ir_w (ir_add e68 rv45_4 (ir_c (1) (by decide) : ir (1 : Int32) (1) (1)) (by decide) (by decide)) (by decide) (by decide)
        have t68 : x68.toInt = v3_4.toInt + (1) := it_add e68 rv45_4 (ir_c (1) (by decide) : ir (1 : Int32) (1) (1)) (by decide) (by decide)
        refine lv_iinc (v := x68) (lv' := [(4, .int x68), (5, .ref w45_0), (0, .ref h0), (1, .ref p1), (3, .int p3)]) hx hb dX2_changeTail_68 hl (k := 4) rfl (by rw [e68]; rfl) (by decide) rfl (fun ls hl => ?_)
        refine lv_goto (tgt := 3) hx hb dX2_changeTail_71 (by decide) ?_
        exact w2 _ _ _ (ih3 _ _ _ x68 hW hS (lv_sub hl [2, 3, 4, 0] rfl) (ir_w (lo' := 0) (hi' := 2147483647) r68 (by decide) (by decide)) (by have h9 := r68; omega))
      refine w1 _ _ _ ?_
      refine lv_iload hx hb dX2_changeTail_3 (lv_at hl 3 rfl) ?_
      refine lv_aload_n hx hb dX2_changeTail_5 rfl (lv_at hl 0 rfl) ?_
      refine wt_getp hx hb hts cfX2 hown hK hW (cg2 k0) rfl 4 (by decide) (Or.inl (hts _ q281)) dX2_changeTail_6 (fun v hv nh0_4 => ?_)
      obtain ⟨x6, rfl, r6⟩ : gi 0 24 v := hv
      refine lv_icmp_ge (tgt := 74) hx hb dX2_changeTail_9 (by decide) (fun c9 => ?_) (fun c9 => ?_)
      · exact W.vret hx hb hr (fun t ht _ => ⟨⟨(), rfl, trivial, cW_at ht hW, trivial⟩, hS.F ht⟩) hS.2.2 dX2_changeTail_74
      · have rv3_4_9 : ir v3_4 0 23 := ⟨(rv3_4).1, Int.le_trans (rf_lt (rf_nle c9) rv3_4 r6).1 (by decide)⟩
        have rx6_9 : ir x6 1 24 := ⟨Int.le_trans (by decide) (rf_lt (rf_nle c9) rv3_4 r6).2, (r6).2⟩
        refine lv_iload_n hx hb dX2_changeTail_12 rfl (lv_at hl 2 rfl) ?_
        refine lv_aload_n hx hb dX2_changeTail_13 rfl (lv_at hl 0 rfl) ?_
        refine wt_rel hx hb hts cfX2 hown hK nh0_4 rfl (by decide) (Or.inl (hts _ q281)) dX2_changeTail_14 ?_
        refine lv_iconst (v := 1) hx hb dX2_changeTail_17 (by decide) ?_
        refine lv_isub hx hb dX2_changeTail_18 ?_
        refine lv_topi (fun x18 e18 => ?_)
        have t18 : x18.toInt = x6.toInt - (1) := it_sub e18 rx6_9 (ir_c (1) (by decide) : ir (1 : Int32) (1) (1)) (by decide) (by decide)
        have r18 : ir x18 0 23 := ir_w (ir_sub e18 rx6_9 (ir_c (1) (by decide) : ir (1 : Int32) (1) (1)) (by decide) (by decide)) (by decide) (by decide)
        refine lv_iload hx hb dX2_changeTail_19 (lv_at hl 3 rfl) ?_
        refine lv_isub hx hb dX2_changeTail_21 ?_
        refine lv_topi (fun x21 e21 => ?_)
        have t21 : x21.toInt = x18.toInt - v3_4.toInt := it_sub e21 r18 rv3_4_9 (by decide) (by decide)
        have r21 : ir x21 (-23) 23 := ir_w (ir_sub e21 r18 rv3_4_9 (by decide) (by decide)) (by decide) (by decide)
        refine cp_i (wt_runSN (As := [.int p3, .int x21]) (rest := []) ⟨hx, hb, hml, hown, hts⟩ hnn (m_X10_isInSet l p3 x21) wm_X10_isInSet q691 ⟨rfl, rfl⟩ ⟨Nat.le_of_ble_eq_true rfl, Nat.le_of_ble_eq_true rfl⟩ pS_pre rfl hl.1 rfl (Nat.le_of_ble_eq_true rfl) dX2_changeTail_22 ⟨Nat.zero_le _, Nat.zero_le _⟩) hW hS (fun x22 H locs hp hW hS oq => ?_)
        have nh0_4 := nh0_4.kept (oq _ nh0_4.lt (cE_not k0 (by decide)))
        have r22 : ir x22 0 1 := hp
        refine lv_if_eq (tgt := 38) hx hb dX2_changeTail_25 (by decide) (fun c25 => ?_) (fun c25 => ?_)
        · have rx22_25 : ir x22 0 0 := rf_eq c25 (ir_c (0) (by decide) : ir (0 : Int32) (0) (0))
          refine lv_aload_n hx hb dX2_changeTail_38 rfl (lv_at hl 0 rfl) ?_
          refine wt_get hx hb hts cfX2 hown hK hW (cg2 k0) rfl 0 (by decide) q276 dX2_changeTail_39 (fun v hv => ?_)
          obtain ⟨x39, rfl, k39⟩ : gr N 32 v := hv
          refine lv_iload hx hb dX2_changeTail_42 (lv_at hl 3 rfl) ?_
          refine wt_aald hx hb hK hW 5 (cg32 k39) rfl (ir_in rv3_4_9 (by decide) (by decide)) dX2_changeTail_44 (fun v hv => ?_)
          obtain ⟨x44, rfl, k44⟩ : gr N 4 v := hv
          exact w2 _ _ _ (J45 _ _ _ x44 x6 hW hS (lv_sub hl [0, 1, 2, 3] rfl) rv3_4_9 k44 rx6_9 nh0_4)
        · have rx22_25 : ir x22 1 1 := rf_ne0 c25 r22
          refine lv_aload_n hx hb dX2_changeTail_28 rfl (lv_at hl 1 rfl) ?_
          refine wt_get hx hb hts cfX2 hown hK hW (cg2 kp1) rfl 0 (by decide) q276 dX2_changeTail_29 (fun v hv => ?_)
          obtain ⟨x29, rfl, k29⟩ : gr N 32 v := hv
          refine lv_iload hx hb dX2_changeTail_32 (lv_at hl 3 rfl) ?_
          refine wt_aald hx hb hK hW 5 (cg32 k29) rfl (ir_in rv3_4_9 (by decide) (by decide)) dX2_changeTail_34 (fun v hv => ?_)
          obtain ⟨x34, rfl, k34⟩ : gr N 4 v := hv
          refine lv_goto (tgt := 45) hx hb dX2_changeTail_35 (by decide) ?_
          exact w2 _ _ _ (J45 _ _ _ x34 x6 hW hS (lv_sub hl [0, 1, 2, 3] rfl) rv3_4_9 k34 rx6_9 nh0_4)
  refine lv_iload_n hx hb dX2_changeTail_0 rfl (lv_at hl 2 rfl) ?_
  refine lv_istore (lv' := [(4, .int p2), (0, .ref h0), (1, .ref p1), (2, .int p2), (3, .int p3)]) hx hb dX2_changeTail_1 hl (by decide) rfl (fun ls hl => ?_)
  exact w2 _ _ _ (L3 2147483648 _ _ _ p2 hW hS (lv_sub hl [1, 2, 4, 0] rfl) rp2 (by have h9 := rp2; omega))
set_option maxHeartbeats 4000000 in
set_option maxRecDepth 100000 in
theorem m_X2_changed_n (l : Launch) (N : c_N) (h0 : Nat) (k0 : N.2.2.1 h0 = some 2) (p1 : Int32) (rp1 : ir p1 0 24) (p3 : Int32) (rp3 : ir p3 0 25) : cMr l yX2_changed cX2_changed 5 (.object "ThinCoats$Matrix") { frames := 3, cells := 0, slots := 0, locals := 82 } [.ref h0, .int p1, .null, .int p3] N [4] cT0 4 := by
  refine Met.ofW (cc := cX2_changed) (maxL := 5) (ret := some (.object "ThinCoats$Matrix")) (by decide) rfl ?_
  intro p e s m args below meth c s₁ B hml hv
  obtain ⟨rfl, ⟨hK, hW, hT, hnn⟩, hB⟩ := hv
  have hx := B.exec
  have hb := B.bytes
  have hr := B.returns
  have hts : ∀ w ∈ lw_g, w.before _ s = true := fun w h => atoms_spec (ws := wc_ws yX2_changed cX2_changed 5 (some (.object "ThinCoats$Matrix"))) B.pre w (List.mem_cons_of_mem _ h)
  have hown : s.vm.findClass RX2 = some m.cls := findClass_of_methodNamed B.named
  have hlocks := B.notSynchronized
  have hS : va_S (cE N [4]) s.heap s.heap [] := va_S.rf
  have hl := lv_entry ([.ref h0, .int p1, .null, .int p3]) (n := 5) (Nat.le_of_ble_eq_true rfl)
  rw [lg_entry_eq]
  generalize (lg_sl ([.ref h0, .int p1, .null, .int p3]) ++ List.replicate (5 - (lg_sl ([.ref h0, .int p1, .null, .int p3])).length) Slot.unset).toArray = ls at hl ⊢
  have hl : lv_has ls 5 [(0, .ref h0), (1, .int p1), (2, .null), (3, .int p3)] := hl
  refine wq_all ?_
  intro WW w1 w2
  have L32 : ∀ (n : Nat) (H : Heap) (locs : List Loc) (ls : Array Slot) (v32_4 : Int32), cW N H → va_S (cE N [4]) s.heap H locs → lv_has ls 5 [(0, .ref h0), (4, .int v32_4)] → ir v32_4 0 25 → 25 - v32_4.toInt < (n : Int) → WW H locs (F0 m 32 ls []) := by
    intro n
    induction n with
    | zero =>
      intro H locs ls v32_4 hW hS hl rv32_4 mu32
      exfalso
      omega
    | succ n ih32 =>
      intro H locs ls v32_4 hW hS hl rv32_4 mu32
      refine w1 _ _ _ ?_
      refine lv_iload hx hb dX2_changed_32 (lv_at hl 1 rfl) ?_
      refine lv_aload_n hx hb dX2_changed_34 rfl (lv_at hl 0 rfl) ?_
      refine wt_getp hx hb hts cfX2 hown hK hW (cg2 k0) rfl 4 (by decide) (Or.inl (hts _ q281)) dX2_changed_35 (fun v hv nh0_4 => ?_)
      obtain ⟨x35, rfl, r35⟩ : gi 0 24 v := hv
      refine lv_icmp_ge (tgt := 75) hx hb dX2_changed_38 (by decide) (fun c38 => ?_) (fun c38 => ?_)
      · refine lv_aload_n hx hb dX2_changed_75 rfl (lv_at hl 0 rfl) ?_
        refine wt_get hx hb hts cfX2 hown hK hW (cg2 k0) rfl 2 (by decide) q279 dX2_changed_76 (fun v hv => ?_)
        obtain ⟨x76, rfl, k76⟩ : gr N 4 v := hv
        exact W.aret hx hb hr (Or.inl ⟨_, rfl⟩) (Or.inr ⟨_, rfl⟩) (fun t ht _ => ⟨⟨(), x76, rfl, trivial, k76, cW_at ht hW⟩, hS.F ht⟩) hS.2.2 dX2_changed_79
      · have rv32_4_38 : ir v32_4 0 23 := ⟨(rv32_4).1, Int.le_trans (rf_lt (rf_nle c38) rv32_4 r35).1 (by decide)⟩
        have rx35_38 : ir x35 1 24 := ⟨Int.le_trans (by decide) (rf_lt (rf_nle c38) rv32_4 r35).2, (r35).2⟩
        refine lv_aload_n hx hb dX2_changed_41 rfl (lv_at hl 0 rfl) ?_
        refine wt_get hx hb hts cfX2 hown hK hW (cg2 k0) rfl 2 (by decide) q279 dX2_changed_42 (fun v hv => ?_)
        obtain ⟨x42, rfl, k42⟩ : gr N 4 v := hv
        refine wt_getp hx hb hts cfX4 hown hK hW (cg4 k42) rfl 4 (by decide) (Or.inr ⟨_, lw_n_use hnn q196⟩) dX2_changed_45 (fun v hv nx42_4 => ?_)
        obtain ⟨x45, rfl, r45⟩ : gi 0 1 v := hv
        refine lv_if_ne (tgt := 75) hx hb dX2_changed_48 (by decide) (fun c48 => ?_) (fun c48 => ?_)
        · have rx45_48 : ir x45 1 1 := rf_ne0 c48 r45
          refine lv_aload_n hx hb dX2_changed_75 rfl (lv_at hl 0 rfl) ?_
          refine wt_get hx hb hts cfX2 hown hK hW (cg2 k0) rfl 2 (by decide) q279 dX2_changed_76 (fun v hv => ?_)
          obtain ⟨x76, rfl, k76⟩ : gr N 4 v := hv
          exact W.aret hx hb hr (Or.inl ⟨_, rfl⟩) (Or.inr ⟨_, rfl⟩) (fun t ht _ => ⟨⟨(), x76, rfl, trivial, k76, cW_at ht hW⟩, hS.F ht⟩) hS.2.2 dX2_changed_79
        · have rx45_48 : ir x45 0 0 := rf_eq c48 (ir_c (0) (by decide) : ir (0 : Int32) (0) (0))
          refine lv_aload_n hx hb dX2_changed_51 rfl (lv_at hl 0 rfl) ?_
          refine wt_get hx hb hts cfX2 hown hK hW (cg2 k0) rfl 2 (by decide) q279 dX2_changed_52 (fun v hv => ?_)
          obtain ⟨x52, rfl, k52⟩ : gr N 4 v := hv
          refine lv_aload_n hx hb dX2_changed_55 rfl (lv_at hl 0 rfl) ?_
          refine wt_get hx hb hts cfX2 hown hK hW (cg2 k0) rfl 2 (by decide) q279 dX2_changed_56 (fun v hv => ?_)
          obtain ⟨x56, rfl, k56⟩ : gr N 4 v := hv
          refine lv_aload_n hx hb dX2_changed_59 rfl (lv_at hl 0 rfl) ?_
          refine wt_get hx hb hts cfX2 hown hK hW (cg2 k0) rfl 0 (by decide) q276 dX2_changed_60 (fun v hv => ?_)
          obtain ⟨x60, rfl, k60⟩ : gr N 32 v := hv
          refine lv_iload hx hb dX2_changed_63 (lv_at hl 1 rfl) ?_
          refine wt_aald hx hb hK hW 5 (cg32 k60) rfl (ir_in rv32_4_38 (by decide) (by decide)) dX2_changed_65 (fun v hv => ?_)
          obtain ⟨x65, rfl, k65⟩ : gr N 4 v := hv
          refine cc_v (wt_runV (As := [.ref x56, .ref x65]) (rest := []) ⟨hx, hb, hml, hown, hts⟩ (m_X4_ofRowAndLayer l N x52 k52 x56 k56 x65 k65) wm_X4_ofRowAndLayer q581 ⟨rfl, rfl⟩ ⟨Nat.le_of_ble_eq_true rfl, Nat.le_of_ble_eq_true rfl⟩ (cS_preV hK hW hT hnn hS (cg4 k52) rfl rfl trivial) rfl hl.1 rfl (Nat.le_of_ble_eq_true rfl) dX2_changed_66 ⟨Nat.zero_le _, Nat.zero_le _⟩) hS (by decide) (fun H locs hW hS oq hB2 => ?_)
          have nh0_4 := nh0_4.kept (oq _ nh0_4.lt (cE_not k0 (by decide)))
          obtain ⟨x69, e69⟩ : ∃ y : Int32, y = v32_4 + 1 := ⟨_, rfl⟩
          have r69 : ir x69 1 24 := ir_w (ir_add e69 rv32_4_38 (ir_c (1) (by decide) : ir (1 : Int32) (1) (1)) (by decide) (by decide)) (by decide) (by decide)
          have t69 : x69.toInt = v32_4.toInt + (1) := it_add e69 rv32_4_38 (ir_c (1) (by decide) : ir (1 : Int32) (1) (1)) (by decide) (by decide)
          refine lv_iinc (v := x69) (lv' := [(4, .int x69), (0, .ref h0)]) hx hb dX2_changed_69 hl (k := 1) rfl (by rw [e69]; rfl) (by decide) rfl (fun ls hl => ?_)
          refine lv_goto (tgt := 32) hx hb dX2_changed_72 (by decide) ?_
          exact w2 _ _ _ (ih32 _ _ _ x69 hW hS (lv_sub hl [1, 0] rfl) (ir_w (lo' := 0) (hi' := 25) r69 (by decide) (by decide)) (by have h9 := r69; omega))
  have J29 : ∀ (H : Heap) (locs : List Loc) (ls : Array Slot) , cW N H → va_S (cE N [4]) s.heap H locs → lv_has ls 5 [(0, .ref h0), (3, .int p3)] → ir p3 0 25 → WW H locs (F0 m 29 ls []) := by
    intro H locs ls  hW hS hl rv29_3
    refine w1 _ _ _ ?_
    refine lv_iload_n hx hb dX2_changed_29 rfl (lv_at hl 1 rfl) ?_
    refine lv_istore (lv' := [(4, .int p3), (0, .ref h0), (3, .int p3)]) hx hb dX2_changed_30 hl (by decide) rfl (fun ls hl => ?_)
    exact w2 _ _ _ (L32 26 _ _ _ p3 hW hS (lv_sub hl [1, 0] rfl) rv29_3 (by have h9 := rv29_3; omega))
  refine lv_aload_n hx hb dX2_changed_0 rfl (lv_at hl 0 rfl) ?_
  refine wt_get hx hb hts cfX2 hown hK hW (cg2 k0) rfl 2 (by decide) q279 dX2_changed_1 (fun v hv => ?_)
  obtain ⟨x1, rfl, k1⟩ : gr N 4 v := hv
  refine lv_aload_n hx hb dX2_changed_4 rfl (lv_at hl 0 rfl) ?_
  refine wt_get hx hb hts cfX2 hown hK hW (cg2 k0) rfl 1 (by decide) q277 dX2_changed_5 (fun v hv => ?_)
  obtain ⟨x5, rfl, k5⟩ : gr N 33 v := hv
  refine lv_iload_n hx hb dX2_changed_8 rfl (lv_at hl 1 rfl) ?_
  refine wt_aald hx hb hK hW 5 (cg33 k5) rfl (ir_in rp1 (by decide) (by decide)) dX2_changed_9 (fun v hv => ?_)
  obtain ⟨x9, rfl, k9⟩ : gr N 4 v := hv
  refine cc_v (wt_runV (As := [.ref x9]) (rest := []) ⟨hx, hb, hml, hown, hts⟩ (m_X4_copyOf l N x1 k1 x9 k9) wm_X4_copyOf q731 ⟨rfl, rfl⟩ ⟨Nat.le_of_ble_eq_true rfl, Nat.le_of_ble_eq_true rfl⟩ (cS_preV hK hW hT hnn hS (cg4 k1) rfl rfl trivial) rfl hl.1 rfl (Nat.le_of_ble_eq_true rfl) dX2_changed_10 ⟨Nat.zero_le _, Nat.zero_le _⟩) hS (by decide) (fun H locs hW hS oq hB2 => ?_)
  refine lv_aload_nN hx hb dX2_changed_13 rfl (lv_at hl 2 rfl) ?_
  refine lv_ifnullN (tgt := 29) hx hb dX2_changed_14 (by decide) ?_
  exact w2 _ _ _ (J29 _ _ _  hW hS (lv_sub hl [0, 3] rfl) rp3)
set_option maxHeartbeats 4000000 in
set_option maxRecDepth 100000 in
theorem m_X2_changed (l : Launch) (N : c_N) (h0 : Nat) (k0 : N.2.2.1 h0 = some 2) (p1 : Int32) (rp1 : ir p1 0 24) (p2 : Nat) (kp2 : N.2.2.1 p2 = some 4) (p3 : Int32) (rp3 : ir p3 0 25) : cMr l yX2_changed cX2_changed 5 (.object "ThinCoats$Matrix") { frames := 3, cells := 0, slots := 0, locals := 82 } [.ref h0, .int p1, .ref p2, .int p3] N [4] cT0 4 := by
  refine Met.ofW (cc := cX2_changed) (maxL := 5) (ret := some (.object "ThinCoats$Matrix")) (by decide) rfl ?_
  intro p e s m args below meth c s₁ B hml hv
  obtain ⟨rfl, ⟨hK, hW, hT, hnn⟩, hB⟩ := hv
  have hx := B.exec
  have hb := B.bytes
  have hr := B.returns
  have hts : ∀ w ∈ lw_g, w.before _ s = true := fun w h => atoms_spec (ws := wc_ws yX2_changed cX2_changed 5 (some (.object "ThinCoats$Matrix"))) B.pre w (List.mem_cons_of_mem _ h)
  have hown : s.vm.findClass RX2 = some m.cls := findClass_of_methodNamed B.named
  have hlocks := B.notSynchronized
  have hS : va_S (cE N [4]) s.heap s.heap [] := va_S.rf
  have hl := lv_entry ([.ref h0, .int p1, .ref p2, .int p3]) (n := 5) (Nat.le_of_ble_eq_true rfl)
  rw [lg_entry_eq]
  generalize (lg_sl ([.ref h0, .int p1, .ref p2, .int p3]) ++ List.replicate (5 - (lg_sl ([.ref h0, .int p1, .ref p2, .int p3])).length) Slot.unset).toArray = ls at hl ⊢
  have hl : lv_has ls 5 [(0, .ref h0), (1, .int p1), (2, .ref p2), (3, .int p3)] := hl
  refine wq_all ?_
  intro WW w1 w2
  have L32 : ∀ (n : Nat) (H : Heap) (locs : List Loc) (ls : Array Slot) (v32_4 : Int32), cW N H → va_S (cE N [4]) s.heap H locs → lv_has ls 5 [(0, .ref h0), (4, .int v32_4)] → ir v32_4 0 25 → 25 - v32_4.toInt < (n : Int) → WW H locs (F0 m 32 ls []) := by
    intro n
    induction n with
    | zero =>
      intro H locs ls v32_4 hW hS hl rv32_4 mu32
      exfalso
      omega
    | succ n ih32 =>
      intro H locs ls v32_4 hW hS hl rv32_4 mu32
      refine w1 _ _ _ ?_
      refine lv_iload hx hb dX2_changed_32 (lv_at hl 1 rfl) ?_
      refine lv_aload_n hx hb dX2_changed_34 rfl (lv_at hl 0 rfl) ?_
      refine wt_getp hx hb hts cfX2 hown hK hW (cg2 k0) rfl 4 (by decide) (Or.inl (hts _ q281)) dX2_changed_35 (fun v hv nh0_4 => ?_)
      obtain ⟨x35, rfl, r35⟩ : gi 0 24 v := hv
      refine lv_icmp_ge (tgt := 75) hx hb dX2_changed_38 (by decide) (fun c38 => ?_) (fun c38 => ?_)
      · refine lv_aload_n hx hb dX2_changed_75 rfl (lv_at hl 0 rfl) ?_
        refine wt_get hx hb hts cfX2 hown hK hW (cg2 k0) rfl 2 (by decide) q279 dX2_changed_76 (fun v hv => ?_)
        obtain ⟨x76, rfl, k76⟩ : gr N 4 v := hv
        exact W.aret hx hb hr (Or.inl ⟨_, rfl⟩) (Or.inr ⟨_, rfl⟩) (fun t ht _ => ⟨⟨(), x76, rfl, trivial, k76, cW_at ht hW⟩, hS.F ht⟩) hS.2.2 dX2_changed_79
      · have rv32_4_38 : ir v32_4 0 23 := ⟨(rv32_4).1, Int.le_trans (rf_lt (rf_nle c38) rv32_4 r35).1 (by decide)⟩
        have rx35_38 : ir x35 1 24 := ⟨Int.le_trans (by decide) (rf_lt (rf_nle c38) rv32_4 r35).2, (r35).2⟩
        refine lv_aload_n hx hb dX2_changed_41 rfl (lv_at hl 0 rfl) ?_
        refine wt_get hx hb hts cfX2 hown hK hW (cg2 k0) rfl 2 (by decide) q279 dX2_changed_42 (fun v hv => ?_)
        obtain ⟨x42, rfl, k42⟩ : gr N 4 v := hv
        refine wt_getp hx hb hts cfX4 hown hK hW (cg4 k42) rfl 4 (by decide) (Or.inr ⟨_, lw_n_use hnn q196⟩) dX2_changed_45 (fun v hv nx42_4 => ?_)
        obtain ⟨x45, rfl, r45⟩ : gi 0 1 v := hv
        refine lv_if_ne (tgt := 75) hx hb dX2_changed_48 (by decide) (fun c48 => ?_) (fun c48 => ?_)
        · have rx45_48 : ir x45 1 1 := rf_ne0 c48 r45
          refine lv_aload_n hx hb dX2_changed_75 rfl (lv_at hl 0 rfl) ?_
          refine wt_get hx hb hts cfX2 hown hK hW (cg2 k0) rfl 2 (by decide) q279 dX2_changed_76 (fun v hv => ?_)
          obtain ⟨x76, rfl, k76⟩ : gr N 4 v := hv
          exact W.aret hx hb hr (Or.inl ⟨_, rfl⟩) (Or.inr ⟨_, rfl⟩) (fun t ht _ => ⟨⟨(), x76, rfl, trivial, k76, cW_at ht hW⟩, hS.F ht⟩) hS.2.2 dX2_changed_79
        · have rx45_48 : ir x45 0 0 := rf_eq c48 (ir_c (0) (by decide) : ir (0 : Int32) (0) (0))
          refine lv_aload_n hx hb dX2_changed_51 rfl (lv_at hl 0 rfl) ?_
          refine wt_get hx hb hts cfX2 hown hK hW (cg2 k0) rfl 2 (by decide) q279 dX2_changed_52 (fun v hv => ?_)
          obtain ⟨x52, rfl, k52⟩ : gr N 4 v := hv
          refine lv_aload_n hx hb dX2_changed_55 rfl (lv_at hl 0 rfl) ?_
          refine wt_get hx hb hts cfX2 hown hK hW (cg2 k0) rfl 2 (by decide) q279 dX2_changed_56 (fun v hv => ?_)
          obtain ⟨x56, rfl, k56⟩ : gr N 4 v := hv
          refine lv_aload_n hx hb dX2_changed_59 rfl (lv_at hl 0 rfl) ?_
          refine wt_get hx hb hts cfX2 hown hK hW (cg2 k0) rfl 0 (by decide) q276 dX2_changed_60 (fun v hv => ?_)
          obtain ⟨x60, rfl, k60⟩ : gr N 32 v := hv
          refine lv_iload hx hb dX2_changed_63 (lv_at hl 1 rfl) ?_
          refine wt_aald hx hb hK hW 5 (cg32 k60) rfl (ir_in rv32_4_38 (by decide) (by decide)) dX2_changed_65 (fun v hv => ?_)
          obtain ⟨x65, rfl, k65⟩ : gr N 4 v := hv
          refine cc_v (wt_runV (As := [.ref x56, .ref x65]) (rest := []) ⟨hx, hb, hml, hown, hts⟩ (m_X4_ofRowAndLayer l N x52 k52 x56 k56 x65 k65) wm_X4_ofRowAndLayer q581 ⟨rfl, rfl⟩ ⟨Nat.le_of_ble_eq_true rfl, Nat.le_of_ble_eq_true rfl⟩ (cS_preV hK hW hT hnn hS (cg4 k52) rfl rfl trivial) rfl hl.1 rfl (Nat.le_of_ble_eq_true rfl) dX2_changed_66 ⟨Nat.zero_le _, Nat.zero_le _⟩) hS (by decide) (fun H locs hW hS oq hB2 => ?_)
          have nh0_4 := nh0_4.kept (oq _ nh0_4.lt (cE_not k0 (by decide)))
          obtain ⟨x69, e69⟩ : ∃ y : Int32, y = v32_4 + 1 := ⟨_, rfl⟩
          have r69 : ir x69 1 24 := ir_w (ir_add e69 rv32_4_38 (ir_c (1) (by decide) : ir (1 : Int32) (1) (1)) (by decide) (by decide)) (by decide) (by decide)
          have t69 : x69.toInt = v32_4.toInt + (1) := it_add e69 rv32_4_38 (ir_c (1) (by decide) : ir (1 : Int32) (1) (1)) (by decide) (by decide)
          refine lv_iinc (v := x69) (lv' := [(4, .int x69), (0, .ref h0)]) hx hb dX2_changed_69 hl (k := 1) rfl (by rw [e69]; rfl) (by decide) rfl (fun ls hl => ?_)
          refine lv_goto (tgt := 32) hx hb dX2_changed_72 (by decide) ?_
          exact w2 _ _ _ (ih32 _ _ _ x69 hW hS (lv_sub hl [1, 0] rfl) (ir_w (lo' := 0) (hi' := 25) r69 (by decide) (by decide)) (by have h9 := r69; omega))
  have J29 : ∀ (H : Heap) (locs : List Loc) (ls : Array Slot) , cW N H → va_S (cE N [4]) s.heap H locs → lv_has ls 5 [(0, .ref h0), (3, .int p3)] → ir p3 0 25 → WW H locs (F0 m 29 ls []) := by
    intro H locs ls  hW hS hl rv29_3
    refine w1 _ _ _ ?_
    refine lv_iload_n hx hb dX2_changed_29 rfl (lv_at hl 1 rfl) ?_
    refine lv_istore (lv' := [(4, .int p3), (0, .ref h0), (3, .int p3)]) hx hb dX2_changed_30 hl (by decide) rfl (fun ls hl => ?_)
    exact w2 _ _ _ (L32 26 _ _ _ p3 hW hS (lv_sub hl [1, 0] rfl) rv29_3 (by have h9 := rv29_3; omega))
  refine lv_aload_n hx hb dX2_changed_0 rfl (lv_at hl 0 rfl) ?_
  refine wt_get hx hb hts cfX2 hown hK hW (cg2 k0) rfl 2 (by decide) q279 dX2_changed_1 (fun v hv => ?_)
  obtain ⟨x1, rfl, k1⟩ : gr N 4 v := hv
  refine lv_aload_n hx hb dX2_changed_4 rfl (lv_at hl 0 rfl) ?_
  refine wt_get hx hb hts cfX2 hown hK hW (cg2 k0) rfl 1 (by decide) q277 dX2_changed_5 (fun v hv => ?_)
  obtain ⟨x5, rfl, k5⟩ : gr N 33 v := hv
  refine lv_iload_n hx hb dX2_changed_8 rfl (lv_at hl 1 rfl) ?_
  refine wt_aald hx hb hK hW 5 (cg33 k5) rfl (ir_in rp1 (by decide) (by decide)) dX2_changed_9 (fun v hv => ?_)
  obtain ⟨x9, rfl, k9⟩ : gr N 4 v := hv
  refine cc_v (wt_runV (As := [.ref x9]) (rest := []) ⟨hx, hb, hml, hown, hts⟩ (m_X4_copyOf l N x1 k1 x9 k9) wm_X4_copyOf q731 ⟨rfl, rfl⟩ ⟨Nat.le_of_ble_eq_true rfl, Nat.le_of_ble_eq_true rfl⟩ (cS_preV hK hW hT hnn hS (cg4 k1) rfl rfl trivial) rfl hl.1 rfl (Nat.le_of_ble_eq_true rfl) dX2_changed_10 ⟨Nat.zero_le _, Nat.zero_le _⟩) hS (by decide) (fun H locs hW hS oq hB2 => ?_)
  refine lv_aload_n hx hb dX2_changed_13 rfl (lv_at hl 2 rfl) ?_
  refine lv_ifnull hx hb dX2_changed_14 ?_
  refine lv_aload_n hx hb dX2_changed_17 rfl (lv_at hl 0 rfl) ?_
  refine wt_get hx hb hts cfX2 hown hK hW (cg2 k0) rfl 2 (by decide) q279 dX2_changed_18 (fun v hv => ?_)
  obtain ⟨x18, rfl, k18⟩ : gr N 4 v := hv
  refine lv_aload_n hx hb dX2_changed_21 rfl (lv_at hl 0 rfl) ?_
  refine wt_get hx hb hts cfX2 hown hK hW (cg2 k0) rfl 2 (by decide) q279 dX2_changed_22 (fun v hv => ?_)
  obtain ⟨x22, rfl, k22⟩ : gr N 4 v := hv
  refine lv_aload_n hx hb dX2_changed_25 rfl (lv_at hl 2 rfl) ?_
  refine cc_v (wt_runV (As := [.ref x22, .ref p2]) (rest := []) ⟨hx, hb, hml, hown, hts⟩ (m_X4_ofRowAndLayer l N x18 k18 x22 k22 p2 kp2) wm_X4_ofRowAndLayer q581 ⟨rfl, rfl⟩ ⟨Nat.le_of_ble_eq_true rfl, Nat.le_of_ble_eq_true rfl⟩ (cS_preV hK hW hT hnn hS (cg4 k18) rfl rfl trivial) rfl hl.1 rfl (Nat.le_of_ble_eq_true rfl) dX2_changed_26 ⟨Nat.zero_le _, Nat.zero_le _⟩) hS (by decide) (fun H locs hW hS oq hB2 => ?_)
  exact w2 _ _ _ (J29 _ _ _  hW hS (lv_sub hl [0, 3] rfl) rp3)
