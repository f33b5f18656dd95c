set_option maxHeartbeats 4000000 in
set_option maxRecDepth 100000 in
theorem m_X11_stack (l : Launch) (N : c_N) (h0 : Nat) (k0 : N.2.2.1 h0 = some 11) (hO : mOK N) (V : Nat → Value) : cMi2 l yX11_stack cX11_stack 2 .int { frames := 5, cells := 0, slots := 0, locals := 112 } [.ref h0] N [11, 42, 43, 44, 45, 46, 47, 48, 49, 51, 52, 53, 54, 55] (fun H => mI N h0 H ∧ kp N h0 [7, 13, 15, 16, 17, 18, 19, 20, 21, 22, 26, 29, 30, 31] V H) (fun _ => True) (fun _ H => mI N h0 H ∧ kp N h0 [7, 13, 15, 16, 17, 18, 19, 20, 21, 22, 26, 29, 30, 31] V H) := by
  refine Met.ofW (cc := cX11_stack) (maxL := 2) (ret := some .int) (by decide) rfl ?_
  intro p e s m args below meth c s₁ B hml hv
  obtain ⟨rfl, ⟨hK, hW, hT, hnn⟩, hB⟩ := hv
  obtain ⟨hI, hV⟩ := hB
  have hx := B.exec
  have hb := B.bytes
  have hr := B.returns
  have hts : ∀ w ∈ lw_g, w.before _ s = true := fun w h => atoms_spec (ws := wc_ws yX11_stack cX11_stack 2 (some .int)) B.pre w (List.mem_cons_of_mem _ h)
  have hown : s.vm.findClass RX11 = some m.cls := findClass_of_methodNamed B.named
  have hlocks := B.notSynchronized
  have hS : va_S (cE N [11, 42, 43, 44, 45, 46, 47, 48, 49, 51, 52, 53, 54, 55]) s.heap s.heap [] := va_S.rf
  have hl := lv_entry ([.ref h0]) (n := 2) (Nat.le_of_ble_eq_true rfl)
  rw [lg_entry_eq]
  generalize (lg_sl ([.ref h0]) ++ List.replicate (2 - (lg_sl ([.ref h0])).length) Slot.unset).toArray = ls at hl ⊢
  have hl : lv_has ls 2 [(0, .ref h0)] := hl
  refine wq_all ?_
  intro WW w1 w2
  have L136 : ∀ (n : Nat) (H : Heap) (locs : List Loc) (ls : Array Slot) (v136_1 : Int32) (u136_0 : Int32) (u136_2 : Int32) (u136_4 : Int32) (u136_5 : Int32) (u136_6 : Int32) (u136_7 : Int32) (u136_8 : Int32), cW N H → QP N h0 H → QR N h0 H → QB N h0 H → QM N h0 H → kp N h0 [7, 13, 15, 16, 17, 18, 19, 20, 21, 22, 26, 29, 30, 31] V H → gP N 43 44 25 (fun j => (j : Int) < v136_1.toInt) H → gP N 52 53 24 (fun j => (j : Int) < u136_0.toInt) H → va_S (cE N [11, 42, 43, 44, 45, 46, 47, 48, 49, 51, 52, 53, 54, 55]) s.heap H locs → lv_has ls 2 [(0, .ref h0), (1, .int v136_1)] → ir v136_1 0 24 → ir u136_0 0 24 → wt_pin N.1 vwCl h0 11 7 (.int u136_0) H → ir (0 : Int32) 0 0 → wt_pin N.1 vwCl h0 11 15 (.int (0 : Int32)) H → ir u136_2 0 0 → wt_pin N.1 vwCl h0 11 16 (.int u136_2) H → ir (-1 : Int32) (-1) (-1) → wt_pin N.1 vwCl h0 11 17 (.int (-1 : Int32)) H → ir u136_4 0 200 → wt_pin N.1 vwCl h0 11 18 (.int u136_4) H → ir u136_5 0 0 → wt_pin N.1 vwCl h0 11 19 (.int u136_5) H → ir u136_6 0 24 → wt_pin N.1 vwCl h0 11 26 (.int u136_6) H → ir u136_7 0 0 → wt_pin N.1 vwCl h0 11 29 (.int u136_7) H → ir u136_8 (-1) (-1) → wt_pin N.1 vwCl h0 11 31 (.int u136_8) H → 24 - v136_1.toInt < (n : Int) → WW H locs (F0 m 136 ls []) := by
    intro n
    induction n with
    | zero =>
      intro H locs ls v136_1 u136_0 u136_2 u136_4 u136_5 u136_6 u136_7 u136_8 hW iP iR iB iM hV hGL hGR hS hl rv136_1 ru136_0 nh0_7 ru136_1 nh0_15 ru136_2 nh0_16 ru136_3 nh0_17 ru136_4 nh0_18 ru136_5 nh0_19 ru136_6 nh0_26 ru136_7 nh0_29 ru136_8 nh0_31 mu136
      exfalso
      omega
    | succ n ih136 =>
      intro H locs ls v136_1 u136_0 u136_2 u136_4 u136_5 u136_6 u136_7 u136_8 hW iP iR iB iM hV hGL hGR hS hl rv136_1 ru136_0 nh0_7 ru136_1 nh0_15 ru136_2 nh0_16 ru136_3 nh0_17 ru136_4 nh0_18 ru136_5 nh0_19 ru136_6 nh0_26 ru136_7 nh0_29 ru136_8 nh0_31 mu136
      refine w1 _ _ _ ?_
      refine lv_iload_n hx hb dX11_stack_136 rfl (lv_at hl 1 rfl) ?_
      refine lv_aload_n hx hb dX11_stack_137 rfl (lv_at hl 0 rfl) ?_
      refine wt_rel hx hb hts cfX11 hown hK nh0_7 rfl (by decide) (Or.inl (hts _ q879)) dX11_stack_138 ?_
      refine lv_icmp_ge (tgt := 173) hx hb dX11_stack_141 (by decide) (fun c141 => ?_) (fun c141 => ?_)
      · have d141 := Int32.le_iff_toInt_le.mp c141
        have iL : QL N h0 H := ⟨_, nh0_7, (hGL.sub (fun j hj h => by have h : (j : Int) < u136_0.toInt := h; show (j : Int) < v136_1.toInt; have h30 := ru136_0; have h31 := rv136_1; omega))⟩
        have hI : mI N h0 H := ⟨iL, iP, iR, iB, iM⟩
        refine lv_aload_n hx hb dX11_stack_173 rfl (lv_at hl 0 rfl) ?_
        refine wt_rel hx hb hts cfX11 hown hK nh0_7 rfl (by decide) (Or.inl (hts _ q879)) dX11_stack_174 ?_
        exact W.iret (v := u136_0) hx hb hr (fun t ht _ => ⟨⟨u136_0, u136_0, rfl, ⟨rfl, trivial⟩, cW_at ht hW, ⟨mI_at ht hI, kp_at ht hV⟩⟩, hS.F ht⟩) hS.2.2 dX11_stack_177
      · have rv136_1_141 : ir v136_1 0 23 := ⟨(rv136_1).1, Int.le_trans (rf_lt (rf_nle c141) rv136_1 ru136_0).1 (by decide)⟩
        have ru136_0_141 : ir u136_0 1 24 := ⟨Int.le_trans (by decide) (rf_lt (rf_nle c141) rv136_1 ru136_0).2, (ru136_0).2⟩
        have d141 := Int32.lt_iff_toInt_lt.mp (rf_nle c141)
        refine lv_aload_n hx hb dX11_stack_144 rfl (lv_at hl 0 rfl) ?_
        refine lv_iload_n hx hb dX11_stack_145 rfl (lv_at hl 1 rfl) ?_
        refine lv_aload_n hx hb dX11_stack_146 rfl (lv_at hl 0 rfl) ?_
        refine wt_get hx hb hts cfX11 hown hK hW (cg11 k0) rfl 23 (by decide) q895 dX11_stack_147 (fun v hv => ?_)
        obtain ⟨x147, rfl, k147⟩ : gr N 51 v := hv
        refine lv_iload_n hx hb dX11_stack_150 rfl (lv_at hl 1 rfl) ?_
        refine wt_iald hx hb hK hW 0 (cg51 k147) rfl (ir_in rv136_1_141 (by decide) (by decide)) dX11_stack_151 (fun v hv => ?_)
        obtain ⟨x151, rfl, r151⟩ : gi 0 5 v := hv
        refine lv_aload_n hx hb dX11_stack_152 rfl (lv_at hl 0 rfl) ?_
        refine wt_get hx hb hts cfX11 hown hK hW (cg11 k0) rfl 24 (by decide) q896 dX11_stack_153 (fun v hv => ?_)
        obtain ⟨x153, rfl, k153⟩ : gr N 52 v := hv
        refine lv_iload_n hx hb dX11_stack_156 rfl (lv_at hl 1 rfl) ?_
        refine wt_ialdx hx hb hK hW 0 (cg52 k153) rfl (ir_in rv136_1_141 (by decide) (by decide)) dX11_stack_157 (fun v hv ap157 => ?_)
        obtain ⟨x157, rfl, r157⟩ : gi 0 6 v := hv
        refine lv_aload_n hx hb dX11_stack_158 rfl (lv_at hl 0 rfl) ?_
        refine wt_get hx hb hts cfX11 hown hK hW (cg11 k0) rfl 25 (by decide) q897 dX11_stack_159 (fun v hv => ?_)
        obtain ⟨x159, rfl, k159⟩ : gr N 53 v := hv
        refine lv_iload_n hx hb dX11_stack_162 rfl (lv_at hl 1 rfl) ?_
        refine wt_ialdx hx hb hK hW 0 (cg53 k159) rfl (ir_in rv136_1_141 (by decide) (by decide)) dX11_stack_163 (fun v hv ap163 => ?_)
        obtain ⟨x163, rfl, r163⟩ : gi 0 6 v := hv
        have kc := (ir_clamp rv136_1_141 (by decide)).1
        have hz164 := gP_use hGR k153 k159 ap157 ap163 (by have h9 := rv136_1_141; omega) (by show (v136_1.toNatClampNeg : Int) < u136_0.toInt; omega)
        obtain ⟨V1, hV1⟩ := kp_all hW k0
        have hWo := hW
        refine cc_v (B2 := fun H => kp N h0 [] V1 H ∧ gP N 43 44 25 (fun j => ((j : Int) < v136_1.toInt) ∨ (j : Int) = v136_1.toInt) H) (wt_runV (As := [.int v136_1, .int x151, .int x157, .int x163]) (rest := []) ⟨hx, hb, hml, hown, hts⟩ (m_X11_lays l N h0 k0 hO V1 v136_1 (ir_w (lo' := 0) (hi' := 24) rv136_1_141 (by decide) (by decide)) x151 r151 x157 r157 x163 r163 (fun j => (j : Int) < v136_1.toInt) hz164) wm_X11_lays q1096 ⟨rfl, rfl⟩ ⟨Nat.le_of_ble_eq_true rfl, Nat.le_of_ble_eq_true rfl⟩ (cS_preV (B := fun H => kp N h0 [] V1 H ∧ gP N 43 44 25 (fun j => (j : Int) < v136_1.toInt) H) hK hW hT hnn hS (cg11 k0) rfl rfl (And.intro (kp_of (F := []) hV1) hGL)) rfl hl.1 rfl (Nat.le_of_ble_eq_true rfl) dX11_stack_164 ⟨Nat.zero_le _, Nat.zero_le _⟩) hS (by decide) (fun H locs hW hS oq hB2 => ?_)
        obtain ⟨hV2, hB2⟩ := hB2
        have hV := kp_call hV hV1 hV2 (by decide)
        have hGR := hGR.same hWo oq (by decide) (by decide)
        have iP := QP.fr.kcall iP hWo hV1 hV2 oq (by decide) (by decide)
        have iR := QR.fr.kcall iR hWo hV1 hV2 oq (by decide) (by decide)
        have iB := QB.fr.kcall iB hWo hV1 hV2 oq (by decide) (by decide)
        have iM := QM.fr.kcall iM hWo hV1 hV2 oq (by decide) (by decide)
        have hGL : gP N 43 44 25 (fun j => ((j : Int) < v136_1.toInt) ∨ (j : Int) = v136_1.toInt) H := hB2
        have nh0_7 := kp_use hV1 hV2 (by decide) (by decide) nh0_7
        have nh0_15 := kp_use hV1 hV2 (by decide) (by decide) nh0_15
        have nh0_16 := kp_use hV1 hV2 (by decide) (by decide) nh0_16
        have nh0_17 := kp_use hV1 hV2 (by decide) (by decide) nh0_17
        have nh0_18 := kp_use hV1 hV2 (by decide) (by decide) nh0_18
        have nh0_19 := kp_use hV1 hV2 (by decide) (by decide) nh0_19
        have nh0_26 := kp_use hV1 hV2 (by decide) (by decide) nh0_26
        have nh0_29 := kp_use hV1 hV2 (by decide) (by decide) nh0_29
        have nh0_31 := kp_use hV1 hV2 (by decide) (by decide) nh0_31
        obtain ⟨x167, e167⟩ : ∃ y : Int32, y = v136_1 + 1 := ⟨_, rfl⟩
        have r167 : ir x167 1 24 := ir_w (ir_add e167 rv136_1_141 (ir_c (1) (by decide) : ir (1 : Int32) (1) (1)) (by decide) (by decide)) (by decide) (by decide)
        have t167 : x167.toInt = v136_1.toInt + (1) := it_add e167 rv136_1_141 (ir_c (1) (by decide) : ir (1 : Int32) (1) (1)) (by decide) (by decide)
        refine lv_iinc (v := x167) (lv' := [(1, .int x167), (0, .ref h0)]) hx hb dX11_stack_167 hl (k := 1) rfl (by rw [e167]; rfl) (by decide) rfl (fun ls hl => ?_)
        refine lv_goto (tgt := 136) hx hb dX11_stack_170 (by decide) ?_
        exact w2 _ _ _ (ih136 _ _ _ x167 u136_0 u136_2 u136_4 u136_5 u136_6 u136_7 u136_8 hW iP iR iB iM hV (hGL.sub (fun j hj h => by have h : (j : Int) < x167.toInt := h; show ((j : Int) < v136_1.toInt) ∨ (j : Int) = v136_1.toInt; have h30 := rv136_1_141; have h31 := r167; omega)) hGR hS (lv_sub hl [1, 0] rfl) (ir_w (lo' := 0) (hi' := 24) r167 (by decide) (by decide)) (ir_w (lo' := 0) (hi' := 24) ru136_0_141 (by decide) (by decide)) nh0_7 (ir_c (0) (by decide) : ir (0 : Int32) (0) (0)) nh0_15 ru136_2 nh0_16 (ir_c (-1) (by decide) : ir (-1 : Int32) (-1) (-1)) nh0_17 ru136_4 nh0_18 ru136_5 nh0_19 ru136_6 nh0_26 ru136_7 nh0_29 ru136_8 nh0_31 (by have h9 := r167; omega))
  have L25 : ∀ (n : Nat) (H : Heap) (locs : List Loc) (ls : Array Slot) (u25_0 : Int32) (u25_1 : Int32), cW N H → mI N h0 H → kp N h0 [7, 13, 15, 16, 17, 18, 19, 20, 21, 22, 26, 29, 30, 31] V H → va_S (cE N [11, 42, 43, 44, 45, 46, 47, 48, 49, 51, 52, 53, 54, 55]) s.heap H locs → lv_has ls 2 [(0, .ref h0)] → ir u25_0 0 200 → wt_pin N.1 vwCl h0 11 18 (.int u25_0) H → wt_pin N.1 vwCl h0 11 19 (.int u25_1) H → ((mSn u25_0 u25_1 : Nat) : Int) < (n : Int) → WW H locs (F0 m 25 ls []) := by
    intro n
    induction n with
    | zero =>
      intro H locs ls u25_0 u25_1 hW hI hV hS hl ru25_0 nh0_18 nh0_19 mu25
      exfalso
      omega
    | succ n ih25 =>
      intro H locs ls u25_0 u25_1 hW hI hV hS hl ru25_0 nh0_18 nh0_19 mu25
      refine w1 _ _ _ ?_
      refine lv_aload_n hx hb dX11_stack_25 rfl (lv_at hl 0 rfl) ?_
      refine wt_rel hx hb hts cfX11 hown hK nh0_19 rfl (by decide) (Or.inl (hts _ q891)) dX11_stack_26 ?_
      refine lv_if_ne (tgt := 47) hx hb dX11_stack_29 (by decide) (fun c29 => ?_) (fun c29 => ?_)
      · refine lv_aload_n hx hb dX11_stack_47 rfl (lv_at hl 0 rfl) ?_
        refine wt_getp hx hb hts cfX11 hown hK hW (cg11 k0) rfl 29 (by decide) (Or.inl (hts _ q901)) dX11_stack_48 (fun v hv nh0_29 => ?_)
        obtain ⟨x48, rfl, r48⟩ : gi 0 4 v := hv
        refine lv_if_le (tgt := 63) hx hb dX11_stack_51 (by decide) (fun c51 => ?_) (fun c51 => ?_)
        · have rx48_51 : ir x48 0 0 := ⟨(r48).1, Int.le_trans (rf_le c51 r48 (ir_c (0) (by decide) : ir (0 : Int32) (0) (0))).1 (by decide)⟩
          have d51 := Int32.le_iff_toInt_le.mp c51
          refine lv_aload_n hx hb dX11_stack_63 rfl (lv_at hl 0 rfl) ?_
          refine wt_getp hx hb hts cfX11 hown hK hW (cg11 k0) rfl 31 (by decide) (Or.inl (hts _ q903)) dX11_stack_64 (fun v hv nh0_31 => ?_)
          obtain ⟨x64, rfl, r64⟩ : gi (-1) 200 v := hv
          refine lv_iconst (v := -1) hx hb dX11_stack_67 (by decide) ?_
          refine lv_icmp_eq (tgt := 80) hx hb dX11_stack_68 (by decide) (fun c68 => ?_) (fun c68 => ?_)
          · have rx64_68 : ir x64 (-1) (-1) := rf_eq c68 (ir_c (-1) (by decide) : ir (-1 : Int32) (-1) (-1))
            obtain ⟨v, hv, nh0_26⟩ := cpin hW (cg11 k0) rfl 26 (by decide)
            obtain ⟨xp26_5, rfl, rp26_5⟩ : gi 0 100000 v := hv
            have h24 := (QB_rel hI.2.2.2.1 nh0_26 nh0_31).resolve_right (fun h => h c68)
            have r24 : ir xp26_5 0 24 := ⟨(rp26_5).1, h24⟩
            refine lv_aload_n hx hb dX11_stack_80 rfl (lv_at hl 0 rfl) ?_
            refine lv_iconst (v := 0) hx hb dX11_stack_81 (by decide) ?_
            refine wt_putp hx hb hts cfX11 tyX11 tyX11_ok nmX11 hown hK hW hS (cg11 k0) (ce k0 (by decide)) rfl 15 (by decide) (Or.inl (hts _ q887)) rfl rfl rfl (gi_mk (ir_w (lo' := 0) (hi' := 200) (ir_c (0) (by decide) : ir (0 : Int32) (0) (0)) (by decide) (by decide))) dX11_stack_82 (fun H locs hW hS oq o2 np => ?_)
            have nh0_18 := o2 18 _ (by decide) (by decide) nh0_18
            have nh0_19 := o2 19 _ (by decide) (by decide) nh0_19
            have nh0_29 := o2 29 _ (by decide) (by decide) nh0_29
            have nh0_31 := o2 31 _ (by decide) (by decide) nh0_31
            have nh0_26 := o2 26 _ (by decide) (by decide) nh0_26
            have nh0_15 : wt_pin N.1 vwCl h0 11 15 (.int (0 : Int32)) H := np
            have hV := hV.put (by decide) o2
            have hI := mI.fr.put hI k0 oq o2 (by decide) (by decide)
            refine lv_aload_n hx hb dX11_stack_85 rfl (lv_at hl 0 rfl) ?_
            refine lv_aload_n hx hb dX11_stack_86 rfl (lv_at hl 0 rfl) ?_
            refine wt_rel hx hb hts cfX11 hown hK nh0_19 rfl (by decide) (Or.inl (hts _ q891)) dX11_stack_87 ?_
            refine wt_putp hx hb hts cfX11 tyX11 tyX11_ok nmX11 hown hK hW hS (cg11 k0) (ce k0 (by decide)) rfl 16 (by decide) (Or.inl (hts _ q888)) rfl rfl rfl ga_mk dX11_stack_90 (fun H locs hW hS oq o2 np => ?_)
            have nh0_18 := o2 18 _ (by decide) (by decide) nh0_18
            have nh0_19 := o2 19 _ (by decide) (by decide) nh0_19
            have nh0_29 := o2 29 _ (by decide) (by decide) nh0_29
            have nh0_31 := o2 31 _ (by decide) (by decide) nh0_31
            have nh0_26 := o2 26 _ (by decide) (by decide) nh0_26
            have nh0_15 := o2 15 _ (by decide) (by decide) nh0_15
            have nh0_16 : wt_pin N.1 vwCl h0 11 16 (.int u25_1) H := np
            have hV := hV.put (by decide) o2
            have hI := mI.fr.put hI k0 oq o2 (by decide) (by decide)
            refine lv_aload_n hx hb dX11_stack_93 rfl (lv_at hl 0 rfl) ?_
            refine lv_aload_n hx hb dX11_stack_94 rfl (lv_at hl 0 rfl) ?_
            refine wt_rel hx hb hts cfX11 hown hK nh0_19 rfl (by decide) (Or.inl (hts _ q891)) dX11_stack_95 ?_
            refine lv_if_ne (tgt := 105) hx hb dX11_stack_98 (by decide) (fun c98 => ?_) (fun c98 => ?_)
            · refine lv_aload_n hx hb dX11_stack_105 rfl (lv_at hl 0 rfl) ?_
              refine wt_getp hx hb hts cfX11 hown hK hW (cg11 k0) rfl 20 (by decide) (Or.inl (hts _ q892)) dX11_stack_106 (fun v hv nh0_20 => ?_)
              obtain ⟨x106, rfl⟩ : ga v := hv
              refine wt_putp hx hb hts cfX11 tyX11 tyX11_ok nmX11 hown hK hW hS (cg11 k0) (ce k0 (by decide)) rfl 17 (by decide) (Or.inl (hts _ q889)) rfl rfl rfl ga_mk dX11_stack_109 (fun H locs hW hS oq o2 np => ?_)
              have nh0_18 := o2 18 _ (by decide) (by decide) nh0_18
              have nh0_19 := o2 19 _ (by decide) (by decide) nh0_19
              have nh0_29 := o2 29 _ (by decide) (by decide) nh0_29
              have nh0_31 := o2 31 _ (by decide) (by decide) nh0_31
              have nh0_26 := o2 26 _ (by decide) (by decide) nh0_26
              have nh0_15 := o2 15 _ (by decide) (by decide) nh0_15
              have nh0_16 := o2 16 _ (by decide) (by decide) nh0_16
              have nh0_20 := o2 20 _ (by decide) (by decide) nh0_20
              have nh0_17 : wt_pin N.1 vwCl h0 11 17 (.int x106) H := np
              have hV := hV.put (by decide) o2
              have hI := mI.fr.put hI k0 oq o2 (by decide) (by decide)
              refine lv_aload_n hx hb dX11_stack_112 rfl (lv_at hl 0 rfl) ?_
              refine wt_rel hx hb hts cfX11 hown hK nh0_19 rfl (by decide) (Or.inl (hts _ q891)) dX11_stack_113 ?_
              refine lv_if_eq (tgt := 121) hx hb dX11_stack_116 (by decide) (fun c116 => ?_) (fun c116 => ?_)
              · exact absurd c116 c98
              · refine lv_iconst (v := -1) hx hb dX11_stack_119 (by decide) ?_
                exact W.iret (v := (-1 : Int32)) hx hb hr (fun t ht _ => ⟨⟨(-1 : Int32), (-1 : Int32), rfl, ⟨rfl, trivial⟩, cW_at ht hW, ⟨mI_at ht hI, kp_at ht hV⟩⟩, hS.F ht⟩) hS.2.2 dX11_stack_120
            · exact absurd c98 c29
          · have rx64_68 : ir x64 0 200 := rf_nel c68 r64 (by decide) (by decide)
            refine lv_aload_n hx hb dX11_stack_71 rfl (lv_at hl 0 rfl) ?_
            refine lv_iconst (v := 4) hx hb dX11_stack_72 (by decide) ?_
            refine lv_aload_n hx hb dX11_stack_73 rfl (lv_at hl 0 rfl) ?_
            refine wt_rel hx hb hts cfX11 hown hK nh0_31 rfl (by decide) (Or.inl (hts _ q903)) dX11_stack_74 ?_
            obtain ⟨V1, hV1⟩ := kp_all hW k0
            refine cc_v (B2 := fun H => mI N h0 H ∧ kp N h0 [19, 20] V1 H ∧ ∃ y : Int32, pI N h0 19 y H ∧ ¬ y = 0) (wt_runV (As := [.int (4 : Int32), .int x64]) (rest := []) ⟨hx, hb, hml, hown, hts⟩ (m_X11_fails l N h0 k0 hO V1 (4 : Int32) x64 (by decide)) wm_X11_fails q1172 ⟨rfl, rfl⟩ ⟨Nat.le_of_ble_eq_true rfl, Nat.le_of_ble_eq_true rfl⟩ (cS_preV (B := fun H => mI N h0 H ∧ kp N h0 [19, 20] V1 H) hK hW hT hnn hS (cg11 k0) rfl rfl (And.intro hI (kp_of (F := [19, 20]) hV1))) rfl hl.1 rfl (Nat.le_of_ble_eq_true rfl) dX11_stack_77 ⟨Nat.zero_le _, Nat.zero_le _⟩) hS (by decide) (fun H locs hW hS oq hB2 => ?_)
            obtain ⟨hI, hV2, hB2⟩ := hB2
            have hV := kp_call hV hV1 hV2 (by decide)
            obtain ⟨xx77_19, nh0_19, hbad77⟩ := hB2
            have nh0_18 := kp_use hV1 hV2 (by decide) (by decide) nh0_18
            have nh0_29 := kp_use hV1 hV2 (by decide) (by decide) nh0_29
            have nh0_31 := kp_use hV1 hV2 (by decide) (by decide) nh0_31
            refine lv_aload_n hx hb dX11_stack_80 rfl (lv_at hl 0 rfl) ?_
            refine lv_iconst (v := 0) hx hb dX11_stack_81 (by decide) ?_
            refine wt_putp hx hb hts cfX11 tyX11 tyX11_ok nmX11 hown hK hW hS (cg11 k0) (ce k0 (by decide)) rfl 15 (by decide) (Or.inl (hts _ q887)) rfl rfl rfl (gi_mk (ir_w (lo' := 0) (hi' := 200) (ir_c (0) (by decide) : ir (0 : Int32) (0) (0)) (by decide) (by decide))) dX11_stack_82 (fun H locs hW hS oq o2 np => ?_)
            have nh0_18 := o2 18 _ (by decide) (by decide) nh0_18
            have nh0_19 := o2 19 _ (by decide) (by decide) nh0_19
            have nh0_29 := o2 29 _ (by decide) (by decide) nh0_29
            have nh0_31 := o2 31 _ (by decide) (by decide) nh0_31
            have nh0_15 : wt_pin N.1 vwCl h0 11 15 (.int (0 : Int32)) H := np
            have hV := hV.put (by decide) o2
            have hI := mI.fr.put hI k0 oq o2 (by decide) (by decide)
            refine lv_aload_n hx hb dX11_stack_85 rfl (lv_at hl 0 rfl) ?_
            refine lv_aload_n hx hb dX11_stack_86 rfl (lv_at hl 0 rfl) ?_
            refine wt_rel hx hb hts cfX11 hown hK nh0_19 rfl (by decide) (Or.inl (hts _ q891)) dX11_stack_87 ?_
            refine wt_putp hx hb hts cfX11 tyX11 tyX11_ok nmX11 hown hK hW hS (cg11 k0) (ce k0 (by decide)) rfl 16 (by decide) (Or.inl (hts _ q888)) rfl rfl rfl ga_mk dX11_stack_90 (fun H locs hW hS oq o2 np => ?_)
            have nh0_18 := o2 18 _ (by decide) (by decide) nh0_18
            have nh0_19 := o2 19 _ (by decide) (by decide) nh0_19
            have nh0_29 := o2 29 _ (by decide) (by decide) nh0_29
            have nh0_31 := o2 31 _ (by decide) (by decide) nh0_31
            have nh0_15 := o2 15 _ (by decide) (by decide) nh0_15
            have nh0_16 : wt_pin N.1 vwCl h0 11 16 (.int xx77_19) H := np
            have hV := hV.put (by decide) o2
            have hI := mI.fr.put hI k0 oq o2 (by decide) (by decide)
            refine lv_aload_n hx hb dX11_stack_93 rfl (lv_at hl 0 rfl) ?_
            refine lv_aload_n hx hb dX11_stack_94 rfl (lv_at hl 0 rfl) ?_
            refine wt_rel hx hb hts cfX11 hown hK nh0_19 rfl (by decide) (Or.inl (hts _ q891)) dX11_stack_95 ?_
            refine lv_if_ne (tgt := 105) hx hb dX11_stack_98 (by decide) (fun c98 => ?_) (fun c98 => ?_)
            · refine lv_aload_n hx hb dX11_stack_105 rfl (lv_at hl 0 rfl) ?_
              refine wt_getp hx hb hts cfX11 hown hK hW (cg11 k0) rfl 20 (by decide) (Or.inl (hts _ q892)) dX11_stack_106 (fun v hv nh0_20 => ?_)
              obtain ⟨x106, rfl⟩ : ga v := hv
              refine wt_putp hx hb hts cfX11 tyX11 tyX11_ok nmX11 hown hK hW hS (cg11 k0) (ce k0 (by decide)) rfl 17 (by decide) (Or.inl (hts _ q889)) rfl rfl rfl ga_mk dX11_stack_109 (fun H locs hW hS oq o2 np => ?_)
              have nh0_18 := o2 18 _ (by decide) (by decide) nh0_18
              have nh0_19 := o2 19 _ (by decide) (by decide) nh0_19
              have nh0_29 := o2 29 _ (by decide) (by decide) nh0_29
              have nh0_31 := o2 31 _ (by decide) (by decide) nh0_31
              have nh0_15 := o2 15 _ (by decide) (by decide) nh0_15
              have nh0_16 := o2 16 _ (by decide) (by decide) nh0_16
              have nh0_20 := o2 20 _ (by decide) (by decide) nh0_20
              have nh0_17 : wt_pin N.1 vwCl h0 11 17 (.int x106) H := np
              have hV := hV.put (by decide) o2
              have hI := mI.fr.put hI k0 oq o2 (by decide) (by decide)
              refine lv_aload_n hx hb dX11_stack_112 rfl (lv_at hl 0 rfl) ?_
              refine wt_rel hx hb hts cfX11 hown hK nh0_19 rfl (by decide) (Or.inl (hts _ q891)) dX11_stack_113 ?_
              refine lv_if_eq (tgt := 121) hx hb dX11_stack_116 (by decide) (fun c116 => ?_) (fun c116 => ?_)
              · exact absurd c116 c98
              · refine lv_iconst (v := -1) hx hb dX11_stack_119 (by decide) ?_
                exact W.iret (v := (-1 : Int32)) hx hb hr (fun t ht _ => ⟨⟨(-1 : Int32), (-1 : Int32), rfl, ⟨rfl, trivial⟩, cW_at ht hW, ⟨mI_at ht hI, kp_at ht hV⟩⟩, hS.F ht⟩) hS.2.2 dX11_stack_120
            · exact absurd c98 hbad77
        · have rx48_51 : ir x48 1 4 := ⟨Int.le_trans (by decide) (rf_lt (rf_nle c51) (ir_c (0) (by decide) : ir (0 : Int32) (0) (0)) r48).2, (r48).2⟩
          have d51 := Int32.lt_iff_toInt_lt.mp (rf_nle c51)
          refine lv_aload_n hx hb dX11_stack_54 rfl (lv_at hl 0 rfl) ?_
          refine lv_iconst (v := 1) hx hb dX11_stack_55 (by decide) ?_
          refine lv_aload_n hx hb dX11_stack_56 rfl (lv_at hl 0 rfl) ?_
          refine wt_rel hx hb hts cfX11 hown hK nh0_18 rfl (by decide) (Or.inl (hts _ q890)) dX11_stack_57 ?_
          obtain ⟨V1, hV1⟩ := kp_all hW k0
          refine cc_v (B2 := fun H => mI N h0 H ∧ kp N h0 [19, 20] V1 H ∧ ∃ y : Int32, pI N h0 19 y H ∧ ¬ y = 0) (wt_runV (As := [.int (1 : Int32), .int u25_0]) (rest := []) ⟨hx, hb, hml, hown, hts⟩ (m_X11_fails l N h0 k0 hO V1 (1 : Int32) u25_0 (by decide)) wm_X11_fails q1172 ⟨rfl, rfl⟩ ⟨Nat.le_of_ble_eq_true rfl, Nat.le_of_ble_eq_true rfl⟩ (cS_preV (B := fun H => mI N h0 H ∧ kp N h0 [19, 20] V1 H) hK hW hT hnn hS (cg11 k0) rfl rfl (And.intro hI (kp_of (F := [19, 20]) hV1))) rfl hl.1 rfl (Nat.le_of_ble_eq_true rfl) dX11_stack_60 ⟨Nat.zero_le _, Nat.zero_le _⟩) hS (by decide) (fun H locs hW hS oq hB2 => ?_)
          obtain ⟨hI, hV2, hB2⟩ := hB2
          have hV := kp_call hV hV1 hV2 (by decide)
          obtain ⟨xx60_19, nh0_19, hbad60⟩ := hB2
          have nh0_18 := kp_use hV1 hV2 (by decide) (by decide) nh0_18
          have nh0_29 := kp_use hV1 hV2 (by decide) (by decide) nh0_29
          refine lv_aload_n hx hb dX11_stack_63 rfl (lv_at hl 0 rfl) ?_
          refine wt_getp hx hb hts cfX11 hown hK hW (cg11 k0) rfl 31 (by decide) (Or.inl (hts _ q903)) dX11_stack_64 (fun v hv nh0_31 => ?_)
          obtain ⟨x64, rfl, r64⟩ : gi (-1) 200 v := hv
          refine lv_iconst (v := -1) hx hb dX11_stack_67 (by decide) ?_
          refine lv_icmp_eq (tgt := 80) hx hb dX11_stack_68 (by decide) (fun c68 => ?_) (fun c68 => ?_)
          · have rx64_68 : ir x64 (-1) (-1) := rf_eq c68 (ir_c (-1) (by decide) : ir (-1 : Int32) (-1) (-1))
            obtain ⟨v, hv, nh0_26⟩ := cpin hW (cg11 k0) rfl 26 (by decide)
            obtain ⟨xp26_6, rfl, rp26_6⟩ : gi 0 100000 v := hv
            have h24 := (QB_rel hI.2.2.2.1 nh0_26 nh0_31).resolve_right (fun h => h c68)
            have r24 : ir xp26_6 0 24 := ⟨(rp26_6).1, h24⟩
            refine lv_aload_n hx hb dX11_stack_80 rfl (lv_at hl 0 rfl) ?_
            refine lv_iconst (v := 0) hx hb dX11_stack_81 (by decide) ?_
            refine wt_putp hx hb hts cfX11 tyX11 tyX11_ok nmX11 hown hK hW hS (cg11 k0) (ce k0 (by decide)) rfl 15 (by decide) (Or.inl (hts _ q887)) rfl rfl rfl (gi_mk (ir_w (lo' := 0) (hi' := 200) (ir_c (0) (by decide) : ir (0 : Int32) (0) (0)) (by decide) (by decide))) dX11_stack_82 (fun H locs hW hS oq o2 np => ?_)
            have nh0_18 := o2 18 _ (by decide) (by decide) nh0_18
            have nh0_19 := o2 19 _ (by decide) (by decide) nh0_19
            have nh0_29 := o2 29 _ (by decide) (by decide) nh0_29
            have nh0_31 := o2 31 _ (by decide) (by decide) nh0_31
            have nh0_26 := o2 26 _ (by decide) (by decide) nh0_26
            have nh0_15 : wt_pin N.1 vwCl h0 11 15 (.int (0 : Int32)) H := np
            have hV := hV.put (by decide) o2
            have hI := mI.fr.put hI k0 oq o2 (by decide) (by decide)
            refine lv_aload_n hx hb dX11_stack_85 rfl (lv_at hl 0 rfl) ?_
            refine lv_aload_n hx hb dX11_stack_86 rfl (lv_at hl 0 rfl) ?_
            refine wt_rel hx hb hts cfX11 hown hK nh0_19 rfl (by decide) (Or.inl (hts _ q891)) dX11_stack_87 ?_
            refine wt_putp hx hb hts cfX11 tyX11 tyX11_ok nmX11 hown hK hW hS (cg11 k0) (ce k0 (by decide)) rfl 16 (by decide) (Or.inl (hts _ q888)) rfl rfl rfl ga_mk dX11_stack_90 (fun H locs hW hS oq o2 np => ?_)
            have nh0_18 := o2 18 _ (by decide) (by decide) nh0_18
            have nh0_19 := o2 19 _ (by decide) (by decide) nh0_19
            have nh0_29 := o2 29 _ (by decide) (by decide) nh0_29
            have nh0_31 := o2 31 _ (by decide) (by decide) nh0_31
            have nh0_26 := o2 26 _ (by decide) (by decide) nh0_26
            have nh0_15 := o2 15 _ (by decide) (by decide) nh0_15
            have nh0_16 : wt_pin N.1 vwCl h0 11 16 (.int xx60_19) H := np
            have hV := hV.put (by decide) o2
            have hI := mI.fr.put hI k0 oq o2 (by decide) (by decide)
            refine lv_aload_n hx hb dX11_stack_93 rfl (lv_at hl 0 rfl) ?_
            refine lv_aload_n hx hb dX11_stack_94 rfl (lv_at hl 0 rfl) ?_
            refine wt_rel hx hb hts cfX11 hown hK nh0_19 rfl (by decide) (Or.inl (hts _ q891)) dX11_stack_95 ?_
            refine lv_if_ne (tgt := 105) hx hb dX11_stack_98 (by decide) (fun c98 => ?_) (fun c98 => ?_)
            · refine lv_aload_n hx hb dX11_stack_105 rfl (lv_at hl 0 rfl) ?_
              refine wt_getp hx hb hts cfX11 hown hK hW (cg11 k0) rfl 20 (by decide) (Or.inl (hts _ q892)) dX11_stack_106 (fun v hv nh0_20 => ?_)
              obtain ⟨x106, rfl⟩ : ga v := hv
              refine wt_putp hx hb hts cfX11 tyX11 tyX11_ok nmX11 hown hK hW hS (cg11 k0) (ce k0 (by decide)) rfl 17 (by decide) (Or.inl (hts _ q889)) rfl rfl rfl ga_mk dX11_stack_109 (fun H locs hW hS oq o2 np => ?_)
              have nh0_18 := o2 18 _ (by decide) (by decide) nh0_18
              have nh0_19 := o2 19 _ (by decide) (by decide) nh0_19
              have nh0_29 := o2 29 _ (by decide) (by decide) nh0_29
              have nh0_31 := o2 31 _ (by decide) (by decide) nh0_31
              have nh0_26 := o2 26 _ (by decide) (by decide) nh0_26
              have nh0_15 := o2 15 _ (by decide) (by decide) nh0_15
              have nh0_16 := o2 16 _ (by decide) (by decide) nh0_16
              have nh0_20 := o2 20 _ (by decide) (by decide) nh0_20
              have nh0_17 : wt_pin N.1 vwCl h0 11 17 (.int x106) H := np
              have hV := hV.put (by decide) o2
              have hI := mI.fr.put hI k0 oq o2 (by decide) (by decide)
              refine lv_aload_n hx hb dX11_stack_112 rfl (lv_at hl 0 rfl) ?_
              refine wt_rel hx hb hts cfX11 hown hK nh0_19 rfl (by decide) (Or.inl (hts _ q891)) dX11_stack_113 ?_
              refine lv_if_eq (tgt := 121) hx hb dX11_stack_116 (by decide) (fun c116 => ?_) (fun c116 => ?_)
              · exact absurd c116 c98
              · refine lv_iconst (v := -1) hx hb dX11_stack_119 (by decide) ?_
                exact W.iret (v := (-1 : Int32)) hx hb hr (fun t ht _ => ⟨⟨(-1 : Int32), (-1 : Int32), rfl, ⟨rfl, trivial⟩, cW_at ht hW, ⟨mI_at ht hI, kp_at ht hV⟩⟩, hS.F ht⟩) hS.2.2 dX11_stack_120
            · exact absurd c98 hbad60
          · have rx64_68 : ir x64 0 200 := rf_nel c68 r64 (by decide) (by decide)
            refine lv_aload_n hx hb dX11_stack_71 rfl (lv_at hl 0 rfl) ?_
            refine lv_iconst (v := 4) hx hb dX11_stack_72 (by decide) ?_
            refine lv_aload_n hx hb dX11_stack_73 rfl (lv_at hl 0 rfl) ?_
            refine wt_rel hx hb hts cfX11 hown hK nh0_31 rfl (by decide) (Or.inl (hts _ q903)) dX11_stack_74 ?_
            obtain ⟨V1, hV1⟩ := kp_all hW k0
            refine cc_v (B2 := fun H => mI N h0 H ∧ kp N h0 [19, 20] V1 H ∧ ∃ y : Int32, pI N h0 19 y H ∧ ¬ y = 0) (wt_runV (As := [.int (4 : Int32), .int x64]) (rest := []) ⟨hx, hb, hml, hown, hts⟩ (m_X11_fails l N h0 k0 hO V1 (4 : Int32) x64 (by decide)) wm_X11_fails q1172 ⟨rfl, rfl⟩ ⟨Nat.le_of_ble_eq_true rfl, Nat.le_of_ble_eq_true rfl⟩ (cS_preV (B := fun H => mI N h0 H ∧ kp N h0 [19, 20] V1 H) hK hW hT hnn hS (cg11 k0) rfl rfl (And.intro hI (kp_of (F := [19, 20]) hV1))) rfl hl.1 rfl (Nat.le_of_ble_eq_true rfl) dX11_stack_77 ⟨Nat.zero_le _, Nat.zero_le _⟩) hS (by decide) (fun H locs hW hS oq hB2 => ?_)
            obtain ⟨hI, hV2, hB2⟩ := hB2
            have hV := kp_call hV hV1 hV2 (by decide)
            obtain ⟨xx77_19, nh0_19, hbad77⟩ := hB2
            have nh0_18 := kp_use hV1 hV2 (by decide) (by decide) nh0_18
            have nh0_29 := kp_use hV1 hV2 (by decide) (by decide) nh0_29
            have nh0_31 := kp_use hV1 hV2 (by decide) (by decide) nh0_31
            refine lv_aload_n hx hb dX11_stack_80 rfl (lv_at hl 0 rfl) ?_
            refine lv_iconst (v := 0) hx hb dX11_stack_81 (by decide) ?_
            refine wt_putp hx hb hts cfX11 tyX11 tyX11_ok nmX11 hown hK hW hS (cg11 k0) (ce k0 (by decide)) rfl 15 (by decide) (Or.inl (hts _ q887)) rfl rfl rfl (gi_mk (ir_w (lo' := 0) (hi' := 200) (ir_c (0) (by decide) : ir (0 : Int32) (0) (0)) (by decide) (by decide))) dX11_stack_82 (fun H locs hW hS oq o2 np => ?_)
            have nh0_18 := o2 18 _ (by decide) (by decide) nh0_18
            have nh0_19 := o2 19 _ (by decide) (by decide) nh0_19
            have nh0_29 := o2 29 _ (by decide) (by decide) nh0_29
            have nh0_31 := o2 31 _ (by decide) (by decide) nh0_31
            have nh0_15 : wt_pin N.1 vwCl h0 11 15 (.int (0 : Int32)) H := np
            have hV := hV.put (by decide) o2
            have hI := mI.fr.put hI k0 oq o2 (by decide) (by decide)
            refine lv_aload_n hx hb dX11_stack_85 rfl (lv_at hl 0 rfl) ?_
            refine lv_aload_n hx hb dX11_stack_86 rfl (lv_at hl 0 rfl) ?_
            refine wt_rel hx hb hts cfX11 hown hK nh0_19 rfl (by decide) (Or.inl (hts _ q891)) dX11_stack_87 ?_
            refine wt_putp hx hb hts cfX11 tyX11 tyX11_ok nmX11 hown hK hW hS (cg11 k0) (ce k0 (by decide)) rfl 16 (by decide) (Or.inl (hts _ q888)) rfl rfl rfl ga_mk dX11_stack_90 (fun H locs hW hS oq o2 np => ?_)
            have nh0_18 := o2 18 _ (by decide) (by decide) nh0_18
            have nh0_19 := o2 19 _ (by decide) (by decide) nh0_19
            have nh0_29 := o2 29 _ (by decide) (by decide) nh0_29
            have nh0_31 := o2 31 _ (by decide) (by decide) nh0_31
            have nh0_15 := o2 15 _ (by decide) (by decide) nh0_15
            have nh0_16 : wt_pin N.1 vwCl h0 11 16 (.int xx77_19) H := np
            have hV := hV.put (by decide) o2
            have hI := mI.fr.put hI k0 oq o2 (by decide) (by decide)
            refine lv_aload_n hx hb dX11_stack_93 rfl (lv_at hl 0 rfl) ?_
            refine lv_aload_n hx hb dX11_stack_94 rfl (lv_at hl 0 rfl) ?_
            refine wt_rel hx hb hts cfX11 hown hK nh0_19 rfl (by decide) (Or.inl (hts _ q891)) dX11_stack_95 ?_
            refine lv_if_ne (tgt := 105) hx hb dX11_stack_98 (by decide) (fun c98 => ?_) (fun c98 => ?_)
            · refine lv_aload_n hx hb dX11_stack_105 rfl (lv_at hl 0 rfl) ?_
              refine wt_getp hx hb hts cfX11 hown hK hW (cg11 k0) rfl 20 (by decide) (Or.inl (hts _ q892)) dX11_stack_106 (fun v hv nh0_20 => ?_)
              obtain ⟨x106, rfl⟩ : ga v := hv
              refine wt_putp hx hb hts cfX11 tyX11 tyX11_ok nmX11 hown hK hW hS (cg11 k0) (ce k0 (by decide)) rfl 17 (by decide) (Or.inl (hts _ q889)) rfl rfl rfl ga_mk dX11_stack_109 (fun H locs hW hS oq o2 np => ?_)
              have nh0_18 := o2 18 _ (by decide) (by decide) nh0_18
              have nh0_19 := o2 19 _ (by decide) (by decide) nh0_19
              have nh0_29 := o2 29 _ (by decide) (by decide) nh0_29
              have nh0_31 := o2 31 _ (by decide) (by decide) nh0_31
              have nh0_15 := o2 15 _ (by decide) (by decide) nh0_15
              have nh0_16 := o2 16 _ (by decide) (by decide) nh0_16
              have nh0_20 := o2 20 _ (by decide) (by decide) nh0_20
              have nh0_17 : wt_pin N.1 vwCl h0 11 17 (.int x106) H := np
              have hV := hV.put (by decide) o2
              have hI := mI.fr.put hI k0 oq o2 (by decide) (by decide)
              refine lv_aload_n hx hb dX11_stack_112 rfl (lv_at hl 0 rfl) ?_
              refine wt_rel hx hb hts cfX11 hown hK nh0_19 rfl (by decide) (Or.inl (hts _ q891)) dX11_stack_113 ?_
              refine lv_if_eq (tgt := 121) hx hb dX11_stack_116 (by decide) (fun c116 => ?_) (fun c116 => ?_)
              · exact absurd c116 c98
              · refine lv_iconst (v := -1) hx hb dX11_stack_119 (by decide) ?_
                exact W.iret (v := (-1 : Int32)) hx hb hr (fun t ht _ => ⟨⟨(-1 : Int32), (-1 : Int32), rfl, ⟨rfl, trivial⟩, cW_at ht hW, ⟨mI_at ht hI, kp_at ht hV⟩⟩, hS.F ht⟩) hS.2.2 dX11_stack_120
            · exact absurd c98 hbad77
      · have ru25_1_29 : ir u25_1 0 0 := rf_eq c29 (ir_c (0) (by decide) : ir (0 : Int32) (0) (0))
        refine lv_aload_n hx hb dX11_stack_32 rfl (lv_at hl 0 rfl) ?_
        obtain ⟨v, hv, nh0_15⟩ := cpin hW (cg11 k0) rfl 15 (by decide)
        obtain ⟨x33_15, rfl, r33_15⟩ : gi 0 200 v := hv
        obtain ⟨V1, hV1⟩ := kp_all hW k0
        refine cc_i2 (B2 := fun r H => mI N h0 H ∧ kp N h0 [18] V1 H ∧ ∃ x : Int32, pI N h0 18 x H ∧ ir x 0 200 ∧ u25_0.toInt ≤ x.toInt ∧ (¬ r = -1 → x.toInt ≤ 199)) (wt_runV (As := []) (rest := []) ⟨hx, hb, hml, hown, hts⟩ (m_X11_see l N h0 k0 hO V1 x33_15 u25_0) wm_X11_see q1140 ⟨rfl, rfl⟩ ⟨Nat.le_of_ble_eq_true rfl, Nat.le_of_ble_eq_true rfl⟩ (cS_preV (B := fun H => mI N h0 H ∧ kp N h0 [18] V1 H ∧ wt_pin N.1 vwCl h0 11 15 (.int x33_15) H ∧ wt_pin N.1 vwCl h0 11 18 (.int u25_0) H) hK hW hT hnn hS (cg11 k0) rfl rfl (And.intro hI (And.intro (kp_of (F := [18]) hV1) (And.intro nh0_15 nh0_18)))) rfl hl.1 rfl (Nat.le_of_ble_eq_true rfl) dX11_stack_33 ⟨Nat.zero_le _, Nat.zero_le _⟩) hS (by decide) (fun x33 H locs hp hW hS oq hB2 => ?_)
        obtain ⟨hI, hV2, hB2⟩ := hB2
        have hV := kp_call hV hV1 hV2 (by decide)
        obtain ⟨xa33, nh0_18, ra33, lm33, la33⟩ := hB2
        have nh0_19 := kp_use hV1 hV2 (by decide) (by decide) nh0_19
        have nh0_15 := kp_use hV1 hV2 (by decide) (by decide) nh0_15
        have r33 : ir x33 (-1) 255 := hp
        refine lv_iconst (v := -1) hx hb dX11_stack_36 (by decide) ?_
        refine lv_icmp_eq (tgt := 47) hx hb dX11_stack_37 (by decide) (fun c37 => ?_) (fun c37 => ?_)
        · have rx33_37 : ir x33 (-1) (-1) := rf_eq c37 (ir_c (-1) (by decide) : ir (-1 : Int32) (-1) (-1))
          refine lv_aload_n hx hb dX11_stack_47 rfl (lv_at hl 0 rfl) ?_
          refine wt_getp hx hb hts cfX11 hown hK hW (cg11 k0) rfl 29 (by decide) (Or.inl (hts _ q901)) dX11_stack_48 (fun v hv nh0_29 => ?_)
          obtain ⟨x48, rfl, r48⟩ : gi 0 4 v := hv
          refine lv_if_le (tgt := 63) hx hb dX11_stack_51 (by decide) (fun c51 => ?_) (fun c51 => ?_)
          · have rx48_51 : ir x48 0 0 := ⟨(r48).1, Int.le_trans (rf_le c51 r48 (ir_c (0) (by decide) : ir (0 : Int32) (0) (0))).1 (by decide)⟩
            have d51 := Int32.le_iff_toInt_le.mp c51
            refine lv_aload_n hx hb dX11_stack_63 rfl (lv_at hl 0 rfl) ?_
            refine wt_getp hx hb hts cfX11 hown hK hW (cg11 k0) rfl 31 (by decide) (Or.inl (hts _ q903)) dX11_stack_64 (fun v hv nh0_31 => ?_)
            obtain ⟨x64, rfl, r64⟩ : gi (-1) 200 v := hv
            refine lv_iconst (v := -1) hx hb dX11_stack_67 (by decide) ?_
            refine lv_icmp_eq (tgt := 80) hx hb dX11_stack_68 (by decide) (fun c68 => ?_) (fun c68 => ?_)
            · have rx64_68 : ir x64 (-1) (-1) := rf_eq c68 (ir_c (-1) (by decide) : ir (-1 : Int32) (-1) (-1))
              obtain ⟨v, hv, nh0_26⟩ := cpin hW (cg11 k0) rfl 26 (by decide)
              obtain ⟨xp26_7, rfl, rp26_7⟩ : gi 0 100000 v := hv
              have h24 := (QB_rel hI.2.2.2.1 nh0_26 nh0_31).resolve_right (fun h => h c68)
              have r24 : ir xp26_7 0 24 := ⟨(rp26_7).1, h24⟩
              refine lv_aload_n hx hb dX11_stack_80 rfl (lv_at hl 0 rfl) ?_
              refine lv_iconst (v := 0) hx hb dX11_stack_81 (by decide) ?_
              refine wt_putp hx hb hts cfX11 tyX11 tyX11_ok nmX11 hown hK hW hS (cg11 k0) (ce k0 (by decide)) rfl 15 (by decide) (Or.inl (hts _ q887)) rfl rfl rfl (gi_mk (ir_w (lo' := 0) (hi' := 200) (ir_c (0) (by decide) : ir (0 : Int32) (0) (0)) (by decide) (by decide))) dX11_stack_82 (fun H locs hW hS oq o2 np => ?_)
              have nh0_18 := o2 18 _ (by decide) (by decide) nh0_18
              have nh0_19 := o2 19 _ (by decide) (by decide) nh0_19
              have nh0_29 := o2 29 _ (by decide) (by decide) nh0_29
              have nh0_31 := o2 31 _ (by decide) (by decide) nh0_31
              have nh0_26 := o2 26 _ (by decide) (by decide) nh0_26
              have nh0_15 : wt_pin N.1 vwCl h0 11 15 (.int (0 : Int32)) H := np
              have hV := hV.put (by decide) o2
              have hI := mI.fr.put hI k0 oq o2 (by decide) (by decide)
              refine lv_aload_n hx hb dX11_stack_85 rfl (lv_at hl 0 rfl) ?_
              refine lv_aload_n hx hb dX11_stack_86 rfl (lv_at hl 0 rfl) ?_
              refine wt_rel hx hb hts cfX11 hown hK nh0_19 rfl (by decide) (Or.inl (hts _ q891)) dX11_stack_87 ?_
              refine wt_putp hx hb hts cfX11 tyX11 tyX11_ok nmX11 hown hK hW hS (cg11 k0) (ce k0 (by decide)) rfl 16 (by decide) (Or.inl (hts _ q888)) rfl rfl rfl ga_mk dX11_stack_90 (fun H locs hW hS oq o2 np => ?_)
              have nh0_18 := o2 18 _ (by decide) (by decide) nh0_18
              have nh0_19 := o2 19 _ (by decide) (by decide) nh0_19
              have nh0_29 := o2 29 _ (by decide) (by decide) nh0_29
              have nh0_31 := o2 31 _ (by decide) (by decide) nh0_31
              have nh0_26 := o2 26 _ (by decide) (by decide) nh0_26
              have nh0_15 := o2 15 _ (by decide) (by decide) nh0_15
              have nh0_16 : wt_pin N.1 vwCl h0 11 16 (.int u25_1) H := np
              have hV := hV.put (by decide) o2
              have hI := mI.fr.put hI k0 oq o2 (by decide) (by decide)
              refine lv_aload_n hx hb dX11_stack_93 rfl (lv_at hl 0 rfl) ?_
              refine lv_aload_n hx hb dX11_stack_94 rfl (lv_at hl 0 rfl) ?_
              refine wt_rel hx hb hts cfX11 hown hK nh0_19 rfl (by decide) (Or.inl (hts _ q891)) dX11_stack_95 ?_
              refine lv_if_ne (tgt := 105) hx hb dX11_stack_98 (by decide) (fun c98 => ?_) (fun c98 => ?_)
              · have ru25_1_98 : ir u25_1 1 0 := rf_ne0 c98 ru25_1_29
                refine lv_aload_n hx hb dX11_stack_105 rfl (lv_at hl 0 rfl) ?_
                refine wt_getp hx hb hts cfX11 hown hK hW (cg11 k0) rfl 20 (by decide) (Or.inl (hts _ q892)) dX11_stack_106 (fun v hv nh0_20 => ?_)
                obtain ⟨x106, rfl⟩ : ga v := hv
                refine wt_putp hx hb hts cfX11 tyX11 tyX11_ok nmX11 hown hK hW hS (cg11 k0) (ce k0 (by decide)) rfl 17 (by decide) (Or.inl (hts _ q889)) rfl rfl rfl ga_mk dX11_stack_109 (fun H locs hW hS oq o2 np => ?_)
                have nh0_18 := o2 18 _ (by decide) (by decide) nh0_18
                have nh0_19 := o2 19 _ (by decide) (by decide) nh0_19
                have nh0_29 := o2 29 _ (by decide) (by decide) nh0_29
                have nh0_31 := o2 31 _ (by decide) (by decide) nh0_31
                have nh0_26 := o2 26 _ (by decide) (by decide) nh0_26
                have nh0_15 := o2 15 _ (by decide) (by decide) nh0_15
                have nh0_16 := o2 16 _ (by decide) (by decide) nh0_16
                have nh0_20 := o2 20 _ (by decide) (by decide) nh0_20
                have nh0_17 : wt_pin N.1 vwCl h0 11 17 (.int x106) H := np
                have hV := hV.put (by decide) o2
                have hI := mI.fr.put hI k0 oq o2 (by decide) (by decide)
                refine lv_aload_n hx hb dX11_stack_112 rfl (lv_at hl 0 rfl) ?_
                refine wt_rel hx hb hts cfX11 hown hK nh0_19 rfl (by decide) (Or.inl (hts _ q891)) dX11_stack_113 ?_
                refine lv_if_eq (tgt := 121) hx hb dX11_stack_116 (by decide) (fun c116 => ?_) (fun c116 => ?_)
                · exact absurd c116 c98
                · refine lv_iconst (v := -1) hx hb dX11_stack_119 (by decide) ?_
                  exact W.iret (v := (-1 : Int32)) hx hb hr (fun t ht _ => ⟨⟨(-1 : Int32), (-1 : Int32), rfl, ⟨rfl, trivial⟩, cW_at ht hW, ⟨mI_at ht hI, kp_at ht hV⟩⟩, hS.F ht⟩) hS.2.2 dX11_stack_120
              · refine lv_iconst (v := -1) hx hb dX11_stack_101 (by decide) ?_
                refine lv_goto (tgt := 109) hx hb dX11_stack_102 (by decide) ?_
                refine wt_putp hx hb hts cfX11 tyX11 tyX11_ok nmX11 hown hK hW hS (cg11 k0) (ce k0 (by decide)) rfl 17 (by decide) (Or.inl (hts _ q889)) rfl rfl rfl ga_mk dX11_stack_109 (fun H locs hW hS oq o2 np => ?_)
                have nh0_18 := o2 18 _ (by decide) (by decide) nh0_18
                have nh0_19 := o2 19 _ (by decide) (by decide) nh0_19
                have nh0_29 := o2 29 _ (by decide) (by decide) nh0_29
                have nh0_31 := o2 31 _ (by decide) (by decide) nh0_31
                have nh0_26 := o2 26 _ (by decide) (by decide) nh0_26
                have nh0_15 := o2 15 _ (by decide) (by decide) nh0_15
                have nh0_16 := o2 16 _ (by decide) (by decide) nh0_16
                have nh0_17 : wt_pin N.1 vwCl h0 11 17 (.int (-1 : Int32)) H := np
                have hV := hV.put (by decide) o2
                have hI := mI.fr.put hI k0 oq o2 (by decide) (by decide)
                refine lv_aload_n hx hb dX11_stack_112 rfl (lv_at hl 0 rfl) ?_
                refine wt_rel hx hb hts cfX11 hown hK nh0_19 rfl (by decide) (Or.inl (hts _ q891)) dX11_stack_113 ?_
                refine lv_if_eq (tgt := 121) hx hb dX11_stack_116 (by decide) (fun c116 => ?_) (fun c116 => ?_)
                · refine lv_aload_n hx hb dX11_stack_121 rfl (lv_at hl 0 rfl) ?_
                  refine lv_iconst (v := 0) hx hb dX11_stack_122 (by decide) ?_
                  obtain ⟨V1, hV1⟩ := kp_all hW k0
                  refine cc_v (B2 := fun H => mI N h0 H ∧ kp N h0 [13] V1 H) (wt_runV (As := [.int (0 : Int32)]) (rest := []) ⟨hx, hb, hml, hown, hts⟩ (m_X11_keeps l N h0 k0 hO V1 (0 : Int32) (ir_w (lo' := 0) (hi' := 1) (ir_c (0) (by decide) : ir (0 : Int32) (0) (0)) (by decide) (by decide))) wm_X11_keeps q1084 ⟨rfl, rfl⟩ ⟨Nat.le_of_ble_eq_true rfl, Nat.le_of_ble_eq_true rfl⟩ (cS_preV (B := fun H => mI N h0 H ∧ kp N h0 [13] V1 H) hK hW hT hnn hS (cg11 k0) rfl rfl (And.intro hI (kp_of (F := [13]) hV1))) rfl hl.1 rfl (Nat.le_of_ble_eq_true rfl) dX11_stack_123 ⟨Nat.zero_le _, Nat.zero_le _⟩) hS (by decide) (fun H locs hW hS oq hB2 => ?_)
                  obtain ⟨hI, hV2⟩ := hB2
                  have hV := kp_call hV hV1 hV2 (by decide)
                  have nh0_18 := kp_use hV1 hV2 (by decide) (by decide) nh0_18
                  have nh0_19 := kp_use hV1 hV2 (by decide) (by decide) nh0_19
                  have nh0_29 := kp_use hV1 hV2 (by decide) (by decide) nh0_29
                  have nh0_31 := kp_use hV1 hV2 (by decide) (by decide) nh0_31
                  have nh0_26 := kp_use hV1 hV2 (by decide) (by decide) nh0_26
                  have nh0_15 := kp_use hV1 hV2 (by decide) (by decide) nh0_15
                  have nh0_16 := kp_use hV1 hV2 (by decide) (by decide) nh0_16
                  have nh0_17 := kp_use hV1 hV2 (by decide) (by decide) nh0_17
                  refine lv_aload_n hx hb dX11_stack_126 rfl (lv_at hl 0 rfl) ?_
                  refine lv_aload_n hx hb dX11_stack_127 rfl (lv_at hl 0 rfl) ?_
                  refine wt_rel hx hb hts cfX11 hown hK nh0_26 rfl (by decide) (Or.inl (hts _ q898)) dX11_stack_128 ?_
                  refine wt_putp hx hb hts cfX11 tyX11 tyX11_ok nmX11 hown hK hW hS (cg11 k0) (ce k0 (by decide)) rfl 7 (by decide) (Or.inl (hts _ q879)) rfl rfl rfl (gi_mk r24) dX11_stack_131 (fun H locs hW hS oq o2 np => ?_)
                  have nh0_18 := o2 18 _ (by decide) (by decide) nh0_18
                  have nh0_19 := o2 19 _ (by decide) (by decide) nh0_19
                  have nh0_29 := o2 29 _ (by decide) (by decide) nh0_29
                  have nh0_31 := o2 31 _ (by decide) (by decide) nh0_31
                  have nh0_26 := o2 26 _ (by decide) (by decide) nh0_26
                  have nh0_15 := o2 15 _ (by decide) (by decide) nh0_15
                  have nh0_16 := o2 16 _ (by decide) (by decide) nh0_16
                  have nh0_17 := o2 17 _ (by decide) (by decide) nh0_17
                  have nh0_7 : wt_pin N.1 vwCl h0 11 7 (.int xp26_7) H := np
                  have hV := hV.put (by decide) o2
                  obtain ⟨iL, iP, iR, iB, iM⟩ := hI
                  have iP := QP.fr.put iP k0 oq o2 (by decide) (by decide)
                  have iR := QR.fr.put iR k0 oq o2 (by decide) (by decide)
                  have iB := QB.fr.put iB k0 oq o2 (by decide) (by decide)
                  have iM := QM.fr.put iM k0 oq o2 (by decide) (by decide)
                  have hGL : gP N 43 44 25 (fun j => (j : Int) < 0) H := gP_none
                  refine lv_iconst (v := 0) hx hb dX11_stack_134 (by decide) ?_
                  refine lv_istore_n (lv' := [(1, .int (0 : Int32)), (0, .ref h0)]) hx hb dX11_stack_135 rfl hl (by decide) rfl (fun ls hl => ?_)
                  have hGR := QR_gp iR nh0_26
                  exact w2 _ _ _ (L136 25 _ _ _ (0 : Int32) xp26_7 u25_1 xa33 u25_1 xp26_7 x48 x64 hW iP iR iB iM hV (hGL.sub (fun j hj h => by have h : (j : Int) < (0 : Int32).toInt := h; show (j : Int) < 0; have l30 : (0 : Int32).toInt = 0 := (by decide); omega)) hGR hS (lv_sub hl [1, 0] rfl) (ir_w (lo' := 0) (hi' := 24) (ir_c (0) (by decide) : ir (0 : Int32) (0) (0)) (by decide) (by decide)) r24 nh0_7 (ir_c (0) (by decide) : ir (0 : Int32) (0) (0)) nh0_15 ru25_1_29 nh0_16 (ir_c (-1) (by decide) : ir (-1 : Int32) (-1) (-1)) nh0_17 ra33 nh0_18 ru25_1_29 nh0_19 r24 nh0_26 rx48_51 nh0_29 rx64_68 nh0_31 (by have h9 := (ir_c (0) (by decide) : ir (0 : Int32) (0) (0)); omega))
                · have ru25_1_116 : ir u25_1 1 0 := rf_ne0 c116 ru25_1_29
                  refine lv_iconst (v := -1) hx hb dX11_stack_119 (by decide) ?_
                  exact W.iret (v := (-1 : Int32)) hx hb hr (fun t ht _ => ⟨⟨(-1 : Int32), (-1 : Int32), rfl, ⟨rfl, trivial⟩, cW_at ht hW, ⟨mI_at ht hI, kp_at ht hV⟩⟩, hS.F ht⟩) hS.2.2 dX11_stack_120
            · have rx64_68 : ir x64 0 200 := rf_nel c68 r64 (by decide) (by decide)
              refine lv_aload_n hx hb dX11_stack_71 rfl (lv_at hl 0 rfl) ?_
              refine lv_iconst (v := 4) hx hb dX11_stack_72 (by decide) ?_
              refine lv_aload_n hx hb dX11_stack_73 rfl (lv_at hl 0 rfl) ?_
              refine wt_rel hx hb hts cfX11 hown hK nh0_31 rfl (by decide) (Or.inl (hts _ q903)) dX11_stack_74 ?_
              obtain ⟨V1, hV1⟩ := kp_all hW k0
              refine cc_v (B2 := fun H => mI N h0 H ∧ kp N h0 [19, 20] V1 H ∧ ∃ y : Int32, pI N h0 19 y H ∧ ¬ y = 0) (wt_runV (As := [.int (4 : Int32), .int x64]) (rest := []) ⟨hx, hb, hml, hown, hts⟩ (m_X11_fails l N h0 k0 hO V1 (4 : Int32) x64 (by decide)) wm_X11_fails q1172 ⟨rfl, rfl⟩ ⟨Nat.le_of_ble_eq_true rfl, Nat.le_of_ble_eq_true rfl⟩ (cS_preV (B := fun H => mI N h0 H ∧ kp N h0 [19, 20] V1 H) hK hW hT hnn hS (cg11 k0) rfl rfl (And.intro hI (kp_of (F := [19, 20]) hV1))) rfl hl.1 rfl (Nat.le_of_ble_eq_true rfl) dX11_stack_77 ⟨Nat.zero_le _, Nat.zero_le _⟩) hS (by decide) (fun H locs hW hS oq hB2 => ?_)
              obtain ⟨hI, hV2, hB2⟩ := hB2
              have hV := kp_call hV hV1 hV2 (by decide)
              obtain ⟨xx77_19, nh0_19, hbad77⟩ := hB2
              have nh0_18 := kp_use hV1 hV2 (by decide) (by decide) nh0_18
              have nh0_15 := kp_use hV1 hV2 (by decide) (by decide) nh0_15
              have nh0_29 := kp_use hV1 hV2 (by decide) (by decide) nh0_29
              have nh0_31 := kp_use hV1 hV2 (by decide) (by decide) nh0_31
              refine lv_aload_n hx hb dX11_stack_80 rfl (lv_at hl 0 rfl) ?_
              refine lv_iconst (v := 0) hx hb dX11_stack_81 (by decide) ?_
              refine wt_putp hx hb hts cfX11 tyX11 tyX11_ok nmX11 hown hK hW hS (cg11 k0) (ce k0 (by decide)) rfl 15 (by decide) (Or.inl (hts _ q887)) rfl rfl rfl (gi_mk (ir_w (lo' := 0) (hi' := 200) (ir_c (0) (by decide) : ir (0 : Int32) (0) (0)) (by decide) (by decide))) dX11_stack_82 (fun H locs hW hS oq o2 np => ?_)
              have nh0_18 := o2 18 _ (by decide) (by decide) nh0_18
              have nh0_19 := o2 19 _ (by decide) (by decide) nh0_19
              have nh0_29 := o2 29 _ (by decide) (by decide) nh0_29
              have nh0_31 := o2 31 _ (by decide) (by decide) nh0_31
              have nh0_15 : wt_pin N.1 vwCl h0 11 15 (.int (0 : Int32)) H := np
              have hV := hV.put (by decide) o2
              have hI := mI.fr.put hI k0 oq o2 (by decide) (by decide)
              refine lv_aload_n hx hb dX11_stack_85 rfl (lv_at hl 0 rfl) ?_
              refine lv_aload_n hx hb dX11_stack_86 rfl (lv_at hl 0 rfl) ?_
              refine wt_rel hx hb hts cfX11 hown hK nh0_19 rfl (by decide) (Or.inl (hts _ q891)) dX11_stack_87 ?_
              refine wt_putp hx hb hts cfX11 tyX11 tyX11_ok nmX11 hown hK hW hS (cg11 k0) (ce k0 (by decide)) rfl 16 (by decide) (Or.inl (hts _ q888)) rfl rfl rfl ga_mk dX11_stack_90 (fun H locs hW hS oq o2 np => ?_)
              have nh0_18 := o2 18 _ (by decide) (by decide) nh0_18
              have nh0_19 := o2 19 _ (by decide) (by decide) nh0_19
              have nh0_29 := o2 29 _ (by decide) (by decide) nh0_29
              have nh0_31 := o2 31 _ (by decide) (by decide) nh0_31
              have nh0_15 := o2 15 _ (by decide) (by decide) nh0_15
              have nh0_16 : wt_pin N.1 vwCl h0 11 16 (.int xx77_19) H := np
              have hV := hV.put (by decide) o2
              have hI := mI.fr.put hI k0 oq o2 (by decide) (by decide)
              refine lv_aload_n hx hb dX11_stack_93 rfl (lv_at hl 0 rfl) ?_
              refine lv_aload_n hx hb dX11_stack_94 rfl (lv_at hl 0 rfl) ?_
              refine wt_rel hx hb hts cfX11 hown hK nh0_19 rfl (by decide) (Or.inl (hts _ q891)) dX11_stack_95 ?_
              refine lv_if_ne (tgt := 105) hx hb dX11_stack_98 (by decide) (fun c98 => ?_) (fun c98 => ?_)
              · refine lv_aload_n hx hb dX11_stack_105 rfl (lv_at hl 0 rfl) ?_
                refine wt_getp hx hb hts cfX11 hown hK hW (cg11 k0) rfl 20 (by decide) (Or.inl (hts _ q892)) dX11_stack_106 (fun v hv nh0_20 => ?_)
                obtain ⟨x106, rfl⟩ : ga v := hv
                refine wt_putp hx hb hts cfX11 tyX11 tyX11_ok nmX11 hown hK hW hS (cg11 k0) (ce k0 (by decide)) rfl 17 (by decide) (Or.inl (hts _ q889)) rfl rfl rfl ga_mk dX11_stack_109 (fun H locs hW hS oq o2 np => ?_)
                have nh0_18 := o2 18 _ (by decide) (by decide) nh0_18
                have nh0_19 := o2 19 _ (by decide) (by decide) nh0_19
                have nh0_29 := o2 29 _ (by decide) (by decide) nh0_29
                have nh0_31 := o2 31 _ (by decide) (by decide) nh0_31
                have nh0_15 := o2 15 _ (by decide) (by decide) nh0_15
                have nh0_16 := o2 16 _ (by decide) (by decide) nh0_16
                have nh0_20 := o2 20 _ (by decide) (by decide) nh0_20
                have nh0_17 : wt_pin N.1 vwCl h0 11 17 (.int x106) H := np
                have hV := hV.put (by decide) o2
                have hI := mI.fr.put hI k0 oq o2 (by decide) (by decide)
                refine lv_aload_n hx hb dX11_stack_112 rfl (lv_at hl 0 rfl) ?_
                refine wt_rel hx hb hts cfX11 hown hK nh0_19 rfl (by decide) (Or.inl (hts _ q891)) dX11_stack_113 ?_
                refine lv_if_eq (tgt := 121) hx hb dX11_stack_116 (by decide) (fun c116 => ?_) (fun c116 => ?_)
                · exact absurd c116 c98
                · refine lv_iconst (v := -1) hx hb dX11_stack_119 (by decide) ?_
                  exact W.iret (v := (-1 : Int32)) hx hb hr (fun t ht _ => ⟨⟨(-1 : Int32), (-1 : Int32), rfl, ⟨rfl, trivial⟩, cW_at ht hW, ⟨mI_at ht hI, kp_at ht hV⟩⟩, hS.F ht⟩) hS.2.2 dX11_stack_120
              · exact absurd c98 hbad77
          · have rx48_51 : ir x48 1 4 := ⟨Int.le_trans (by decide) (rf_lt (rf_nle c51) (ir_c (0) (by decide) : ir (0 : Int32) (0) (0)) r48).2, (r48).2⟩
            have d51 := Int32.lt_iff_toInt_lt.mp (rf_nle c51)
            refine lv_aload_n hx hb dX11_stack_54 rfl (lv_at hl 0 rfl) ?_
            refine lv_iconst (v := 1) hx hb dX11_stack_55 (by decide) ?_
            refine lv_aload_n hx hb dX11_stack_56 rfl (lv_at hl 0 rfl) ?_
            refine wt_rel hx hb hts cfX11 hown hK nh0_18 rfl (by decide) (Or.inl (hts _ q890)) dX11_stack_57 ?_
            obtain ⟨V1, hV1⟩ := kp_all hW k0
            refine cc_v (B2 := fun H => mI N h0 H ∧ kp N h0 [19, 20] V1 H ∧ ∃ y : Int32, pI N h0 19 y H ∧ ¬ y = 0) (wt_runV (As := [.int (1 : Int32), .int xa33]) (rest := []) ⟨hx, hb, hml, hown, hts⟩ (m_X11_fails l N h0 k0 hO V1 (1 : Int32) xa33 (by decide)) wm_X11_fails q1172 ⟨rfl, rfl⟩ ⟨Nat.le_of_ble_eq_true rfl, Nat.le_of_ble_eq_true rfl⟩ (cS_preV (B := fun H => mI N h0 H ∧ kp N h0 [19, 20] V1 H) hK hW hT hnn hS (cg11 k0) rfl rfl (And.intro hI (kp_of (F := [19, 20]) hV1))) rfl hl.1 rfl (Nat.le_of_ble_eq_true rfl) dX11_stack_60 ⟨Nat.zero_le _, Nat.zero_le _⟩) hS (by decide) (fun H locs hW hS oq hB2 => ?_)
            obtain ⟨hI, hV2, hB2⟩ := hB2
            have hV := kp_call hV hV1 hV2 (by decide)
            obtain ⟨xx60_19, nh0_19, hbad60⟩ := hB2
            have nh0_18 := kp_use hV1 hV2 (by decide) (by decide) nh0_18
            have nh0_15 := kp_use hV1 hV2 (by decide) (by decide) nh0_15
            have nh0_29 := kp_use hV1 hV2 (by decide) (by decide) nh0_29
            refine lv_aload_n hx hb dX11_stack_63 rfl (lv_at hl 0 rfl) ?_
            refine wt_getp hx hb hts cfX11 hown hK hW (cg11 k0) rfl 31 (by decide) (Or.inl (hts _ q903)) dX11_stack_64 (fun v hv nh0_31 => ?_)
            obtain ⟨x64, rfl, r64⟩ : gi (-1) 200 v := hv
            refine lv_iconst (v := -1) hx hb dX11_stack_67 (by decide) ?_
            refine lv_icmp_eq (tgt := 80) hx hb dX11_stack_68 (by decide) (fun c68 => ?_) (fun c68 => ?_)
            · have rx64_68 : ir x64 (-1) (-1) := rf_eq c68 (ir_c (-1) (by decide) : ir (-1 : Int32) (-1) (-1))
              obtain ⟨v, hv, nh0_26⟩ := cpin hW (cg11 k0) rfl 26 (by decide)
              obtain ⟨xp26_8, rfl, rp26_8⟩ : gi 0 100000 v := hv
              have h24 := (QB_rel hI.2.2.2.1 nh0_26 nh0_31).resolve_right (fun h => h c68)
              have r24 : ir xp26_8 0 24 := ⟨(rp26_8).1, h24⟩
              refine lv_aload_n hx hb dX11_stack_80 rfl (lv_at hl 0 rfl) ?_
              refine lv_iconst (v := 0) hx hb dX11_stack_81 (by decide) ?_
              refine wt_putp hx hb hts cfX11 tyX11 tyX11_ok nmX11 hown hK hW hS (cg11 k0) (ce k0 (by decide)) rfl 15 (by decide) (Or.inl (hts _ q887)) rfl rfl rfl (gi_mk (ir_w (lo' := 0) (hi' := 200) (ir_c (0) (by decide) : ir (0 : Int32) (0) (0)) (by decide) (by decide))) dX11_stack_82 (fun H locs hW hS oq o2 np => ?_)
              have nh0_18 := o2 18 _ (by decide) (by decide) nh0_18
              have nh0_19 := o2 19 _ (by decide) (by decide) nh0_19
              have nh0_29 := o2 29 _ (by decide) (by decide) nh0_29
              have nh0_31 := o2 31 _ (by decide) (by decide) nh0_31
              have nh0_26 := o2 26 _ (by decide) (by decide) nh0_26
              have nh0_15 : wt_pin N.1 vwCl h0 11 15 (.int (0 : Int32)) H := np
              have hV := hV.put (by decide) o2
              have hI := mI.fr.put hI k0 oq o2 (by decide) (by decide)
              refine lv_aload_n hx hb dX11_stack_85 rfl (lv_at hl 0 rfl) ?_
              refine lv_aload_n hx hb dX11_stack_86 rfl (lv_at hl 0 rfl) ?_
              refine wt_rel hx hb hts cfX11 hown hK nh0_19 rfl (by decide) (Or.inl (hts _ q891)) dX11_stack_87 ?_
              refine wt_putp hx hb hts cfX11 tyX11 tyX11_ok nmX11 hown hK hW hS (cg11 k0) (ce k0 (by decide)) rfl 16 (by decide) (Or.inl (hts _ q888)) rfl rfl rfl ga_mk dX11_stack_90 (fun H locs hW hS oq o2 np => ?_)
              have nh0_18 := o2 18 _ (by decide) (by decide) nh0_18
              have nh0_19 := o2 19 _ (by decide) (by decide) nh0_19
              have nh0_29 := o2 29 _ (by decide) (by decide) nh0_29
              have nh0_31 := o2 31 _ (by decide) (by decide) nh0_31
              have nh0_26 := o2 26 _ (by decide) (by decide) nh0_26
              have nh0_15 := o2 15 _ (by decide) (by decide) nh0_15
              have nh0_16 : wt_pin N.1 vwCl h0 11 16 (.int xx60_19) H := np
              have hV := hV.put (by decide) o2
              have hI := mI.fr.put hI k0 oq o2 (by decide) (by decide)
              refine lv_aload_n hx hb dX11_stack_93 rfl (lv_at hl 0 rfl) ?_
              refine lv_aload_n hx hb dX11_stack_94 rfl (lv_at hl 0 rfl) ?_
              refine wt_rel hx hb hts cfX11 hown hK nh0_19 rfl (by decide) (Or.inl (hts _ q891)) dX11_stack_95 ?_
              refine lv_if_ne (tgt := 105) hx hb dX11_stack_98 (by decide) (fun c98 => ?_) (fun c98 => ?_)
              · refine lv_aload_n hx hb dX11_stack_105 rfl (lv_at hl 0 rfl) ?_
                refine wt_getp hx hb hts cfX11 hown hK hW (cg11 k0) rfl 20 (by decide) (Or.inl (hts _ q892)) dX11_stack_106 (fun v hv nh0_20 => ?_)
                obtain ⟨x106, rfl⟩ : ga v := hv
                refine wt_putp hx hb hts cfX11 tyX11 tyX11_ok nmX11 hown hK hW hS (cg11 k0) (ce k0 (by decide)) rfl 17 (by decide) (Or.inl (hts _ q889)) rfl rfl rfl ga_mk dX11_stack_109 (fun H locs hW hS oq o2 np => ?_)
                have nh0_18 := o2 18 _ (by decide) (by decide) nh0_18
                have nh0_19 := o2 19 _ (by decide) (by decide) nh0_19
                have nh0_29 := o2 29 _ (by decide) (by decide) nh0_29
                have nh0_31 := o2 31 _ (by decide) (by decide) nh0_31
                have nh0_26 := o2 26 _ (by decide) (by decide) nh0_26
                have nh0_15 := o2 15 _ (by decide) (by decide) nh0_15
                have nh0_16 := o2 16 _ (by decide) (by decide) nh0_16
                have nh0_20 := o2 20 _ (by decide) (by decide) nh0_20
                have nh0_17 : wt_pin N.1 vwCl h0 11 17 (.int x106) H := np
                have hV := hV.put (by decide) o2
                have hI := mI.fr.put hI k0 oq o2 (by decide) (by decide)
                refine lv_aload_n hx hb dX11_stack_112 rfl (lv_at hl 0 rfl) ?_
                refine wt_rel hx hb hts cfX11 hown hK nh0_19 rfl (by decide) (Or.inl (hts _ q891)) dX11_stack_113 ?_
                refine lv_if_eq (tgt := 121) hx hb dX11_stack_116 (by decide) (fun c116 => ?_) (fun c116 => ?_)
                · exact absurd c116 c98
                · refine lv_iconst (v := -1) hx hb dX11_stack_119 (by decide) ?_
                  exact W.iret (v := (-1 : Int32)) hx hb hr (fun t ht _ => ⟨⟨(-1 : Int32), (-1 : Int32), rfl, ⟨rfl, trivial⟩, cW_at ht hW, ⟨mI_at ht hI, kp_at ht hV⟩⟩, hS.F ht⟩) hS.2.2 dX11_stack_120
              · exact absurd c98 hbad60
            · have rx64_68 : ir x64 0 200 := rf_nel c68 r64 (by decide) (by decide)
              refine lv_aload_n hx hb dX11_stack_71 rfl (lv_at hl 0 rfl) ?_
              refine lv_iconst (v := 4) hx hb dX11_stack_72 (by decide) ?_
              refine lv_aload_n hx hb dX11_stack_73 rfl (lv_at hl 0 rfl) ?_
              refine wt_rel hx hb hts cfX11 hown hK nh0_31 rfl (by decide) (Or.inl (hts _ q903)) dX11_stack_74 ?_
              obtain ⟨V1, hV1⟩ := kp_all hW k0
              refine cc_v (B2 := fun H => mI N h0 H ∧ kp N h0 [19, 20] V1 H ∧ ∃ y : Int32, pI N h0 19 y H ∧ ¬ y = 0) (wt_runV (As := [.int (4 : Int32), .int x64]) (rest := []) ⟨hx, hb, hml, hown, hts⟩ (m_X11_fails l N h0 k0 hO V1 (4 : Int32) x64 (by decide)) wm_X11_fails q1172 ⟨rfl, rfl⟩ ⟨Nat.le_of_ble_eq_true rfl, Nat.le_of_ble_eq_true rfl⟩ (cS_preV (B := fun H => mI N h0 H ∧ kp N h0 [19, 20] V1 H) hK hW hT hnn hS (cg11 k0) rfl rfl (And.intro hI (kp_of (F := [19, 20]) hV1))) rfl hl.1 rfl (Nat.le_of_ble_eq_true rfl) dX11_stack_77 ⟨Nat.zero_le _, Nat.zero_le _⟩) hS (by decide) (fun H locs hW hS oq hB2 => ?_)
              obtain ⟨hI, hV2, hB2⟩ := hB2
              have hV := kp_call hV hV1 hV2 (by decide)
              obtain ⟨xx77_19, nh0_19, hbad77⟩ := hB2
              have nh0_18 := kp_use hV1 hV2 (by decide) (by decide) nh0_18
              have nh0_15 := kp_use hV1 hV2 (by decide) (by decide) nh0_15
              have nh0_29 := kp_use hV1 hV2 (by decide) (by decide) nh0_29
              have nh0_31 := kp_use hV1 hV2 (by decide) (by decide) nh0_31
              refine lv_aload_n hx hb dX11_stack_80 rfl (lv_at hl 0 rfl) ?_
              refine lv_iconst (v := 0) hx hb dX11_stack_81 (by decide) ?_
              refine wt_putp hx hb hts cfX11 tyX11 tyX11_ok nmX11 hown hK hW hS (cg11 k0) (ce k0 (by decide)) rfl 15 (by decide) (Or.inl (hts _ q887)) rfl rfl rfl (gi_mk (ir_w (lo' := 0) (hi' := 200) (ir_c (0) (by decide) : ir (0 : Int32) (0) (0)) (by decide) (by decide))) dX11_stack_82 (fun H locs hW hS oq o2 np => ?_)
              have nh0_18 := o2 18 _ (by decide) (by decide) nh0_18
              have nh0_19 := o2 19 _ (by decide) (by decide) nh0_19
              have nh0_29 := o2 29 _ (by decide) (by decide) nh0_29
              have nh0_31 := o2 31 _ (by decide) (by decide) nh0_31
              have nh0_15 : wt_pin N.1 vwCl h0 11 15 (.int (0 : Int32)) H := np
              have hV := hV.put (by decide) o2
              have hI := mI.fr.put hI k0 oq o2 (by decide) (by decide)
              refine lv_aload_n hx hb dX11_stack_85 rfl (lv_at hl 0 rfl) ?_
              refine lv_aload_n hx hb dX11_stack_86 rfl (lv_at hl 0 rfl) ?_
              refine wt_rel hx hb hts cfX11 hown hK nh0_19 rfl (by decide) (Or.inl (hts _ q891)) dX11_stack_87 ?_
              refine wt_putp hx hb hts cfX11 tyX11 tyX11_ok nmX11 hown hK hW hS (cg11 k0) (ce k0 (by decide)) rfl 16 (by decide) (Or.inl (hts _ q888)) rfl rfl rfl ga_mk dX11_stack_90 (fun H locs hW hS oq o2 np => ?_)
              have nh0_18 := o2 18 _ (by decide) (by decide) nh0_18
              have nh0_19 := o2 19 _ (by decide) (by decide) nh0_19
              have nh0_29 := o2 29 _ (by decide) (by decide) nh0_29
              have nh0_31 := o2 31 _ (by decide) (by decide) nh0_31
              have nh0_15 := o2 15 _ (by decide) (by decide) nh0_15
              have nh0_16 : wt_pin N.1 vwCl h0 11 16 (.int xx77_19) H := np
              have hV := hV.put (by decide) o2
              have hI := mI.fr.put hI k0 oq o2 (by decide) (by decide)
              refine lv_aload_n hx hb dX11_stack_93 rfl (lv_at hl 0 rfl) ?_
              refine lv_aload_n hx hb dX11_stack_94 rfl (lv_at hl 0 rfl) ?_
              refine wt_rel hx hb hts cfX11 hown hK nh0_19 rfl (by decide) (Or.inl (hts _ q891)) dX11_stack_95 ?_
              refine lv_if_ne (tgt := 105) hx hb dX11_stack_98 (by decide) (fun c98 => ?_) (fun c98 => ?_)
              · refine lv_aload_n hx hb dX11_stack_105 rfl (lv_at hl 0 rfl) ?_
                refine wt_getp hx hb hts cfX11 hown hK hW (cg11 k0) rfl 20 (by decide) (Or.inl (hts _ q892)) dX11_stack_106 (fun v hv nh0_20 => ?_)
                obtain ⟨x106, rfl⟩ : ga v := hv
                refine wt_putp hx hb hts cfX11 tyX11 tyX11_ok nmX11 hown hK hW hS (cg11 k0) (ce k0 (by decide)) rfl 17 (by decide) (Or.inl (hts _ q889)) rfl rfl rfl ga_mk dX11_stack_109 (fun H locs hW hS oq o2 np => ?_)
                have nh0_18 := o2 18 _ (by decide) (by decide) nh0_18
                have nh0_19 := o2 19 _ (by decide) (by decide) nh0_19
                have nh0_29 := o2 29 _ (by decide) (by decide) nh0_29
                have nh0_31 := o2 31 _ (by decide) (by decide) nh0_31
                have nh0_15 := o2 15 _ (by decide) (by decide) nh0_15
                have nh0_16 := o2 16 _ (by decide) (by decide) nh0_16
                have nh0_20 := o2 20 _ (by decide) (by decide) nh0_20
                have nh0_17 : wt_pin N.1 vwCl h0 11 17 (.int x106) H := np
                have hV := hV.put (by decide) o2
                have hI := mI.fr.put hI k0 oq o2 (by decide) (by decide)
                refine lv_aload_n hx hb dX11_stack_112 rfl (lv_at hl 0 rfl) ?_
                refine wt_rel hx hb hts cfX11 hown hK nh0_19 rfl (by decide) (Or.inl (hts _ q891)) dX11_stack_113 ?_
                refine lv_if_eq (tgt := 121) hx hb dX11_stack_116 (by decide) (fun c116 => ?_) (fun c116 => ?_)
                · exact absurd c116 c98
                · refine lv_iconst (v := -1) hx hb dX11_stack_119 (by decide) ?_
                  exact W.iret (v := (-1 : Int32)) hx hb hr (fun t ht _ => ⟨⟨(-1 : Int32), (-1 : Int32), rfl, ⟨rfl, trivial⟩, cW_at ht hW, ⟨mI_at ht hI, kp_at ht hV⟩⟩, hS.F ht⟩) hS.2.2 dX11_stack_120
              · exact absurd c98 hbad77
        · have rx33_37 : ir x33 0 255 := rf_nel c37 r33 (by decide) (by decide)
          refine lv_aload_n hx hb dX11_stack_40 rfl (lv_at hl 0 rfl) ?_
          obtain ⟨V1, hV1⟩ := kp_all hW k0
          refine cc_v (B2 := fun H => mI N h0 H ∧ kp N h0 [18, 19, 20, 21, 22, 26, 29, 30, 31] V1 H ∧ ∃ x y : Int32, pI N h0 18 x H ∧ pI N h0 19 y H ∧ (xa33.toInt < x.toInt ∨ ¬ y = 0)) (wt_runV (As := []) (rest := []) ⟨hx, hb, hml, hown, hts⟩ (m_X11_readItem l N h0 k0 hO V1 xa33) wm_X11_readItem q1144 ⟨rfl, rfl⟩ ⟨Nat.le_of_ble_eq_true rfl, Nat.le_of_ble_eq_true rfl⟩ (cS_preV (B := fun H => mI N h0 H ∧ kp N h0 [18, 19, 20, 21, 22, 26, 29, 30, 31] V1 H ∧ wt_pin N.1 vwCl h0 11 18 (.int xa33) H) hK hW hT hnn hS (cg11 k0) rfl rfl (And.intro hI (And.intro (kp_of (F := [18, 19, 20, 21, 22, 26, 29, 30, 31]) hV1) nh0_18))) rfl hl.1 rfl (Nat.le_of_ble_eq_true rfl) dX11_stack_41 ⟨Nat.zero_le _, Nat.zero_le _⟩) hS (by decide) (fun H locs hW hS oq hB2 => ?_)
          obtain ⟨hI, hV2, hB2⟩ := hB2
          have hV := kp_call hV hV1 hV2 (by decide)
          obtain ⟨xx41_18, xx41_19, nh0_18, nh0_19, hd41⟩ := hB2
          have rxx41_18 : ir xx41_18 0 200 := gi_r (cpin_P hW (cg11 k0) rfl (by decide) nh0_18)
          have nh0_15 := kp_use hV1 hV2 (by decide) (by decide) nh0_15
          refine lv_goto (tgt := 25) hx hb dX11_stack_44 (by decide) ?_
          exact w2 _ _ _ (ih25 _ _ _ xx41_18 xx41_19 hW hI hV hS (lv_sub hl [0] rfl) rxx41_18 nh0_18 nh0_19 (mSn_step c29 lm33 hd41 rxx41_18 ra33 mu25))
  refine lv_aload_n hx hb dX11_stack_0 rfl (lv_at hl 0 rfl) ?_
  refine lv_iconst (v := 0) hx hb dX11_stack_1 (by decide) ?_
  refine wt_putp hx hb hts cfX11 tyX11 tyX11_ok nmX11 hown hK hW hS (cg11 k0) (ce k0 (by decide)) rfl 18 (by decide) (Or.inl (hts _ q890)) rfl rfl rfl (gi_mk (ir_w (lo' := 0) (hi' := 200) (ir_c (0) (by decide) : ir (0 : Int32) (0) (0)) (by decide) (by decide))) dX11_stack_2 (fun H locs hW hS oq o2 np => ?_)
  have nh0_18 : wt_pin N.1 vwCl h0 11 18 (.int (0 : Int32)) H := np
  have hV := hV.put (by decide) o2
  have hI := mI.fr.put hI k0 oq o2 (by decide) (by decide)
  refine lv_aload_n hx hb dX11_stack_5 rfl (lv_at hl 0 rfl) ?_
  refine lv_iconst (v := 0) hx hb dX11_stack_6 (by decide) ?_
  refine wt_putp hx hb hts cfX11 tyX11 tyX11_ok nmX11 hown hK hW hS (cg11 k0) (ce k0 (by decide)) rfl 19 (by decide) (Or.inl (hts _ q891)) rfl rfl rfl ga_mk dX11_stack_7 (fun H locs hW hS oq o2 np => ?_)
  have nh0_18 := o2 18 _ (by decide) (by decide) nh0_18
  have nh0_19 : wt_pin N.1 vwCl h0 11 19 (.int (0 : Int32)) H := np
  have hV := hV.put (by decide) o2
  have hI := mI.fr.put hI k0 oq o2 (by decide) (by decide)
  refine lv_aload_n hx hb dX11_stack_10 rfl (lv_at hl 0 rfl) ?_
  refine lv_iconst (v := 0) hx hb dX11_stack_11 (by decide) ?_
  refine wt_putp hx hb hts cfX11 tyX11 tyX11_ok nmX11 hown hK hW hS (cg11 k0) (ce k0 (by decide)) rfl 26 (by decide) (Or.inl (hts _ q898)) rfl rfl rfl (gi_mk (ir_w (lo' := 0) (hi' := 100000) (ir_c (0) (by decide) : ir (0 : Int32) (0) (0)) (by decide) (by decide))) dX11_stack_12 (fun H locs hW hS oq o2 np => ?_)
  have nh0_18 := o2 18 _ (by decide) (by decide) nh0_18
  have nh0_19 := o2 19 _ (by decide) (by decide) nh0_19
  have nh0_26 : wt_pin N.1 vwCl h0 11 26 (.int (0 : Int32)) H := np
  have hV := hV.put (by decide) o2
  obtain ⟨iL, iP, iR, iB, iM⟩ := hI
  have iL := QL.fr.put iL k0 oq o2 (by decide) (by decide)
  have iP := QP.fr.put iP k0 oq o2 (by decide) (by decide)
  have iM := QM.fr.put iM k0 oq o2 (by decide) (by decide)
  refine lv_aload_n hx hb dX11_stack_15 rfl (lv_at hl 0 rfl) ?_
  refine lv_iconst (v := 0) hx hb dX11_stack_16 (by decide) ?_
  refine wt_putp hx hb hts cfX11 tyX11 tyX11_ok nmX11 hown hK hW hS (cg11 k0) (ce k0 (by decide)) rfl 29 (by decide) (Or.inl (hts _ q901)) rfl rfl rfl (gi_mk (ir_w (lo' := 0) (hi' := 4) (ir_c (0) (by decide) : ir (0 : Int32) (0) (0)) (by decide) (by decide))) dX11_stack_17 (fun H locs hW hS oq o2 np => ?_)
  have nh0_18 := o2 18 _ (by decide) (by decide) nh0_18
  have nh0_19 := o2 19 _ (by decide) (by decide) nh0_19
  have nh0_26 := o2 26 _ (by decide) (by decide) nh0_26
  have nh0_29 : wt_pin N.1 vwCl h0 11 29 (.int (0 : Int32)) H := np
  have hV := hV.put (by decide) o2
  have iL := QL.fr.put iL k0 oq o2 (by decide) (by decide)
  have iP := QP.fr.put iP k0 oq o2 (by decide) (by decide)
  have iM := QM.fr.put iM k0 oq o2 (by decide) (by decide)
  refine lv_aload_n hx hb dX11_stack_20 rfl (lv_at hl 0 rfl) ?_
  refine lv_iconst (v := -1) hx hb dX11_stack_21 (by decide) ?_
  refine wt_putp hx hb hts cfX11 tyX11 tyX11_ok nmX11 hown hK hW hS (cg11 k0) (ce k0 (by decide)) rfl 31 (by decide) (Or.inl (hts _ q903)) rfl rfl rfl (gi_mk (ir_w (lo' := -1) (hi' := 200) (ir_c (-1) (by decide) : ir (-1 : Int32) (-1) (-1)) (by decide) (by decide))) dX11_stack_22 (fun H locs hW hS oq o2 np => ?_)
  have nh0_18 := o2 18 _ (by decide) (by decide) nh0_18
  have nh0_19 := o2 19 _ (by decide) (by decide) nh0_19
  have nh0_26 := o2 26 _ (by decide) (by decide) nh0_26
  have nh0_29 := o2 29 _ (by decide) (by decide) nh0_29
  have nh0_31 : wt_pin N.1 vwCl h0 11 31 (.int (-1 : Int32)) H := np
  have hV := hV.put (by decide) o2
  have iL := QL.fr.put iL k0 oq o2 (by decide) (by decide)
  have iP := QP.fr.put iP k0 oq o2 (by decide) (by decide)
  have iM := QM.fr.put iM k0 oq o2 (by decide) (by decide)
  have iR : QR N h0 H := QR_0 nh0_26 (by decide)
  have iB : QB N h0 H := QB_mk nh0_26 nh0_29 nh0_31 (Or.inl (by decide)) (aB.none (by decide))
  have hI : mI N h0 H := ⟨iL, iP, iR, iB, iM⟩
  exact w2 _ _ _ (L25 202 _ _ _ (0 : Int32) (0 : Int32) hW hI hV hS (lv_sub hl [0] rfl) (ir_w (lo' := 0) (hi' := 200) (ir_c (0) (by decide) : ir (0 : Int32) (0) (0)) (by decide) (by decide)) nh0_18 nh0_19 (mSn_lt (ir_c 0 (by decide)) (by decide)))
set_option maxHeartbeats 4000000 in
set_option maxRecDepth 100000 in
theorem m_X11_put (l : Launch) (N : c_N) (h0 : Nat) (k0 : N.2.2.1 h0 = some 11) (hO : mOK N) (V : Nat → Value) (p1 : Int32) (p2 : Int32) (p3 : Int32) (p4 : Int32) : cMi2 l yX11_put cX11_put 5 .int { frames := 2, cells := 0, slots := 0, locals := 54 } [.ref h0, .int p1, .int p2, .int p3, .int p4] N [11, 42, 43, 44, 45, 46, 47, 48, 49] (fun H => mI N h0 H ∧ kp N h0 [7, 13] V H) (fun _ => True) (fun _ H => mI N h0 H ∧ kp N h0 [7, 13] V H) := by
  refine Met.ofW (cc := cX11_put) (maxL := 5) (ret := some .int) (by decide) rfl ?_
  intro p e s m args below meth c s₁ B hml hv
  obtain ⟨rfl, ⟨hK, hW, hT, hnn⟩, hB⟩ := hv
  obtain ⟨hI, hV⟩ := hB
  have hx := B.exec
  have hb := B.bytes
  have hr := B.returns
  have hts : ∀ w ∈ lw_g, w.before _ s = true := fun w h => atoms_spec (ws := wc_ws yX11_put cX11_put 5 (some .int)) B.pre w (List.mem_cons_of_mem _ h)
  have hown : s.vm.findClass RX11 = some m.cls := findClass_of_methodNamed B.named
  have hlocks := B.notSynchronized
  have hS : va_S (cE N [11, 42, 43, 44, 45, 46, 47, 48, 49]) s.heap s.heap [] := va_S.rf
  have hl := lv_entry ([.ref h0, .int p1, .int p2, .int p3, .int p4]) (n := 5) (Nat.le_of_ble_eq_true rfl)
  rw [lg_entry_eq]
  generalize (lg_sl ([.ref h0, .int p1, .int p2, .int p3, .int p4]) ++ List.replicate (5 - (lg_sl ([.ref h0, .int p1, .int p2, .int p3, .int p4])).length) Slot.unset).toArray = ls at hl ⊢
  have hl : lv_has ls 5 [(0, .ref h0), (1, .int p1), (2, .int p2), (3, .int p3), (4, .int p4)] := hl
  refine wq_all ?_
  intro WW w1 w2
  refine lv_iload_n hx hb dX11_put_0 rfl (lv_at hl 1 rfl) ?_
  refine lv_i2l hx hb dX11_put_1 rfl ?_
  refine lv_topl (fun x1 e1 => ?_)
  have r1 : lr x1 (-2147483648) 2147483647 := by rw [e1]; exact i2l_r (ir_any p1)
  have t1 : x1.toInt = p1.toInt := by rw [e1]; exact Int32.toInt_toInt64 p1
  refine lv_lconst (v := 0) hx hb dX11_put_2 (by decide) ?_
  refine lv_aload_n hx hb dX11_put_3 rfl (lv_at hl 0 rfl) ?_
  refine wt_getp hx hb hts cfX11 hown hK hW (cg11 k0) rfl 7 (by decide) (Or.inl (hts _ q879)) dX11_put_4 (fun v hv nh0_7 => ?_)
  obtain ⟨x4, rfl, r4⟩ : gi 0 24 v := hv
  refine lv_i2l hx hb dX11_put_7 rfl ?_
  refine lv_topl (fun x7 e7 => ?_)
  have r7 : lr x7 0 24 := by rw [e7]; exact i2l_r r4
  have t7 : x7.toInt = x4.toInt := by rw [e7]; exact Int32.toInt_toInt64 x4
  refine cp_i (wt_runS (As := [.long x1, .long (0 : Int64), .long x7]) (rest := []) ⟨hx, hb, hml, hown, hts⟩ (m_X11_isIn l x1 (0 : Int64) x7) wm_X11_isIn q1050 ⟨rfl, rfl⟩ ⟨Nat.le_of_ble_eq_true rfl, Nat.le_of_ble_eq_true rfl⟩ pS_pre rfl hl.1 rfl (Nat.le_of_ble_eq_true rfl) dX11_put_8 ⟨Nat.zero_le _, Nat.zero_le _⟩) hW hS (fun x8 H locs hp hW1 hS oq => ?_)
  have hV := hV.same hW k0 oq
  have hI := mI.fr.same hI hW oq
  have hW := hW1
  have nh0_7 := nh0_7.kept (oq _ nh0_7.lt (cE_not k0 (by decide)))
  obtain ⟨r8, b8⟩ := hp
  refine lv_if_eq (tgt := 44) hx hb dX11_put_11 (by decide) (fun c11 => ?_) (fun c11 => ?_)
  · have rx8_11 : ir x8 0 0 := rf_eq c11 (ir_c (0) (by decide) : ir (0 : Int32) (0) (0))
    refine lv_iconst (v := -1) hx hb dX11_put_44 (by decide) ?_
    exact W.iret (v := (-1 : Int32)) hx hb hr (fun t ht _ => ⟨⟨(-1 : Int32), (-1 : Int32), rfl, ⟨rfl, trivial⟩, cW_at ht hW, ⟨mI_at ht hI, kp_at ht hV⟩⟩, hS.F ht⟩) hS.2.2 dX11_put_45
  · have rx8_11 : ir x8 1 1 := rf_ne0 c11 r8
    have bx8_11 := b8 c11
    have rbx1_11 : lr x1 0 24 := by have h5 := bx8_11; have h6 := r1; have h7 := (lr_c (0) (by decide) : lr (0 : Int64) (0) (0)); have h8 := r7; constructor <;> omega
    have rp1_11 : ir p1 0 24 := i2l_b e1 rbx1_11
    refine lv_iload_n hx hb dX11_put_14 rfl (lv_at hl 2 rfl) ?_
    refine lv_i2l hx hb dX11_put_15 rfl ?_
    refine lv_topl (fun x15 e15 => ?_)
    have r15 : lr x15 (-2147483648) 2147483647 := by rw [e15]; exact i2l_r (ir_any p2)
    have t15 : x15.toInt = p2.toInt := by rw [e15]; exact Int32.toInt_toInt64 p2
    refine lv_lconst (v := 0) hx hb dX11_put_16 (by decide) ?_
    refine lv_ldc2 hx hb hown (hts _ q1049) dX11_put_17 ?_
    refine cp_i (wt_runS (As := [.long x15, .long (0 : Int64), .long (5 : Int64)]) (rest := []) ⟨hx, hb, hml, hown, hts⟩ (m_X11_isIn l x15 (0 : Int64) (5 : Int64)) wm_X11_isIn q1050 ⟨rfl, rfl⟩ ⟨Nat.le_of_ble_eq_true rfl, Nat.le_of_ble_eq_true rfl⟩ pS_pre rfl hl.1 rfl (Nat.le_of_ble_eq_true rfl) dX11_put_20 ⟨Nat.zero_le _, Nat.zero_le _⟩) hW hS (fun x20 H locs hp hW1 hS oq => ?_)
    have hV := hV.same hW k0 oq
    have hI := mI.fr.same hI hW oq
    have hW := hW1
    have nh0_7 := nh0_7.kept (oq _ nh0_7.lt (cE_not k0 (by decide)))
    obtain ⟨r20, b20⟩ := hp
    refine lv_if_eq (tgt := 44) hx hb dX11_put_23 (by decide) (fun c23 => ?_) (fun c23 => ?_)
    · have rx20_23 : ir x20 0 0 := rf_eq c23 (ir_c (0) (by decide) : ir (0 : Int32) (0) (0))
      refine lv_iconst (v := -1) hx hb dX11_put_44 (by decide) ?_
      exact W.iret (v := (-1 : Int32)) hx hb hr (fun t ht _ => ⟨⟨(-1 : Int32), (-1 : Int32), rfl, ⟨rfl, trivial⟩, cW_at ht hW, ⟨mI_at ht hI, kp_at ht hV⟩⟩, hS.F ht⟩) hS.2.2 dX11_put_45
    · have rx20_23 : ir x20 1 1 := rf_ne0 c23 r20
      have bx20_23 := b20 c23
      have rbx15_23 : lr x15 0 5 := by have h5 := bx20_23; have h6 := r15; have h7 := (lr_c (0) (by decide) : lr (0 : Int64) (0) (0)); have h8 := (lr_c (5) (by decide) : lr (5 : Int64) (5) (5)); constructor <;> omega
      have rp2_23 : ir p2 0 5 := i2l_b e15 rbx15_23
      refine lv_iload_n hx hb dX11_put_26 rfl (lv_at hl 3 rfl) ?_
      refine lv_iload hx hb dX11_put_27 (lv_at hl 4 rfl) ?_
      refine cp_i (wt_runS (As := [.int p3, .int p4]) (rest := []) ⟨hx, hb, hml, hown, hts⟩ (m_X11_isThick l p3 p4) wm_X11_isThick q1080 ⟨rfl, rfl⟩ ⟨Nat.le_of_ble_eq_true rfl, Nat.le_of_ble_eq_true rfl⟩ pS_pre rfl hl.1 rfl (Nat.le_of_ble_eq_true rfl) dX11_put_29 ⟨Nat.zero_le _, Nat.zero_le _⟩) hW hS (fun x29 H locs hp hW1 hS oq => ?_)
      have hV := hV.same hW k0 oq
      have hI := mI.fr.same hI hW oq
      have hW := hW1
      have nh0_7 := nh0_7.kept (oq _ nh0_7.lt (cE_not k0 (by decide)))
      obtain ⟨r29, b29⟩ := hp
      refine lv_if_eq (tgt := 44) hx hb dX11_put_32 (by decide) (fun c32 => ?_) (fun c32 => ?_)
      · have rx29_32 : ir x29 0 0 := rf_eq c32 (ir_c (0) (by decide) : ir (0 : Int32) (0) (0))
        refine lv_iconst (v := -1) hx hb dX11_put_44 (by decide) ?_
        exact W.iret (v := (-1 : Int32)) hx hb hr (fun t ht _ => ⟨⟨(-1 : Int32), (-1 : Int32), rfl, ⟨rfl, trivial⟩, cW_at ht hW, ⟨mI_at ht hI, kp_at ht hV⟩⟩, hS.F ht⟩) hS.2.2 dX11_put_45
      · have rx29_32 : ir x29 1 1 := rf_ne0 c32 r29
        have bx29_32 := b29 c32
        refine lv_aload_n hx hb dX11_put_35 rfl (lv_at hl 0 rfl) ?_
        refine wt_rel hx hb hts cfX11 hown hK nh0_7 rfl (by decide) (Or.inl (hts _ q879)) dX11_put_36 ?_
        refine lv_bipush (v := 24) hx hb dX11_put_39 (by decide) ?_
        refine lv_icmp_ne (tgt := 46) hx hb dX11_put_41 (by decide) (fun c41 => ?_) (fun c41 => ?_)
        · have rx4_41 : ir x4 0 23 := rf_neu c41 r4 (by decide) (by decide)
          refine lv_aload_n hx hb dX11_put_46 rfl (lv_at hl 0 rfl) ?_
          refine lv_iconst (v := 0) hx hb dX11_put_47 (by decide) ?_
          obtain ⟨V1, hV1⟩ := kp_all hW k0
          refine cc_v (B2 := fun H => mI N h0 H ∧ kp N h0 [13] V1 H) (wt_runV (As := [.int (0 : Int32)]) (rest := []) ⟨hx, hb, hml, hown, hts⟩ (m_X11_keeps l N h0 k0 hO V1 (0 : Int32) (ir_w (lo' := 0) (hi' := 1) (ir_c (0) (by decide) : ir (0 : Int32) (0) (0)) (by decide) (by decide))) wm_X11_keeps q1084 ⟨rfl, rfl⟩ ⟨Nat.le_of_ble_eq_true rfl, Nat.le_of_ble_eq_true rfl⟩ (cS_preV (B := fun H => mI N h0 H ∧ kp N h0 [13] V1 H) hK hW hT hnn hS (cg11 k0) rfl rfl (And.intro hI (kp_of (F := [13]) hV1))) rfl hl.1 rfl (Nat.le_of_ble_eq_true rfl) dX11_put_48 ⟨Nat.zero_le _, Nat.zero_le _⟩) hS (by decide) (fun H locs hW hS oq hB2 => ?_)
          obtain ⟨hI, hV2⟩ := hB2
          have hV := kp_call hV hV1 hV2 (by decide)
          have nh0_7 := kp_use hV1 hV2 (by decide) (by decide) nh0_7
          refine lv_aload_n hx hb dX11_put_51 rfl (lv_at hl 0 rfl) ?_
          refine lv_iload_n hx hb dX11_put_52 rfl (lv_at hl 1 rfl) ?_
          have rp53 : ir p1 0 23 := by have h8 := rp1_11; have h9 := rx4_41; constructor <;> omega
          obtain ⟨V1, hV1⟩ := kp_all hW k0
          have hWo := hW
          have hGL := QL_gp hI.1 nh0_7
          refine cc_v (B2 := fun H => kp N h0 [7] V1 H ∧ ∃ x : Int32, pI N h0 7 x H ∧ x.toInt = x4.toInt + 1 ∧ gP N 43 44 25 (fun j => (j : Int) < x4.toInt + 1 ∧ (j : Int) ≠ p1.toInt) H) (wt_runV (As := [.int p1]) (rest := []) ⟨hx, hb, hml, hown, hts⟩ (m_X11_opens l N h0 k0 hO V1 p1 rp53 x4 (by have h6 := rp53; have h7 := rx4_41; omega)) wm_X11_opens q1088 ⟨rfl, rfl⟩ ⟨Nat.le_of_ble_eq_true rfl, Nat.le_of_ble_eq_true rfl⟩ (cS_preV (B := fun H => kp N h0 [7] V1 H ∧ wt_pin N.1 vwCl h0 11 7 (.int x4) H ∧ gP N 43 44 25 (fun j => (j : Int) < x4.toInt) H) hK hW hT hnn hS (cg11 k0) rfl rfl (And.intro (kp_of (F := [7]) hV1) (And.intro nh0_7 hGL))) rfl hl.1 rfl (Nat.le_of_ble_eq_true rfl) dX11_put_53 ⟨Nat.zero_le _, Nat.zero_le _⟩) hS (by decide) (fun H locs hW hS oq hB2 => ?_)
          obtain ⟨hV2, hB2⟩ := hB2
          have hV := kp_call hV hV1 hV2 (by decide)
          obtain ⟨iL, iP, iR, iB, iM⟩ := hI
          have iP := QP.fr.kcall iP hWo hV1 hV2 oq (by decide) (by decide)
          have iR := QR.fr.kcall iR hWo hV1 hV2 oq (by decide) (by decide)
          have iB := QB.fr.kcall iB hWo hV1 hV2 oq (by decide) (by decide)
          have iM := QM.fr.kcall iM hWo hV1 hV2 oq (by decide) (by decide)
          obtain ⟨xx53_7, nh0_7, w53, hGL⟩ := hB2
          have rxx53_7 : ir xx53_7 1 24 := by have h6 := rx4_41; have h7 : ir xx53_7 0 24 := gi_r (cpin_P hW (cg11 k0) rfl (by decide) nh0_7); constructor <;> omega
          refine lv_aload_n hx hb dX11_put_56 rfl (lv_at hl 0 rfl) ?_
          refine lv_iload_n hx hb dX11_put_57 rfl (lv_at hl 1 rfl) ?_
          refine lv_iload_n hx hb dX11_put_58 rfl (lv_at hl 2 rfl) ?_
          refine lv_iload_n hx hb dX11_put_59 rfl (lv_at hl 3 rfl) ?_
          refine lv_iload hx hb dX11_put_60 (lv_at hl 4 rfl) ?_
          obtain ⟨V1, hV1⟩ := kp_all hW k0
          have hWo := hW
          refine cc_v (B2 := fun H => kp N h0 [] V1 H ∧ gP N 43 44 25 (fun j => ((j : Int) < x4.toInt + 1 ∧ (j : Int) ≠ p1.toInt) ∨ (j : Int) = p1.toInt) H) (wt_runV (As := [.int p1, .int p2, .int p3, .int p4]) (rest := []) ⟨hx, hb, hml, hown, hts⟩ (m_X11_lays l N h0 k0 hO V1 p1 (ir_w (lo' := 0) (hi' := 24) rp53 (by decide) (by decide)) p2 rp2_23 p3 bx29_32.1 p4 bx29_32.2.1 (fun j => (j : Int) < x4.toInt + 1 ∧ (j : Int) ≠ p1.toInt) bx29_32.2.2) wm_X11_lays q1096 ⟨rfl, rfl⟩ ⟨Nat.le_of_ble_eq_true rfl, Nat.le_of_ble_eq_true rfl⟩ (cS_preV (B := fun H => kp N h0 [] V1 H ∧ gP N 43 44 25 (fun j => (j : Int) < x4.toInt + 1 ∧ (j : Int) ≠ p1.toInt) H) hK hW hT hnn hS (cg11 k0) rfl rfl (And.intro (kp_of (F := []) hV1) hGL)) rfl hl.1 rfl (Nat.le_of_ble_eq_true rfl) dX11_put_62 ⟨Nat.zero_le _, Nat.zero_le _⟩) hS (by decide) (fun H locs hW hS oq hB2 => ?_)
          obtain ⟨hV2, hB2⟩ := hB2
          have hV := kp_call hV hV1 hV2 (by decide)
          have iP := QP.fr.kcall iP hWo hV1 hV2 oq (by decide) (by decide)
          have iR := QR.fr.kcall iR hWo hV1 hV2 oq (by decide) (by decide)
          have iB := QB.fr.kcall iB hWo hV1 hV2 oq (by decide) (by decide)
          have iM := QM.fr.kcall iM hWo hV1 hV2 oq (by decide) (by decide)
          have hGL : gP N 43 44 25 (fun j => ((j : Int) < x4.toInt + 1 ∧ (j : Int) ≠ p1.toInt) ∨ (j : Int) = p1.toInt) H := hB2
          have nh0_7 := kp_use hV1 hV2 (by decide) (by decide) nh0_7
          have iL : QL N h0 H := ⟨_, nh0_7, (hGL.sub (fun j hj h => by have h : (j : Int) < xx53_7.toInt := h; show ((j : Int) < x4.toInt + 1 ∧ (j : Int) ≠ p1.toInt) ∨ (j : Int) = p1.toInt; have h30 := rp53; have h31 := rx4_41; have h32 := rxx53_7; omega))⟩
          have hI : mI N h0 H := ⟨iL, iP, iR, iB, iM⟩
          refine lv_aload_n hx hb dX11_put_65 rfl (lv_at hl 0 rfl) ?_
          refine wt_rel hx hb hts cfX11 hown hK nh0_7 rfl (by decide) (Or.inl (hts _ q879)) dX11_put_66 ?_
          exact W.iret (v := xx53_7) hx hb hr (fun t ht _ => ⟨⟨xx53_7, xx53_7, rfl, ⟨rfl, trivial⟩, cW_at ht hW, ⟨mI_at ht hI, kp_at ht hV⟩⟩, hS.F ht⟩) hS.2.2 dX11_put_69
        · have rx4_41 : ir x4 24 24 := rf_eq c41 (ir_c (24) (by decide) : ir (24 : Int32) (24) (24))
          refine lv_iconst (v := -1) hx hb dX11_put_44 (by decide) ?_
          exact W.iret (v := (-1 : Int32)) hx hb hr (fun t ht _ => ⟨⟨(-1 : Int32), (-1 : Int32), rfl, ⟨rfl, trivial⟩, cW_at ht hW, ⟨mI_at ht hI, kp_at ht hV⟩⟩, hS.F ht⟩) hS.2.2 dX11_put_45
set_option maxHeartbeats 4000000 in
set_option maxRecDepth 100000 in
theorem m_X11_cut (l : Launch) (N : c_N) (h0 : Nat) (k0 : N.2.2.1 h0 = some 11) (hO : mOK N) (V : Nat → Value) (p1 : Int32) : cMi2 l yX11_cut cX11_cut 2 .int { frames := 2, cells := 0, slots := 0, locals := 44 } [.ref h0, .int p1] N [11, 42, 43, 44, 45, 46, 47, 48, 49] (fun H => mI N h0 H ∧ kp N h0 [7, 13] V H) (fun _ => True) (fun _ H => mI N h0 H ∧ kp N h0 [7, 13] V H) := by
  refine Met.ofW (cc := cX11_cut) (maxL := 2) (ret := some .int) (by decide) rfl ?_
  intro p e s m args below meth c s₁ B hml hv
  obtain ⟨rfl, ⟨hK, hW, hT, hnn⟩, hB⟩ := hv
  obtain ⟨hI, hV⟩ := hB
  have hx := B.exec
  have hb := B.bytes
  have hr := B.returns
  have hts : ∀ w ∈ lw_g, w.before _ s = true := fun w h => atoms_spec (ws := wc_ws yX11_cut cX11_cut 2 (some .int)) B.pre w (List.mem_cons_of_mem _ h)
  have hown : s.vm.findClass RX11 = some m.cls := findClass_of_methodNamed B.named
  have hlocks := B.notSynchronized
  have hS : va_S (cE N [11, 42, 43, 44, 45, 46, 47, 48, 49]) s.heap s.heap [] := va_S.rf
  have hl := lv_entry ([.ref h0, .int p1]) (n := 2) (Nat.le_of_ble_eq_true rfl)
  rw [lg_entry_eq]
  generalize (lg_sl ([.ref h0, .int p1]) ++ List.replicate (2 - (lg_sl ([.ref h0, .int p1])).length) Slot.unset).toArray = ls at hl ⊢
  have hl : lv_has ls 2 [(0, .ref h0), (1, .int p1)] := hl
  refine wq_all ?_
  intro WW w1 w2
  refine lv_iload_n hx hb dX11_cut_0 rfl (lv_at hl 1 rfl) ?_
  refine lv_i2l hx hb dX11_cut_1 rfl ?_
  refine lv_topl (fun x1 e1 => ?_)
  have r1 : lr x1 (-2147483648) 2147483647 := by rw [e1]; exact i2l_r (ir_any p1)
  have t1 : x1.toInt = p1.toInt := by rw [e1]; exact Int32.toInt_toInt64 p1
  refine lv_lconst (v := 0) hx hb dX11_cut_2 (by decide) ?_
  refine lv_aload_n hx hb dX11_cut_3 rfl (lv_at hl 0 rfl) ?_
  refine wt_getp hx hb hts cfX11 hown hK hW (cg11 k0) rfl 7 (by decide) (Or.inl (hts _ q879)) dX11_cut_4 (fun v hv nh0_7 => ?_)
  obtain ⟨x4, rfl, r4⟩ : gi 0 24 v := hv
  refine lv_iconst (v := 1) hx hb dX11_cut_7 (by decide) ?_
  refine lv_isub hx hb dX11_cut_8 ?_
  refine lv_topi (fun x8 e8 => ?_)
  have t8 : x8.toInt = x4.toInt - (1) := it_sub e8 r4 (ir_c (1) (by decide) : ir (1 : Int32) (1) (1)) (by decide) (by decide)
  have r8 : ir x8 (-1) 23 := ir_w (ir_sub e8 r4 (ir_c (1) (by decide) : ir (1 : Int32) (1) (1)) (by decide) (by decide)) (by decide) (by decide)
  refine lv_i2l hx hb dX11_cut_9 rfl ?_
  refine lv_topl (fun x9 e9 => ?_)
  have r9 : lr x9 (-1) 23 := by rw [e9]; exact i2l_r r8
  have t9 : x9.toInt = x8.toInt := by rw [e9]; exact Int32.toInt_toInt64 x8
  refine cp_i (wt_runS (As := [.long x1, .long (0 : Int64), .long x9]) (rest := []) ⟨hx, hb, hml, hown, hts⟩ (m_X11_isIn l x1 (0 : Int64) x9) wm_X11_isIn q1050 ⟨rfl, rfl⟩ ⟨Nat.le_of_ble_eq_true rfl, Nat.le_of_ble_eq_true rfl⟩ pS_pre rfl hl.1 rfl (Nat.le_of_ble_eq_true rfl) dX11_cut_10 ⟨Nat.zero_le _, Nat.zero_le _⟩) hW hS (fun x10 H locs hp hW1 hS oq => ?_)
  have hV := hV.same hW k0 oq
  have hI := mI.fr.same hI hW oq
  have hW := hW1
  have nh0_7 := nh0_7.kept (oq _ nh0_7.lt (cE_not k0 (by decide)))
  obtain ⟨r10, b10⟩ := hp
  refine lv_if_ne (tgt := 18) hx hb dX11_cut_13 (by decide) (fun c13 => ?_) (fun c13 => ?_)
  · have rx10_13 : ir x10 1 1 := rf_ne0 c13 r10
    have bx10_13 := b10 c13
    have rbx1_13 : lr x1 0 23 := by have h5 := bx10_13; have h6 := r1; have h7 := (lr_c (0) (by decide) : lr (0 : Int64) (0) (0)); have h8 := r9; constructor <;> omega
    have rp1_13 : ir p1 0 23 := i2l_b e1 rbx1_13
    refine lv_aload_n hx hb dX11_cut_18 rfl (lv_at hl 0 rfl) ?_
    refine lv_iconst (v := 0) hx hb dX11_cut_19 (by decide) ?_
    obtain ⟨V1, hV1⟩ := kp_all hW k0
    refine cc_v (B2 := fun H => mI N h0 H ∧ kp N h0 [13] V1 H) (wt_runV (As := [.int (0 : Int32)]) (rest := []) ⟨hx, hb, hml, hown, hts⟩ (m_X11_keeps l N h0 k0 hO V1 (0 : Int32) (ir_w (lo' := 0) (hi' := 1) (ir_c (0) (by decide) : ir (0 : Int32) (0) (0)) (by decide) (by decide))) wm_X11_keeps q1084 ⟨rfl, rfl⟩ ⟨Nat.le_of_ble_eq_true rfl, Nat.le_of_ble_eq_true rfl⟩ (cS_preV (B := fun H => mI N h0 H ∧ kp N h0 [13] V1 H) hK hW hT hnn hS (cg11 k0) rfl rfl (And.intro hI (kp_of (F := [13]) hV1))) rfl hl.1 rfl (Nat.le_of_ble_eq_true rfl) dX11_cut_20 ⟨Nat.zero_le _, Nat.zero_le _⟩) hS (by decide) (fun H locs hW hS oq hB2 => ?_)
    obtain ⟨hI, hV2⟩ := hB2
    have hV := kp_call hV hV1 hV2 (by decide)
    have nh0_7 := kp_use hV1 hV2 (by decide) (by decide) nh0_7
    refine lv_aload_n hx hb dX11_cut_23 rfl (lv_at hl 0 rfl) ?_
    refine lv_iload_n hx hb dX11_cut_24 rfl (lv_at hl 1 rfl) ?_
    obtain ⟨V1, hV1⟩ := kp_all hW k0
    have hWo := hW
    have hGL := QL_gp hI.1 nh0_7
    refine cc_v (B2 := fun H => kp N h0 [7] V1 H ∧ ∃ x : Int32, pI N h0 7 x H ∧ x.toInt = x4.toInt - 1 ∧ gP N 43 44 25 (fun j => (j : Int) < x4.toInt - 1) H) (wt_runV (As := [.int p1]) (rest := []) ⟨hx, hb, hml, hown, hts⟩ (m_X11_closes l N h0 k0 hO V1 p1 rp1_13 x4 (by have h6 := rp1_13; have h7 := r4; omega)) wm_X11_closes q1104 ⟨rfl, rfl⟩ ⟨Nat.le_of_ble_eq_true rfl, Nat.le_of_ble_eq_true rfl⟩ (cS_preV (B := fun H => kp N h0 [7] V1 H ∧ wt_pin N.1 vwCl h0 11 7 (.int x4) H ∧ gP N 43 44 25 (fun j => (j : Int) < x4.toInt) H) hK hW hT hnn hS (cg11 k0) rfl rfl (And.intro (kp_of (F := [7]) hV1) (And.intro nh0_7 hGL))) rfl hl.1 rfl (Nat.le_of_ble_eq_true rfl) dX11_cut_25 ⟨Nat.zero_le _, Nat.zero_le _⟩) hS (by decide) (fun H locs hW hS oq hB2 => ?_)
    obtain ⟨hV2, hB2⟩ := hB2
    have hV := kp_call hV hV1 hV2 (by decide)
    obtain ⟨iL, iP, iR, iB, iM⟩ := hI
    have iP := QP.fr.kcall iP hWo hV1 hV2 oq (by decide) (by decide)
    have iR := QR.fr.kcall iR hWo hV1 hV2 oq (by decide) (by decide)
    have iB := QB.fr.kcall iB hWo hV1 hV2 oq (by decide) (by decide)
    have iM := QM.fr.kcall iM hWo hV1 hV2 oq (by decide) (by decide)
    obtain ⟨xx25_7, nh0_7, w25, hGL⟩ := hB2
    have rxx25_7 : ir xx25_7 0 23 := by have h6 := r4; have h7 : ir xx25_7 0 24 := gi_r (cpin_P hW (cg11 k0) rfl (by decide) nh0_7); constructor <;> omega
    have iL : QL N h0 H := ⟨_, nh0_7, (hGL.sub (fun j hj h => by have h : (j : Int) < xx25_7.toInt := h; show (j : Int) < x4.toInt - 1; have h30 := r4; have h31 := rxx25_7; omega))⟩
    have hI : mI N h0 H := ⟨iL, iP, iR, iB, iM⟩
    refine lv_aload_n hx hb dX11_cut_28 rfl (lv_at hl 0 rfl) ?_
    refine wt_rel hx hb hts cfX11 hown hK nh0_7 rfl (by decide) (Or.inl (hts _ q879)) dX11_cut_29 ?_
    exact W.iret (v := xx25_7) hx hb hr (fun t ht _ => ⟨⟨xx25_7, xx25_7, rfl, ⟨rfl, trivial⟩, cW_at ht hW, ⟨mI_at ht hI, kp_at ht hV⟩⟩, hS.F ht⟩) hS.2.2 dX11_cut_32
  · have rx10_13 : ir x10 0 0 := rf_eq c13 (ir_c (0) (by decide) : ir (0 : Int32) (0) (0))
    refine lv_iconst (v := -1) hx hb dX11_cut_16 (by decide) ?_
    exact W.iret (v := (-1 : Int32)) hx hb hr (fun t ht _ => ⟨⟨(-1 : Int32), (-1 : Int32), rfl, ⟨rfl, trivial⟩, cW_at ht hW, ⟨mI_at ht hI, kp_at ht hV⟩⟩, hS.F ht⟩) hS.2.2 dX11_cut_17
set_option maxHeartbeats 4000000 in
set_option maxRecDepth 100000 in
theorem m_X11_turn (l : Launch) (N : c_N) (h0 : Nat) (k0 : N.2.2.1 h0 = some 11) (hO : mOK N) (V : Nat → Value) : cMi2 l yX11_turn cX11_turn 2 .boolean { frames := 2, cells := 0, slots := 0, locals := 43 } [.ref h0] N [11, 42, 43, 44, 45, 46, 47, 48, 49] (fun H => mI N h0 H ∧ kp N h0 [2, 3, 13] V H) (fun r => ir r 0 1) (fun _ H => mI N h0 H ∧ kp N h0 [2, 3, 13] V H) := by
  refine Met.ofW (cc := cX11_turn) (maxL := 2) (ret := some .boolean) (by decide) rfl ?_
  intro p e s m args below meth c s₁ B hml hv
  obtain ⟨rfl, ⟨hK, hW, hT, hnn⟩, hB⟩ := hv
  obtain ⟨hI, hV⟩ := hB
  have hx := B.exec
  have hb := B.bytes
  have hr := B.returns
  have hts : ∀ w ∈ lw_g, w.before _ s = true := fun w h => atoms_spec (ws := wc_ws yX11_turn cX11_turn 2 (some .boolean)) B.pre w (List.mem_cons_of_mem _ h)
  have hown : s.vm.findClass RX11 = some m.cls := findClass_of_methodNamed B.named
  have hlocks := B.notSynchronized
  have hS : va_S (cE N [11, 42, 43, 44, 45, 46, 47, 48, 49]) s.heap s.heap [] := va_S.rf
  have hl := lv_entry ([.ref h0]) (n := 2) (Nat.le_of_ble_eq_true rfl)
  rw [lg_entry_eq]
  generalize (lg_sl ([.ref h0]) ++ List.replicate (2 - (lg_sl ([.ref h0])).length) Slot.unset).toArray = ls at hl ⊢
  have hl : lv_has ls 2 [(0, .ref h0)] := hl
  refine wq_all ?_
  intro WW w1 w2
  have L27 : ∀ (n : Nat) (H : Heap) (locs : List Loc) (ls : Array Slot) (v27_1 : Int32), cW N H → mI N h0 H → kp N h0 [2, 3, 13] V H → va_S (cE N [11, 42, 43, 44, 45, 46, 47, 48, 49]) s.heap H locs → lv_has ls 2 [(0, .ref h0), (1, .int v27_1)] → ir v27_1 0 12 → 12 - v27_1.toInt < (n : Int) → WW H locs (F0 m 27 ls []) := by
    intro n
    induction n with
    | zero =>
      intro H locs ls v27_1 hW hI hV hS hl rv27_1 mu27
      exfalso
      omega
    | succ n ih27 =>
      intro H locs ls v27_1 hW hI hV hS hl rv27_1 mu27
      refine w1 _ _ _ ?_
      refine lv_iconst (v := 2) hx hb dX11_turn_27 (by decide) ?_
      refine lv_iload_n hx hb dX11_turn_28 rfl (lv_at hl 1 rfl) ?_
      refine lv_imul hx hb dX11_turn_29 ?_
      refine lv_topi (fun x29 e29 => ?_)
      have t29 : x29.toInt = (2) * v27_1.toInt := (it_mul e29 (ir_c (2) (by decide) : ir (2 : Int32) (2) (2)) rv27_1 (by decide) (by decide) (by decide)).1
      have r29 : ir x29 0 24 := ir_w (it_mul e29 (ir_c (2) (by decide) : ir (2 : Int32) (2) (2)) rv27_1 (by decide) (by decide) (by decide)).2 (by decide) (by decide)
      refine lv_aload_n hx hb dX11_turn_30 rfl (lv_at hl 0 rfl) ?_
      refine wt_getp hx hb hts cfX11 hown hK hW (cg11 k0) rfl 7 (by decide) (Or.inl (hts _ q879)) dX11_turn_31 (fun v hv nh0_7 => ?_)
      obtain ⟨x31, rfl, r31⟩ : gi 0 24 v := hv
      refine lv_iconst (v := 1) hx hb dX11_turn_34 (by decide) ?_
      refine lv_isub hx hb dX11_turn_35 ?_
      refine lv_topi (fun x35 e35 => ?_)
      have t35 : x35.toInt = x31.toInt - (1) := it_sub e35 r31 (ir_c (1) (by decide) : ir (1 : Int32) (1) (1)) (by decide) (by decide)
      have r35 : ir x35 (-1) 23 := ir_w (ir_sub e35 r31 (ir_c (1) (by decide) : ir (1 : Int32) (1) (1)) (by decide) (by decide)) (by decide) (by decide)
      refine lv_icmp_ge (tgt := 79) hx hb dX11_turn_36 (by decide) (fun c36 => ?_) (fun c36 => ?_)
      · have d36 := Int32.le_iff_toInt_le.mp c36
        refine lv_aload_n hx hb dX11_turn_79 rfl (lv_at hl 0 rfl) ?_
        obtain ⟨V1, hV1⟩ := kp_all hW k0
        refine cc_v (B2 := fun H => mI N h0 H ∧ kp N h0 [2, 3] V1 H) (wt_runV (As := []) (rest := []) ⟨hx, hb, hml, hown, hts⟩ (m_X11_changesSides l N h0 k0 hO V1) wm_X11_changesSides q1072 ⟨rfl, rfl⟩ ⟨Nat.le_of_ble_eq_true rfl, Nat.le_of_ble_eq_true rfl⟩ (cS_preV (B := fun H => mI N h0 H ∧ kp N h0 [2, 3] V1 H) hK hW hT hnn hS (cg11 k0) rfl rfl (And.intro hI (kp_of (F := [2, 3]) hV1))) rfl hl.1 rfl (Nat.le_of_ble_eq_true rfl) dX11_turn_80 ⟨Nat.zero_le _, Nat.zero_le _⟩) hS (by decide) (fun H locs hW hS oq hB2 => ?_)
        obtain ⟨hI, hV2⟩ := hB2
        have hV := kp_call hV hV1 hV2 (by decide)
        have nh0_7 := kp_use hV1 hV2 (by decide) (by decide) nh0_7
        refine lv_iconst (v := 1) hx hb dX11_turn_83 (by decide) ?_
        exact W.zret (v := (1 : Int32)) hx hb hr rfl (fun t ht _ => ⟨⟨(1 : Int32), (1 : Int32), rfl, ⟨rfl, (⟨by decide, by decide⟩)⟩, cW_at ht hW, ⟨mI_at ht hI, kp_at ht hV⟩⟩, hS.F ht⟩) hS.2.2 dX11_turn_84
      · have rx29_36 : ir x29 0 22 := ⟨(r29).1, Int.le_trans (rf_lt (rf_nle c36) r29 r35).1 (by decide)⟩
        have rx35_36 : ir x35 1 23 := ⟨Int.le_trans (by decide) (rf_lt (rf_nle c36) r29 r35).2, (r35).2⟩
        have d36 := Int32.lt_iff_toInt_lt.mp (rf_nle c36)
        have rx31_36_1 : ir x31 2 24 := by have h6 := t35; have h7 := r31; have h8 := (ir_c (1) (by decide) : ir (1 : Int32) (1) (1)); have h9 := rx35_36; constructor <;> omega
        have rv39 : ir v27_1 0 11 := by have h9 := rv27_1; have h8 := rx31_36_1; constructor <;> omega
        refine lv_aload_n hx hb dX11_turn_39 rfl (lv_at hl 0 rfl) ?_
        refine lv_bipush (v := 24) hx hb dX11_turn_40 (by decide) ?_
        refine lv_iload_n hx hb dX11_turn_42 rfl (lv_at hl 1 rfl) ?_
        obtain ⟨V1, hV1⟩ := kp_all hW k0
        have hWo := hW
        have hGL := QL_gp hI.1 nh0_7
        refine cc_v (B2 := fun H => kp N h0 [] V1 H ∧ gP N 43 44 25 (fun j => ((j : Int) < x31.toInt) ∨ (j : Int) = (24 : Int32).toInt) H) (wt_runV (As := [.int (24 : Int32), .int v27_1]) (rest := []) ⟨hx, hb, hml, hown, hts⟩ (m_X11_moves l N h0 k0 hO V1 (24 : Int32) (ir_w (lo' := 0) (hi' := 24) (ir_c (24) (by decide) : ir (24 : Int32) (24) (24)) (by decide) (by decide)) v27_1 (ir_w (lo' := 0) (hi' := 24) rv39 (by decide) (by decide)) (fun j => (j : Int) < x31.toInt) (fun j h => by show (j : Int) < x31.toInt; have l30 : (24 : Int32).toInt = 24 := (by decide); have h30 := rv39; have h31 := rx31_36_1; omega) (by have l30 : (24 : Int32).toInt = 24 := (by decide); have h30 := rv39; have h31 := rx31_36_1; omega)) wm_X11_moves q1092 ⟨rfl, rfl⟩ ⟨Nat.le_of_ble_eq_true rfl, Nat.le_of_ble_eq_true rfl⟩ (cS_preV (B := fun H => kp N h0 [] V1 H ∧ gP N 43 44 25 (fun j => (j : Int) < x31.toInt) H) hK hW hT hnn hS (cg11 k0) rfl rfl (And.intro (kp_of (F := []) hV1) hGL)) rfl hl.1 rfl (Nat.le_of_ble_eq_true rfl) dX11_turn_43 ⟨Nat.zero_le _, Nat.zero_le _⟩) hS (by decide) (fun H locs hW hS oq hB2 => ?_)
        obtain ⟨hV2, hB2⟩ := hB2
        have hV := kp_call hV hV1 hV2 (by decide)
        obtain ⟨iL, iP, iR, iB, iM⟩ := hI
        have iP := QP.fr.kcall iP hWo hV1 hV2 oq (by decide) (by decide)
        have iR := QR.fr.kcall iR hWo hV1 hV2 oq (by decide) (by decide)
        have iB := QB.fr.kcall iB hWo hV1 hV2 oq (by decide) (by decide)
        have iM := QM.fr.kcall iM hWo hV1 hV2 oq (by decide) (by decide)
        have hGL : gP N 43 44 25 (fun j => ((j : Int) < x31.toInt) ∨ (j : Int) = (24 : Int32).toInt) H := hB2
        have nh0_7 := kp_use hV1 hV2 (by decide) (by decide) nh0_7
        refine lv_aload_n hx hb dX11_turn_46 rfl (lv_at hl 0 rfl) ?_
        refine lv_iload_n hx hb dX11_turn_47 rfl (lv_at hl 1 rfl) ?_
        refine lv_aload_n hx hb dX11_turn_48 rfl (lv_at hl 0 rfl) ?_
        refine wt_rel hx hb hts cfX11 hown hK nh0_7 rfl (by decide) (Or.inl (hts _ q879)) dX11_turn_49 ?_
        refine lv_iconst (v := 1) hx hb dX11_turn_52 (by decide) ?_
        refine lv_isub hx hb dX11_turn_53 ?_
        refine lv_topi (fun x53 e53 => ?_)
        have t53 : x53.toInt = x31.toInt - (1) := it_sub e53 rx31_36_1 (ir_c (1) (by decide) : ir (1 : Int32) (1) (1)) (by decide) (by decide)
        have r53 : ir x53 1 23 := rf_eq (e53.trans e35.symm) rx35_36
        refine lv_iload_n hx hb dX11_turn_54 rfl (lv_at hl 1 rfl) ?_
        refine lv_isub hx hb dX11_turn_55 ?_
        refine lv_topi (fun x55 e55 => ?_)
        have t55 : x55.toInt = x53.toInt - v27_1.toInt := it_sub e55 r53 rv39 (by decide) (by decide)
        have r55 : ir x55 0 23 := by have h6 := r53; have h7 := rv39; constructor <;> omega
        obtain ⟨V1, hV1⟩ := kp_all hW k0
        have hWo := hW
        refine cc_v (B2 := fun H => kp N h0 [] V1 H ∧ gP N 43 44 25 (fun j => (((j : Int) < x31.toInt) ∨ (j : Int) = (24 : Int32).toInt) ∨ (j : Int) = v27_1.toInt) H) (wt_runV (As := [.int v27_1, .int x55]) (rest := []) ⟨hx, hb, hml, hown, hts⟩ (m_X11_moves l N h0 k0 hO V1 v27_1 (ir_w (lo' := 0) (hi' := 24) rv39 (by decide) (by decide)) x55 (ir_w (lo' := 0) (hi' := 24) r55 (by decide) (by decide)) (fun j => ((j : Int) < x31.toInt) ∨ (j : Int) = (24 : Int32).toInt) (fun j h => by show ((j : Int) < x31.toInt) ∨ (j : Int) = (24 : Int32).toInt; have l30 : (24 : Int32).toInt = 24 := (by decide); have h30 := rv39; have h31 := rx31_36_1; have h32 := r55; omega) (by have l30 : (24 : Int32).toInt = 24 := (by decide); have h30 := rv39; have h31 := rx31_36_1; have h32 := r55; omega)) wm_X11_moves q1092 ⟨rfl, rfl⟩ ⟨Nat.le_of_ble_eq_true rfl, Nat.le_of_ble_eq_true rfl⟩ (cS_preV (B := fun H => kp N h0 [] V1 H ∧ gP N 43 44 25 (fun j => ((j : Int) < x31.toInt) ∨ (j : Int) = (24 : Int32).toInt) H) hK hW hT hnn hS (cg11 k0) rfl rfl (And.intro (kp_of (F := []) hV1) hGL)) rfl hl.1 rfl (Nat.le_of_ble_eq_true rfl) dX11_turn_56 ⟨Nat.zero_le _, Nat.zero_le _⟩) hS (by decide) (fun H locs hW hS oq hB2 => ?_)
        obtain ⟨hV2, hB2⟩ := hB2
        have hV := kp_call hV hV1 hV2 (by decide)
        have iP := QP.fr.kcall iP hWo hV1 hV2 oq (by decide) (by decide)
        have iR := QR.fr.kcall iR hWo hV1 hV2 oq (by decide) (by decide)
        have iB := QB.fr.kcall iB hWo hV1 hV2 oq (by decide) (by decide)
        have iM := QM.fr.kcall iM hWo hV1 hV2 oq (by decide) (by decide)
        have hGL : gP N 43 44 25 (fun j => (((j : Int) < x31.toInt) ∨ (j : Int) = (24 : Int32).toInt) ∨ (j : Int) = v27_1.toInt) H := hB2
        have nh0_7 := kp_use hV1 hV2 (by decide) (by decide) nh0_7
        refine lv_aload_n hx hb dX11_turn_59 rfl (lv_at hl 0 rfl) ?_
        refine lv_aload_n hx hb dX11_turn_60 rfl (lv_at hl 0 rfl) ?_
        refine wt_rel hx hb hts cfX11 hown hK nh0_7 rfl (by decide) (Or.inl (hts _ q879)) dX11_turn_61 ?_
        refine lv_iconst (v := 1) hx hb dX11_turn_64 (by decide) ?_
        refine lv_isub hx hb dX11_turn_65 ?_
        refine lv_topi (fun x65 e65 => ?_)
        have t65 : x65.toInt = x31.toInt - (1) := it_sub e65 rx31_36_1 (ir_c (1) (by decide) : ir (1 : Int32) (1) (1)) (by decide) (by decide)
        have r65 : ir x65 1 23 := rf_eq (e65.trans e35.symm) rx35_36
        refine lv_iload_n hx hb dX11_turn_66 rfl (lv_at hl 1 rfl) ?_
        refine lv_isub hx hb dX11_turn_67 ?_
        refine lv_topi (fun x67 e67 => ?_)
        have t67 : x67.toInt = x65.toInt - v27_1.toInt := it_sub e67 r65 rv39 (by decide) (by decide)
        have r67 : ir x67 0 23 := by have h6 := r65; have h7 := rv39; constructor <;> omega
        refine lv_bipush (v := 24) hx hb dX11_turn_68 (by decide) ?_
        obtain ⟨V1, hV1⟩ := kp_all hW k0
        have hWo := hW
        refine cc_v (B2 := fun H => kp N h0 [] V1 H ∧ gP N 43 44 25 (fun j => ((((j : Int) < x31.toInt) ∨ (j : Int) = (24 : Int32).toInt) ∨ (j : Int) = v27_1.toInt) ∨ (j : Int) = x67.toInt) H) (wt_runV (As := [.int x67, .int (24 : Int32)]) (rest := []) ⟨hx, hb, hml, hown, hts⟩ (m_X11_moves l N h0 k0 hO V1 x67 (ir_w (lo' := 0) (hi' := 24) r67 (by decide) (by decide)) (24 : Int32) (ir_w (lo' := 0) (hi' := 24) (ir_c (24) (by decide) : ir (24 : Int32) (24) (24)) (by decide) (by decide)) (fun j => (((j : Int) < x31.toInt) ∨ (j : Int) = (24 : Int32).toInt) ∨ (j : Int) = v27_1.toInt) (fun j h => by show (((j : Int) < x31.toInt) ∨ (j : Int) = (24 : Int32).toInt) ∨ (j : Int) = v27_1.toInt; have l30 : (24 : Int32).toInt = 24 := (by decide); have h30 := rv39; have h31 := rx31_36_1; have h32 := r67; omega) (by have l30 : (24 : Int32).toInt = 24 := (by decide); have h30 := rv39; have h31 := rx31_36_1; have h32 := r67; omega)) wm_X11_moves q1092 ⟨rfl, rfl⟩ ⟨Nat.le_of_ble_eq_true rfl, Nat.le_of_ble_eq_true rfl⟩ (cS_preV (B := fun H => kp N h0 [] V1 H ∧ gP N 43 44 25 (fun j => (((j : Int) < x31.toInt) ∨ (j : Int) = (24 : Int32).toInt) ∨ (j : Int) = v27_1.toInt) H) hK hW hT hnn hS (cg11 k0) rfl rfl (And.intro (kp_of (F := []) hV1) hGL)) rfl hl.1 rfl (Nat.le_of_ble_eq_true rfl) dX11_turn_70 ⟨Nat.zero_le _, Nat.zero_le _⟩) hS (by decide) (fun H locs hW hS oq hB2 => ?_)
        obtain ⟨hV2, hB2⟩ := hB2
        have hV := kp_call hV hV1 hV2 (by decide)
        have iP := QP.fr.kcall iP hWo hV1 hV2 oq (by decide) (by decide)
        have iR := QR.fr.kcall iR hWo hV1 hV2 oq (by decide) (by decide)
        have iB := QB.fr.kcall iB hWo hV1 hV2 oq (by decide) (by decide)
        have iM := QM.fr.kcall iM hWo hV1 hV2 oq (by decide) (by decide)
        have hGL : gP N 43 44 25 (fun j => ((((j : Int) < x31.toInt) ∨ (j : Int) = (24 : Int32).toInt) ∨ (j : Int) = v27_1.toInt) ∨ (j : Int) = x67.toInt) H := hB2
        have nh0_7 := kp_use hV1 hV2 (by decide) (by decide) nh0_7
        have iL : QL N h0 H := ⟨_, nh0_7, (hGL.sub (fun j hj h => by have h : (j : Int) < x31.toInt := h; show ((((j : Int) < x31.toInt) ∨ (j : Int) = (24 : Int32).toInt) ∨ (j : Int) = v27_1.toInt) ∨ (j : Int) = x67.toInt; have l30 : (24 : Int32).toInt = 24 := (by decide); have h30 := rv39; have h31 := rx31_36_1; have h32 := r67; omega))⟩
        have hI : mI N h0 H := ⟨iL, iP, iR, iB, iM⟩
        obtain ⟨x73, e73⟩ : ∃ y : Int32, y = v27_1 + 1 := ⟨_, rfl⟩
        have r73 : ir x73 1 12 := ir_w (ir_add e73 rv39 (ir_c (1) (by decide) : ir (1 : Int32) (1) (1)) (by decide) (by decide)) (by decide) (by decide)
        have t73 : x73.toInt = v27_1.toInt + (1) := it_add e73 rv39 (ir_c (1) (by decide) : ir (1 : Int32) (1) (1)) (by decide) (by decide)
        refine lv_iinc (v := x73) (lv' := [(1, .int x73), (0, .ref h0)]) hx hb dX11_turn_73 hl (k := 1) rfl (by rw [e73]; rfl) (by decide) rfl (fun ls hl => ?_)
        refine lv_goto (tgt := 27) hx hb dX11_turn_76 (by decide) ?_
        exact w2 _ _ _ (ih27 _ _ _ x73 hW hI hV hS (lv_sub hl [1, 0] rfl) (ir_w (lo' := 0) (hi' := 12) r73 (by decide) (by decide)) (by have h9 := r73; omega))
  have J20 : ∀ (H : Heap) (locs : List Loc) (ls : Array Slot) , cW N H → mI N h0 H → kp N h0 [2, 3, 13] V H → va_S (cE N [11, 42, 43, 44, 45, 46, 47, 48, 49]) s.heap H locs → lv_has ls 2 [(0, .ref h0)] → WW H locs (F0 m 20 ls []) := by
    intro H locs ls  hW hI hV hS hl
    refine w1 _ _ _ ?_
    refine lv_aload_n hx hb dX11_turn_20 rfl (lv_at hl 0 rfl) ?_
    refine lv_iconst (v := 1) hx hb dX11_turn_21 (by decide) ?_
    obtain ⟨V1, hV1⟩ := kp_all hW k0
    refine cc_v (B2 := fun H => mI N h0 H ∧ kp N h0 [13] V1 H) (wt_runV (As := [.int (1 : Int32)]) (rest := []) ⟨hx, hb, hml, hown, hts⟩ (m_X11_keeps l N h0 k0 hO V1 (1 : Int32) (ir_w (lo' := 0) (hi' := 1) (ir_c (1) (by decide) : ir (1 : Int32) (1) (1)) (by decide) (by decide))) wm_X11_keeps q1084 ⟨rfl, rfl⟩ ⟨Nat.le_of_ble_eq_true rfl, Nat.le_of_ble_eq_true rfl⟩ (cS_preV (B := fun H => mI N h0 H ∧ kp N h0 [13] V1 H) hK hW hT hnn hS (cg11 k0) rfl rfl (And.intro hI (kp_of (F := [13]) hV1))) rfl hl.1 rfl (Nat.le_of_ble_eq_true rfl) dX11_turn_22 ⟨Nat.zero_le _, Nat.zero_le _⟩) hS (by decide) (fun H locs hW hS oq hB2 => ?_)
    obtain ⟨hI, hV2⟩ := hB2
    have hV := kp_call hV hV1 hV2 (by decide)
    refine lv_iconst (v := 0) hx hb dX11_turn_25 (by decide) ?_
    refine lv_istore_n (lv' := [(1, .int (0 : Int32)), (0, .ref h0)]) hx hb dX11_turn_26 rfl hl (by decide) rfl (fun ls hl => ?_)
    exact w2 _ _ _ (L27 13 _ _ _ (0 : Int32) hW hI hV hS (lv_sub hl [1, 0] rfl) (ir_w (lo' := 0) (hi' := 12) (ir_c (0) (by decide) : ir (0 : Int32) (0) (0)) (by decide) (by decide)) (by have h9 := (ir_c (0) (by decide) : ir (0 : Int32) (0) (0)); omega))
  refine lv_aload_n hx hb dX11_turn_0 rfl (lv_at hl 0 rfl) ?_
  obtain ⟨V1, hV1⟩ := kp_all hW k0
  refine cc_i2 (B2 := fun _ H => mI N h0 H ∧ kp N h0 [] V1 H) (wt_runV (As := []) (rest := []) ⟨hx, hb, hml, hown, hts⟩ (m_X11_isSameTurned l N h0 k0 hO V1) wm_X11_isSameTurned q1112 ⟨rfl, rfl⟩ ⟨Nat.le_of_ble_eq_true rfl, Nat.le_of_ble_eq_true rfl⟩ (cS_preV (B := fun H => mI N h0 H ∧ kp N h0 [] V1 H) hK hW hT hnn hS (cg11 k0) rfl rfl (And.intro hI (kp_of (F := []) hV1))) rfl hl.1 rfl (Nat.le_of_ble_eq_true rfl) dX11_turn_1 ⟨Nat.zero_le _, Nat.zero_le _⟩) hS (by decide) (fun x1 H locs hp hW hS oq hB2 => ?_)
  obtain ⟨hI, hV2⟩ := hB2
  have hV := kp_call hV hV1 hV2 (by decide)
  have r1 : ir x1 0 1 := hp
  refine lv_if_eq (tgt := 20) hx hb dX11_turn_4 (by decide) (fun c4 => ?_) (fun c4 => ?_)
  · have rx1_4 : ir x1 0 0 := rf_eq c4 (ir_c (0) (by decide) : ir (0 : Int32) (0) (0))
    exact w2 _ _ _ (J20 _ _ _  hW hI hV hS (lv_sub hl [0] rfl) )
  · have rx1_4 : ir x1 1 1 := rf_ne0 c4 r1
    refine lv_aload_n hx hb dX11_turn_7 rfl (lv_at hl 0 rfl) ?_
    refine wt_getp hx hb hts cfX11 hown hK hW (cg11 k0) rfl 2 (by decide) (Or.inl (hts _ q874)) dX11_turn_8 (fun v hv nh0_2 => ?_)
    obtain ⟨x8, rfl, r8⟩ : gi 0 5 v := hv
    refine lv_aload_n hx hb dX11_turn_11 rfl (lv_at hl 0 rfl) ?_
    refine wt_getp hx hb hts cfX11 hown hK hW (cg11 k0) rfl 3 (by decide) (Or.inl (hts _ q875)) dX11_turn_12 (fun v hv nh0_3 => ?_)
    obtain ⟨x12, rfl, r12⟩ : gi 0 5 v := hv
    refine lv_icmp_ne (tgt := 20) hx hb dX11_turn_15 (by decide) (fun c15 => ?_) (fun c15 => ?_)
    · exact w2 _ _ _ (J20 _ _ _  hW hI hV hS (lv_sub hl [0] rfl) )
    · refine lv_iconst (v := 0) hx hb dX11_turn_18 (by decide) ?_
      exact W.zret (v := (0 : Int32)) hx hb hr rfl (fun t ht _ => ⟨⟨(0 : Int32), (0 : Int32), rfl, ⟨rfl, (⟨by decide, by decide⟩)⟩, cW_at ht hW, ⟨mI_at ht hI, kp_at ht hV⟩⟩, hS.F ht⟩) hS.2.2 dX11_turn_19
set_option maxHeartbeats 4000000 in
set_option maxRecDepth 100000 in
theorem m_X11_merge (l : Launch) (N : c_N) (h0 : Nat) (k0 : N.2.2.1 h0 = some 11) (hO : mOK N) (V : Nat → Value) (p1 : Int32) : cMi2 l yX11_merge cX11_merge 5 .int { frames := 2, cells := 0, slots := 0, locals := 54 } [.ref h0, .int p1] N [11, 42, 43, 44, 45, 46, 47, 48, 49] (fun H => mI N h0 H ∧ kp N h0 [7, 13] V H) (fun _ => True) (fun _ H => mI N h0 H ∧ kp N h0 [7, 13] V H) := by
  refine Met.ofW (cc := cX11_merge) (maxL := 5) (ret := some .int) (by decide) rfl ?_
  intro p e s m args below meth c s₁ B hml hv
  obtain ⟨rfl, ⟨hK, hW, hT, hnn⟩, hB⟩ := hv
  obtain ⟨hI, hV⟩ := hB
  have hx := B.exec
  have hb := B.bytes
  have hr := B.returns
  have hts : ∀ w ∈ lw_g, w.before _ s = true := fun w h => atoms_spec (ws := wc_ws yX11_merge cX11_merge 5 (some .int)) B.pre w (List.mem_cons_of_mem _ h)
  have hown : s.vm.findClass RX11 = some m.cls := findClass_of_methodNamed B.named
  have hlocks := B.notSynchronized
  have hS : va_S (cE N [11, 42, 43, 44, 45, 46, 47, 48, 49]) s.heap s.heap [] := va_S.rf
  have hl := lv_entry ([.ref h0, .int p1]) (n := 5) (Nat.le_of_ble_eq_true rfl)
  rw [lg_entry_eq]
  generalize (lg_sl ([.ref h0, .int p1]) ++ List.replicate (5 - (lg_sl ([.ref h0, .int p1])).length) Slot.unset).toArray = ls at hl ⊢
  have hl : lv_has ls 5 [(0, .ref h0), (1, .int p1)] := hl
  refine wq_all ?_
  intro WW w1 w2
  refine lv_iload_n hx hb dX11_merge_0 rfl (lv_at hl 1 rfl) ?_
  refine lv_i2l hx hb dX11_merge_1 rfl ?_
  refine lv_topl (fun x1 e1 => ?_)
  have r1 : lr x1 (-2147483648) 2147483647 := by rw [e1]; exact i2l_r (ir_any p1)
  have t1 : x1.toInt = p1.toInt := by rw [e1]; exact Int32.toInt_toInt64 p1
  refine lv_lconst (v := 0) hx hb dX11_merge_2 (by decide) ?_
  refine lv_aload_n hx hb dX11_merge_3 rfl (lv_at hl 0 rfl) ?_
  refine wt_getp hx hb hts cfX11 hown hK hW (cg11 k0) rfl 7 (by decide) (Or.inl (hts _ q879)) dX11_merge_4 (fun v hv nh0_7 => ?_)
  obtain ⟨x4, rfl, r4⟩ : gi 0 24 v := hv
  refine lv_iconst (v := 2) hx hb dX11_merge_7 (by decide) ?_
  refine lv_isub hx hb dX11_merge_8 ?_
  refine lv_topi (fun x8 e8 => ?_)
  have t8 : x8.toInt = x4.toInt - (2) := it_sub e8 r4 (ir_c (2) (by decide) : ir (2 : Int32) (2) (2)) (by decide) (by decide)
  have r8 : ir x8 (-2) 22 := ir_w (ir_sub e8 r4 (ir_c (2) (by decide) : ir (2 : Int32) (2) (2)) (by decide) (by decide)) (by decide) (by decide)
  refine lv_i2l hx hb dX11_merge_9 rfl ?_
  refine lv_topl (fun x9 e9 => ?_)
  have r9 : lr x9 (-2) 22 := by rw [e9]; exact i2l_r r8
  have t9 : x9.toInt = x8.toInt := by rw [e9]; exact Int32.toInt_toInt64 x8
  refine cp_i (wt_runS (As := [.long x1, .long (0 : Int64), .long x9]) (rest := []) ⟨hx, hb, hml, hown, hts⟩ (m_X11_isIn l x1 (0 : Int64) x9) wm_X11_isIn q1050 ⟨rfl, rfl⟩ ⟨Nat.le_of_ble_eq_true rfl, Nat.le_of_ble_eq_true rfl⟩ pS_pre rfl hl.1 rfl (Nat.le_of_ble_eq_true rfl) dX11_merge_10 ⟨Nat.zero_le _, Nat.zero_le _⟩) hW hS (fun x10 H locs hp hW1 hS oq => ?_)
  have hV := hV.same hW k0 oq
  have hI := mI.fr.same hI hW oq
  have hW := hW1
  have nh0_7 := nh0_7.kept (oq _ nh0_7.lt (cE_not k0 (by decide)))
  obtain ⟨r10, b10⟩ := hp
  refine lv_if_eq (tgt := 33) hx hb dX11_merge_13 (by decide) (fun c13 => ?_) (fun c13 => ?_)
  · have rx10_13 : ir x10 0 0 := rf_eq c13 (ir_c (0) (by decide) : ir (0 : Int32) (0) (0))
    refine lv_iconst (v := -1) hx hb dX11_merge_33 (by decide) ?_
    exact W.iret (v := (-1 : Int32)) hx hb hr (fun t ht _ => ⟨⟨(-1 : Int32), (-1 : Int32), rfl, ⟨rfl, trivial⟩, cW_at ht hW, ⟨mI_at ht hI, kp_at ht hV⟩⟩, hS.F ht⟩) hS.2.2 dX11_merge_34
  · have rx10_13 : ir x10 1 1 := rf_ne0 c13 r10
    have bx10_13 := b10 c13
    have rbx1_13 : lr x1 0 22 := by have h5 := bx10_13; have h6 := r1; have h7 := (lr_c (0) (by decide) : lr (0 : Int64) (0) (0)); have h8 := r9; constructor <;> omega
    have rp1_13 : ir p1 0 22 := i2l_b e1 rbx1_13
    refine lv_aload_n hx hb dX11_merge_16 rfl (lv_at hl 0 rfl) ?_
    refine wt_get hx hb hts cfX11 hown hK hW (cg11 k0) rfl 4 (by decide) q876 dX11_merge_17 (fun v hv => ?_)
    obtain ⟨x17, rfl, k17⟩ : gr N 42 v := hv
    refine lv_iload_n hx hb dX11_merge_20 rfl (lv_at hl 1 rfl) ?_
    refine wt_iald hx hb hK hW 0 (cg42 k17) rfl (ir_in (ir_w (lo' := 0) (hi' := 24) rp1_13 (by decide) (by decide)) (by decide) (by decide)) dX11_merge_21 (fun v hv => ?_)
    obtain ⟨x21, rfl, r21⟩ : gi 0 5 v := hv
    refine lv_aload_n hx hb dX11_merge_22 rfl (lv_at hl 0 rfl) ?_
    refine wt_get hx hb hts cfX11 hown hK hW (cg11 k0) rfl 4 (by decide) q876 dX11_merge_23 (fun v hv => ?_)
    obtain ⟨x23, rfl, k23⟩ : gr N 42 v := hv
    refine lv_iload_n hx hb dX11_merge_26 rfl (lv_at hl 1 rfl) ?_
    refine lv_iconst (v := 1) hx hb dX11_merge_27 (by decide) ?_
    refine lv_iadd hx hb dX11_merge_28 ?_
    refine lv_topi (fun x28 e28 => ?_)
    have t28 : x28.toInt = p1.toInt + (1) := it_add e28 rp1_13 (ir_c (1) (by decide) : ir (1 : Int32) (1) (1)) (by decide) (by decide)
    have r28 : ir x28 1 23 := ir_w (ir_add e28 rp1_13 (ir_c (1) (by decide) : ir (1 : Int32) (1) (1)) (by decide) (by decide)) (by decide) (by decide)
    refine wt_iald hx hb hK hW 0 (cg42 k23) rfl (ir_in (ir_w (lo' := 0) (hi' := 24) r28 (by decide) (by decide)) (by decide) (by decide)) dX11_merge_29 (fun v hv => ?_)
    obtain ⟨x29, rfl, r29⟩ : gi 0 5 v := hv
    refine lv_icmp_eq (tgt := 35) hx hb dX11_merge_30 (by decide) (fun c30 => ?_) (fun c30 => ?_)
    · refine lv_aload_n hx hb dX11_merge_35 rfl (lv_at hl 0 rfl) ?_
      refine wt_get hx hb hts cfX11 hown hK hW (cg11 k0) rfl 5 (by decide) q877 dX11_merge_36 (fun v hv => ?_)
      obtain ⟨x36, rfl, k36⟩ : gr N 43 v := hv
      refine lv_iload_n hx hb dX11_merge_39 rfl (lv_at hl 1 rfl) ?_
      refine wt_ialdx hx hb hK hW 0 (cg43 k36) rfl (ir_in (ir_w (lo' := 0) (hi' := 24) rp1_13 (by decide) (by decide)) (by decide) (by decide)) dX11_merge_40 (fun v hv ap40 => ?_)
      obtain ⟨x40, rfl, r40⟩ : gi 0 6 v := hv
      refine lv_aload_n hx hb dX11_merge_41 rfl (lv_at hl 0 rfl) ?_
      refine wt_get hx hb hts cfX11 hown hK hW (cg11 k0) rfl 6 (by decide) q878 dX11_merge_42 (fun v hv => ?_)
      obtain ⟨x42, rfl, k42⟩ : gr N 44 v := hv
      refine lv_iload_n hx hb dX11_merge_45 rfl (lv_at hl 1 rfl) ?_
      refine lv_iconst (v := 1) hx hb dX11_merge_46 (by decide) ?_
      refine lv_iadd hx hb dX11_merge_47 ?_
      refine lv_topi (fun x47 e47 => ?_)
      have t47 : x47.toInt = p1.toInt + (1) := it_add e47 rp1_13 (ir_c (1) (by decide) : ir (1 : Int32) (1) (1)) (by decide) (by decide)
      have r47 : ir x47 1 23 := rf_eq (e47.trans e28.symm) r28
      refine wt_ialdx hx hb hK hW 0 (cg44 k42) rfl (ir_in (ir_w (lo' := 0) (hi' := 24) r47 (by decide) (by decide)) (by decide) (by decide)) dX11_merge_48 (fun v hv ap48 => ?_)
      obtain ⟨x48, rfl, r48⟩ : gi 0 6 v := hv
      refine lv_imul hx hb dX11_merge_49 ?_
      refine lv_topi (fun x49 e49 => ?_)
      have t49 : x49.toInt = x40.toInt * x48.toInt := (it_mul e49 r40 r48 (by decide) (by decide) (by decide)).1
      have r49 : ir x49 0 36 := ir_w (it_mul e49 r40 r48 (by decide) (by decide) (by decide)).2 (by decide) (by decide)
      refine lv_aload_n hx hb dX11_merge_50 rfl (lv_at hl 0 rfl) ?_
      refine wt_get hx hb hts cfX11 hown hK hW (cg11 k0) rfl 5 (by decide) q877 dX11_merge_51 (fun v hv => ?_)
      obtain ⟨x51, rfl, k51⟩ : gr N 43 v := hv
      refine lv_iload_n hx hb dX11_merge_54 rfl (lv_at hl 1 rfl) ?_
      refine lv_iconst (v := 1) hx hb dX11_merge_55 (by decide) ?_
      refine lv_iadd hx hb dX11_merge_56 ?_
      refine lv_topi (fun x56 e56 => ?_)
      have t56 : x56.toInt = p1.toInt + (1) := it_add e56 rp1_13 (ir_c (1) (by decide) : ir (1 : Int32) (1) (1)) (by decide) (by decide)
      have r56 : ir x56 1 23 := rf_eq (e56.trans e28.symm) r28
      refine wt_ialdx hx hb hK hW 0 (cg43 k51) rfl (ir_in (ir_w (lo' := 0) (hi' := 24) r56 (by decide) (by decide)) (by decide) (by decide)) dX11_merge_57 (fun v hv ap57 => ?_)
      obtain ⟨x57, rfl, r57⟩ : gi 0 6 v := hv
      refine lv_aload_n hx hb dX11_merge_58 rfl (lv_at hl 0 rfl) ?_
      refine wt_get hx hb hts cfX11 hown hK hW (cg11 k0) rfl 6 (by decide) q878 dX11_merge_59 (fun v hv => ?_)
      obtain ⟨x59, rfl, k59⟩ : gr N 44 v := hv
      refine lv_iload_n hx hb dX11_merge_62 rfl (lv_at hl 1 rfl) ?_
      refine wt_ialdx hx hb hK hW 0 (cg44 k59) rfl (ir_in (ir_w (lo' := 0) (hi' := 24) rp1_13 (by decide) (by decide)) (by decide) (by decide)) dX11_merge_63 (fun v hv ap63 => ?_)
      obtain ⟨x63, rfl, r63⟩ : gi 0 6 v := hv
      refine lv_imul hx hb dX11_merge_64 ?_
      refine lv_topi (fun x64 e64 => ?_)
      have t64 : x64.toInt = x57.toInt * x63.toInt := (it_mul e64 r57 r63 (by decide) (by decide) (by decide)).1
      have r64 : ir x64 0 36 := ir_w (it_mul e64 r57 r63 (by decide) (by decide) (by decide)).2 (by decide) (by decide)
      refine lv_iadd hx hb dX11_merge_65 ?_
      refine lv_topi (fun x65 e65 => ?_)
      have t65 : x65.toInt = x49.toInt + x64.toInt := it_add e65 r49 r64 (by decide) (by decide)
      have r65 : ir x65 0 72 := ir_w (ir_add e65 r49 r64 (by decide) (by decide)) (by decide) (by decide)
      refine lv_istore_n (lv' := [(2, .int x65), (0, .ref h0), (1, .int p1)]) hx hb dX11_merge_66 rfl hl (by decide) rfl (fun ls hl => ?_)
      refine lv_aload_n hx hb dX11_merge_67 rfl (lv_at hl 1 rfl) ?_
      refine wt_get hx hb hts cfX11 hown hK hW (cg11 k0) rfl 6 (by decide) q878 dX11_merge_68 (fun v hv => ?_)
      obtain ⟨x68, rfl, k68⟩ : gr N 44 v := hv
      refine lv_iload_n hx hb dX11_merge_71 rfl (lv_at hl 2 rfl) ?_
      refine wt_ialdx hx hb hK hW 0 (cg44 k68) rfl (ir_in (ir_w (lo' := 0) (hi' := 24) rp1_13 (by decide) (by decide)) (by decide) (by decide)) dX11_merge_72 (fun v hv ap72 => ?_)
      obtain ⟨x72, rfl, r72⟩ : gi 0 6 v := hv
      refine lv_aload_n hx hb dX11_merge_73 rfl (lv_at hl 1 rfl) ?_
      refine wt_get hx hb hts cfX11 hown hK hW (cg11 k0) rfl 6 (by decide) q878 dX11_merge_74 (fun v hv => ?_)
      obtain ⟨x74, rfl, k74⟩ : gr N 44 v := hv
      refine lv_iload_n hx hb dX11_merge_77 rfl (lv_at hl 2 rfl) ?_
      refine lv_iconst (v := 1) hx hb dX11_merge_78 (by decide) ?_
      refine lv_iadd hx hb dX11_merge_79 ?_
      refine lv_topi (fun x79 e79 => ?_)
      have t79 : x79.toInt = p1.toInt + (1) := it_add e79 rp1_13 (ir_c (1) (by decide) : ir (1 : Int32) (1) (1)) (by decide) (by decide)
      have r79 : ir x79 1 23 := rf_eq (e79.trans e28.symm) r28
      refine wt_ialdx hx hb hK hW 0 (cg44 k74) rfl (ir_in (ir_w (lo' := 0) (hi' := 24) r79 (by decide) (by decide)) (by decide) (by decide)) dX11_merge_80 (fun v hv ap80 => ?_)
      obtain ⟨x80, rfl, r80⟩ : gi 0 6 v := hv
      refine lv_imul hx hb dX11_merge_81 ?_
      refine lv_topi (fun x81 e81 => ?_)
      have t81 : x81.toInt = x72.toInt * x80.toInt := (it_mul e81 r72 r80 (by decide) (by decide) (by decide)).1
      have r81 : ir x81 0 36 := ir_w (it_mul e81 r72 r80 (by decide) (by decide) (by decide)).2 (by decide) (by decide)
      refine lv_aload_n hx hb dX11_merge_82 rfl (lv_at hl 1 rfl) ?_
      refine wt_get hx hb hts cfX11 hown hK hW (cg11 k0) rfl 5 (by decide) q877 dX11_merge_83 (fun v hv => ?_)
      obtain ⟨x83, rfl, k83⟩ : gr N 43 v := hv
      refine lv_iload_n hx hb dX11_merge_86 rfl (lv_at hl 2 rfl) ?_
      refine wt_ialdx hx hb hK hW 0 (cg43 k83) rfl (ir_in (ir_w (lo' := 0) (hi' := 24) rp1_13 (by decide) (by decide)) (by decide) (by decide)) dX11_merge_87 (fun v hv ap87 => ?_)
      obtain ⟨x87, rfl, r87⟩ : gi 0 6 v := hv
      refine lv_aload_n hx hb dX11_merge_88 rfl (lv_at hl 1 rfl) ?_
      refine wt_get hx hb hts cfX11 hown hK hW (cg11 k0) rfl 5 (by decide) q877 dX11_merge_89 (fun v hv => ?_)
      obtain ⟨x89, rfl, k89⟩ : gr N 43 v := hv
      refine lv_iload_n hx hb dX11_merge_92 rfl (lv_at hl 2 rfl) ?_
      refine lv_iconst (v := 1) hx hb dX11_merge_93 (by decide) ?_
      refine lv_iadd hx hb dX11_merge_94 ?_
      refine lv_topi (fun x94 e94 => ?_)
      have t94 : x94.toInt = p1.toInt + (1) := it_add e94 rp1_13 (ir_c (1) (by decide) : ir (1 : Int32) (1) (1)) (by decide) (by decide)
      have r94 : ir x94 1 23 := rf_eq (e94.trans e28.symm) r28
      refine wt_ialdx hx hb hK hW 0 (cg43 k89) rfl (ir_in (ir_w (lo' := 0) (hi' := 24) r94 (by decide) (by decide)) (by decide) (by decide)) dX11_merge_95 (fun v hv ap95 => ?_)
      obtain ⟨x95, rfl, r95⟩ : gi 0 6 v := hv
      refine lv_imul hx hb dX11_merge_96 ?_
      refine lv_topi (fun x96 e96 => ?_)
      have t96 : x96.toInt = x87.toInt * x95.toInt := (it_mul e96 r87 r95 (by decide) (by decide) (by decide)).1
      have r96 : ir x96 0 36 := ir_w (it_mul e96 r87 r95 (by decide) (by decide) (by decide)).2 (by decide) (by decide)
      refine lv_isub hx hb dX11_merge_97 ?_
      refine lv_topi (fun x97 e97 => ?_)
      have t97 : x97.toInt = x81.toInt - x96.toInt := it_sub e97 r81 r96 (by decide) (by decide)
      have r97 : ir x97 (-36) 36 := ir_w (ir_sub e97 r81 r96 (by decide) (by decide)) (by decide) (by decide)
      refine lv_istore_n (lv' := [(3, .int x97), (2, .int x65), (0, .ref h0), (1, .int p1)]) hx hb dX11_merge_98 rfl hl (by decide) rfl (fun ls hl => ?_)
      refine lv_iload_n hx hb dX11_merge_99 rfl (lv_at hl 1 rfl) ?_
      refine lv_i2l hx hb dX11_merge_100 rfl ?_
      refine lv_topl (fun x100 e100 => ?_)
      have r100 : lr x100 0 72 := by rw [e100]; exact i2l_r r65
      have t100 : x100.toInt = x65.toInt := by rw [e100]; exact Int32.toInt_toInt64 x65
      refine lv_iload_n hx hb dX11_merge_101 rfl (lv_at hl 0 rfl) ?_
      refine lv_i2l hx hb dX11_merge_102 rfl ?_
      refine lv_topl (fun x102 e102 => ?_)
      have r102 : lr x102 (-36) 36 := by rw [e102]; exact i2l_r r97
      have t102 : x102.toInt = x97.toInt := by rw [e102]; exact Int32.toInt_toInt64 x97
      refine cp_l (wt_runS (As := [.long x100, .long x102]) (rest := []) ⟨hx, hb, hml, hown, hts⟩ (m_X11_gcd l x100 (lr_w (lo' := -9223372036854775807) (hi' := 9223372036854775807) r100 (by decide) (by decide)) x102 (lr_w (lo' := -9223372036854775807) (hi' := 9223372036854775807) r102 (by decide) (by decide))) wm_X11_gcd q1054 ⟨rfl, rfl⟩ ⟨Nat.le_of_ble_eq_true rfl, Nat.le_of_ble_eq_true rfl⟩ pS_pre rfl hl.1 rfl (Nat.le_of_ble_eq_true rfl) dX11_merge_103 ⟨Nat.zero_le _, Nat.zero_le _⟩) hW hS (fun x103 H locs hp hW1 hS oq => ?_)
      have hV := hV.same hW k0 oq
      have hI := mI.fr.same hI hW oq
      have hWo := hW
      have hW := hW1
      have ap40 := ap40.kept (oq _ (hW_lt hWo k36) (cE_nil _))
      have ap48 := ap48.kept (oq _ (hW_lt hWo k42) (cE_nil _))
      have ap57 := ap57.kept (oq _ (hW_lt hWo k51) (cE_nil _))
      have ap63 := ap63.kept (oq _ (hW_lt hWo k59) (cE_nil _))
      have ap72 := ap72.kept (oq _ (hW_lt hWo k68) (cE_nil _))
      have ap80 := ap80.kept (oq _ (hW_lt hWo k74) (cE_nil _))
      have ap87 := ap87.kept (oq _ (hW_lt hWo k83) (cE_nil _))
      have ap95 := ap95.kept (oq _ (hW_lt hWo k89) (cE_nil _))
      have nh0_7 := nh0_7.kept (oq _ nh0_7.lt (cE_not k0 (by decide)))
      refine lv_l2i hx hb dX11_merge_106 rfl ?_
      refine lv_topi (fun x106 e106 => ?_)
      refine lv_istore (lv' := [(4, .int x106), (3, .int x97), (2, .int x65), (0, .ref h0), (1, .int p1)]) hx hb dX11_merge_107 hl (by decide) rfl (fun ls hl => ?_)
      refine lv_iload hx hb dX11_merge_109 (lv_at hl 0 rfl) ?_
      refine lv_if_ne (tgt := 116) hx hb dX11_merge_111 (by decide) (fun c111 => ?_) (fun c111 => ?_)
      · refine lv_iload_n hx hb dX11_merge_116 rfl (lv_at hl 1 rfl) ?_
        refine lv_if_lt (tgt := 128) hx hb dX11_merge_117 (by decide) (fun c117 => ?_) (fun c117 => ?_)
        · have rx97_117 : ir x97 (-36) (-1) := ⟨(r97).1, Int.le_trans (rf_lt c117 r97 (ir_c (0) (by decide) : ir (0 : Int32) (0) (0))).1 (by decide)⟩
          have d117 := Int32.lt_iff_toInt_lt.mp c117
          have rx81_117_1 : ir x81 0 35 := by have h6 := t97; have h7 := r81; have h8 := r96; have h9 := rx97_117; constructor <;> omega
          have rx96_117_2 : ir x96 1 36 := by have h6 := t97; have h7 := rx81_117_1; have h8 := r96; have h9 := rx97_117; constructor <;> omega
          refine lv_iload hx hb dX11_merge_128 (lv_at hl 0 rfl) ?_
          refine lv_ineg hx hb dX11_merge_130 ?_
          refine lv_topi (fun x130 e130 => ?_)
          have z130 := ineg_ne e130 c111
          refine lv_istore (lv' := [(4, .int x130), (3, .int x97), (2, .int x65), (0, .ref h0), (1, .int p1)]) hx hb dX11_merge_131 hl (by decide) rfl (fun ls hl => ?_)
          refine lv_iload_n hx hb dX11_merge_133 rfl (lv_at hl 2 rfl) ?_
          refine lv_iload hx hb dX11_merge_134 (lv_at hl 0 rfl) ?_
          refine lv_idiv hx hb dX11_merge_136 z130 ?_
          refine lv_topi (fun x136 e136 => ?_)
          refine lv_iload_n hx hb dX11_merge_137 rfl (lv_at hl 1 rfl) ?_
          refine lv_iload hx hb dX11_merge_138 (lv_at hl 0 rfl) ?_
          refine lv_idiv hx hb dX11_merge_140 z130 ?_
          refine lv_topi (fun x140 e140 => ?_)
          refine cp_i (wt_runS (As := [.int x136, .int x140]) (rest := []) ⟨hx, hb, hml, hown, hts⟩ (m_X11_isThick l x136 x140) wm_X11_isThick q1080 ⟨rfl, rfl⟩ ⟨Nat.le_of_ble_eq_true rfl, Nat.le_of_ble_eq_true rfl⟩ pS_pre rfl hl.1 rfl (Nat.le_of_ble_eq_true rfl) dX11_merge_141 ⟨Nat.zero_le _, Nat.zero_le _⟩) hW hS (fun x141 H locs hp hW1 hS oq => ?_)
          have hV := hV.same hW k0 oq
          have hI := mI.fr.same hI hW oq
          have hWo := hW
          have hW := hW1
          have ap40 := ap40.kept (oq _ (hW_lt hWo k36) (cE_nil _))
          have ap48 := ap48.kept (oq _ (hW_lt hWo k42) (cE_nil _))
          have ap57 := ap57.kept (oq _ (hW_lt hWo k51) (cE_nil _))
          have ap63 := ap63.kept (oq _ (hW_lt hWo k59) (cE_nil _))
          have ap72 := ap72.kept (oq _ (hW_lt hWo k68) (cE_nil _))
          have ap80 := ap80.kept (oq _ (hW_lt hWo k74) (cE_nil _))
          have ap87 := ap87.kept (oq _ (hW_lt hWo k83) (cE_nil _))
          have ap95 := ap95.kept (oq _ (hW_lt hWo k89) (cE_nil _))
          have nh0_7 := nh0_7.kept (oq _ nh0_7.lt (cE_not k0 (by decide)))
          obtain ⟨r141, b141⟩ := hp
          refine lv_if_ne (tgt := 149) hx hb dX11_merge_144 (by decide) (fun c144 => ?_) (fun c144 => ?_)
          · have rx141_144 : ir x141 1 1 := rf_ne0 c144 r141
            have bx141_144 := b141 c144
            refine lv_aload_n hx hb dX11_merge_149 rfl (lv_at hl 3 rfl) ?_
            refine lv_iconst (v := 0) hx hb dX11_merge_150 (by decide) ?_
            obtain ⟨V1, hV1⟩ := kp_all hW k0
            refine cc_v (B2 := fun H => mI N h0 H ∧ kp N h0 [13] V1 H) (wt_runV (As := [.int (0 : Int32)]) (rest := []) ⟨hx, hb, hml, hown, hts⟩ (m_X11_keeps l N h0 k0 hO V1 (0 : Int32) (ir_w (lo' := 0) (hi' := 1) (ir_c (0) (by decide) : ir (0 : Int32) (0) (0)) (by decide) (by decide))) wm_X11_keeps q1084 ⟨rfl, rfl⟩ ⟨Nat.le_of_ble_eq_true rfl, Nat.le_of_ble_eq_true rfl⟩ (cS_preV (B := fun H => mI N h0 H ∧ kp N h0 [13] V1 H) hK hW hT hnn hS (cg11 k0) rfl rfl (And.intro hI (kp_of (F := [13]) hV1))) rfl hl.1 rfl (Nat.le_of_ble_eq_true rfl) dX11_merge_151 ⟨Nat.zero_le _, Nat.zero_le _⟩) hS (by decide) (fun H locs hW hS oq hB2 => ?_)
            obtain ⟨hI, hV2⟩ := hB2
            have hV := kp_call hV hV1 hV2 (by decide)
            have nh0_7 := kp_use hV1 hV2 (by decide) (by decide) nh0_7
            refine lv_aload_n hx hb dX11_merge_154 rfl (lv_at hl 3 rfl) ?_
            refine lv_iload_n hx hb dX11_merge_155 rfl (lv_at hl 4 rfl) ?_
            refine lv_iconst (v := 1) hx hb dX11_merge_156 (by decide) ?_
            refine lv_iadd hx hb dX11_merge_157 ?_
            refine lv_topi (fun x157 e157 => ?_)
            have t157 : x157.toInt = p1.toInt + (1) := it_add e157 rp1_13 (ir_c (1) (by decide) : ir (1 : Int32) (1) (1)) (by decide) (by decide)
            have r157 : ir x157 1 23 := rf_eq (e157.trans e28.symm) r28
            obtain ⟨V1, hV1⟩ := kp_all hW k0
            have hWo := hW
            have hGL := QL_gp hI.1 nh0_7
            refine cc_v (B2 := fun H => kp N h0 [7] V1 H ∧ ∃ x : Int32, pI N h0 7 x H ∧ x.toInt = x4.toInt - 1 ∧ gP N 43 44 25 (fun j => (j : Int) < x4.toInt - 1) H) (wt_runV (As := [.int x157]) (rest := []) ⟨hx, hb, hml, hown, hts⟩ (m_X11_closes l N h0 k0 hO V1 x157 (ir_w (lo' := 0) (hi' := 23) r157 (by decide) (by decide)) x4 (by have h6 := r157; have h7 := r4; omega)) wm_X11_closes q1104 ⟨rfl, rfl⟩ ⟨Nat.le_of_ble_eq_true rfl, Nat.le_of_ble_eq_true rfl⟩ (cS_preV (B := fun H => kp N h0 [7] V1 H ∧ wt_pin N.1 vwCl h0 11 7 (.int x4) H ∧ gP N 43 44 25 (fun j => (j : Int) < x4.toInt) H) hK hW hT hnn hS (cg11 k0) rfl rfl (And.intro (kp_of (F := [7]) hV1) (And.intro nh0_7 hGL))) rfl hl.1 rfl (Nat.le_of_ble_eq_true rfl) dX11_merge_158 ⟨Nat.zero_le _, Nat.zero_le _⟩) hS (by decide) (fun H locs hW hS oq hB2 => ?_)
            obtain ⟨hV2, hB2⟩ := hB2
            have hV := kp_call hV hV1 hV2 (by decide)
            obtain ⟨iL, iP, iR, iB, iM⟩ := hI
            have iP := QP.fr.kcall iP hWo hV1 hV2 oq (by decide) (by decide)
            have iR := QR.fr.kcall iR hWo hV1 hV2 oq (by decide) (by decide)
            have iB := QB.fr.kcall iB hWo hV1 hV2 oq (by decide) (by decide)
            have iM := QM.fr.kcall iM hWo hV1 hV2 oq (by decide) (by decide)
            obtain ⟨xx158_7, nh0_7, w158, hGL⟩ := hB2
            have rxx158_7 : ir xx158_7 0 23 := by have h6 := r4; have h7 : ir xx158_7 0 24 := gi_r (cpin_P hW (cg11 k0) rfl (by decide) nh0_7); constructor <;> omega
            refine lv_aload_n hx hb dX11_merge_161 rfl (lv_at hl 3 rfl) ?_
            refine lv_iload_n hx hb dX11_merge_162 rfl (lv_at hl 4 rfl) ?_
            refine lv_aload_n hx hb dX11_merge_163 rfl (lv_at hl 3 rfl) ?_
            refine wt_get hx hb hts cfX11 hown hK hW (cg11 k0) rfl 4 (by decide) q876 dX11_merge_164 (fun v hv => ?_)
            obtain ⟨x164, rfl, k164⟩ : gr N 42 v := hv
            refine lv_iload_n hx hb dX11_merge_167 rfl (lv_at hl 4 rfl) ?_
            refine wt_iald hx hb hK hW 0 (cg42 k164) rfl (ir_in (ir_w (lo' := 0) (hi' := 24) rp1_13 (by decide) (by decide)) (by decide) (by decide)) dX11_merge_168 (fun v hv => ?_)
            obtain ⟨x168, rfl, r168⟩ : gi 0 5 v := hv
            refine lv_iload_n hx hb dX11_merge_169 rfl (lv_at hl 2 rfl) ?_
            refine lv_iload hx hb dX11_merge_170 (lv_at hl 0 rfl) ?_
            refine lv_idiv hx hb dX11_merge_172 z130 ?_
            refine lv_topi (fun x172 e172 => ?_)
            have r172 : ir x172 0 6 := rf_eq (e172.trans e136.symm) bx141_144.1
            refine lv_iload_n hx hb dX11_merge_173 rfl (lv_at hl 1 rfl) ?_
            refine lv_iload hx hb dX11_merge_174 (lv_at hl 0 rfl) ?_
            refine lv_idiv hx hb dX11_merge_176 z130 ?_
            refine lv_topi (fun x176 e176 => ?_)
            have r176 : ir x176 0 6 := rf_eq (e176.trans e140.symm) bx141_144.2.1
            have hz177 : x172.toInt ≠ 0 ∨ x176.toInt ≠ 0 := by rw [e172.trans e136.symm, e176.trans e140.symm]; exact bx141_144.2.2
            obtain ⟨V1, hV1⟩ := kp_all hW k0
            have hWo := hW
            refine cc_v (B2 := fun H => kp N h0 [] V1 H ∧ gP N 43 44 25 (fun j => ((j : Int) < x4.toInt - 1) ∨ (j : Int) = p1.toInt) H) (wt_runV (As := [.int p1, .int x168, .int x172, .int x176]) (rest := []) ⟨hx, hb, hml, hown, hts⟩ (m_X11_lays l N h0 k0 hO V1 p1 (ir_w (lo' := 0) (hi' := 24) rp1_13 (by decide) (by decide)) x168 r168 x172 r172 x176 r176 (fun j => (j : Int) < x4.toInt - 1) hz177) wm_X11_lays q1096 ⟨rfl, rfl⟩ ⟨Nat.le_of_ble_eq_true rfl, Nat.le_of_ble_eq_true rfl⟩ (cS_preV (B := fun H => kp N h0 [] V1 H ∧ gP N 43 44 25 (fun j => (j : Int) < x4.toInt - 1) H) hK hW hT hnn hS (cg11 k0) rfl rfl (And.intro (kp_of (F := []) hV1) hGL)) rfl hl.1 rfl (Nat.le_of_ble_eq_true rfl) dX11_merge_177 ⟨Nat.zero_le _, Nat.zero_le _⟩) hS (by decide) (fun H locs hW hS oq hB2 => ?_)
            obtain ⟨hV2, hB2⟩ := hB2
            have hV := kp_call hV hV1 hV2 (by decide)
            have iP := QP.fr.kcall iP hWo hV1 hV2 oq (by decide) (by decide)
            have iR := QR.fr.kcall iR hWo hV1 hV2 oq (by decide) (by decide)
            have iB := QB.fr.kcall iB hWo hV1 hV2 oq (by decide) (by decide)
            have iM := QM.fr.kcall iM hWo hV1 hV2 oq (by decide) (by decide)
            have hGL : gP N 43 44 25 (fun j => ((j : Int) < x4.toInt - 1) ∨ (j : Int) = p1.toInt) H := hB2
            have nh0_7 := kp_use hV1 hV2 (by decide) (by decide) nh0_7
            have iL : QL N h0 H := ⟨_, nh0_7, (hGL.sub (fun j hj h => by have h : (j : Int) < xx158_7.toInt := h; show ((j : Int) < x4.toInt - 1) ∨ (j : Int) = p1.toInt; have h30 := rp1_13; have h31 := r4; have h32 := rxx158_7; omega))⟩
            have hI : mI N h0 H := ⟨iL, iP, iR, iB, iM⟩
            refine lv_aload_n hx hb dX11_merge_180 rfl (lv_at hl 3 rfl) ?_
            refine wt_rel hx hb hts cfX11 hown hK nh0_7 rfl (by decide) (Or.inl (hts _ q879)) dX11_merge_181 ?_
            exact W.iret (v := xx158_7) hx hb hr (fun t ht _ => ⟨⟨xx158_7, xx158_7, rfl, ⟨rfl, trivial⟩, cW_at ht hW, ⟨mI_at ht hI, kp_at ht hV⟩⟩, hS.F ht⟩) hS.2.2 dX11_merge_184
          · have rx141_144 : ir x141 0 0 := rf_eq c144 (ir_c (0) (by decide) : ir (0 : Int32) (0) (0))
            refine lv_iconst (v := -1) hx hb dX11_merge_147 (by decide) ?_
            exact W.iret (v := (-1 : Int32)) hx hb hr (fun t ht _ => ⟨⟨(-1 : Int32), (-1 : Int32), rfl, ⟨rfl, trivial⟩, cW_at ht hW, ⟨mI_at ht hI, kp_at ht hV⟩⟩, hS.F ht⟩) hS.2.2 dX11_merge_148
        · have rx97_117 : ir x97 0 36 := ⟨Int.le_trans (by decide) (rf_le (rf_nlt c117) (ir_c (0) (by decide) : ir (0 : Int32) (0) (0)) r97).2, (r97).2⟩
          have d117 := Int32.le_iff_toInt_le.mp (rf_nlt c117)
          refine lv_iload_n hx hb dX11_merge_120 rfl (lv_at hl 1 rfl) ?_
          refine lv_if_ne (tgt := 133) hx hb dX11_merge_121 (by decide) (fun c121 => ?_) (fun c121 => ?_)
          · have rx97_121 : ir x97 1 36 := rf_ne0 c121 rx97_117
            have rx81_121_1 : ir x81 1 36 := by have h6 := t97; have h7 := r81; have h8 := r96; have h9 := rx97_121; constructor <;> omega
            have rx96_121_2 : ir x96 0 35 := by have h6 := t97; have h7 := rx81_121_1; have h8 := r96; have h9 := rx97_121; constructor <;> omega
            refine lv_iload_n hx hb dX11_merge_133 rfl (lv_at hl 2 rfl) ?_
            refine lv_iload hx hb dX11_merge_134 (lv_at hl 0 rfl) ?_
            refine lv_idiv hx hb dX11_merge_136 c111 ?_
            refine lv_topi (fun x136 e136 => ?_)
            refine lv_iload_n hx hb dX11_merge_137 rfl (lv_at hl 1 rfl) ?_
            refine lv_iload hx hb dX11_merge_138 (lv_at hl 0 rfl) ?_
            refine lv_idiv hx hb dX11_merge_140 c111 ?_
            refine lv_topi (fun x140 e140 => ?_)
            refine cp_i (wt_runS (As := [.int x136, .int x140]) (rest := []) ⟨hx, hb, hml, hown, hts⟩ (m_X11_isThick l x136 x140) wm_X11_isThick q1080 ⟨rfl, rfl⟩ ⟨Nat.le_of_ble_eq_true rfl, Nat.le_of_ble_eq_true rfl⟩ pS_pre rfl hl.1 rfl (Nat.le_of_ble_eq_true rfl) dX11_merge_141 ⟨Nat.zero_le _, Nat.zero_le _⟩) hW hS (fun x141 H locs hp hW1 hS oq => ?_)
            have hV := hV.same hW k0 oq
            have hI := mI.fr.same hI hW oq
            have hWo := hW
            have hW := hW1
            have ap40 := ap40.kept (oq _ (hW_lt hWo k36) (cE_nil _))
            have ap48 := ap48.kept (oq _ (hW_lt hWo k42) (cE_nil _))
            have ap57 := ap57.kept (oq _ (hW_lt hWo k51) (cE_nil _))
            have ap63 := ap63.kept (oq _ (hW_lt hWo k59) (cE_nil _))
            have ap72 := ap72.kept (oq _ (hW_lt hWo k68) (cE_nil _))
            have ap80 := ap80.kept (oq _ (hW_lt hWo k74) (cE_nil _))
            have ap87 := ap87.kept (oq _ (hW_lt hWo k83) (cE_nil _))
            have ap95 := ap95.kept (oq _ (hW_lt hWo k89) (cE_nil _))
            have nh0_7 := nh0_7.kept (oq _ nh0_7.lt (cE_not k0 (by decide)))
            obtain ⟨r141, b141⟩ := hp
            refine lv_if_ne (tgt := 149) hx hb dX11_merge_144 (by decide) (fun c144 => ?_) (fun c144 => ?_)
            · have rx141_144 : ir x141 1 1 := rf_ne0 c144 r141
              have bx141_144 := b141 c144
              refine lv_aload_n hx hb dX11_merge_149 rfl (lv_at hl 3 rfl) ?_
              refine lv_iconst (v := 0) hx hb dX11_merge_150 (by decide) ?_
              obtain ⟨V1, hV1⟩ := kp_all hW k0
              refine cc_v (B2 := fun H => mI N h0 H ∧ kp N h0 [13] V1 H) (wt_runV (As := [.int (0 : Int32)]) (rest := []) ⟨hx, hb, hml, hown, hts⟩ (m_X11_keeps l N h0 k0 hO V1 (0 : Int32) (ir_w (lo' := 0) (hi' := 1) (ir_c (0) (by decide) : ir (0 : Int32) (0) (0)) (by decide) (by decide))) wm_X11_keeps q1084 ⟨rfl, rfl⟩ ⟨Nat.le_of_ble_eq_true rfl, Nat.le_of_ble_eq_true rfl⟩ (cS_preV (B := fun H => mI N h0 H ∧ kp N h0 [13] V1 H) hK hW hT hnn hS (cg11 k0) rfl rfl (And.intro hI (kp_of (F := [13]) hV1))) rfl hl.1 rfl (Nat.le_of_ble_eq_true rfl) dX11_merge_151 ⟨Nat.zero_le _, Nat.zero_le _⟩) hS (by decide) (fun H locs hW hS oq hB2 => ?_)
              obtain ⟨hI, hV2⟩ := hB2
              have hV := kp_call hV hV1 hV2 (by decide)
              have nh0_7 := kp_use hV1 hV2 (by decide) (by decide) nh0_7
              refine lv_aload_n hx hb dX11_merge_154 rfl (lv_at hl 3 rfl) ?_
              refine lv_iload_n hx hb dX11_merge_155 rfl (lv_at hl 4 rfl) ?_
              refine lv_iconst (v := 1) hx hb dX11_merge_156 (by decide) ?_
              refine lv_iadd hx hb dX11_merge_157 ?_
              refine lv_topi (fun x157 e157 => ?_)
              have t157 : x157.toInt = p1.toInt + (1) := it_add e157 rp1_13 (ir_c (1) (by decide) : ir (1 : Int32) (1) (1)) (by decide) (by decide)
              have r157 : ir x157 1 23 := rf_eq (e157.trans e28.symm) r28
              obtain ⟨V1, hV1⟩ := kp_all hW k0
              have hWo := hW
              have hGL := QL_gp hI.1 nh0_7
              refine cc_v (B2 := fun H => kp N h0 [7] V1 H ∧ ∃ x : Int32, pI N h0 7 x H ∧ x.toInt = x4.toInt - 1 ∧ gP N 43 44 25 (fun j => (j : Int) < x4.toInt - 1) H) (wt_runV (As := [.int x157]) (rest := []) ⟨hx, hb, hml, hown, hts⟩ (m_X11_closes l N h0 k0 hO V1 x157 (ir_w (lo' := 0) (hi' := 23) r157 (by decide) (by decide)) x4 (by have h6 := r157; have h7 := r4; omega)) wm_X11_closes q1104 ⟨rfl, rfl⟩ ⟨Nat.le_of_ble_eq_true rfl, Nat.le_of_ble_eq_true rfl⟩ (cS_preV (B := fun H => kp N h0 [7] V1 H ∧ wt_pin N.1 vwCl h0 11 7 (.int x4) H ∧ gP N 43 44 25 (fun j => (j : Int) < x4.toInt) H) hK hW hT hnn hS (cg11 k0) rfl rfl (And.intro (kp_of (F := [7]) hV1) (And.intro nh0_7 hGL))) rfl hl.1 rfl (Nat.le_of_ble_eq_true rfl) dX11_merge_158 ⟨Nat.zero_le _, Nat.zero_le _⟩) hS (by decide) (fun H locs hW hS oq hB2 => ?_)
              obtain ⟨hV2, hB2⟩ := hB2
              have hV := kp_call hV hV1 hV2 (by decide)
              obtain ⟨iL, iP, iR, iB, iM⟩ := hI
              have iP := QP.fr.kcall iP hWo hV1 hV2 oq (by decide) (by decide)
              have iR := QR.fr.kcall iR hWo hV1 hV2 oq (by decide) (by decide)
              have iB := QB.fr.kcall iB hWo hV1 hV2 oq (by decide) (by decide)
              have iM := QM.fr.kcall iM hWo hV1 hV2 oq (by decide) (by decide)
              obtain ⟨xx158_7, nh0_7, w158, hGL⟩ := hB2
              have rxx158_7 : ir xx158_7 0 23 := by have h6 := r4; have h7 : ir xx158_7 0 24 := gi_r (cpin_P hW (cg11 k0) rfl (by decide) nh0_7); constructor <;> omega
              refine lv_aload_n hx hb dX11_merge_161 rfl (lv_at hl 3 rfl) ?_
              refine lv_iload_n hx hb dX11_merge_162 rfl (lv_at hl 4 rfl) ?_
              refine lv_aload_n hx hb dX11_merge_163 rfl (lv_at hl 3 rfl) ?_
              refine wt_get hx hb hts cfX11 hown hK hW (cg11 k0) rfl 4 (by decide) q876 dX11_merge_164 (fun v hv => ?_)
              obtain ⟨x164, rfl, k164⟩ : gr N 42 v := hv
              refine lv_iload_n hx hb dX11_merge_167 rfl (lv_at hl 4 rfl) ?_
              refine wt_iald hx hb hK hW 0 (cg42 k164) rfl (ir_in (ir_w (lo' := 0) (hi' := 24) rp1_13 (by decide) (by decide)) (by decide) (by decide)) dX11_merge_168 (fun v hv => ?_)
              obtain ⟨x168, rfl, r168⟩ : gi 0 5 v := hv
              refine lv_iload_n hx hb dX11_merge_169 rfl (lv_at hl 2 rfl) ?_
              refine lv_iload hx hb dX11_merge_170 (lv_at hl 0 rfl) ?_
              refine lv_idiv hx hb dX11_merge_172 c111 ?_
              refine lv_topi (fun x172 e172 => ?_)
              have r172 : ir x172 0 6 := rf_eq (e172.trans e136.symm) bx141_144.1
              refine lv_iload_n hx hb dX11_merge_173 rfl (lv_at hl 1 rfl) ?_
              refine lv_iload hx hb dX11_merge_174 (lv_at hl 0 rfl) ?_
              refine lv_idiv hx hb dX11_merge_176 c111 ?_
              refine lv_topi (fun x176 e176 => ?_)
              have r176 : ir x176 0 6 := rf_eq (e176.trans e140.symm) bx141_144.2.1
              have hz177 : x172.toInt ≠ 0 ∨ x176.toInt ≠ 0 := by rw [e172.trans e136.symm, e176.trans e140.symm]; exact bx141_144.2.2
              obtain ⟨V1, hV1⟩ := kp_all hW k0
              have hWo := hW
              refine cc_v (B2 := fun H => kp N h0 [] V1 H ∧ gP N 43 44 25 (fun j => ((j : Int) < x4.toInt - 1) ∨ (j : Int) = p1.toInt) H) (wt_runV (As := [.int p1, .int x168, .int x172, .int x176]) (rest := []) ⟨hx, hb, hml, hown, hts⟩ (m_X11_lays l N h0 k0 hO V1 p1 (ir_w (lo' := 0) (hi' := 24) rp1_13 (by decide) (by decide)) x168 r168 x172 r172 x176 r176 (fun j => (j : Int) < x4.toInt - 1) hz177) wm_X11_lays q1096 ⟨rfl, rfl⟩ ⟨Nat.le_of_ble_eq_true rfl, Nat.le_of_ble_eq_true rfl⟩ (cS_preV (B := fun H => kp N h0 [] V1 H ∧ gP N 43 44 25 (fun j => (j : Int) < x4.toInt - 1) H) hK hW hT hnn hS (cg11 k0) rfl rfl (And.intro (kp_of (F := []) hV1) hGL)) rfl hl.1 rfl (Nat.le_of_ble_eq_true rfl) dX11_merge_177 ⟨Nat.zero_le _, Nat.zero_le _⟩) hS (by decide) (fun H locs hW hS oq hB2 => ?_)
              obtain ⟨hV2, hB2⟩ := hB2
              have hV := kp_call hV hV1 hV2 (by decide)
              have iP := QP.fr.kcall iP hWo hV1 hV2 oq (by decide) (by decide)
              have iR := QR.fr.kcall iR hWo hV1 hV2 oq (by decide) (by decide)
              have iB := QB.fr.kcall iB hWo hV1 hV2 oq (by decide) (by decide)
              have iM := QM.fr.kcall iM hWo hV1 hV2 oq (by decide) (by decide)
              have hGL : gP N 43 44 25 (fun j => ((j : Int) < x4.toInt - 1) ∨ (j : Int) = p1.toInt) H := hB2
              have nh0_7 := kp_use hV1 hV2 (by decide) (by decide) nh0_7
              have iL : QL N h0 H := ⟨_, nh0_7, (hGL.sub (fun j hj h => by have h : (j : Int) < xx158_7.toInt := h; show ((j : Int) < x4.toInt - 1) ∨ (j : Int) = p1.toInt; have h30 := rp1_13; have h31 := r4; have h32 := rxx158_7; omega))⟩
              have hI : mI N h0 H := ⟨iL, iP, iR, iB, iM⟩
              refine lv_aload_n hx hb dX11_merge_180 rfl (lv_at hl 3 rfl) ?_
              refine wt_rel hx hb hts cfX11 hown hK nh0_7 rfl (by decide) (Or.inl (hts _ q879)) dX11_merge_181 ?_
              exact W.iret (v := xx158_7) hx hb hr (fun t ht _ => ⟨⟨xx158_7, xx158_7, rfl, ⟨rfl, trivial⟩, cW_at ht hW, ⟨mI_at ht hI, kp_at ht hV⟩⟩, hS.F ht⟩) hS.2.2 dX11_merge_184
            · have rx141_144 : ir x141 0 0 := rf_eq c144 (ir_c (0) (by decide) : ir (0 : Int32) (0) (0))
              refine lv_iconst (v := -1) hx hb dX11_merge_147 (by decide) ?_
              exact W.iret (v := (-1 : Int32)) hx hb hr (fun t ht _ => ⟨⟨(-1 : Int32), (-1 : Int32), rfl, ⟨rfl, trivial⟩, cW_at ht hW, ⟨mI_at ht hI, kp_at ht hV⟩⟩, hS.F ht⟩) hS.2.2 dX11_merge_148
          · have rx97_121 : ir x97 0 0 := rf_eq c121 (ir_c (0) (by decide) : ir (0 : Int32) (0) (0))
            refine lv_iload_n hx hb dX11_merge_124 rfl (lv_at hl 2 rfl) ?_
            refine lv_if_ge (tgt := 133) hx hb dX11_merge_125 (by decide) (fun c125 => ?_) (fun c125 => ?_)
            · have d125 := Int32.le_iff_toInt_le.mp c125
              refine lv_iload_n hx hb dX11_merge_133 rfl (lv_at hl 2 rfl) ?_
              refine lv_iload hx hb dX11_merge_134 (lv_at hl 0 rfl) ?_
              refine lv_idiv hx hb dX11_merge_136 c111 ?_
              refine lv_topi (fun x136 e136 => ?_)
              refine lv_iload_n hx hb dX11_merge_137 rfl (lv_at hl 1 rfl) ?_
              refine lv_iload hx hb dX11_merge_138 (lv_at hl 0 rfl) ?_
              refine lv_idiv hx hb dX11_merge_140 c111 ?_
              refine lv_topi (fun x140 e140 => ?_)
              refine cp_i (wt_runS (As := [.int x136, .int x140]) (rest := []) ⟨hx, hb, hml, hown, hts⟩ (m_X11_isThick l x136 x140) wm_X11_isThick q1080 ⟨rfl, rfl⟩ ⟨Nat.le_of_ble_eq_true rfl, Nat.le_of_ble_eq_true rfl⟩ pS_pre rfl hl.1 rfl (Nat.le_of_ble_eq_true rfl) dX11_merge_141 ⟨Nat.zero_le _, Nat.zero_le _⟩) hW hS (fun x141 H locs hp hW1 hS oq => ?_)
              have hV := hV.same hW k0 oq
              have hI := mI.fr.same hI hW oq
              have hWo := hW
              have hW := hW1
              have ap40 := ap40.kept (oq _ (hW_lt hWo k36) (cE_nil _))
              have ap48 := ap48.kept (oq _ (hW_lt hWo k42) (cE_nil _))
              have ap57 := ap57.kept (oq _ (hW_lt hWo k51) (cE_nil _))
              have ap63 := ap63.kept (oq _ (hW_lt hWo k59) (cE_nil _))
              have ap72 := ap72.kept (oq _ (hW_lt hWo k68) (cE_nil _))
              have ap80 := ap80.kept (oq _ (hW_lt hWo k74) (cE_nil _))
              have ap87 := ap87.kept (oq _ (hW_lt hWo k83) (cE_nil _))
              have ap95 := ap95.kept (oq _ (hW_lt hWo k89) (cE_nil _))
              have nh0_7 := nh0_7.kept (oq _ nh0_7.lt (cE_not k0 (by decide)))
              obtain ⟨r141, b141⟩ := hp
              refine lv_if_ne (tgt := 149) hx hb dX11_merge_144 (by decide) (fun c144 => ?_) (fun c144 => ?_)
              · have rx141_144 : ir x141 1 1 := rf_ne0 c144 r141
                have bx141_144 := b141 c144
                refine lv_aload_n hx hb dX11_merge_149 rfl (lv_at hl 3 rfl) ?_
                refine lv_iconst (v := 0) hx hb dX11_merge_150 (by decide) ?_
                obtain ⟨V1, hV1⟩ := kp_all hW k0
                refine cc_v (B2 := fun H => mI N h0 H ∧ kp N h0 [13] V1 H) (wt_runV (As := [.int (0 : Int32)]) (rest := []) ⟨hx, hb, hml, hown, hts⟩ (m_X11_keeps l N h0 k0 hO V1 (0 : Int32) (ir_w (lo' := 0) (hi' := 1) (ir_c (0) (by decide) : ir (0 : Int32) (0) (0)) (by decide) (by decide))) wm_X11_keeps q1084 ⟨rfl, rfl⟩ ⟨Nat.le_of_ble_eq_true rfl, Nat.le_of_ble_eq_true rfl⟩ (cS_preV (B := fun H => mI N h0 H ∧ kp N h0 [13] V1 H) hK hW hT hnn hS (cg11 k0) rfl rfl (And.intro hI (kp_of (F := [13]) hV1))) rfl hl.1 rfl (Nat.le_of_ble_eq_true rfl) dX11_merge_151 ⟨Nat.zero_le _, Nat.zero_le _⟩) hS (by decide) (fun H locs hW hS oq hB2 => ?_)
                obtain ⟨hI, hV2⟩ := hB2
                have hV := kp_call hV hV1 hV2 (by decide)
                have nh0_7 := kp_use hV1 hV2 (by decide) (by decide) nh0_7
                refine lv_aload_n hx hb dX11_merge_154 rfl (lv_at hl 3 rfl) ?_
                refine lv_iload_n hx hb dX11_merge_155 rfl (lv_at hl 4 rfl) ?_
                refine lv_iconst (v := 1) hx hb dX11_merge_156 (by decide) ?_
                refine lv_iadd hx hb dX11_merge_157 ?_
                refine lv_topi (fun x157 e157 => ?_)
                have t157 : x157.toInt = p1.toInt + (1) := it_add e157 rp1_13 (ir_c (1) (by decide) : ir (1 : Int32) (1) (1)) (by decide) (by decide)
                have r157 : ir x157 1 23 := rf_eq (e157.trans e28.symm) r28
                obtain ⟨V1, hV1⟩ := kp_all hW k0
                have hWo := hW
                have hGL := QL_gp hI.1 nh0_7
                refine cc_v (B2 := fun H => kp N h0 [7] V1 H ∧ ∃ x : Int32, pI N h0 7 x H ∧ x.toInt = x4.toInt - 1 ∧ gP N 43 44 25 (fun j => (j : Int) < x4.toInt - 1) H) (wt_runV (As := [.int x157]) (rest := []) ⟨hx, hb, hml, hown, hts⟩ (m_X11_closes l N h0 k0 hO V1 x157 (ir_w (lo' := 0) (hi' := 23) r157 (by decide) (by decide)) x4 (by have h6 := r157; have h7 := r4; omega)) wm_X11_closes q1104 ⟨rfl, rfl⟩ ⟨Nat.le_of_ble_eq_true rfl, Nat.le_of_ble_eq_true rfl⟩ (cS_preV (B := fun H => kp N h0 [7] V1 H ∧ wt_pin N.1 vwCl h0 11 7 (.int x4) H ∧ gP N 43 44 25 (fun j => (j : Int) < x4.toInt) H) hK hW hT hnn hS (cg11 k0) rfl rfl (And.intro (kp_of (F := [7]) hV1) (And.intro nh0_7 hGL))) rfl hl.1 rfl (Nat.le_of_ble_eq_true rfl) dX11_merge_158 ⟨Nat.zero_le _, Nat.zero_le _⟩) hS (by decide) (fun H locs hW hS oq hB2 => ?_)
                obtain ⟨hV2, hB2⟩ := hB2
                have hV := kp_call hV hV1 hV2 (by decide)
                obtain ⟨iL, iP, iR, iB, iM⟩ := hI
                have iP := QP.fr.kcall iP hWo hV1 hV2 oq (by decide) (by decide)
                have iR := QR.fr.kcall iR hWo hV1 hV2 oq (by decide) (by decide)
                have iB := QB.fr.kcall iB hWo hV1 hV2 oq (by decide) (by decide)
                have iM := QM.fr.kcall iM hWo hV1 hV2 oq (by decide) (by decide)
                obtain ⟨xx158_7, nh0_7, w158, hGL⟩ := hB2
                have rxx158_7 : ir xx158_7 0 23 := by have h6 := r4; have h7 : ir xx158_7 0 24 := gi_r (cpin_P hW (cg11 k0) rfl (by decide) nh0_7); constructor <;> omega
                refine lv_aload_n hx hb dX11_merge_161 rfl (lv_at hl 3 rfl) ?_
                refine lv_iload_n hx hb dX11_merge_162 rfl (lv_at hl 4 rfl) ?_
                refine lv_aload_n hx hb dX11_merge_163 rfl (lv_at hl 3 rfl) ?_
                refine wt_get hx hb hts cfX11 hown hK hW (cg11 k0) rfl 4 (by decide) q876 dX11_merge_164 (fun v hv => ?_)
                obtain ⟨x164, rfl, k164⟩ : gr N 42 v := hv
                refine lv_iload_n hx hb dX11_merge_167 rfl (lv_at hl 4 rfl) ?_
                refine wt_iald hx hb hK hW 0 (cg42 k164) rfl (ir_in (ir_w (lo' := 0) (hi' := 24) rp1_13 (by decide) (by decide)) (by decide) (by decide)) dX11_merge_168 (fun v hv => ?_)
                obtain ⟨x168, rfl, r168⟩ : gi 0 5 v := hv
                refine lv_iload_n hx hb dX11_merge_169 rfl (lv_at hl 2 rfl) ?_
                refine lv_iload hx hb dX11_merge_170 (lv_at hl 0 rfl) ?_
                refine lv_idiv hx hb dX11_merge_172 c111 ?_
                refine lv_topi (fun x172 e172 => ?_)
                have r172 : ir x172 0 6 := rf_eq (e172.trans e136.symm) bx141_144.1
                refine lv_iload_n hx hb dX11_merge_173 rfl (lv_at hl 1 rfl) ?_
                refine lv_iload hx hb dX11_merge_174 (lv_at hl 0 rfl) ?_
                refine lv_idiv hx hb dX11_merge_176 c111 ?_
                refine lv_topi (fun x176 e176 => ?_)
                have r176 : ir x176 0 6 := rf_eq (e176.trans e140.symm) bx141_144.2.1
                have hz177 : x172.toInt ≠ 0 ∨ x176.toInt ≠ 0 := by rw [e172.trans e136.symm, e176.trans e140.symm]; exact bx141_144.2.2
                obtain ⟨V1, hV1⟩ := kp_all hW k0
                have hWo := hW
                refine cc_v (B2 := fun H => kp N h0 [] V1 H ∧ gP N 43 44 25 (fun j => ((j : Int) < x4.toInt - 1) ∨ (j : Int) = p1.toInt) H) (wt_runV (As := [.int p1, .int x168, .int x172, .int x176]) (rest := []) ⟨hx, hb, hml, hown, hts⟩ (m_X11_lays l N h0 k0 hO V1 p1 (ir_w (lo' := 0) (hi' := 24) rp1_13 (by decide) (by decide)) x168 r168 x172 r172 x176 r176 (fun j => (j : Int) < x4.toInt - 1) hz177) wm_X11_lays q1096 ⟨rfl, rfl⟩ ⟨Nat.le_of_ble_eq_true rfl, Nat.le_of_ble_eq_true rfl⟩ (cS_preV (B := fun H => kp N h0 [] V1 H ∧ gP N 43 44 25 (fun j => (j : Int) < x4.toInt - 1) H) hK hW hT hnn hS (cg11 k0) rfl rfl (And.intro (kp_of (F := []) hV1) hGL)) rfl hl.1 rfl (Nat.le_of_ble_eq_true rfl) dX11_merge_177 ⟨Nat.zero_le _, Nat.zero_le _⟩) hS (by decide) (fun H locs hW hS oq hB2 => ?_)
                obtain ⟨hV2, hB2⟩ := hB2
                have hV := kp_call hV hV1 hV2 (by decide)
                have iP := QP.fr.kcall iP hWo hV1 hV2 oq (by decide) (by decide)
                have iR := QR.fr.kcall iR hWo hV1 hV2 oq (by decide) (by decide)
                have iB := QB.fr.kcall iB hWo hV1 hV2 oq (by decide) (by decide)
                have iM := QM.fr.kcall iM hWo hV1 hV2 oq (by decide) (by decide)
                have hGL : gP N 43 44 25 (fun j => ((j : Int) < x4.toInt - 1) ∨ (j : Int) = p1.toInt) H := hB2
                have nh0_7 := kp_use hV1 hV2 (by decide) (by decide) nh0_7
                have iL : QL N h0 H := ⟨_, nh0_7, (hGL.sub (fun j hj h => by have h : (j : Int) < xx158_7.toInt := h; show ((j : Int) < x4.toInt - 1) ∨ (j : Int) = p1.toInt; have h30 := rp1_13; have h31 := r4; have h32 := rxx158_7; omega))⟩
                have hI : mI N h0 H := ⟨iL, iP, iR, iB, iM⟩
                refine lv_aload_n hx hb dX11_merge_180 rfl (lv_at hl 3 rfl) ?_
                refine wt_rel hx hb hts cfX11 hown hK nh0_7 rfl (by decide) (Or.inl (hts _ q879)) dX11_merge_181 ?_
                exact W.iret (v := xx158_7) hx hb hr (fun t ht _ => ⟨⟨xx158_7, xx158_7, rfl, ⟨rfl, trivial⟩, cW_at ht hW, ⟨mI_at ht hI, kp_at ht hV⟩⟩, hS.F ht⟩) hS.2.2 dX11_merge_184
              · have rx141_144 : ir x141 0 0 := rf_eq c144 (ir_c (0) (by decide) : ir (0 : Int32) (0) (0))
                refine lv_iconst (v := -1) hx hb dX11_merge_147 (by decide) ?_
                exact W.iret (v := (-1 : Int32)) hx hb hr (fun t ht _ => ⟨⟨(-1 : Int32), (-1 : Int32), rfl, ⟨rfl, trivial⟩, cW_at ht hW, ⟨mI_at ht hI, kp_at ht hV⟩⟩, hS.F ht⟩) hS.2.2 dX11_merge_148
            · exact absurd (rf_lt (rf_nle c125) r65 (ir_c (0) (by decide) : ir (0 : Int32) (0) (0))) (by have h8 := r65; have h9 := (ir_c (0) (by decide) : ir (0 : Int32) (0) (0)); omega)
      · have rx106_111 : ir x106 0 0 := rf_eq c111 (ir_c (0) (by decide) : ir (0 : Int32) (0) (0))
        refine lv_iconst (v := -1) hx hb dX11_merge_114 (by decide) ?_
        exact W.iret (v := (-1 : Int32)) hx hb hr (fun t ht _ => ⟨⟨(-1 : Int32), (-1 : Int32), rfl, ⟨rfl, trivial⟩, cW_at ht hW, ⟨mI_at ht hI, kp_at ht hV⟩⟩, hS.F ht⟩) hS.2.2 dX11_merge_115
    · refine lv_iconst (v := -1) hx hb dX11_merge_33 (by decide) ?_
      exact W.iret (v := (-1 : Int32)) hx hb hr (fun t ht _ => ⟨⟨(-1 : Int32), (-1 : Int32), rfl, ⟨rfl, trivial⟩, cW_at ht hW, ⟨mI_at ht hI, kp_at ht hV⟩⟩, hS.F ht⟩) hS.2.2 dX11_merge_34
