set_option maxHeartbeats 4000000 in
set_option maxRecDepth 100000 in
theorem m_X11_between (l : Launch) (N : c_N) (h0 : Nat) (k0 : N.2.2.1 h0 = some 11) (hO : mOK N) (V : Nat → Value) (p1 : Int32) (p2 : Int32) : cMi2 l yX11_between cX11_between 3 .boolean { frames := 1, cells := 0, slots := 0, locals := 25 } [.ref h0, .int p1, .int p2] N [11] (fun H => mI N h0 H ∧ kp N h0 [2, 3] V H) (fun r => ir r 0 1) (fun _ H => mI N h0 H ∧ kp N h0 [2, 3] V H) := by
  refine Met.ofW (cc := cX11_between) (maxL := 3) (ret := some .boolean) (by decide) rfl ?_
  intro p e s m args below meth c s₁ B hml hv
  obtain ⟨rfl, ⟨hK, hW, hT, hnn⟩, hB⟩ := hv
  obtain ⟨hI, hV⟩ := hB
  have hx := B.exec
  have hb := B.bytes
  have hr := B.returns
  have hts : ∀ w ∈ lw_g, w.before _ s = true := fun w h => atoms_spec (ws := wc_ws yX11_between cX11_between 3 (some .boolean)) B.pre w (List.mem_cons_of_mem _ h)
  have hown : s.vm.findClass RX11 = some m.cls := findClass_of_methodNamed B.named
  have hlocks := B.notSynchronized
  have hS : va_S (cE N [11]) s.heap s.heap [] := va_S.rf
  have hl := lv_entry ([.ref h0, .int p1, .int p2]) (n := 3) (Nat.le_of_ble_eq_true rfl)
  rw [lg_entry_eq]
  generalize (lg_sl ([.ref h0, .int p1, .int p2]) ++ List.replicate (3 - (lg_sl ([.ref h0, .int p1, .int p2])).length) Slot.unset).toArray = ls at hl ⊢
  have hl : lv_has ls 3 [(0, .ref h0), (1, .int p1), (2, .int p2)] := hl
  refine wq_all ?_
  intro WW w1 w2
  have J42 : ∀ (H : Heap) (locs : List Loc) (ls : Array Slot) (u42_0 : Int32), cW N H → mI N h0 H → kp N h0 [2, 3] V H → va_S (cE N [11]) s.heap H locs → lv_has ls 3 [(0, .ref h0), (1, .int p1), (2, .int p2)] → ir p1 0 5 → ir p2 0 5 → ir u42_0 0 5 → wt_pin N.1 vwCl h0 11 2 (.int u42_0) H → WW H locs (F0 m 42 ls []) := by
    intro H locs ls u42_0 hW hI hV hS hl rv42_1 rv42_2 ru42_0 nh0_2
    refine w1 _ _ _ ?_
    refine lv_aload_n hx hb dX11_between_42 rfl (lv_at hl 0 rfl) ?_
    refine lv_iload_n hx hb dX11_between_43 rfl (lv_at hl 1 rfl) ?_
    refine wt_putp hx hb hts cfX11 tyX11 tyX11_ok nmX11 hown hK hW hS (cg11 k0) (ce k0 (by decide)) rfl 2 (by decide) (Or.inl (hts _ q874)) rfl rfl rfl (gi_mk rv42_1) dX11_between_44 (fun H locs hW hS oq o2 np => ?_)
    have nh0_2 : wt_pin N.1 vwCl h0 11 2 (.int p1) H := np
    have hV := hV.put (by decide) o2
    have hI := mI.fr.put hI k0 oq o2 (by decide) (by decide)
    refine lv_aload_n hx hb dX11_between_47 rfl (lv_at hl 0 rfl) ?_
    refine lv_iload_n hx hb dX11_between_48 rfl (lv_at hl 2 rfl) ?_
    refine wt_putp hx hb hts cfX11 tyX11 tyX11_ok nmX11 hown hK hW hS (cg11 k0) (ce k0 (by decide)) rfl 3 (by decide) (Or.inl (hts _ q875)) rfl rfl rfl (gi_mk rv42_2) dX11_between_49 (fun H locs hW hS oq o2 np => ?_)
    have nh0_2 := o2 2 _ (by decide) (by decide) nh0_2
    have nh0_3 : wt_pin N.1 vwCl h0 11 3 (.int p2) H := np
    have hV := hV.put (by decide) o2
    have hI := mI.fr.put hI k0 oq o2 (by decide) (by decide)
    refine lv_iconst (v := 1) hx hb dX11_between_52 (by decide) ?_
    exact W.zret (v := (1 : Int32)) hx hb hr rfl (fun t ht _ => ⟨⟨(1 : Int32), (1 : Int32), rfl, ⟨rfl, (⟨by decide, by decide⟩)⟩, cW_at ht hW, ⟨mI_at ht hI, kp_at ht hV⟩⟩, hS.F ht⟩) hS.2.2 dX11_between_53
  refine lv_iload_n hx hb dX11_between_0 rfl (lv_at hl 1 rfl) ?_
  refine lv_i2l hx hb dX11_between_1 rfl ?_
  refine lv_topl (fun x1 e1 => ?_)
  have r1 : lr x1 (-2147483648) 2147483647 := by rw [e1]; exact i2l_r (ir_any p1)
  refine lv_lconst (v := 0) hx hb dX11_between_2 (by decide) ?_
  refine lv_ldc2 hx hb hown (hts _ q1049) dX11_between_3 ?_
  refine cp_i (wt_runS (As := [.long x1, .long (0 : Int64), .long (5 : Int64)]) (rest := []) ⟨hx, hb, hml, hown, hts⟩ (m_X11_isIn l x1 (0 : Int64) (5 : Int64)) wm_X11_isIn q1050 ⟨rfl, rfl⟩ ⟨Nat.le_of_ble_eq_true rfl, Nat.le_of_ble_eq_true rfl⟩ pS_pre rfl hl.1 rfl (Nat.le_of_ble_eq_true rfl) dX11_between_6 ⟨Nat.zero_le _, Nat.zero_le _⟩) hW hS (fun x6 H locs hp hW1 hS oq => ?_)
  have hV := hV.same hW k0 oq
  have hI := mI.fr.same hI hW oq
  have hW := hW1
  obtain ⟨r6, b6⟩ := hp
  refine lv_if_eq (tgt := 40) hx hb dX11_between_9 (by decide) (fun c9 => ?_) (fun c9 => ?_)
  · have rx6_9 : ir x6 0 0 := rf_eq c9 (ir_c (0) (by decide) : ir (0 : Int32) (0) (0))
    refine lv_iconst (v := 0) hx hb dX11_between_40 (by decide) ?_
    exact W.zret (v := (0 : Int32)) hx hb hr rfl (fun t ht _ => ⟨⟨(0 : Int32), (0 : Int32), rfl, ⟨rfl, (⟨by decide, by decide⟩)⟩, cW_at ht hW, ⟨mI_at ht hI, kp_at ht hV⟩⟩, hS.F ht⟩) hS.2.2 dX11_between_41
  · have rx6_9 : ir x6 1 1 := rf_ne0 c9 r6
    have bx6_9 := b6 c9
    have rbx1_9 : lr x1 0 5 := by have h5 := bx6_9; have h6 := r1; have h7 := (lr_c (0) (by decide) : lr (0 : Int64) (0) (0)); have h8 := (lr_c (5) (by decide) : lr (5 : Int64) (5) (5)); constructor <;> omega
    have rp1_9 : ir p1 0 5 := i2l_b e1 rbx1_9
    refine lv_iload_n hx hb dX11_between_12 rfl (lv_at hl 2 rfl) ?_
    refine lv_i2l hx hb dX11_between_13 rfl ?_
    refine lv_topl (fun x13 e13 => ?_)
    have r13 : lr x13 (-2147483648) 2147483647 := by rw [e13]; exact i2l_r (ir_any p2)
    refine lv_lconst (v := 0) hx hb dX11_between_14 (by decide) ?_
    refine lv_ldc2 hx hb hown (hts _ q1049) dX11_between_15 ?_
    refine cp_i (wt_runS (As := [.long x13, .long (0 : Int64), .long (5 : Int64)]) (rest := []) ⟨hx, hb, hml, hown, hts⟩ (m_X11_isIn l x13 (0 : Int64) (5 : Int64)) wm_X11_isIn q1050 ⟨rfl, rfl⟩ ⟨Nat.le_of_ble_eq_true rfl, Nat.le_of_ble_eq_true rfl⟩ pS_pre rfl hl.1 rfl (Nat.le_of_ble_eq_true rfl) dX11_between_18 ⟨Nat.zero_le _, Nat.zero_le _⟩) hW hS (fun x18 H locs hp hW1 hS oq => ?_)
    have hV := hV.same hW k0 oq
    have hI := mI.fr.same hI hW oq
    have hW := hW1
    obtain ⟨r18, b18⟩ := hp
    refine lv_if_eq (tgt := 40) hx hb dX11_between_21 (by decide) (fun c21 => ?_) (fun c21 => ?_)
    · have rx18_21 : ir x18 0 0 := rf_eq c21 (ir_c (0) (by decide) : ir (0 : Int32) (0) (0))
      refine lv_iconst (v := 0) hx hb dX11_between_40 (by decide) ?_
      exact W.zret (v := (0 : Int32)) hx hb hr rfl (fun t ht _ => ⟨⟨(0 : Int32), (0 : Int32), rfl, ⟨rfl, (⟨by decide, by decide⟩)⟩, cW_at ht hW, ⟨mI_at ht hI, kp_at ht hV⟩⟩, hS.F ht⟩) hS.2.2 dX11_between_41
    · have rx18_21 : ir x18 1 1 := rf_ne0 c21 r18
      have bx18_21 := b18 c21
      have rbx13_21 : lr x13 0 5 := by have h5 := bx18_21; have h6 := r13; have h7 := (lr_c (0) (by decide) : lr (0 : Int64) (0) (0)); have h8 := (lr_c (5) (by decide) : lr (5 : Int64) (5) (5)); constructor <;> omega
      have rp2_21 : ir p2 0 5 := i2l_b e13 rbx13_21
      refine lv_iload_n hx hb dX11_between_24 rfl (lv_at hl 1 rfl) ?_
      refine lv_aload_n hx hb dX11_between_25 rfl (lv_at hl 0 rfl) ?_
      refine wt_getp hx hb hts cfX11 hown hK hW (cg11 k0) rfl 2 (by decide) (Or.inl (hts _ q874)) dX11_between_26 (fun v hv nh0_2 => ?_)
      obtain ⟨x26, rfl, r26⟩ : gi 0 5 v := hv
      refine lv_icmp_ne (tgt := 42) hx hb dX11_between_29 (by decide) (fun c29 => ?_) (fun c29 => ?_)
      · exact w2 _ _ _ (J42 _ _ _ x26 hW hI hV hS (lv_sub hl [0, 1, 2] rfl) rp1_9 rp2_21 r26 nh0_2)
      · refine lv_iload_n hx hb dX11_between_32 rfl (lv_at hl 2 rfl) ?_
        refine lv_aload_n hx hb dX11_between_33 rfl (lv_at hl 0 rfl) ?_
        refine wt_getp hx hb hts cfX11 hown hK hW (cg11 k0) rfl 3 (by decide) (Or.inl (hts _ q875)) dX11_between_34 (fun v hv nh0_3 => ?_)
        obtain ⟨x34, rfl, r34⟩ : gi 0 5 v := hv
        refine lv_icmp_ne (tgt := 42) hx hb dX11_between_37 (by decide) (fun c37 => ?_) (fun c37 => ?_)
        · exact w2 _ _ _ (J42 _ _ _ x26 hW hI hV hS (lv_sub hl [0, 1, 2] rfl) rp1_9 rp2_21 r26 nh0_2)
        · refine lv_iconst (v := 0) hx hb dX11_between_40 (by decide) ?_
          exact W.zret (v := (0 : Int32)) hx hb hr rfl (fun t ht _ => ⟨⟨(0 : Int32), (0 : Int32), rfl, ⟨rfl, (⟨by decide, by decide⟩)⟩, cW_at ht hW, ⟨mI_at ht hI, kp_at ht hV⟩⟩, hS.F ht⟩) hS.2.2 dX11_between_41
set_option maxHeartbeats 4000000 in
set_option maxRecDepth 100000 in
theorem m_X11_material (l : Launch) (N : c_N) (h0 : Nat) (k0 : N.2.2.1 h0 = some 11) (hO : mOK N) (V : Nat → Value) (p1 : Int32) (p2 : Int32) : cMi2 l yX11_material cX11_material 5 .int { frames := 1, cells := 0, slots := 0, locals := 25 } [.ref h0, .int p1, .int p2] N [] (fun H => mI N h0 H ∧ kp N h0 [] V H) (fun _ => True) (fun _ H => mI N h0 H ∧ kp N h0 [] V H) := by
  refine Met.ofW (cc := cX11_material) (maxL := 5) (ret := some .int) (by decide) rfl ?_
  intro p e s m args below meth c s₁ B hml hv
  obtain ⟨rfl, ⟨hK, hW, hT, hnn⟩, hB⟩ := hv
  obtain ⟨hI, hV⟩ := hB
  have hx := B.exec
  have hb := B.bytes
  have hr := B.returns
  have hts : ∀ w ∈ lw_g, w.before _ s = true := fun w h => atoms_spec (ws := wc_ws yX11_material cX11_material 5 (some .int)) B.pre w (List.mem_cons_of_mem _ h)
  have hown : s.vm.findClass RX11 = some m.cls := findClass_of_methodNamed B.named
  have hlocks := B.notSynchronized
  have hS : va_S (cE N []) s.heap s.heap [] := va_S.rf
  have hl := lv_entry ([.ref h0, .int p1, .int p2]) (n := 5) (Nat.le_of_ble_eq_true rfl)
  rw [lg_entry_eq]
  generalize (lg_sl ([.ref h0, .int p1, .int p2]) ++ List.replicate (5 - (lg_sl ([.ref h0, .int p1, .int p2])).length) Slot.unset).toArray = ls at hl ⊢
  have hl : lv_has ls 5 [(0, .ref h0), (1, .int p1), (2, .int p2)] := hl
  refine wq_all ?_
  intro WW w1 w2
  have J119 : ∀ (H : Heap) (locs : List Loc) (ls : Array Slot) (w119_0 : Int32) (u119_0 : Int32) (u119_1 : Int32), cW N H → mI N h0 H → kp N h0 [] V H → va_S (cE N []) s.heap H locs → lv_has ls 5 [] → ir w119_0 0 1 → ir u119_0 0 5 → wt_pin N.1 vwCl h0 11 2 (.int u119_0) H → ir u119_1 0 24 → wt_pin N.1 vwCl h0 11 7 (.int u119_1) H → WW H locs (F0 m 119 ls [.int w119_0]) := by
    intro H locs ls w119_0 u119_0 u119_1 hW hI hV hS hl rw119_0 ru119_0 nh0_2 ru119_1 nh0_7
    refine w1 _ _ _ ?_
    refine cp_i (wt_runS (As := [.int w119_0]) (rest := []) ⟨hx, hb, hml, hown, hts⟩ (m_X11_one l w119_0 rw119_0) wm_X11_one q1065 ⟨rfl, rfl⟩ ⟨Nat.le_of_ble_eq_true rfl, Nat.le_of_ble_eq_true rfl⟩ pS_pre rfl hl.1 rfl (Nat.le_of_ble_eq_true rfl) dX11_material_119 ⟨Nat.zero_le _, Nat.zero_le _⟩) hW hS (fun x119 H locs hp hW1 hS oq => ?_)
    have hV := hV.same hW k0 oq
    have hI := mI.fr.same hI hW oq
    have hW := hW1
    have nh0_2 := nh0_2.kept (oq _ nh0_2.lt (cE_not k0 (by decide)))
    have nh0_7 := nh0_7.kept (oq _ nh0_7.lt (cE_not k0 (by decide)))
    have r119 : ir x119 0 1 := hp
    exact W.iret (v := x119) hx hb hr (fun t ht _ => ⟨⟨x119, x119, rfl, ⟨rfl, trivial⟩, cW_at ht hW, ⟨mI_at ht hI, kp_at ht hV⟩⟩, hS.F ht⟩) hS.2.2 dX11_material_122
  have J136 : ∀ (H : Heap) (locs : List Loc) (ls : Array Slot) (w136_0 : Int32) (u136_0 : Int32) (u136_1 : Int32), cW N H → mI N h0 H → kp N h0 [] V H → va_S (cE N []) s.heap H locs → lv_has ls 5 [] → ir w136_0 0 1 → ir u136_0 0 5 → wt_pin N.1 vwCl h0 11 3 (.int u136_0) H → ir u136_1 0 24 → wt_pin N.1 vwCl h0 11 7 (.int u136_1) H → WW H locs (F0 m 136 ls [.int w136_0]) := by
    intro H locs ls w136_0 u136_0 u136_1 hW hI hV hS hl rw136_0 ru136_0 nh0_3 ru136_1 nh0_7
    refine w1 _ _ _ ?_
    refine cp_i (wt_runS (As := [.int w136_0]) (rest := []) ⟨hx, hb, hml, hown, hts⟩ (m_X11_one l w136_0 rw136_0) wm_X11_one q1065 ⟨rfl, rfl⟩ ⟨Nat.le_of_ble_eq_true rfl, Nat.le_of_ble_eq_true rfl⟩ pS_pre rfl hl.1 rfl (Nat.le_of_ble_eq_true rfl) dX11_material_136 ⟨Nat.zero_le _, Nat.zero_le _⟩) hW hS (fun x136 H locs hp hW1 hS oq => ?_)
    have hV := hV.same hW k0 oq
    have hI := mI.fr.same hI hW oq
    have hW := hW1
    have nh0_3 := nh0_3.kept (oq _ nh0_3.lt (cE_not k0 (by decide)))
    have nh0_7 := nh0_7.kept (oq _ nh0_7.lt (cE_not k0 (by decide)))
    have r136 : ir x136 0 1 := hp
    exact W.iret (v := x136) hx hb hr (fun t ht _ => ⟨⟨x136, x136, rfl, ⟨rfl, trivial⟩, cW_at ht hW, ⟨mI_at ht hI, kp_at ht hV⟩⟩, hS.F ht⟩) hS.2.2 dX11_material_139
  have L19 : ∀ (n : Nat) (H : Heap) (locs : List Loc) (ls : Array Slot) (v19_3 : Int32) (v19_4 : Int32), cW N H → mI N h0 H → kp N h0 [] V H → va_S (cE N []) s.heap H locs → lv_has ls 5 [(0, .ref h0), (1, .int p1), (2, .int p2), (3, .int v19_3), (4, .int v19_4)] → ir p1 0 5 → ir v19_4 0 24 → 24 - v19_4.toInt < (n : Int) → WW H locs (F0 m 19 ls []) := by
    intro n
    induction n with
    | zero =>
      intro H locs ls v19_3 v19_4 hW hI hV hS hl rv19_1 rv19_4 mu19
      exfalso
      omega
    | succ n ih19 =>
      intro H locs ls v19_3 v19_4 hW hI hV hS hl rv19_1 rv19_4 mu19
      have J45 : ∀ (H : Heap) (locs : List Loc) (ls : Array Slot) (w45_0 : Int32) (u45_0 : Int32), cW N H → mI N h0 H → kp N h0 [] V H → va_S (cE N []) s.heap H locs → lv_has ls 5 [(0, .ref h0), (1, .int p1), (2, .int p2), (4, .int v19_4)] → ir p1 0 5 → ir v19_4 0 23 → ir w45_0 0 1 → ir u45_0 1 24 → wt_pin N.1 vwCl h0 11 7 (.int u45_0) H → WW H locs (F0 m 45 ls [.int w45_0, .int v19_3]) := by
        intro H locs ls w45_0 u45_0 hW hI hV hS hl rv45_1 rv45_4 rw45_0 ru45_0 nh0_7
        refine w1 _ _ _ ?_
        refine cp_i (wt_runS (As := [.int w45_0]) (rest := [.int v19_3]) ⟨hx, hb, hml, hown, hts⟩ (m_X11_one l w45_0 rw45_0) wm_X11_one q1065 ⟨rfl, rfl⟩ ⟨Nat.le_of_ble_eq_true rfl, Nat.le_of_ble_eq_true rfl⟩ pS_pre rfl hl.1 rfl (Nat.le_of_ble_eq_true rfl) dX11_material_45 ⟨Nat.zero_le _, Nat.zero_le _⟩) hW hS (fun x45 H locs hp hW1 hS oq => ?_)
        have hV := hV.same hW k0 oq
        have hI := mI.fr.same hI hW oq
        have hW := hW1
        have nh0_7 := nh0_7.kept (oq _ nh0_7.lt (cE_not k0 (by decide)))
        have r45 : ir x45 0 1 := hp
        refine lv_iadd hx hb dX11_material_48 ?_
        refine lv_topi (fun x48 e48 => ?_)
        refine lv_istore_n (lv' := [(3, .int x48), (0, .ref h0), (1, .int p1), (2, .int p2), (4, .int v19_4)]) hx hb dX11_material_49 rfl hl (by decide) rfl (fun ls hl => ?_)
        obtain ⟨x50, e50⟩ : ∃ y : Int32, y = v19_4 + 1 := ⟨_, rfl⟩
        have r50 : ir x50 1 24 := ir_w (ir_add e50 rv45_4 (ir_c (1) (by decide) : ir (1 : Int32) (1) (1)) (by decide) (by decide)) (by decide) (by decide)
        have t50 : x50.toInt = v19_4.toInt + (1) := it_add e50 rv45_4 (ir_c (1) (by decide) : ir (1 : Int32) (1) (1)) (by decide) (by decide)
        refine lv_iinc (v := x50) (lv' := [(4, .int x50), (3, .int x48), (0, .ref h0), (1, .int p1), (2, .int p2)]) hx hb dX11_material_50 hl (k := 4) rfl (by rw [e50]; rfl) (by decide) rfl (fun ls hl => ?_)
        refine lv_goto (tgt := 19) hx hb dX11_material_53 (by decide) ?_
        exact w2 _ _ _ (ih19 _ _ _ x48 x50 hW hI hV hS (lv_sub hl [2, 3, 4, 1, 0] rfl) rv45_1 (ir_w (lo' := 0) (hi' := 24) r50 (by decide) (by decide)) (by have h9 := r50; omega))
      refine w1 _ _ _ ?_
      refine lv_iload hx hb dX11_material_19 (lv_at hl 4 rfl) ?_
      refine lv_aload_n hx hb dX11_material_21 rfl (lv_at hl 0 rfl) ?_
      refine wt_getp hx hb hts cfX11 hown hK hW (cg11 k0) rfl 7 (by decide) (Or.inl (hts _ q879)) dX11_material_22 (fun v hv nh0_7 => ?_)
      obtain ⟨x22, rfl, r22⟩ : gi 0 24 v := hv
      refine lv_icmp_ge (tgt := 56) hx hb dX11_material_25 (by decide) (fun c25 => ?_) (fun c25 => ?_)
      · refine lv_iload_n hx hb dX11_material_56 rfl (lv_at hl 2 rfl) ?_
        by_cases c57 : p2.toInt < 0 ∨ 4 < p2.toInt
        · refine lv_tableOut (tgt := 142) hx hb dX11_material_57 c57 (by decide) ?_
          refine lv_iconst (v := -1) hx hb dX11_material_142 (by decide) ?_
          exact W.iret (v := (-1 : Int32)) hx hb hr (fun t ht _ => ⟨⟨(-1 : Int32), (-1 : Int32), rfl, ⟨rfl, trivial⟩, cW_at ht hW, ⟨mI_at ht hI, kp_at ht hV⟩⟩, hS.F ht⟩) hS.2.2 dX11_material_143
        · rcases (show p2.toInt = 0 ∨ p2.toInt = 1 ∨ p2.toInt = 2 ∨ p2.toInt = 3 ∨ p2.toInt = 4 by omega) with d57 | d57 | d57 | d57 | d57
          · refine lv_tableIn (off := 35) (tgt := 92) hx hb dX11_material_57 (by omega) (by omega) (by rw [d57]; rfl) (by decide) ?_
            refine lv_aload_n hx hb dX11_material_92 rfl (lv_at hl 0 rfl) ?_
            refine wt_get hx hb hts cfX11 hown hK hW (cg11 k0) rfl 0 (by decide) q872 dX11_material_93 (fun v hv => ?_)
            obtain ⟨x93, rfl, k93⟩ : gr N 40 v := hv
            refine lv_iload_n hx hb dX11_material_96 rfl (lv_at hl 1 rfl) ?_
            refine wt_iald hx hb hK hW 0 (cg40 k93) rfl (ir_in rv19_1 (by decide) (by decide)) dX11_material_97 (fun v hv => ?_)
            have hv : v = .int _ := hv
            subst hv
            refine lv_topi (fun x97 e97 => ?_)
            have r97 : ir x97 1 9 := mOK_r hO (Or.inl k93) (ir_in rv19_1 (by decide) (by decide)) e97
            exact W.iret (v := x97) hx hb hr (fun t ht _ => ⟨⟨x97, x97, rfl, ⟨rfl, trivial⟩, cW_at ht hW, ⟨mI_at ht hI, kp_at ht hV⟩⟩, hS.F ht⟩) hS.2.2 dX11_material_98
          · refine lv_tableIn (off := 42) (tgt := 99) hx hb dX11_material_57 (by omega) (by omega) (by rw [d57]; rfl) (by decide) ?_
            refine lv_aload_n hx hb dX11_material_99 rfl (lv_at hl 0 rfl) ?_
            refine wt_get hx hb hts cfX11 hown hK hW (cg11 k0) rfl 1 (by decide) q873 dX11_material_100 (fun v hv => ?_)
            obtain ⟨x100, rfl, k100⟩ : gr N 41 v := hv
            refine lv_iload_n hx hb dX11_material_103 rfl (lv_at hl 1 rfl) ?_
            refine wt_iald hx hb hK hW 0 (cg41 k100) rfl (ir_in rv19_1 (by decide) (by decide)) dX11_material_104 (fun v hv => ?_)
            have hv : v = .int _ := hv
            subst hv
            refine lv_topi (fun x104 e104 => ?_)
            have r104 : ir x104 1 9 := mOK_r hO (Or.inr k100) (ir_in rv19_1 (by decide) (by decide)) e104
            exact W.iret (v := x104) hx hb hr (fun t ht _ => ⟨⟨x104, x104, rfl, ⟨rfl, trivial⟩, cW_at ht hW, ⟨mI_at ht hI, kp_at ht hV⟩⟩, hS.F ht⟩) hS.2.2 dX11_material_105
          · refine lv_tableIn (off := 49) (tgt := 106) hx hb dX11_material_57 (by omega) (by omega) (by rw [d57]; rfl) (by decide) ?_
            refine lv_aload_n hx hb dX11_material_106 rfl (lv_at hl 0 rfl) ?_
            refine wt_getp hx hb hts cfX11 hown hK hW (cg11 k0) rfl 2 (by decide) (Or.inl (hts _ q874)) dX11_material_107 (fun v hv nh0_2 => ?_)
            obtain ⟨x107, rfl, r107⟩ : gi 0 5 v := hv
            refine lv_iload_n hx hb dX11_material_110 rfl (lv_at hl 1 rfl) ?_
            refine lv_icmp_ne (tgt := 118) hx hb dX11_material_111 (by decide) (fun c111 => ?_) (fun c111 => ?_)
            · refine lv_iconst (v := 0) hx hb dX11_material_118 (by decide) ?_
              exact w2 _ _ _ (J119 _ _ _ (0 : Int32) x107 x22 hW hI hV hS (lv_sub hl [] rfl) (ir_w (lo' := 0) (hi' := 1) (ir_c (0) (by decide) : ir (0 : Int32) (0) (0)) (by decide) (by decide)) r107 nh0_2 r22 nh0_7)
            · refine lv_iconst (v := 1) hx hb dX11_material_114 (by decide) ?_
              refine lv_goto (tgt := 119) hx hb dX11_material_115 (by decide) ?_
              exact w2 _ _ _ (J119 _ _ _ (1 : Int32) x107 x22 hW hI hV hS (lv_sub hl [] rfl) (ir_w (lo' := 0) (hi' := 1) (ir_c (1) (by decide) : ir (1 : Int32) (1) (1)) (by decide) (by decide)) r107 nh0_2 r22 nh0_7)
          · refine lv_tableIn (off := 66) (tgt := 123) hx hb dX11_material_57 (by omega) (by omega) (by rw [d57]; rfl) (by decide) ?_
            refine lv_aload_n hx hb dX11_material_123 rfl (lv_at hl 0 rfl) ?_
            refine wt_getp hx hb hts cfX11 hown hK hW (cg11 k0) rfl 3 (by decide) (Or.inl (hts _ q875)) dX11_material_124 (fun v hv nh0_3 => ?_)
            obtain ⟨x124, rfl, r124⟩ : gi 0 5 v := hv
            refine lv_iload_n hx hb dX11_material_127 rfl (lv_at hl 1 rfl) ?_
            refine lv_icmp_ne (tgt := 135) hx hb dX11_material_128 (by decide) (fun c128 => ?_) (fun c128 => ?_)
            · refine lv_iconst (v := 0) hx hb dX11_material_135 (by decide) ?_
              exact w2 _ _ _ (J136 _ _ _ (0 : Int32) x124 x22 hW hI hV hS (lv_sub hl [] rfl) (ir_w (lo' := 0) (hi' := 1) (ir_c (0) (by decide) : ir (0 : Int32) (0) (0)) (by decide) (by decide)) r124 nh0_3 r22 nh0_7)
            · refine lv_iconst (v := 1) hx hb dX11_material_131 (by decide) ?_
              refine lv_goto (tgt := 136) hx hb dX11_material_132 (by decide) ?_
              exact w2 _ _ _ (J136 _ _ _ (1 : Int32) x124 x22 hW hI hV hS (lv_sub hl [] rfl) (ir_w (lo' := 0) (hi' := 1) (ir_c (1) (by decide) : ir (1 : Int32) (1) (1)) (by decide) (by decide)) r124 nh0_3 r22 nh0_7)
          · refine lv_tableIn (off := 83) (tgt := 140) hx hb dX11_material_57 (by omega) (by omega) (by rw [d57]; rfl) (by decide) ?_
            refine lv_iload_n hx hb dX11_material_140 rfl (lv_at hl 3 rfl) ?_
            exact W.iret (v := v19_3) hx hb hr (fun t ht _ => ⟨⟨v19_3, v19_3, rfl, ⟨rfl, trivial⟩, cW_at ht hW, ⟨mI_at ht hI, kp_at ht hV⟩⟩, hS.F ht⟩) hS.2.2 dX11_material_141
      · have rv19_4_25 : ir v19_4 0 23 := ⟨(rv19_4).1, Int.le_trans (rf_lt (rf_nle c25) rv19_4 r22).1 (by decide)⟩
        have rx22_25 : ir x22 1 24 := ⟨Int.le_trans (by decide) (rf_lt (rf_nle c25) rv19_4 r22).2, (r22).2⟩
        refine lv_iload_n hx hb dX11_material_28 rfl (lv_at hl 3 rfl) ?_
        refine lv_aload_n hx hb dX11_material_29 rfl (lv_at hl 0 rfl) ?_
        refine wt_get hx hb hts cfX11 hown hK hW (cg11 k0) rfl 4 (by decide) q876 dX11_material_30 (fun v hv => ?_)
        obtain ⟨x30, rfl, k30⟩ : gr N 42 v := hv
        refine lv_iload hx hb dX11_material_33 (lv_at hl 4 rfl) ?_
        refine wt_iald hx hb hK hW 0 (cg42 k30) rfl (ir_in (ir_w (lo' := 0) (hi' := 24) rv19_4_25 (by decide) (by decide)) (by decide) (by decide)) dX11_material_35 (fun v hv => ?_)
        obtain ⟨x35, rfl, r35⟩ : gi 0 5 v := hv
        refine lv_iload_n hx hb dX11_material_36 rfl (lv_at hl 1 rfl) ?_
        refine lv_icmp_ne (tgt := 44) hx hb dX11_material_37 (by decide) (fun c37 => ?_) (fun c37 => ?_)
        · refine lv_iconst (v := 0) hx hb dX11_material_44 (by decide) ?_
          exact w2 _ _ _ (J45 _ _ _ (0 : Int32) x22 hW hI hV hS (lv_sub hl [0, 1, 2, 4] rfl) rv19_1 rv19_4_25 (ir_w (lo' := 0) (hi' := 1) (ir_c (0) (by decide) : ir (0 : Int32) (0) (0)) (by decide) (by decide)) rx22_25 nh0_7)
        · refine lv_iconst (v := 1) hx hb dX11_material_40 (by decide) ?_
          refine lv_goto (tgt := 45) hx hb dX11_material_41 (by decide) ?_
          exact w2 _ _ _ (J45 _ _ _ (1 : Int32) x22 hW hI hV hS (lv_sub hl [0, 1, 2, 4] rfl) rv19_1 rv19_4_25 (ir_w (lo' := 0) (hi' := 1) (ir_c (1) (by decide) : ir (1 : Int32) (1) (1)) (by decide) (by decide)) rx22_25 nh0_7)
  refine lv_iload_n hx hb dX11_material_0 rfl (lv_at hl 1 rfl) ?_
  refine lv_i2l hx hb dX11_material_1 rfl ?_
  refine lv_topl (fun x1 e1 => ?_)
  have r1 : lr x1 (-2147483648) 2147483647 := by rw [e1]; exact i2l_r (ir_any p1)
  refine lv_lconst (v := 0) hx hb dX11_material_2 (by decide) ?_
  refine lv_ldc2 hx hb hown (hts _ q1049) dX11_material_3 ?_
  refine cp_i (wt_runS (As := [.long x1, .long (0 : Int64), .long (5 : Int64)]) (rest := []) ⟨hx, hb, hml, hown, hts⟩ (m_X11_isIn l x1 (0 : Int64) (5 : Int64)) wm_X11_isIn q1050 ⟨rfl, rfl⟩ ⟨Nat.le_of_ble_eq_true rfl, Nat.le_of_ble_eq_true rfl⟩ pS_pre rfl hl.1 rfl (Nat.le_of_ble_eq_true rfl) dX11_material_6 ⟨Nat.zero_le _, Nat.zero_le _⟩) hW hS (fun x6 H locs hp hW1 hS oq => ?_)
  have hV := hV.same hW k0 oq
  have hI := mI.fr.same hI hW oq
  have hW := hW1
  obtain ⟨r6, b6⟩ := hp
  refine lv_if_ne (tgt := 14) hx hb dX11_material_9 (by decide) (fun c9 => ?_) (fun c9 => ?_)
  · have rx6_9 : ir x6 1 1 := rf_ne0 c9 r6
    have bx6_9 := b6 c9
    have rbx1_9 : lr x1 0 5 := by have h5 := bx6_9; have h6 := r1; have h7 := (lr_c (0) (by decide) : lr (0 : Int64) (0) (0)); have h8 := (lr_c (5) (by decide) : lr (5 : Int64) (5) (5)); constructor <;> omega
    have rp1_9 : ir p1 0 5 := i2l_b e1 rbx1_9
    refine lv_iconst (v := 0) hx hb dX11_material_14 (by decide) ?_
    refine lv_istore_n (lv' := [(3, .int (0 : Int32)), (0, .ref h0), (1, .int p1), (2, .int p2)]) hx hb dX11_material_15 rfl hl (by decide) rfl (fun ls hl => ?_)
    refine lv_iconst (v := 0) hx hb dX11_material_16 (by decide) ?_
    refine lv_istore (lv' := [(4, .int (0 : Int32)), (3, .int (0 : Int32)), (0, .ref h0), (1, .int p1), (2, .int p2)]) hx hb dX11_material_17 hl (by decide) rfl (fun ls hl => ?_)
    exact w2 _ _ _ (L19 25 _ _ _ (0 : Int32) (0 : Int32) hW hI hV hS (lv_sub hl [2, 3, 4, 1, 0] rfl) rp1_9 (ir_w (lo' := 0) (hi' := 24) (ir_c (0) (by decide) : ir (0 : Int32) (0) (0)) (by decide) (by decide)) (by have h9 := (ir_c (0) (by decide) : ir (0 : Int32) (0) (0)); omega))
  · have rx6_9 : ir x6 0 0 := rf_eq c9 (ir_c (0) (by decide) : ir (0 : Int32) (0) (0))
    refine lv_iconst (v := -1) hx hb dX11_material_12 (by decide) ?_
    exact W.iret (v := (-1 : Int32)) hx hb hr (fun t ht _ => ⟨⟨(-1 : Int32), (-1 : Int32), rfl, ⟨rfl, trivial⟩, cW_at ht hW, ⟨mI_at ht hI, kp_at ht hV⟩⟩, hS.F ht⟩) hS.2.2 dX11_material_13
set_option maxHeartbeats 4000000 in
set_option maxRecDepth 100000 in
theorem m_X11_changesSides (l : Launch) (N : c_N) (h0 : Nat) (k0 : N.2.2.1 h0 = some 11) (hO : mOK N) (V : Nat → Value) : cMv l yX11_changesSides cX11_changesSides 2 { frames := 0, cells := 0, slots := 0, locals := 0 } [.ref h0] N [11] (fun H => mI N h0 H ∧ kp N h0 [2, 3] V H) (fun H => mI N h0 H ∧ kp N h0 [2, 3] V H) := by
  refine Met.ofW (cc := cX11_changesSides) (maxL := 2) (ret := none) (by decide) rfl ?_
  intro p e s m args below meth c s₁ B hml hv
  obtain ⟨rfl, ⟨hK, hW, hT, hnn⟩, hB⟩ := hv
  obtain ⟨hI, hV⟩ := hB
  have hx := B.exec
  have hb := B.bytes
  have hr := B.returns
  have hts : ∀ w ∈ lw_g, w.before _ s = true := fun w h => atoms_spec (ws := wc_ws yX11_changesSides cX11_changesSides 2 none) B.pre w (List.mem_cons_of_mem _ h)
  have hown : s.vm.findClass RX11 = some m.cls := findClass_of_methodNamed B.named
  have hlocks := B.notSynchronized
  have hS : va_S (cE N [11]) s.heap s.heap [] := va_S.rf
  have hl := lv_entry ([.ref h0]) (n := 2) (Nat.le_of_ble_eq_true rfl)
  rw [lg_entry_eq]
  generalize (lg_sl ([.ref h0]) ++ List.replicate (2 - (lg_sl ([.ref h0])).length) Slot.unset).toArray = ls at hl ⊢
  have hl : lv_has ls 2 [(0, .ref h0)] := hl
  refine wq_all ?_
  intro WW w1 w2
  refine lv_aload_n hx hb dX11_changesSides_0 rfl (lv_at hl 0 rfl) ?_
  refine wt_getp hx hb hts cfX11 hown hK hW (cg11 k0) rfl 2 (by decide) (Or.inl (hts _ q874)) dX11_changesSides_1 (fun v hv nh0_2 => ?_)
  obtain ⟨x1, rfl, r1⟩ : gi 0 5 v := hv
  refine lv_istore_n (lv' := [(1, .int x1), (0, .ref h0)]) hx hb dX11_changesSides_4 rfl hl (by decide) rfl (fun ls hl => ?_)
  refine lv_aload_n hx hb dX11_changesSides_5 rfl (lv_at hl 1 rfl) ?_
  refine lv_aload_n hx hb dX11_changesSides_6 rfl (lv_at hl 1 rfl) ?_
  refine wt_getp hx hb hts cfX11 hown hK hW (cg11 k0) rfl 3 (by decide) (Or.inl (hts _ q875)) dX11_changesSides_7 (fun v hv nh0_3 => ?_)
  obtain ⟨x7, rfl, r7⟩ : gi 0 5 v := hv
  refine wt_putp hx hb hts cfX11 tyX11 tyX11_ok nmX11 hown hK hW hS (cg11 k0) (ce k0 (by decide)) rfl 2 (by decide) (Or.inl (hts _ q874)) rfl rfl rfl (gi_mk r7) dX11_changesSides_10 (fun H locs hW hS oq o2 np => ?_)
  have nh0_3 := o2 3 _ (by decide) (by decide) nh0_3
  have nh0_2 : wt_pin N.1 vwCl h0 11 2 (.int x7) H := np
  have hV := hV.put (by decide) o2
  have hI := mI.fr.put hI k0 oq o2 (by decide) (by decide)
  refine lv_aload_n hx hb dX11_changesSides_13 rfl (lv_at hl 1 rfl) ?_
  refine lv_iload_n hx hb dX11_changesSides_14 rfl (lv_at hl 0 rfl) ?_
  refine wt_putp hx hb hts cfX11 tyX11 tyX11_ok nmX11 hown hK hW hS (cg11 k0) (ce k0 (by decide)) rfl 3 (by decide) (Or.inl (hts _ q875)) rfl rfl rfl (gi_mk r1) dX11_changesSides_15 (fun H locs hW hS oq o2 np => ?_)
  have nh0_2 := o2 2 _ (by decide) (by decide) nh0_2
  have nh0_3 : wt_pin N.1 vwCl h0 11 3 (.int x1) H := np
  have hV := hV.put (by decide) o2
  have hI := mI.fr.put hI k0 oq o2 (by decide) (by decide)
  exact W.vret hx hb hr (fun t ht _ => ⟨⟨(), rfl, trivial, cW_at ht hW, ⟨mI_at ht hI, kp_at ht hV⟩⟩, hS.F ht⟩) hS.2.2 dX11_changesSides_18
set_option maxHeartbeats 4000000 in
set_option maxRecDepth 100000 in
theorem m_X11_areAlike (l : Launch) (N : c_N) (h0 : Nat) (k0 : N.2.2.1 h0 = some 11) (hO : mOK N) (V : Nat → Value) (p1 : Int32) (rp1 : ir p1 0 24) (p2 : Int32) (rp2 : ir p2 0 24) : cMi2 l yX11_areAlike cX11_areAlike 3 .boolean { frames := 0, cells := 0, slots := 0, locals := 0 } [.ref h0, .int p1, .int p2] N [] (fun H => mI N h0 H ∧ kp N h0 [] V H) (fun r => ir r 0 1) (fun _ H => mI N h0 H ∧ kp N h0 [] V H) := by
  refine Met.ofW (cc := cX11_areAlike) (maxL := 3) (ret := some .boolean) (by decide) rfl ?_
  intro p e s m args below meth c s₁ B hml hv
  obtain ⟨rfl, ⟨hK, hW, hT, hnn⟩, hB⟩ := hv
  obtain ⟨hI, hV⟩ := hB
  have hx := B.exec
  have hb := B.bytes
  have hr := B.returns
  have hts : ∀ w ∈ lw_g, w.before _ s = true := fun w h => atoms_spec (ws := wc_ws yX11_areAlike cX11_areAlike 3 (some .boolean)) B.pre w (List.mem_cons_of_mem _ h)
  have hown : s.vm.findClass RX11 = some m.cls := findClass_of_methodNamed B.named
  have hlocks := B.notSynchronized
  have hS : va_S (cE N []) s.heap s.heap [] := va_S.rf
  have hl := lv_entry ([.ref h0, .int p1, .int p2]) (n := 3) (Nat.le_of_ble_eq_true rfl)
  rw [lg_entry_eq]
  generalize (lg_sl ([.ref h0, .int p1, .int p2]) ++ List.replicate (3 - (lg_sl ([.ref h0, .int p1, .int p2])).length) Slot.unset).toArray = ls at hl ⊢
  have hl : lv_has ls 3 [(0, .ref h0), (1, .int p1), (2, .int p2)] := hl
  refine wq_all ?_
  intro WW w1 w2
  refine lv_aload_n hx hb dX11_areAlike_0 rfl (lv_at hl 0 rfl) ?_
  refine wt_get hx hb hts cfX11 hown hK hW (cg11 k0) rfl 4 (by decide) q876 dX11_areAlike_1 (fun v hv => ?_)
  obtain ⟨x1, rfl, k1⟩ : gr N 42 v := hv
  refine lv_iload_n hx hb dX11_areAlike_4 rfl (lv_at hl 1 rfl) ?_
  refine wt_iald hx hb hK hW 0 (cg42 k1) rfl (ir_in rp1 (by decide) (by decide)) dX11_areAlike_5 (fun v hv => ?_)
  obtain ⟨x5, rfl, r5⟩ : gi 0 5 v := hv
  refine lv_aload_n hx hb dX11_areAlike_6 rfl (lv_at hl 0 rfl) ?_
  refine wt_get hx hb hts cfX11 hown hK hW (cg11 k0) rfl 4 (by decide) q876 dX11_areAlike_7 (fun v hv => ?_)
  obtain ⟨x7, rfl, k7⟩ : gr N 42 v := hv
  refine lv_iload_n hx hb dX11_areAlike_10 rfl (lv_at hl 2 rfl) ?_
  refine wt_iald hx hb hK hW 0 (cg42 k7) rfl (ir_in rp2 (by decide) (by decide)) dX11_areAlike_11 (fun v hv => ?_)
  obtain ⟨x11, rfl, r11⟩ : gi 0 5 v := hv
  refine lv_icmp_ne (tgt := 49) hx hb dX11_areAlike_12 (by decide) (fun c12 => ?_) (fun c12 => ?_)
  · refine lv_iconst (v := 0) hx hb dX11_areAlike_49 (by decide) ?_
    exact W.zret (v := (0 : Int32)) hx hb hr rfl (fun t ht _ => ⟨⟨(0 : Int32), (0 : Int32), rfl, ⟨rfl, (⟨by decide, by decide⟩)⟩, cW_at ht hW, ⟨mI_at ht hI, kp_at ht hV⟩⟩, hS.F ht⟩) hS.2.2 dX11_areAlike_50
  · refine lv_aload_n hx hb dX11_areAlike_15 rfl (lv_at hl 0 rfl) ?_
    refine wt_get hx hb hts cfX11 hown hK hW (cg11 k0) rfl 5 (by decide) q877 dX11_areAlike_16 (fun v hv => ?_)
    obtain ⟨x16, rfl, k16⟩ : gr N 43 v := hv
    refine lv_iload_n hx hb dX11_areAlike_19 rfl (lv_at hl 1 rfl) ?_
    refine wt_ialdx hx hb hK hW 0 (cg43 k16) rfl (ir_in rp1 (by decide) (by decide)) dX11_areAlike_20 (fun v hv ap20 => ?_)
    obtain ⟨x20, rfl, r20⟩ : gi 0 6 v := hv
    refine lv_aload_n hx hb dX11_areAlike_21 rfl (lv_at hl 0 rfl) ?_
    refine wt_get hx hb hts cfX11 hown hK hW (cg11 k0) rfl 5 (by decide) q877 dX11_areAlike_22 (fun v hv => ?_)
    obtain ⟨x22, rfl, k22⟩ : gr N 43 v := hv
    refine lv_iload_n hx hb dX11_areAlike_25 rfl (lv_at hl 2 rfl) ?_
    refine wt_ialdx hx hb hK hW 0 (cg43 k22) rfl (ir_in rp2 (by decide) (by decide)) dX11_areAlike_26 (fun v hv ap26 => ?_)
    obtain ⟨x26, rfl, r26⟩ : gi 0 6 v := hv
    refine lv_icmp_ne (tgt := 49) hx hb dX11_areAlike_27 (by decide) (fun c27 => ?_) (fun c27 => ?_)
    · refine lv_iconst (v := 0) hx hb dX11_areAlike_49 (by decide) ?_
      exact W.zret (v := (0 : Int32)) hx hb hr rfl (fun t ht _ => ⟨⟨(0 : Int32), (0 : Int32), rfl, ⟨rfl, (⟨by decide, by decide⟩)⟩, cW_at ht hW, ⟨mI_at ht hI, kp_at ht hV⟩⟩, hS.F ht⟩) hS.2.2 dX11_areAlike_50
    · refine lv_aload_n hx hb dX11_areAlike_30 rfl (lv_at hl 0 rfl) ?_
      refine wt_get hx hb hts cfX11 hown hK hW (cg11 k0) rfl 6 (by decide) q878 dX11_areAlike_31 (fun v hv => ?_)
      obtain ⟨x31, rfl, k31⟩ : gr N 44 v := hv
      refine lv_iload_n hx hb dX11_areAlike_34 rfl (lv_at hl 1 rfl) ?_
      refine wt_ialdx hx hb hK hW 0 (cg44 k31) rfl (ir_in rp1 (by decide) (by decide)) dX11_areAlike_35 (fun v hv ap35 => ?_)
      obtain ⟨x35, rfl, r35⟩ : gi 0 6 v := hv
      refine lv_aload_n hx hb dX11_areAlike_36 rfl (lv_at hl 0 rfl) ?_
      refine wt_get hx hb hts cfX11 hown hK hW (cg11 k0) rfl 6 (by decide) q878 dX11_areAlike_37 (fun v hv => ?_)
      obtain ⟨x37, rfl, k37⟩ : gr N 44 v := hv
      refine lv_iload_n hx hb dX11_areAlike_40 rfl (lv_at hl 2 rfl) ?_
      refine wt_ialdx hx hb hK hW 0 (cg44 k37) rfl (ir_in rp2 (by decide) (by decide)) dX11_areAlike_41 (fun v hv ap41 => ?_)
      obtain ⟨x41, rfl, r41⟩ : gi 0 6 v := hv
      refine lv_icmp_ne (tgt := 49) hx hb dX11_areAlike_42 (by decide) (fun c42 => ?_) (fun c42 => ?_)
      · refine lv_iconst (v := 0) hx hb dX11_areAlike_49 (by decide) ?_
        exact W.zret (v := (0 : Int32)) hx hb hr rfl (fun t ht _ => ⟨⟨(0 : Int32), (0 : Int32), rfl, ⟨rfl, (⟨by decide, by decide⟩)⟩, cW_at ht hW, ⟨mI_at ht hI, kp_at ht hV⟩⟩, hS.F ht⟩) hS.2.2 dX11_areAlike_50
      · refine lv_iconst (v := 1) hx hb dX11_areAlike_45 (by decide) ?_
        refine lv_goto (tgt := 50) hx hb dX11_areAlike_46 (by decide) ?_
        exact W.zret (v := (1 : Int32)) hx hb hr rfl (fun t ht _ => ⟨⟨(1 : Int32), (1 : Int32), rfl, ⟨rfl, (⟨by decide, by decide⟩)⟩, cW_at ht hW, ⟨mI_at ht hI, kp_at ht hV⟩⟩, hS.F ht⟩) hS.2.2 dX11_areAlike_50
set_option maxHeartbeats 4000000 in
set_option maxRecDepth 100000 in
theorem m_X11_end (l : Launch) (N : c_N) (h0 : Nat) (k0 : N.2.2.1 h0 = some 11) (hO : mOK N) (V : Nat → Value) (p1 : Int32) : cMi2 l yX11_end cX11_end 2 .boolean { frames := 1, cells := 0, slots := 0, locals := 25 } [.ref h0, .int p1] N [11] (fun H => mI N h0 H ∧ kp N h0 [15] V H) (fun r => ir r 0 1) (fun _ H => mI N h0 H ∧ kp N h0 [15] V H) := by
  refine Met.ofW (cc := cX11_end) (maxL := 2) (ret := some .boolean) (by decide) rfl ?_
  intro p e s m args below meth c s₁ B hml hv
  obtain ⟨rfl, ⟨hK, hW, hT, hnn⟩, hB⟩ := hv
  obtain ⟨hI, hV⟩ := hB
  have hx := B.exec
  have hb := B.bytes
  have hr := B.returns
  have hts : ∀ w ∈ lw_g, w.before _ s = true := fun w h => atoms_spec (ws := wc_ws yX11_end cX11_end 2 (some .boolean)) B.pre w (List.mem_cons_of_mem _ h)
  have hown : s.vm.findClass RX11 = some m.cls := findClass_of_methodNamed B.named
  have hlocks := B.notSynchronized
  have hS : va_S (cE N [11]) s.heap s.heap [] := va_S.rf
  have hl := lv_entry ([.ref h0, .int p1]) (n := 2) (Nat.le_of_ble_eq_true rfl)
  rw [lg_entry_eq]
  generalize (lg_sl ([.ref h0, .int p1]) ++ List.replicate (2 - (lg_sl ([.ref h0, .int p1])).length) Slot.unset).toArray = ls at hl ⊢
  have hl : lv_has ls 2 [(0, .ref h0), (1, .int p1)] := hl
  refine wq_all ?_
  intro WW w1 w2
  refine lv_iload_n hx hb dX11_end_0 rfl (lv_at hl 1 rfl) ?_
  refine lv_i2l hx hb dX11_end_1 rfl ?_
  refine lv_topl (fun x1 e1 => ?_)
  have r1 : lr x1 (-2147483648) 2147483647 := by rw [e1]; exact i2l_r (ir_any p1)
  refine lv_lconst (v := 0) hx hb dX11_end_2 (by decide) ?_
  refine lv_aload_n hx hb dX11_end_3 rfl (lv_at hl 0 rfl) ?_
  refine wt_getp hx hb hts cfX11 hown hK hW (cg11 k0) rfl 15 (by decide) (Or.inl (hts _ q887)) dX11_end_4 (fun v hv nh0_15 => ?_)
  obtain ⟨x4, rfl, r4⟩ : gi 0 200 v := hv
  refine lv_i2l hx hb dX11_end_7 rfl ?_
  refine lv_topl (fun x7 e7 => ?_)
  have r7 : lr x7 0 200 := by rw [e7]; exact i2l_r r4
  refine cp_i (wt_runS (As := [.long x1, .long (0 : Int64), .long x7]) (rest := []) ⟨hx, hb, hml, hown, hts⟩ (m_X11_isIn l x1 (0 : Int64) x7) wm_X11_isIn q1050 ⟨rfl, rfl⟩ ⟨Nat.le_of_ble_eq_true rfl, Nat.le_of_ble_eq_true rfl⟩ pS_pre rfl hl.1 rfl (Nat.le_of_ble_eq_true rfl) dX11_end_8 ⟨Nat.zero_le _, Nat.zero_le _⟩) hW hS (fun x8 H locs hp hW1 hS oq => ?_)
  have hV := hV.same hW k0 oq
  have hI := mI.fr.same hI hW oq
  have hW := hW1
  have nh0_15 := nh0_15.kept (oq _ nh0_15.lt (cE_not k0 (by decide)))
  obtain ⟨r8, b8⟩ := hp
  refine lv_if_ne (tgt := 16) hx hb dX11_end_11 (by decide) (fun c11 => ?_) (fun c11 => ?_)
  · have rx8_11 : ir x8 1 1 := rf_ne0 c11 r8
    have bx8_11 := b8 c11
    have rbx1_11 : lr x1 0 200 := by have h5 := bx8_11; have h6 := r1; have h7 := (lr_c (0) (by decide) : lr (0 : Int64) (0) (0)); have h8 := r7; constructor <;> omega
    have rp1_11 : ir p1 0 200 := i2l_b e1 rbx1_11
    refine lv_aload_n hx hb dX11_end_16 rfl (lv_at hl 0 rfl) ?_
    refine lv_iload_n hx hb dX11_end_17 rfl (lv_at hl 1 rfl) ?_
    refine wt_putp hx hb hts cfX11 tyX11 tyX11_ok nmX11 hown hK hW hS (cg11 k0) (ce k0 (by decide)) rfl 15 (by decide) (Or.inl (hts _ q887)) rfl rfl rfl (gi_mk rp1_11) dX11_end_18 (fun H locs hW hS oq o2 np => ?_)
    have nh0_15 : wt_pin N.1 vwCl h0 11 15 (.int p1) H := np
    have hV := hV.put (by decide) o2
    have hI := mI.fr.put hI k0 oq o2 (by decide) (by decide)
    refine lv_iconst (v := 1) hx hb dX11_end_21 (by decide) ?_
    exact W.zret (v := (1 : Int32)) hx hb hr rfl (fun t ht _ => ⟨⟨(1 : Int32), (1 : Int32), rfl, ⟨rfl, (⟨by decide, by decide⟩)⟩, cW_at ht hW, ⟨mI_at ht hI, kp_at ht hV⟩⟩, hS.F ht⟩) hS.2.2 dX11_end_22
  · have rx8_11 : ir x8 0 0 := rf_eq c11 (ir_c (0) (by decide) : ir (0 : Int32) (0) (0))
    refine lv_iconst (v := 0) hx hb dX11_end_14 (by decide) ?_
    exact W.zret (v := (0 : Int32)) hx hb hr rfl (fun t ht _ => ⟨⟨(0 : Int32), (0 : Int32), rfl, ⟨rfl, (⟨by decide, by decide⟩)⟩, cW_at ht hW, ⟨mI_at ht hI, kp_at ht hV⟩⟩, hS.F ht⟩) hS.2.2 dX11_end_15
set_option maxHeartbeats 4000000 in
set_option maxRecDepth 100000 in
theorem m_X11_fails (l : Launch) (N : c_N) (h0 : Nat) (k0 : N.2.2.1 h0 = some 11) (hO : mOK N) (V : Nat → Value) (p1 : Int32) (p2 : Int32) (hk : ¬ p1 = 0) : cMv l yX11_fails cX11_fails 3 { frames := 0, cells := 0, slots := 0, locals := 0 } [.ref h0, .int p1, .int p2] N [11] (fun H => mI N h0 H ∧ kp N h0 [19, 20] V H) (fun H => mI N h0 H ∧ kp N h0 [19, 20] V H ∧ ∃ y : Int32, pI N h0 19 y H ∧ ¬ y = 0) := by
  refine Met.ofW (cc := cX11_fails) (maxL := 3) (ret := none) (by decide) rfl ?_
  intro p e s m args below meth c s₁ B hml hv
  obtain ⟨rfl, ⟨hK, hW, hT, hnn⟩, hB⟩ := hv
  obtain ⟨hI, hV⟩ := hB
  have hx := B.exec
  have hb := B.bytes
  have hr := B.returns
  have hts : ∀ w ∈ lw_g, w.before _ s = true := fun w h => atoms_spec (ws := wc_ws yX11_fails cX11_fails 3 none) B.pre w (List.mem_cons_of_mem _ h)
  have hown : s.vm.findClass RX11 = some m.cls := findClass_of_methodNamed B.named
  have hlocks := B.notSynchronized
  have hS : va_S (cE N [11]) s.heap s.heap [] := va_S.rf
  have hl := lv_entry ([.ref h0, .int p1, .int p2]) (n := 3) (Nat.le_of_ble_eq_true rfl)
  rw [lg_entry_eq]
  generalize (lg_sl ([.ref h0, .int p1, .int p2]) ++ List.replicate (3 - (lg_sl ([.ref h0, .int p1, .int p2])).length) Slot.unset).toArray = ls at hl ⊢
  have hl : lv_has ls 3 [(0, .ref h0), (1, .int p1), (2, .int p2)] := hl
  refine wq_all ?_
  intro WW w1 w2
  refine lv_aload_n hx hb dX11_fails_0 rfl (lv_at hl 0 rfl) ?_
  refine wt_getp hx hb hts cfX11 hown hK hW (cg11 k0) rfl 19 (by decide) (Or.inl (hts _ q891)) dX11_fails_1 (fun v hv nh0_19 => ?_)
  obtain ⟨x1, rfl⟩ : ga v := hv
  refine lv_if_eq (tgt := 8) hx hb dX11_fails_4 (by decide) (fun c4 => ?_) (fun c4 => ?_)
  · have rx1_4 : ir x1 0 0 := rf_eq c4 (ir_c (0) (by decide) : ir (0 : Int32) (0) (0))
    refine lv_aload_n hx hb dX11_fails_8 rfl (lv_at hl 0 rfl) ?_
    refine lv_iload_n hx hb dX11_fails_9 rfl (lv_at hl 1 rfl) ?_
    refine wt_putp hx hb hts cfX11 tyX11 tyX11_ok nmX11 hown hK hW hS (cg11 k0) (ce k0 (by decide)) rfl 19 (by decide) (Or.inl (hts _ q891)) rfl rfl rfl ga_mk dX11_fails_10 (fun H locs hW hS oq o2 np => ?_)
    have nh0_19 : wt_pin N.1 vwCl h0 11 19 (.int p1) H := np
    have hV := hV.put (by decide) o2
    have hI := mI.fr.put hI k0 oq o2 (by decide) (by decide)
    refine lv_aload_n hx hb dX11_fails_13 rfl (lv_at hl 0 rfl) ?_
    refine lv_iload_n hx hb dX11_fails_14 rfl (lv_at hl 2 rfl) ?_
    refine wt_putp hx hb hts cfX11 tyX11 tyX11_ok nmX11 hown hK hW hS (cg11 k0) (ce k0 (by decide)) rfl 20 (by decide) (Or.inl (hts _ q892)) rfl rfl rfl ga_mk dX11_fails_15 (fun H locs hW hS oq o2 np => ?_)
    have nh0_19 := o2 19 _ (by decide) (by decide) nh0_19
    have nh0_20 : wt_pin N.1 vwCl h0 11 20 (.int p2) H := np
    have hV := hV.put (by decide) o2
    have hI := mI.fr.put hI k0 oq o2 (by decide) (by decide)
    exact W.vret hx hb hr (fun t ht _ => ⟨⟨(), rfl, trivial, cW_at ht hW, ⟨mI_at ht hI, kp_at ht hV, ⟨_, pin_at ht nh0_19, hk⟩⟩⟩, hS.F ht⟩) hS.2.2 dX11_fails_18
  · exact W.vret hx hb hr (fun t ht _ => ⟨⟨(), rfl, trivial, cW_at ht hW, ⟨mI_at ht hI, kp_at ht hV, ⟨_, pin_at ht nh0_19, c4⟩⟩⟩, hS.F ht⟩) hS.2.2 dX11_fails_7
set_option maxHeartbeats 4000000 in
set_option maxRecDepth 100000 in
theorem m_X11_fault (l : Launch) (N : c_N) (h0 : Nat) (k0 : N.2.2.1 h0 = some 11) (hO : mOK N) (V : Nat → Value) (p1 : Int32) : cMi2 l yX11_fault cX11_fault 2 .int { frames := 0, cells := 0, slots := 0, locals := 0 } [.ref h0, .int p1] N [] (fun H => mI N h0 H ∧ kp N h0 [] V H) (fun _ => True) (fun _ H => mI N h0 H ∧ kp N h0 [] V H) := by
  refine Met.ofW (cc := cX11_fault) (maxL := 2) (ret := some .int) (by decide) rfl ?_
  intro p e s m args below meth c s₁ B hml hv
  obtain ⟨rfl, ⟨hK, hW, hT, hnn⟩, hB⟩ := hv
  obtain ⟨hI, hV⟩ := hB
  have hx := B.exec
  have hb := B.bytes
  have hr := B.returns
  have hts : ∀ w ∈ lw_g, w.before _ s = true := fun w h => atoms_spec (ws := wc_ws yX11_fault cX11_fault 2 (some .int)) B.pre w (List.mem_cons_of_mem _ h)
  have hown : s.vm.findClass RX11 = some m.cls := findClass_of_methodNamed B.named
  have hlocks := B.notSynchronized
  have hS : va_S (cE N []) s.heap s.heap [] := va_S.rf
  have hl := lv_entry ([.ref h0, .int p1]) (n := 2) (Nat.le_of_ble_eq_true rfl)
  rw [lg_entry_eq]
  generalize (lg_sl ([.ref h0, .int p1]) ++ List.replicate (2 - (lg_sl ([.ref h0, .int p1])).length) Slot.unset).toArray = ls at hl ⊢
  have hl : lv_has ls 2 [(0, .ref h0), (1, .int p1)] := hl
  refine wq_all ?_
  intro WW w1 w2
  refine lv_iload_n hx hb dX11_fault_0 rfl (lv_at hl 1 rfl) ?_
  refine lv_if_ne (tgt := 11) hx hb dX11_fault_1 (by decide) (fun c1 => ?_) (fun c1 => ?_)
  · refine lv_iload_n hx hb dX11_fault_11 rfl (lv_at hl 1 rfl) ?_
    refine lv_iconst (v := 1) hx hb dX11_fault_12 (by decide) ?_
    refine lv_icmp_ne (tgt := 23) hx hb dX11_fault_13 (by decide) (fun c13 => ?_) (fun c13 => ?_)
    · refine lv_iconst (v := -1) hx hb dX11_fault_23 (by decide) ?_
      exact W.iret (v := (-1 : Int32)) hx hb hr (fun t ht _ => ⟨⟨(-1 : Int32), (-1 : Int32), rfl, ⟨rfl, trivial⟩, cW_at ht hW, ⟨mI_at ht hI, kp_at ht hV⟩⟩, hS.F ht⟩) hS.2.2 dX11_fault_24
    · have rp1_13 : ir p1 1 1 := rf_eq c13 (ir_c (1) (by decide) : ir (1 : Int32) (1) (1))
      refine lv_aload_n hx hb dX11_fault_16 rfl (lv_at hl 0 rfl) ?_
      refine wt_getp hx hb hts cfX11 hown hK hW (cg11 k0) rfl 17 (by decide) (Or.inl (hts _ q889)) dX11_fault_17 (fun v hv nh0_17 => ?_)
      obtain ⟨x17, rfl⟩ : ga v := hv
      refine lv_goto (tgt := 24) hx hb dX11_fault_20 (by decide) ?_
      exact W.iret (v := x17) hx hb hr (fun t ht _ => ⟨⟨x17, x17, rfl, ⟨rfl, trivial⟩, cW_at ht hW, ⟨mI_at ht hI, kp_at ht hV⟩⟩, hS.F ht⟩) hS.2.2 dX11_fault_24
  · have rp1_1 : ir p1 0 0 := rf_eq c1 (ir_c (0) (by decide) : ir (0 : Int32) (0) (0))
    refine lv_aload_n hx hb dX11_fault_4 rfl (lv_at hl 0 rfl) ?_
    refine wt_getp hx hb hts cfX11 hown hK hW (cg11 k0) rfl 16 (by decide) (Or.inl (hts _ q888)) dX11_fault_5 (fun v hv nh0_16 => ?_)
    obtain ⟨x5, rfl⟩ : ga v := hv
    refine lv_goto (tgt := 24) hx hb dX11_fault_8 (by decide) ?_
    exact W.iret (v := x5) hx hb hr (fun t ht _ => ⟨⟨x5, x5, rfl, ⟨rfl, trivial⟩, cW_at ht hW, ⟨mI_at ht hI, kp_at ht hV⟩⟩, hS.F ht⟩) hS.2.2 dX11_fault_24
set_option maxHeartbeats 4000000 in
set_option maxRecDepth 100000 in
theorem m_X11_isMark (l : Launch) (N : c_N) (h0 : Nat) (k0 : N.2.2.1 h0 = some 11) (hO : mOK N) (V : Nat → Value) (p1 : Int32) : cMi2 l yX11_isMark cX11_isMark 2 .boolean { frames := 1, cells := 0, slots := 0, locals := 25 } [.ref h0, .int p1] N [] (fun H => mI N h0 H ∧ kp N h0 [] V H) (fun r => ir r 0 1 ∧ (¬ r = 0 → ir p1 1 4)) (fun _ H => mI N h0 H ∧ kp N h0 [] V H) := by
  refine Met.ofW (cc := cX11_isMark) (maxL := 2) (ret := some .boolean) (by decide) rfl ?_
  intro p e s m args below meth c s₁ B hml hv
  obtain ⟨rfl, ⟨hK, hW, hT, hnn⟩, hB⟩ := hv
  obtain ⟨hI, hV⟩ := hB
  have hx := B.exec
  have hb := B.bytes
  have hr := B.returns
  have hts : ∀ w ∈ lw_g, w.before _ s = true := fun w h => atoms_spec (ws := wc_ws yX11_isMark cX11_isMark 2 (some .boolean)) B.pre w (List.mem_cons_of_mem _ h)
  have hown : s.vm.findClass RX11 = some m.cls := findClass_of_methodNamed B.named
  have hlocks := B.notSynchronized
  have hS : va_S (cE N []) s.heap s.heap [] := va_S.rf
  have hl := lv_entry ([.ref h0, .int p1]) (n := 2) (Nat.le_of_ble_eq_true rfl)
  rw [lg_entry_eq]
  generalize (lg_sl ([.ref h0, .int p1]) ++ List.replicate (2 - (lg_sl ([.ref h0, .int p1])).length) Slot.unset).toArray = ls at hl ⊢
  have hl : lv_has ls 2 [(0, .ref h0), (1, .int p1)] := hl
  refine wq_all ?_
  intro WW w1 w2
  refine lv_iload_n hx hb dX11_isMark_0 rfl (lv_at hl 1 rfl) ?_
  refine lv_i2l hx hb dX11_isMark_1 rfl ?_
  refine lv_topl (fun x1 e1 => ?_)
  have r1 : lr x1 (-2147483648) 2147483647 := by rw [e1]; exact i2l_r (ir_any p1)
  have t1 : x1.toInt = p1.toInt := by rw [e1]; exact Int32.toInt_toInt64 p1
  refine lv_lconst (v := 1) hx hb dX11_isMark_2 (by decide) ?_
  refine lv_ldc2 hx hb hown (hts _ q1208) dX11_isMark_3 ?_
  refine cp_i (wt_runS (As := [.long x1, .long (1 : Int64), .long (4 : Int64)]) (rest := []) ⟨hx, hb, hml, hown, hts⟩ (m_X11_isIn l x1 (1 : Int64) (4 : Int64)) wm_X11_isIn q1050 ⟨rfl, rfl⟩ ⟨Nat.le_of_ble_eq_true rfl, Nat.le_of_ble_eq_true rfl⟩ pS_pre rfl hl.1 rfl (Nat.le_of_ble_eq_true rfl) dX11_isMark_6 ⟨Nat.zero_le _, Nat.zero_le _⟩) hW hS (fun x6 H locs hp hW1 hS oq => ?_)
  have hV := hV.same hW k0 oq
  have hI := mI.fr.same hI hW oq
  have hW := hW1
  obtain ⟨r6, b6⟩ := hp
  exact W.zret (v := x6) hx hb hr (nar01 r6) (fun t ht _ => ⟨⟨x6, x6, rfl, ⟨rfl, (⟨r6, fun h => (by have h5 := b6 h; have h60 := r1; have h61 := (lr_c (1) (by decide) : lr (1 : Int64) (1) (1)); have h62 := (lr_c (4) (by decide) : lr (4 : Int64) (4) (4)); constructor <;> omega)⟩)⟩, cW_at ht hW, ⟨mI_at ht hI, kp_at ht hV⟩⟩, hS.F ht⟩) hS.2.2 dX11_isMark_9
set_option maxHeartbeats 4000000 in
set_option maxRecDepth 100000 in
theorem m_X11_manyOf (l : Launch) (N : c_N) (h0 : Nat) (k0 : N.2.2.1 h0 = some 11) (hO : mOK N) (V : Nat → Value) (p1 : Int32) (rp1 : ir p1 (-1) 24) (g7 : Int32) (hm : -1 ≤ p1.toInt ∧ p1.toInt ≤ g7.toInt) : cMi2 l yX11_manyOf cX11_manyOf 2 .int { frames := 0, cells := 0, slots := 0, locals := 0 } [.ref h0, .int p1] N [] (fun H => mI N h0 H ∧ kp N h0 [] V H ∧ wt_pin N.1 vwCl h0 11 7 (.int g7) H) (fun r => ir r 0 24) (fun r H => mI N h0 H ∧ kp N h0 [] V H ∧ r.toInt ≤ g7.toInt) := by
  refine Met.ofW (cc := cX11_manyOf) (maxL := 2) (ret := some .int) (by decide) rfl ?_
  intro p e s m args below meth c s₁ B hml hv
  obtain ⟨rfl, ⟨hK, hW, hT, hnn⟩, hB⟩ := hv
  obtain ⟨hI, hV, hB⟩ := hB
  have nh0_7 := hB
  have rg7 : ir g7 0 24 := gi_r (cpin_P hW (cg11 k0) rfl (by decide) nh0_7)
  have hx := B.exec
  have hb := B.bytes
  have hr := B.returns
  have hts : ∀ w ∈ lw_g, w.before _ s = true := fun w h => atoms_spec (ws := wc_ws yX11_manyOf cX11_manyOf 2 (some .int)) B.pre w (List.mem_cons_of_mem _ h)
  have hown : s.vm.findClass RX11 = some m.cls := findClass_of_methodNamed B.named
  have hlocks := B.notSynchronized
  have hS : va_S (cE N []) s.heap s.heap [] := va_S.rf
  have hl := lv_entry ([.ref h0, .int p1]) (n := 2) (Nat.le_of_ble_eq_true rfl)
  rw [lg_entry_eq]
  generalize (lg_sl ([.ref h0, .int p1]) ++ List.replicate (2 - (lg_sl ([.ref h0, .int p1])).length) Slot.unset).toArray = ls at hl ⊢
  have hl : lv_has ls 2 [(0, .ref h0), (1, .int p1)] := hl
  refine wq_all ?_
  intro WW w1 w2
  refine lv_iload_n hx hb dX11_manyOf_0 rfl (lv_at hl 1 rfl) ?_
  refine lv_iconst (v := -1) hx hb dX11_manyOf_1 (by decide) ?_
  refine lv_icmp_ne (tgt := 12) hx hb dX11_manyOf_2 (by decide) (fun c2 => ?_) (fun c2 => ?_)
  · have rp1_2 : ir p1 0 24 := rf_nel c2 rp1 (by decide) (by decide)
    refine lv_iload_n hx hb dX11_manyOf_12 rfl (lv_at hl 1 rfl) ?_
    exact W.iret (v := p1) hx hb hr (fun t ht _ => ⟨⟨p1, p1, rfl, ⟨rfl, rp1_2⟩, cW_at ht hW, ⟨mI_at ht hI, kp_at ht hV, by omega⟩⟩, hS.F ht⟩) hS.2.2 dX11_manyOf_13
  · have rp1_2 : ir p1 (-1) (-1) := rf_eq c2 (ir_c (-1) (by decide) : ir (-1 : Int32) (-1) (-1))
    refine lv_aload_n hx hb dX11_manyOf_5 rfl (lv_at hl 0 rfl) ?_
    refine wt_rel hx hb hts cfX11 hown hK nh0_7 rfl (by decide) (Or.inl (hts _ q879)) dX11_manyOf_6 ?_
    refine lv_goto (tgt := 13) hx hb dX11_manyOf_9 (by decide) ?_
    exact W.iret (v := g7) hx hb hr (fun t ht _ => ⟨⟨g7, g7, rfl, ⟨rfl, rg7⟩, cW_at ht hW, ⟨mI_at ht hI, kp_at ht hV, by omega⟩⟩, hS.F ht⟩) hS.2.2 dX11_manyOf_13
set_option maxHeartbeats 4000000 in
set_option maxRecDepth 100000 in
theorem m_X11_isSameTurned (l : Launch) (N : c_N) (h0 : Nat) (k0 : N.2.2.1 h0 = some 11) (hO : mOK N) (V : Nat → Value) : cMi2 l yX11_isSameTurned cX11_isSameTurned 2 .boolean { frames := 1, cells := 0, slots := 0, locals := 22 } [.ref h0] N [] (fun H => mI N h0 H ∧ kp N h0 [] V H) (fun r => ir r 0 1) (fun _ H => mI N h0 H ∧ kp N h0 [] V H) := by
  refine Met.ofW (cc := cX11_isSameTurned) (maxL := 2) (ret := some .boolean) (by decide) rfl ?_
  intro p e s m args below meth c s₁ B hml hv
  obtain ⟨rfl, ⟨hK, hW, hT, hnn⟩, hB⟩ := hv
  obtain ⟨hI, hV⟩ := hB
  have hx := B.exec
  have hb := B.bytes
  have hr := B.returns
  have hts : ∀ w ∈ lw_g, w.before _ s = true := fun w h => atoms_spec (ws := wc_ws yX11_isSameTurned cX11_isSameTurned 2 (some .boolean)) B.pre w (List.mem_cons_of_mem _ h)
  have hown : s.vm.findClass RX11 = some m.cls := findClass_of_methodNamed B.named
  have hlocks := B.notSynchronized
  have hS : va_S (cE N []) s.heap s.heap [] := va_S.rf
  have hl := lv_entry ([.ref h0]) (n := 2) (Nat.le_of_ble_eq_true rfl)
  rw [lg_entry_eq]
  generalize (lg_sl ([.ref h0]) ++ List.replicate (2 - (lg_sl ([.ref h0])).length) Slot.unset).toArray = ls at hl ⊢
  have hl : lv_has ls 2 [(0, .ref h0)] := hl
  refine wq_all ?_
  intro WW w1 w2
  have L2 : ∀ (n : Nat) (H : Heap) (locs : List Loc) (ls : Array Slot) (v2_1 : Int32), cW N H → mI N h0 H → kp N h0 [] V H → va_S (cE N []) s.heap H locs → lv_has ls 2 [(0, .ref h0), (1, .int v2_1)] → ir v2_1 0 24 → 24 - v2_1.toInt < (n : Int) → WW H locs (F0 m 2 ls []) := by
    intro n
    induction n with
    | zero =>
      intro H locs ls v2_1 hW hI hV hS hl rv2_1 mu2
      exfalso
      omega
    | succ n ih2 =>
      intro H locs ls v2_1 hW hI hV hS hl rv2_1 mu2
      refine w1 _ _ _ ?_
      refine lv_iload_n hx hb dX11_isSameTurned_2 rfl (lv_at hl 1 rfl) ?_
      refine lv_aload_n hx hb dX11_isSameTurned_3 rfl (lv_at hl 0 rfl) ?_
      refine wt_getp hx hb hts cfX11 hown hK hW (cg11 k0) rfl 7 (by decide) (Or.inl (hts _ q879)) dX11_isSameTurned_4 (fun v hv nh0_7 => ?_)
      obtain ⟨x4, rfl, r4⟩ : gi 0 24 v := hv
      refine lv_icmp_ge (tgt := 34) hx hb dX11_isSameTurned_7 (by decide) (fun c7 => ?_) (fun c7 => ?_)
      · have d7 := Int32.le_iff_toInt_le.mp c7
        refine lv_iconst (v := 1) hx hb dX11_isSameTurned_34 (by decide) ?_
        exact W.zret (v := (1 : Int32)) hx hb hr rfl (fun t ht _ => ⟨⟨(1 : Int32), (1 : Int32), rfl, ⟨rfl, (⟨by decide, by decide⟩)⟩, cW_at ht hW, ⟨mI_at ht hI, kp_at ht hV⟩⟩, hS.F ht⟩) hS.2.2 dX11_isSameTurned_35
      · have rv2_1_7 : ir v2_1 0 23 := ⟨(rv2_1).1, Int.le_trans (rf_lt (rf_nle c7) rv2_1 r4).1 (by decide)⟩
        have rx4_7 : ir x4 1 24 := ⟨Int.le_trans (by decide) (rf_lt (rf_nle c7) rv2_1 r4).2, (r4).2⟩
        have d7 := Int32.lt_iff_toInt_lt.mp (rf_nle c7)
        refine lv_aload_n hx hb dX11_isSameTurned_10 rfl (lv_at hl 0 rfl) ?_
        refine lv_iload_n hx hb dX11_isSameTurned_11 rfl (lv_at hl 1 rfl) ?_
        refine lv_aload_n hx hb dX11_isSameTurned_12 rfl (lv_at hl 0 rfl) ?_
        refine wt_rel hx hb hts cfX11 hown hK nh0_7 rfl (by decide) (Or.inl (hts _ q879)) dX11_isSameTurned_13 ?_
        refine lv_iconst (v := 1) hx hb dX11_isSameTurned_16 (by decide) ?_
        refine lv_isub hx hb dX11_isSameTurned_17 ?_
        refine lv_topi (fun x17 e17 => ?_)
        have t17 : x17.toInt = x4.toInt - (1) := it_sub e17 rx4_7 (ir_c (1) (by decide) : ir (1 : Int32) (1) (1)) (by decide) (by decide)
        have r17 : ir x17 0 23 := ir_w (ir_sub e17 rx4_7 (ir_c (1) (by decide) : ir (1 : Int32) (1) (1)) (by decide) (by decide)) (by decide) (by decide)
        refine lv_iload_n hx hb dX11_isSameTurned_18 rfl (lv_at hl 1 rfl) ?_
        refine lv_isub hx hb dX11_isSameTurned_19 ?_
        refine lv_topi (fun x19 e19 => ?_)
        have t19 : x19.toInt = x17.toInt - v2_1.toInt := it_sub e19 r17 rv2_1_7 (by decide) (by decide)
        have r19 : ir x19 0 23 := by have h6 := r17; have h7 := rv2_1_7; constructor <;> omega
        obtain ⟨V1, hV1⟩ := kp_all hW k0
        refine cc_i2 (B2 := fun _ H => mI N h0 H ∧ kp N h0 [] V1 H) (wt_runV (As := [.int v2_1, .int x19]) (rest := []) ⟨hx, hb, hml, hown, hts⟩ (m_X11_areAlike l N h0 k0 hO V1 v2_1 (ir_w (lo' := 0) (hi' := 24) rv2_1_7 (by decide) (by decide)) x19 (ir_w (lo' := 0) (hi' := 24) r19 (by decide) (by decide))) wm_X11_areAlike q1116 ⟨rfl, rfl⟩ ⟨Nat.le_of_ble_eq_true rfl, Nat.le_of_ble_eq_true rfl⟩ (cS_preV (B := fun H => mI N h0 H ∧ kp N h0 [] V1 H) hK hW hT hnn hS (cg11 k0) rfl rfl (And.intro hI (kp_of (F := []) hV1))) rfl hl.1 rfl (Nat.le_of_ble_eq_true rfl) dX11_isSameTurned_20 ⟨Nat.zero_le _, Nat.zero_le _⟩) hS (by decide) (fun x20 H locs hp hW hS oq hB2 => ?_)
        obtain ⟨hI, hV2⟩ := hB2
        have hV := kp_call hV hV1 hV2 (by decide)
        have nh0_7 := kp_use hV1 hV2 (by decide) (by decide) nh0_7
        have r20 : ir x20 0 1 := hp
        refine lv_if_ne (tgt := 28) hx hb dX11_isSameTurned_23 (by decide) (fun c23 => ?_) (fun c23 => ?_)
        · have rx20_23 : ir x20 1 1 := rf_ne0 c23 r20
          obtain ⟨x28, e28⟩ : ∃ y : Int32, y = v2_1 + 1 := ⟨_, rfl⟩
          have r28 : ir x28 1 24 := ir_w (ir_add e28 rv2_1_7 (ir_c (1) (by decide) : ir (1 : Int32) (1) (1)) (by decide) (by decide)) (by decide) (by decide)
          have t28 : x28.toInt = v2_1.toInt + (1) := it_add e28 rv2_1_7 (ir_c (1) (by decide) : ir (1 : Int32) (1) (1)) (by decide) (by decide)
          refine lv_iinc (v := x28) (lv' := [(1, .int x28), (0, .ref h0)]) hx hb dX11_isSameTurned_28 hl (k := 1) rfl (by rw [e28]; rfl) (by decide) rfl (fun ls hl => ?_)
          refine lv_goto (tgt := 2) hx hb dX11_isSameTurned_31 (by decide) ?_
          exact w2 _ _ _ (ih2 _ _ _ x28 hW hI hV hS (lv_sub hl [1, 0] rfl) (ir_w (lo' := 0) (hi' := 24) r28 (by decide) (by decide)) (by have h9 := r28; omega))
        · have rx20_23 : ir x20 0 0 := rf_eq c23 (ir_c (0) (by decide) : ir (0 : Int32) (0) (0))
          refine lv_iconst (v := 0) hx hb dX11_isSameTurned_26 (by decide) ?_
          exact W.zret (v := (0 : Int32)) hx hb hr rfl (fun t ht _ => ⟨⟨(0 : Int32), (0 : Int32), rfl, ⟨rfl, (⟨by decide, by decide⟩)⟩, cW_at ht hW, ⟨mI_at ht hI, kp_at ht hV⟩⟩, hS.F ht⟩) hS.2.2 dX11_isSameTurned_27
  refine lv_iconst (v := 0) hx hb dX11_isSameTurned_0 (by decide) ?_
  refine lv_istore_n (lv' := [(1, .int (0 : Int32)), (0, .ref h0)]) hx hb dX11_isSameTurned_1 rfl hl (by decide) rfl (fun ls hl => ?_)
  exact w2 _ _ _ (L2 25 _ _ _ (0 : Int32) hW hI hV hS (lv_sub hl [1, 0] rfl) (ir_w (lo' := 0) (hi' := 24) (ir_c (0) (by decide) : ir (0 : Int32) (0) (0)) (by decide) (by decide)) (by have h9 := (ir_c (0) (by decide) : ir (0 : Int32) (0) (0)); omega))
set_option maxHeartbeats 4000000 in
set_option maxRecDepth 100000 in
theorem m_X11_canSlip (l : Launch) (N : c_N) (h0 : Nat) (k0 : N.2.2.1 h0 = some 11) (hO : mOK N) (V : Nat → Value) (p1 : Int32) (p2 : Int32) : cMi2 l yX11_canSlip cX11_canSlip 3 .boolean { frames := 2, cells := 0, slots := 0, locals := 46 } [.ref h0, .int p1, .int p2] N [] (fun H => mI N h0 H ∧ kp N h0 [] V H) (fun r => ir r 0 1 ∧ (¬ r = 0 → ir p1 1 4 ∧ ir p2 2 12)) (fun _ H => mI N h0 H ∧ kp N h0 [] V H) := by
  refine Met.ofW (cc := cX11_canSlip) (maxL := 3) (ret := some .boolean) (by decide) rfl ?_
  intro p e s m args below meth c s₁ B hml hv
  obtain ⟨rfl, ⟨hK, hW, hT, hnn⟩, hB⟩ := hv
  obtain ⟨hI, hV⟩ := hB
  have hx := B.exec
  have hb := B.bytes
  have hr := B.returns
  have hts : ∀ w ∈ lw_g, w.before _ s = true := fun w h => atoms_spec (ws := wc_ws yX11_canSlip cX11_canSlip 3 (some .boolean)) B.pre w (List.mem_cons_of_mem _ h)
  have hown : s.vm.findClass RX11 = some m.cls := findClass_of_methodNamed B.named
  have hlocks := B.notSynchronized
  have hS : va_S (cE N []) s.heap s.heap [] := va_S.rf
  have hl := lv_entry ([.ref h0, .int p1, .int p2]) (n := 3) (Nat.le_of_ble_eq_true rfl)
  rw [lg_entry_eq]
  generalize (lg_sl ([.ref h0, .int p1, .int p2]) ++ List.replicate (3 - (lg_sl ([.ref h0, .int p1, .int p2])).length) Slot.unset).toArray = ls at hl ⊢
  have hl : lv_has ls 3 [(0, .ref h0), (1, .int p1), (2, .int p2)] := hl
  refine wq_all ?_
  intro WW w1 w2
  refine lv_aload_n hx hb dX11_canSlip_0 rfl (lv_at hl 0 rfl) ?_
  refine lv_iload_n hx hb dX11_canSlip_1 rfl (lv_at hl 1 rfl) ?_
  obtain ⟨V1, hV1⟩ := kp_all hW k0
  refine cc_i2 (B2 := fun _ H => mI N h0 H ∧ kp N h0 [] V1 H) (wt_runV (As := [.int p1]) (rest := []) ⟨hx, hb, hml, hown, hts⟩ (m_X11_isMark l N h0 k0 hO V1 p1) wm_X11_isMark q1204 ⟨rfl, rfl⟩ ⟨Nat.le_of_ble_eq_true rfl, Nat.le_of_ble_eq_true rfl⟩ (cS_preV (B := fun H => mI N h0 H ∧ kp N h0 [] V1 H) hK hW hT hnn hS (cg11 k0) rfl rfl (And.intro hI (kp_of (F := []) hV1))) rfl hl.1 rfl (Nat.le_of_ble_eq_true rfl) dX11_canSlip_2 ⟨Nat.zero_le _, Nat.zero_le _⟩) hS (by decide) (fun x2 H locs hp hW hS oq hB2 => ?_)
  obtain ⟨hI, hV2⟩ := hB2
  have hV := kp_call hV hV1 hV2 (by decide)
  obtain ⟨r2, b2⟩ := hp
  refine lv_if_eq (tgt := 26) hx hb dX11_canSlip_5 (by decide) (fun c5 => ?_) (fun c5 => ?_)
  · have rx2_5 : ir x2 0 0 := rf_eq c5 (ir_c (0) (by decide) : ir (0 : Int32) (0) (0))
    refine lv_iconst (v := 0) hx hb dX11_canSlip_26 (by decide) ?_
    exact W.zret (v := (0 : Int32)) hx hb hr rfl (fun t ht _ => ⟨⟨(0 : Int32), (0 : Int32), rfl, ⟨rfl, (⟨⟨by decide, by decide⟩, fun h => absurd rfl h⟩)⟩, cW_at ht hW, ⟨mI_at ht hI, kp_at ht hV⟩⟩, hS.F ht⟩) hS.2.2 dX11_canSlip_27
  · have rx2_5 : ir x2 1 1 := rf_ne0 c5 r2
    have bx2_5 := b2 c5
    refine lv_iload_n hx hb dX11_canSlip_8 rfl (lv_at hl 2 rfl) ?_
    refine lv_i2l hx hb dX11_canSlip_9 rfl ?_
    refine lv_topl (fun x9 e9 => ?_)
    have r9 : lr x9 (-2147483648) 2147483647 := by rw [e9]; exact i2l_r (ir_any p2)
    refine lv_ldc2 hx hb hown (hts _ q1227) dX11_canSlip_10 ?_
    refine lv_ldc2 hx hb hown (hts _ q1307) dX11_canSlip_13 ?_
    refine cp_i (wt_runS (As := [.long x9, .long (2 : Int64), .long (12 : Int64)]) (rest := []) ⟨hx, hb, hml, hown, hts⟩ (m_X11_isIn l x9 (2 : Int64) (12 : Int64)) wm_X11_isIn q1050 ⟨rfl, rfl⟩ ⟨Nat.le_of_ble_eq_true rfl, Nat.le_of_ble_eq_true rfl⟩ pS_pre rfl hl.1 rfl (Nat.le_of_ble_eq_true rfl) dX11_canSlip_16 ⟨Nat.zero_le _, Nat.zero_le _⟩) hW hS (fun x16 H locs hp hW1 hS oq => ?_)
    have hV := hV.same hW k0 oq
    have hI := mI.fr.same hI hW oq
    have hW := hW1
    obtain ⟨r16, b16⟩ := hp
    refine lv_if_eq (tgt := 26) hx hb dX11_canSlip_19 (by decide) (fun c19 => ?_) (fun c19 => ?_)
    · have rx16_19 : ir x16 0 0 := rf_eq c19 (ir_c (0) (by decide) : ir (0 : Int32) (0) (0))
      refine lv_iconst (v := 0) hx hb dX11_canSlip_26 (by decide) ?_
      exact W.zret (v := (0 : Int32)) hx hb hr rfl (fun t ht _ => ⟨⟨(0 : Int32), (0 : Int32), rfl, ⟨rfl, (⟨⟨by decide, by decide⟩, fun h => absurd rfl h⟩)⟩, cW_at ht hW, ⟨mI_at ht hI, kp_at ht hV⟩⟩, hS.F ht⟩) hS.2.2 dX11_canSlip_27
    · have rx16_19 : ir x16 1 1 := rf_ne0 c19 r16
      have bx16_19 := b16 c19
      have rbx9_19 : lr x9 2 12 := by have h5 := bx16_19; have h6 := r9; have h7 := (lr_c (2) (by decide) : lr (2 : Int64) (2) (2)); have h8 := (lr_c (12) (by decide) : lr (12 : Int64) (12) (12)); constructor <;> omega
      have rp2_19 : ir p2 2 12 := i2l_b e9 rbx9_19
      refine lv_iconst (v := 1) hx hb dX11_canSlip_22 (by decide) ?_
      refine lv_goto (tgt := 27) hx hb dX11_canSlip_23 (by decide) ?_
      exact W.zret (v := (1 : Int32)) hx hb hr rfl (fun t ht _ => ⟨⟨(1 : Int32), (1 : Int32), rfl, ⟨rfl, (⟨⟨by decide, by decide⟩, fun _ => ⟨bx2_5, rp2_19⟩⟩)⟩, cW_at ht hW, ⟨mI_at ht hI, kp_at ht hV⟩⟩, hS.F ht⟩) hS.2.2 dX11_canSlip_27
set_option maxHeartbeats 4000000 in
set_option maxRecDepth 100000 in
theorem m_X11_lightOf (l : Launch) (N : c_N) (h0 : Nat) (k0 : N.2.2.1 h0 = some 11) (hO : mOK N) (V : Nat → Value) (p1 : Int32) : cMl2 l yX11_lightOf cX11_lightOf 2 .long { frames := 0, cells := 0, slots := 0, locals := 0 } [.ref h0, .int p1] N [] (fun H => mI N h0 H ∧ kp N h0 [] V H) (fun _ => True) (fun _ H => mI N h0 H ∧ kp N h0 [] V H) := by
  refine Met.ofW (cc := cX11_lightOf) (maxL := 2) (ret := some .long) (by decide) rfl ?_
  intro p e s m args below meth c s₁ B hml hv
  obtain ⟨rfl, ⟨hK, hW, hT, hnn⟩, hB⟩ := hv
  obtain ⟨hI, hV⟩ := hB
  have hx := B.exec
  have hb := B.bytes
  have hr := B.returns
  have hts : ∀ w ∈ lw_g, w.before _ s = true := fun w h => atoms_spec (ws := wc_ws yX11_lightOf cX11_lightOf 2 (some .long)) B.pre w (List.mem_cons_of_mem _ h)
  have hown : s.vm.findClass RX11 = some m.cls := findClass_of_methodNamed B.named
  have hlocks := B.notSynchronized
  have hS : va_S (cE N []) s.heap s.heap [] := va_S.rf
  have hl := lv_entry ([.ref h0, .int p1]) (n := 2) (Nat.le_of_ble_eq_true rfl)
  rw [lg_entry_eq]
  generalize (lg_sl ([.ref h0, .int p1]) ++ List.replicate (2 - (lg_sl ([.ref h0, .int p1])).length) Slot.unset).toArray = ls at hl ⊢
  have hl : lv_has ls 2 [(0, .ref h0), (1, .int p1)] := hl
  refine wq_all ?_
  intro WW w1 w2
  refine lv_iload_n hx hb dX11_lightOf_0 rfl (lv_at hl 1 rfl) ?_
  refine lv_if_ne (tgt := 11) hx hb dX11_lightOf_1 (by decide) (fun c1 => ?_) (fun c1 => ?_)
  · refine lv_iload_n hx hb dX11_lightOf_11 rfl (lv_at hl 1 rfl) ?_
    refine lv_iconst (v := 1) hx hb dX11_lightOf_12 (by decide) ?_
    refine lv_icmp_ne (tgt := 23) hx hb dX11_lightOf_13 (by decide) (fun c13 => ?_) (fun c13 => ?_)
    · refine lv_iload_n hx hb dX11_lightOf_23 rfl (lv_at hl 1 rfl) ?_
      refine lv_iconst (v := 2) hx hb dX11_lightOf_24 (by decide) ?_
      refine lv_icmp_ne (tgt := 35) hx hb dX11_lightOf_25 (by decide) (fun c25 => ?_) (fun c25 => ?_)
      · refine lv_aload_n hx hb dX11_lightOf_35 rfl (lv_at hl 0 rfl) ?_
        refine wt_getp hx hb hts cfX11 hown hK hW (cg11 k0) rfl 42 (by decide) (Or.inl (hts _ q914)) dX11_lightOf_36 (fun v hv nh0_42 => ?_)
        obtain ⟨x36, rfl⟩ : gl v := hv
        exact W.lret (v := x36) hx hb hr (fun t ht _ => ⟨⟨x36, x36, rfl, ⟨rfl, trivial⟩, cW_at ht hW, ⟨mI_at ht hI, kp_at ht hV⟩⟩, hS.F ht⟩) hS.2.2 dX11_lightOf_39
      · have rp1_25 : ir p1 2 2 := rf_eq c25 (ir_c (2) (by decide) : ir (2 : Int32) (2) (2))
        refine lv_aload_n hx hb dX11_lightOf_28 rfl (lv_at hl 0 rfl) ?_
        refine wt_getp hx hb hts cfX11 hown hK hW (cg11 k0) rfl 41 (by decide) (Or.inl (hts _ q913)) dX11_lightOf_29 (fun v hv nh0_41 => ?_)
        obtain ⟨x29, rfl⟩ : gl v := hv
        refine lv_goto (tgt := 39) hx hb dX11_lightOf_32 (by decide) ?_
        exact W.lret (v := x29) hx hb hr (fun t ht _ => ⟨⟨x29, x29, rfl, ⟨rfl, trivial⟩, cW_at ht hW, ⟨mI_at ht hI, kp_at ht hV⟩⟩, hS.F ht⟩) hS.2.2 dX11_lightOf_39
    · have rp1_13 : ir p1 1 1 := rf_eq c13 (ir_c (1) (by decide) : ir (1 : Int32) (1) (1))
      refine lv_aload_n hx hb dX11_lightOf_16 rfl (lv_at hl 0 rfl) ?_
      refine wt_getp hx hb hts cfX11 hown hK hW (cg11 k0) rfl 40 (by decide) (Or.inl (hts _ q912)) dX11_lightOf_17 (fun v hv nh0_40 => ?_)
      obtain ⟨x17, rfl⟩ : gl v := hv
      refine lv_goto (tgt := 39) hx hb dX11_lightOf_20 (by decide) ?_
      exact W.lret (v := x17) hx hb hr (fun t ht _ => ⟨⟨x17, x17, rfl, ⟨rfl, trivial⟩, cW_at ht hW, ⟨mI_at ht hI, kp_at ht hV⟩⟩, hS.F ht⟩) hS.2.2 dX11_lightOf_39
  · have rp1_1 : ir p1 0 0 := rf_eq c1 (ir_c (0) (by decide) : ir (0 : Int32) (0) (0))
    refine lv_aload_n hx hb dX11_lightOf_4 rfl (lv_at hl 0 rfl) ?_
    refine wt_getp hx hb hts cfX11 hown hK hW (cg11 k0) rfl 39 (by decide) (Or.inl (hts _ q911)) dX11_lightOf_5 (fun v hv nh0_39 => ?_)
    obtain ⟨x5, rfl⟩ : gl v := hv
    refine lv_goto (tgt := 39) hx hb dX11_lightOf_8 (by decide) ?_
    exact W.lret (v := x5) hx hb hr (fun t ht _ => ⟨⟨x5, x5, rfl, ⟨rfl, trivial⟩, cW_at ht hW, ⟨mI_at ht hI, kp_at ht hV⟩⟩, hS.F ht⟩) hS.2.2 dX11_lightOf_39
set_option maxHeartbeats 4000000 in
set_option maxRecDepth 100000 in
theorem m_X11_out (l : Launch) (N : c_N) (h0 : Nat) (k0 : N.2.2.1 h0 = some 11) (hO : mOK N) (V : Nat → Value) (p1 : Int32) : cMi2 l yX11_out cX11_out 2 .int { frames := 1, cells := 0, slots := 0, locals := 25 } [.ref h0, .int p1] N [] (fun H => mI N h0 H ∧ kp N h0 [] V H) (fun _ => True) (fun _ H => mI N h0 H ∧ kp N h0 [] V H) := by
  refine Met.ofW (cc := cX11_out) (maxL := 2) (ret := some .int) (by decide) rfl ?_
  intro p e s m args below meth c s₁ B hml hv
  obtain ⟨rfl, ⟨hK, hW, hT, hnn⟩, hB⟩ := hv
  obtain ⟨hI, hV⟩ := hB
  have hx := B.exec
  have hb := B.bytes
  have hr := B.returns
  have hts : ∀ w ∈ lw_g, w.before _ s = true := fun w h => atoms_spec (ws := wc_ws yX11_out cX11_out 2 (some .int)) B.pre w (List.mem_cons_of_mem _ h)
  have hown : s.vm.findClass RX11 = some m.cls := findClass_of_methodNamed B.named
  have hlocks := B.notSynchronized
  have hS : va_S (cE N []) s.heap s.heap [] := va_S.rf
  have hl := lv_entry ([.ref h0, .int p1]) (n := 2) (Nat.le_of_ble_eq_true rfl)
  rw [lg_entry_eq]
  generalize (lg_sl ([.ref h0, .int p1]) ++ List.replicate (2 - (lg_sl ([.ref h0, .int p1])).length) Slot.unset).toArray = ls at hl ⊢
  have hl : lv_has ls 2 [(0, .ref h0), (1, .int p1)] := hl
  refine wq_all ?_
  intro WW w1 w2
  refine lv_iload_n hx hb dX11_out_0 rfl (lv_at hl 1 rfl) ?_
  refine lv_i2l hx hb dX11_out_1 rfl ?_
  refine lv_topl (fun x1 e1 => ?_)
  have r1 : lr x1 (-2147483648) 2147483647 := by rw [e1]; exact i2l_r (ir_any p1)
  refine lv_lconst (v := 0) hx hb dX11_out_2 (by decide) ?_
  refine lv_aload_n hx hb dX11_out_3 rfl (lv_at hl 0 rfl) ?_
  refine wt_getp hx hb hts cfX11 hown hK hW (cg11 k0) rfl 55 (by decide) (Or.inl (hts _ q927)) dX11_out_4 (fun v hv nh0_55 => ?_)
  obtain ⟨x4, rfl, r4⟩ : gi 0 200 v := hv
  refine lv_iconst (v := 1) hx hb dX11_out_7 (by decide) ?_
  refine lv_isub hx hb dX11_out_8 ?_
  refine lv_topi (fun x8 e8 => ?_)
  have t8 : x8.toInt = x4.toInt - (1) := it_sub e8 r4 (ir_c (1) (by decide) : ir (1 : Int32) (1) (1)) (by decide) (by decide)
  have r8 : ir x8 (-1) 199 := ir_w (ir_sub e8 r4 (ir_c (1) (by decide) : ir (1 : Int32) (1) (1)) (by decide) (by decide)) (by decide) (by decide)
  refine lv_i2l hx hb dX11_out_9 rfl ?_
  refine lv_topl (fun x9 e9 => ?_)
  have r9 : lr x9 (-1) 199 := by rw [e9]; exact i2l_r r8
  refine cp_i (wt_runS (As := [.long x1, .long (0 : Int64), .long x9]) (rest := []) ⟨hx, hb, hml, hown, hts⟩ (m_X11_isIn l x1 (0 : Int64) x9) wm_X11_isIn q1050 ⟨rfl, rfl⟩ ⟨Nat.le_of_ble_eq_true rfl, Nat.le_of_ble_eq_true rfl⟩ pS_pre rfl hl.1 rfl (Nat.le_of_ble_eq_true rfl) dX11_out_10 ⟨Nat.zero_le _, Nat.zero_le _⟩) hW hS (fun x10 H locs hp hW1 hS oq => ?_)
  have hV := hV.same hW k0 oq
  have hI := mI.fr.same hI hW oq
  have hW := hW1
  have nh0_55 := nh0_55.kept (oq _ nh0_55.lt (cE_not k0 (by decide)))
  obtain ⟨r10, b10⟩ := hp
  refine lv_if_eq (tgt := 25) hx hb dX11_out_13 (by decide) (fun c13 => ?_) (fun c13 => ?_)
  · have rx10_13 : ir x10 0 0 := rf_eq c13 (ir_c (0) (by decide) : ir (0 : Int32) (0) (0))
    refine lv_iconst (v := -1) hx hb dX11_out_25 (by decide) ?_
    exact W.iret (v := (-1 : Int32)) hx hb hr (fun t ht _ => ⟨⟨(-1 : Int32), (-1 : Int32), rfl, ⟨rfl, trivial⟩, cW_at ht hW, ⟨mI_at ht hI, kp_at ht hV⟩⟩, hS.F ht⟩) hS.2.2 dX11_out_26
  · have rx10_13 : ir x10 1 1 := rf_ne0 c13 r10
    have bx10_13 := b10 c13
    have rbx1_13 : lr x1 0 199 := by have h5 := bx10_13; have h6 := r1; have h7 := (lr_c (0) (by decide) : lr (0 : Int64) (0) (0)); have h8 := r9; constructor <;> omega
    have rp1_13 : ir p1 0 199 := i2l_b e1 rbx1_13
    refine lv_aload_n hx hb dX11_out_16 rfl (lv_at hl 0 rfl) ?_
    refine wt_get hx hb hts cfX11 hown hK hW (cg11 k0) rfl 54 (by decide) q926 dX11_out_17 (fun v hv => ?_)
    obtain ⟨x17, rfl, k17⟩ : gr N 61 v := hv
    refine lv_iload_n hx hb dX11_out_20 rfl (lv_at hl 1 rfl) ?_
    refine wt_iald hx hb hK hW 0 (cg61 k17) rfl (ir_in rp1_13 (by decide) (by decide)) dX11_out_21 (fun v hv => ?_)
    obtain ⟨x21, rfl⟩ : ga v := hv
    refine lv_goto (tgt := 26) hx hb dX11_out_22 (by decide) ?_
    exact W.iret (v := x21) hx hb hr (fun t ht _ => ⟨⟨x21, x21, rfl, ⟨rfl, trivial⟩, cW_at ht hW, ⟨mI_at ht hI, kp_at ht hV⟩⟩, hS.F ht⟩) hS.2.2 dX11_out_26
set_option maxHeartbeats 4000000 in
set_option maxRecDepth 100000 in
theorem m_X11_look (l : Launch) (N : c_N) (h0 : Nat) (k0 : N.2.2.1 h0 = some 11) (hO : mOK N) (V : Nat → Value) (p1 : Int32) : cMi2 l yX11_look cX11_look 6 .int { frames := 2, cells := 0, slots := 0, locals := 43 } [.ref h0, .int p1] N [] (fun H => mI N h0 H ∧ kp N h0 [] V H) (fun _ => True) (fun _ H => mI N h0 H ∧ kp N h0 [] V H) := by
  refine Met.ofW (cc := cX11_look) (maxL := 6) (ret := some .int) (by decide) rfl ?_
  intro p e s m args below meth c s₁ B hml hv
  obtain ⟨rfl, ⟨hK, hW, hT, hnn⟩, hB⟩ := hv
  obtain ⟨hI, hV⟩ := hB
  have hx := B.exec
  have hb := B.bytes
  have hr := B.returns
  have hts : ∀ w ∈ lw_g, w.before _ s = true := fun w h => atoms_spec (ws := wc_ws yX11_look cX11_look 6 (some .int)) B.pre w (List.mem_cons_of_mem _ h)
  have hown : s.vm.findClass RX11 = some m.cls := findClass_of_methodNamed B.named
  have hlocks := B.notSynchronized
  have hS : va_S (cE N []) s.heap s.heap [] := va_S.rf
  have hl := lv_entry ([.ref h0, .int p1]) (n := 6) (Nat.le_of_ble_eq_true rfl)
  rw [lg_entry_eq]
  generalize (lg_sl ([.ref h0, .int p1]) ++ List.replicate (6 - (lg_sl ([.ref h0, .int p1])).length) Slot.unset).toArray = ls at hl ⊢
  have hl : lv_has ls 6 [(0, .ref h0), (1, .int p1)] := hl
  refine wq_all ?_
  intro WW w1 w2
  have L10 : ∀ (n : Nat) (H : Heap) (locs : List Loc) (ls : Array Slot) (v10_2 : Int32) (v10_3 : Int32) (v10_4 : Int32) (v10_5 : Int32), cW N H → mI N h0 H → kp N h0 [] V H → va_S (cE N []) s.heap H locs → lv_has ls 6 [(0, .ref h0), (1, .int p1), (2, .int v10_2), (3, .int v10_3), (4, .int v10_4), (5, .int v10_5)] → ir v10_5 0 24 → 24 - v10_5.toInt < (n : Int) → WW H locs (F0 m 10 ls []) := by
    intro n
    induction n with
    | zero =>
      intro H locs ls v10_2 v10_3 v10_4 v10_5 hW hI hV hS hl rv10_5 mu10
      exfalso
      omega
    | succ n ih10 =>
      intro H locs ls v10_2 v10_3 v10_4 v10_5 hW hI hV hS hl rv10_5 mu10
      have J81 : ∀ (H : Heap) (locs : List Loc) (ls : Array Slot) (v81_2 : Int32) (v81_3 : Int32) (w81_0 : Int32) (u81_0 : Int32), cW N H → mI N h0 H → kp N h0 [] V H → va_S (cE N []) s.heap H locs → lv_has ls 6 [(0, .ref h0), (1, .int p1), (2, .int v81_2), (3, .int v81_3), (5, .int v10_5)] → ir v10_5 0 23 → ir w81_0 0 1 → ir u81_0 1 24 → wt_pin N.1 vwCl h0 11 7 (.int u81_0) H → WW H locs (F0 m 81 ls [.int w81_0, .int v10_4]) := by
        intro H locs ls v81_2 v81_3 w81_0 u81_0 hW hI hV hS hl rv81_5 rw81_0 ru81_0 nh0_7
        refine w1 _ _ _ ?_
        refine cp_i (wt_runS (As := [.int w81_0]) (rest := [.int v10_4]) ⟨hx, hb, hml, hown, hts⟩ (m_X11_one l w81_0 rw81_0) wm_X11_one q1065 ⟨rfl, rfl⟩ ⟨Nat.le_of_ble_eq_true rfl, Nat.le_of_ble_eq_true rfl⟩ pS_pre rfl hl.1 rfl (Nat.le_of_ble_eq_true rfl) dX11_look_81 ⟨Nat.zero_le _, Nat.zero_le _⟩) hW hS (fun x81 H locs hp hW1 hS oq => ?_)
        have hV := hV.same hW k0 oq
        have hI := mI.fr.same hI hW oq
        have hW := hW1
        have nh0_7 := nh0_7.kept (oq _ nh0_7.lt (cE_not k0 (by decide)))
        have r81 : ir x81 0 1 := hp
        refine lv_iadd hx hb dX11_look_84 ?_
        refine lv_topi (fun x84 e84 => ?_)
        refine lv_istore (lv' := [(4, .int x84), (0, .ref h0), (1, .int p1), (2, .int v81_2), (3, .int v81_3), (5, .int v10_5)]) hx hb dX11_look_85 hl (by decide) rfl (fun ls hl => ?_)
        obtain ⟨x87, e87⟩ : ∃ y : Int32, y = v10_5 + 1 := ⟨_, rfl⟩
        have r87 : ir x87 1 24 := ir_w (ir_add e87 rv81_5 (ir_c (1) (by decide) : ir (1 : Int32) (1) (1)) (by decide) (by decide)) (by decide) (by decide)
        have t87 : x87.toInt = v10_5.toInt + (1) := it_add e87 rv81_5 (ir_c (1) (by decide) : ir (1 : Int32) (1) (1)) (by decide) (by decide)
        refine lv_iinc (v := x87) (lv' := [(5, .int x87), (4, .int x84), (0, .ref h0), (1, .int p1), (2, .int v81_2), (3, .int v81_3)]) hx hb dX11_look_87 hl (k := 5) rfl (by rw [e87]; rfl) (by decide) rfl (fun ls hl => ?_)
        refine lv_goto (tgt := 10) hx hb dX11_look_90 (by decide) ?_
        exact w2 _ _ _ (ih10 _ _ _ v81_2 v81_3 x84 x87 hW hI hV hS (lv_sub hl [2, 3, 4, 5, 1, 0] rfl) (ir_w (lo' := 0) (hi' := 24) r87 (by decide) (by decide)) (by have h9 := r87; omega))
      have J80 : ∀ (H : Heap) (locs : List Loc) (ls : Array Slot) (v80_2 : Int32) (v80_3 : Int32) (u80_0 : Int32), cW N H → mI N h0 H → kp N h0 [] V H → va_S (cE N []) s.heap H locs → lv_has ls 6 [(0, .ref h0), (1, .int p1), (2, .int v80_2), (3, .int v80_3), (5, .int v10_5)] → ir v10_5 0 23 → ir u80_0 1 24 → wt_pin N.1 vwCl h0 11 7 (.int u80_0) H → WW H locs (F0 m 80 ls [.int v10_4]) := by
        intro H locs ls v80_2 v80_3 u80_0 hW hI hV hS hl rv80_5 ru80_0 nh0_7
        refine w1 _ _ _ ?_
        refine lv_iconst (v := 0) hx hb dX11_look_80 (by decide) ?_
        exact w2 _ _ _ (J81 _ _ _ v80_2 v80_3 (0 : Int32) u80_0 hW hI hV hS (lv_sub hl [0, 1, 2, 3, 4] rfl) rv80_5 (ir_w (lo' := 0) (hi' := 1) (ir_c (0) (by decide) : ir (0 : Int32) (0) (0)) (by decide) (by decide)) ru80_0 nh0_7)
      have J47 : ∀ (H : Heap) (locs : List Loc) (ls : Array Slot) (v47_2 : Int32) (w47_0 : Int32) (u47_0 : Int32), cW N H → mI N h0 H → kp N h0 [] V H → va_S (cE N []) s.heap H locs → lv_has ls 6 [(0, .ref h0), (1, .int p1), (2, .int v47_2), (4, .int v10_4), (5, .int v10_5)] → ir v10_5 0 23 → ir w47_0 0 1 → ir u47_0 1 24 → wt_pin N.1 vwCl h0 11 7 (.int u47_0) H → WW H locs (F0 m 47 ls [.int w47_0, .int v10_3]) := by
        intro H locs ls v47_2 w47_0 u47_0 hW hI hV hS hl rv47_5 rw47_0 ru47_0 nh0_7
        refine w1 _ _ _ ?_
        refine cp_i (wt_runS (As := [.int w47_0]) (rest := [.int v10_3]) ⟨hx, hb, hml, hown, hts⟩ (m_X11_one l w47_0 rw47_0) wm_X11_one q1065 ⟨rfl, rfl⟩ ⟨Nat.le_of_ble_eq_true rfl, Nat.le_of_ble_eq_true rfl⟩ pS_pre rfl hl.1 rfl (Nat.le_of_ble_eq_true rfl) dX11_look_47 ⟨Nat.zero_le _, Nat.zero_le _⟩) hW hS (fun x47 H locs hp hW1 hS oq => ?_)
        have hV := hV.same hW k0 oq
        have hI := mI.fr.same hI hW oq
        have hW := hW1
        have nh0_7 := nh0_7.kept (oq _ nh0_7.lt (cE_not k0 (by decide)))
        have r47 : ir x47 0 1 := hp
        refine lv_iadd hx hb dX11_look_50 ?_
        refine lv_topi (fun x50 e50 => ?_)
        refine lv_istore_n (lv' := [(3, .int x50), (0, .ref h0), (1, .int p1), (2, .int v47_2), (4, .int v10_4), (5, .int v10_5)]) hx hb dX11_look_51 rfl hl (by decide) rfl (fun ls hl => ?_)
        refine lv_iload hx hb dX11_look_52 (lv_at hl 4 rfl) ?_
        refine lv_aload_n hx hb dX11_look_54 rfl (lv_at hl 1 rfl) ?_
        refine wt_get hx hb hts cfX11 hown hK hW (cg11 k0) rfl 5 (by decide) q877 dX11_look_55 (fun v hv => ?_)
        obtain ⟨x55, rfl, k55⟩ : gr N 43 v := hv
        refine lv_iload hx hb dX11_look_58 (lv_at hl 5 rfl) ?_
        refine wt_ialdx hx hb hK hW 0 (cg43 k55) rfl (ir_in (ir_w (lo' := 0) (hi' := 24) rv47_5 (by decide) (by decide)) (by decide) (by decide)) dX11_look_60 (fun v hv ap60 => ?_)
        obtain ⟨x60, rfl, r60⟩ : gi 0 6 v := hv
        refine lv_iconst (v := 1) hx hb dX11_look_61 (by decide) ?_
        refine lv_icmp_ne (tgt := 80) hx hb dX11_look_62 (by decide) (fun c62 => ?_) (fun c62 => ?_)
        · exact w2 _ _ _ (J80 _ _ _ v47_2 x50 u47_0 hW hI hV hS (lv_sub hl [1, 2, 3, 0, 5] rfl) rv47_5 ru47_0 nh0_7)
        · have rx60_62 : ir x60 1 1 := rf_eq c62 (ir_c (1) (by decide) : ir (1 : Int32) (1) (1))
          refine lv_aload_n hx hb dX11_look_65 rfl (lv_at hl 1 rfl) ?_
          refine wt_get hx hb hts cfX11 hown hK hW (cg11 k0) rfl 6 (by decide) q878 dX11_look_66 (fun v hv => ?_)
          obtain ⟨x66, rfl, k66⟩ : gr N 44 v := hv
          refine lv_iload hx hb dX11_look_69 (lv_at hl 5 rfl) ?_
          refine wt_ialdx hx hb hK hW 0 (cg44 k66) rfl (ir_in (ir_w (lo' := 0) (hi' := 24) rv47_5 (by decide) (by decide)) (by decide) (by decide)) dX11_look_71 (fun v hv ap71 => ?_)
          obtain ⟨x71, rfl, r71⟩ : gi 0 6 v := hv
          refine lv_iconst (v := 1) hx hb dX11_look_72 (by decide) ?_
          refine lv_icmp_ne (tgt := 80) hx hb dX11_look_73 (by decide) (fun c73 => ?_) (fun c73 => ?_)
          · exact w2 _ _ _ (J80 _ _ _ v47_2 x50 u47_0 hW hI hV hS (lv_sub hl [1, 2, 3, 0, 5] rfl) rv47_5 ru47_0 nh0_7)
          · have rx71_73 : ir x71 1 1 := rf_eq c73 (ir_c (1) (by decide) : ir (1 : Int32) (1) (1))
            refine lv_iconst (v := 1) hx hb dX11_look_76 (by decide) ?_
            refine lv_goto (tgt := 81) hx hb dX11_look_77 (by decide) ?_
            exact w2 _ _ _ (J81 _ _ _ v47_2 x50 (1 : Int32) u47_0 hW hI hV hS (lv_sub hl [1, 2, 3, 0, 5] rfl) rv47_5 (ir_w (lo' := 0) (hi' := 1) (ir_c (1) (by decide) : ir (1 : Int32) (1) (1)) (by decide) (by decide)) ru47_0 nh0_7)
      refine w1 _ _ _ ?_
      refine lv_iload hx hb dX11_look_10 (lv_at hl 5 rfl) ?_
      refine lv_aload_n hx hb dX11_look_12 rfl (lv_at hl 0 rfl) ?_
      refine wt_getp hx hb hts cfX11 hown hK hW (cg11 k0) rfl 7 (by decide) (Or.inl (hts _ q879)) dX11_look_13 (fun v hv nh0_7 => ?_)
      obtain ⟨x13, rfl, r13⟩ : gi 0 24 v := hv
      refine lv_icmp_ge (tgt := 93) hx hb dX11_look_16 (by decide) (fun c16 => ?_) (fun c16 => ?_)
      · refine lv_iload_n hx hb dX11_look_93 rfl (lv_at hl 1 rfl) ?_
        by_cases c94 : p1.toInt < 0 ∨ 6 < p1.toInt
        · refine lv_tableOut (tgt := 166) hx hb dX11_look_94 c94 (by decide) ?_
          refine lv_iconst (v := -1) hx hb dX11_look_166 (by decide) ?_
          exact W.iret (v := (-1 : Int32)) hx hb hr (fun t ht _ => ⟨⟨(-1 : Int32), (-1 : Int32), rfl, ⟨rfl, trivial⟩, cW_at ht hW, ⟨mI_at ht hI, kp_at ht hV⟩⟩, hS.F ht⟩) hS.2.2 dX11_look_167
        · rcases (show p1.toInt = 0 ∨ p1.toInt = 1 ∨ p1.toInt = 2 ∨ p1.toInt = 3 ∨ p1.toInt = 4 ∨ p1.toInt = 5 ∨ p1.toInt = 6 by omega) with d94 | d94 | d94 | d94 | d94 | d94 | d94
          · refine lv_tableIn (off := 42) (tgt := 136) hx hb dX11_look_94 (by omega) (by omega) (by rw [d94]; rfl) (by decide) ?_
            refine lv_aload_n hx hb dX11_look_136 rfl (lv_at hl 0 rfl) ?_
            refine wt_rel hx hb hts cfX11 hown hK nh0_7 rfl (by decide) (Or.inl (hts _ q879)) dX11_look_137 ?_
            exact W.iret (v := x13) hx hb hr (fun t ht _ => ⟨⟨x13, x13, rfl, ⟨rfl, trivial⟩, cW_at ht hW, ⟨mI_at ht hI, kp_at ht hV⟩⟩, hS.F ht⟩) hS.2.2 dX11_look_140
          · refine lv_tableIn (off := 47) (tgt := 141) hx hb dX11_look_94 (by omega) (by omega) (by rw [d94]; rfl) (by decide) ?_
            refine lv_iload_n hx hb dX11_look_141 rfl (lv_at hl 2 rfl) ?_
            exact W.iret (v := v10_2) hx hb hr (fun t ht _ => ⟨⟨v10_2, v10_2, rfl, ⟨rfl, trivial⟩, cW_at ht hW, ⟨mI_at ht hI, kp_at ht hV⟩⟩, hS.F ht⟩) hS.2.2 dX11_look_142
          · refine lv_tableIn (off := 49) (tgt := 143) hx hb dX11_look_94 (by omega) (by omega) (by rw [d94]; rfl) (by decide) ?_
            refine lv_aload_n hx hb dX11_look_143 rfl (lv_at hl 0 rfl) ?_
            obtain ⟨V1, hV1⟩ := kp_all hW k0
            refine cc_i2 (B2 := fun _ H => mI N h0 H ∧ kp N h0 [] V1 H) (wt_runV (As := []) (rest := []) ⟨hx, hb, hml, hown, hts⟩ (m_X11_isSameTurned l N h0 k0 hO V1) wm_X11_isSameTurned q1112 ⟨rfl, rfl⟩ ⟨Nat.le_of_ble_eq_true rfl, Nat.le_of_ble_eq_true rfl⟩ (cS_preV (B := fun H => mI N h0 H ∧ kp N h0 [] V1 H) hK hW hT hnn hS (cg11 k0) rfl rfl (And.intro hI (kp_of (F := []) hV1))) rfl hl.1 rfl (Nat.le_of_ble_eq_true rfl) dX11_look_144 ⟨Nat.zero_le _, Nat.zero_le _⟩) hS (by decide) (fun x144 H locs hp hW hS oq hB2 => ?_)
            obtain ⟨hI, hV2⟩ := hB2
            have hV := kp_call hV hV1 hV2 (by decide)
            have nh0_7 := kp_use hV1 hV2 (by decide) (by decide) nh0_7
            have r144 : ir x144 0 1 := hp
            refine cp_i (wt_runS (As := [.int x144]) (rest := []) ⟨hx, hb, hml, hown, hts⟩ (m_X11_one l x144 r144) wm_X11_one q1065 ⟨rfl, rfl⟩ ⟨Nat.le_of_ble_eq_true rfl, Nat.le_of_ble_eq_true rfl⟩ pS_pre rfl hl.1 rfl (Nat.le_of_ble_eq_true rfl) dX11_look_147 ⟨Nat.zero_le _, Nat.zero_le _⟩) hW hS (fun x147 H locs hp hW1 hS oq => ?_)
            have hV := hV.same hW k0 oq
            have hI := mI.fr.same hI hW oq
            have hW := hW1
            have nh0_7 := nh0_7.kept (oq _ nh0_7.lt (cE_not k0 (by decide)))
            have r147 : ir x147 0 1 := hp
            exact W.iret (v := x147) hx hb hr (fun t ht _ => ⟨⟨x147, x147, rfl, ⟨rfl, trivial⟩, cW_at ht hW, ⟨mI_at ht hI, kp_at ht hV⟩⟩, hS.F ht⟩) hS.2.2 dX11_look_150
          · refine lv_tableIn (off := 57) (tgt := 151) hx hb dX11_look_94 (by omega) (by omega) (by rw [d94]; rfl) (by decide) ?_
            refine lv_aload_n hx hb dX11_look_151 rfl (lv_at hl 0 rfl) ?_
            refine wt_getp hx hb hts cfX11 hown hK hW (cg11 k0) rfl 13 (by decide) (Or.inl (hts _ q885)) dX11_look_152 (fun v hv nh0_13 => ?_)
            obtain ⟨x152, rfl, r152⟩ : gi 0 10 v := hv
            exact W.iret (v := x152) hx hb hr (fun t ht _ => ⟨⟨x152, x152, rfl, ⟨rfl, trivial⟩, cW_at ht hW, ⟨mI_at ht hI, kp_at ht hV⟩⟩, hS.F ht⟩) hS.2.2 dX11_look_155
          · refine lv_tableIn (off := 62) (tgt := 156) hx hb dX11_look_94 (by omega) (by omega) (by rw [d94]; rfl) (by decide) ?_
            refine lv_aload_n hx hb dX11_look_156 rfl (lv_at hl 0 rfl) ?_
            refine wt_getp hx hb hts cfX11 hown hK hW (cg11 k0) rfl 15 (by decide) (Or.inl (hts _ q887)) dX11_look_157 (fun v hv nh0_15 => ?_)
            obtain ⟨x157, rfl, r157⟩ : gi 0 200 v := hv
            exact W.iret (v := x157) hx hb hr (fun t ht _ => ⟨⟨x157, x157, rfl, ⟨rfl, trivial⟩, cW_at ht hW, ⟨mI_at ht hI, kp_at ht hV⟩⟩, hS.F ht⟩) hS.2.2 dX11_look_160
          · refine lv_tableIn (off := 67) (tgt := 161) hx hb dX11_look_94 (by omega) (by omega) (by rw [d94]; rfl) (by decide) ?_
            refine lv_iload_n hx hb dX11_look_161 rfl (lv_at hl 3 rfl) ?_
            exact W.iret (v := v10_3) hx hb hr (fun t ht _ => ⟨⟨v10_3, v10_3, rfl, ⟨rfl, trivial⟩, cW_at ht hW, ⟨mI_at ht hI, kp_at ht hV⟩⟩, hS.F ht⟩) hS.2.2 dX11_look_162
          · refine lv_tableIn (off := 69) (tgt := 163) hx hb dX11_look_94 (by omega) (by omega) (by rw [d94]; rfl) (by decide) ?_
            refine lv_iload hx hb dX11_look_163 (lv_at hl 4 rfl) ?_
            exact W.iret (v := v10_4) hx hb hr (fun t ht _ => ⟨⟨v10_4, v10_4, rfl, ⟨rfl, trivial⟩, cW_at ht hW, ⟨mI_at ht hI, kp_at ht hV⟩⟩, hS.F ht⟩) hS.2.2 dX11_look_165
      · have rv10_5_16 : ir v10_5 0 23 := ⟨(rv10_5).1, Int.le_trans (rf_lt (rf_nle c16) rv10_5 r13).1 (by decide)⟩
        have rx13_16 : ir x13 1 24 := ⟨Int.le_trans (by decide) (rf_lt (rf_nle c16) rv10_5 r13).2, (r13).2⟩
        refine lv_iload_n hx hb dX11_look_19 rfl (lv_at hl 2 rfl) ?_
        refine lv_iconst (v := 1) hx hb dX11_look_20 (by decide) ?_
        refine lv_aload_n hx hb dX11_look_21 rfl (lv_at hl 0 rfl) ?_
        refine wt_get hx hb hts cfX11 hown hK hW (cg11 k0) rfl 4 (by decide) q876 dX11_look_22 (fun v hv => ?_)
        obtain ⟨x22, rfl, k22⟩ : gr N 42 v := hv
        refine lv_iload hx hb dX11_look_25 (lv_at hl 5 rfl) ?_
        refine wt_iald hx hb hK hW 0 (cg42 k22) rfl (ir_in (ir_w (lo' := 0) (hi' := 24) rv10_5_16 (by decide) (by decide)) (by decide) (by decide)) dX11_look_27 (fun v hv => ?_)
        obtain ⟨x27, rfl, r27⟩ : gi 0 5 v := hv
        refine lv_ishl hx hb dX11_look_28 ?_
        refine lv_topi (fun x28 e28 => ?_)
        refine lv_ior hx hb dX11_look_29 ?_
        refine lv_topi (fun x29 e29 => ?_)
        refine lv_istore_n (lv' := [(2, .int x29), (0, .ref h0), (1, .int p1), (3, .int v10_3), (4, .int v10_4), (5, .int v10_5)]) hx hb dX11_look_30 rfl hl (by decide) rfl (fun ls hl => ?_)
        refine lv_iload_n hx hb dX11_look_31 rfl (lv_at hl 3 rfl) ?_
        refine lv_aload_n hx hb dX11_look_32 rfl (lv_at hl 1 rfl) ?_
        refine wt_get hx hb hts cfX11 hown hK hW (cg11 k0) rfl 6 (by decide) q878 dX11_look_33 (fun v hv => ?_)
        obtain ⟨x33, rfl, k33⟩ : gr N 44 v := hv
        refine lv_iload hx hb dX11_look_36 (lv_at hl 5 rfl) ?_
        refine wt_ialdx hx hb hK hW 0 (cg44 k33) rfl (ir_in (ir_w (lo' := 0) (hi' := 24) rv10_5_16 (by decide) (by decide)) (by decide) (by decide)) dX11_look_38 (fun v hv ap38 => ?_)
        obtain ⟨x38, rfl, r38⟩ : gi 0 6 v := hv
        refine lv_if_ne (tgt := 46) hx hb dX11_look_39 (by decide) (fun c39 => ?_) (fun c39 => ?_)
        · have rx38_39 : ir x38 1 6 := rf_ne0 c39 r38
          refine lv_iconst (v := 0) hx hb dX11_look_46 (by decide) ?_
          exact w2 _ _ _ (J47 _ _ _ x29 (0 : Int32) x13 hW hI hV hS (lv_sub hl [1, 2, 0, 4, 5] rfl) rv10_5_16 (ir_w (lo' := 0) (hi' := 1) (ir_c (0) (by decide) : ir (0 : Int32) (0) (0)) (by decide) (by decide)) rx13_16 nh0_7)
        · have rx38_39 : ir x38 0 0 := rf_eq c39 (ir_c (0) (by decide) : ir (0 : Int32) (0) (0))
          refine lv_iconst (v := 1) hx hb dX11_look_42 (by decide) ?_
          refine lv_goto (tgt := 47) hx hb dX11_look_43 (by decide) ?_
          exact w2 _ _ _ (J47 _ _ _ x29 (1 : Int32) x13 hW hI hV hS (lv_sub hl [1, 2, 0, 4, 5] rfl) rv10_5_16 (ir_w (lo' := 0) (hi' := 1) (ir_c (1) (by decide) : ir (1 : Int32) (1) (1)) (by decide) (by decide)) rx13_16 nh0_7)
  refine lv_iconst (v := 0) hx hb dX11_look_0 (by decide) ?_
  refine lv_istore_n (lv' := [(2, .int (0 : Int32)), (0, .ref h0), (1, .int p1)]) hx hb dX11_look_1 rfl hl (by decide) rfl (fun ls hl => ?_)
  refine lv_iconst (v := 0) hx hb dX11_look_2 (by decide) ?_
  refine lv_istore_n (lv' := [(3, .int (0 : Int32)), (2, .int (0 : Int32)), (0, .ref h0), (1, .int p1)]) hx hb dX11_look_3 rfl hl (by decide) rfl (fun ls hl => ?_)
  refine lv_iconst (v := 0) hx hb dX11_look_4 (by decide) ?_
  refine lv_istore (lv' := [(4, .int (0 : Int32)), (3, .int (0 : Int32)), (2, .int (0 : Int32)), (0, .ref h0), (1, .int p1)]) hx hb dX11_look_5 hl (by decide) rfl (fun ls hl => ?_)
  refine lv_iconst (v := 0) hx hb dX11_look_7 (by decide) ?_
  refine lv_istore (lv' := [(5, .int (0 : Int32)), (4, .int (0 : Int32)), (3, .int (0 : Int32)), (2, .int (0 : Int32)), (0, .ref h0), (1, .int p1)]) hx hb dX11_look_8 hl (by decide) rfl (fun ls hl => ?_)
  exact w2 _ _ _ (L10 25 _ _ _ (0 : Int32) (0 : Int32) (0 : Int32) (0 : Int32) hW hI hV hS (lv_sub hl [4, 5, 3, 2, 1, 0] rfl) (ir_w (lo' := 0) (hi' := 24) (ir_c (0) (by decide) : ir (0 : Int32) (0) (0)) (by decide) (by decide)) (by have h9 := (ir_c (0) (by decide) : ir (0 : Int32) (0) (0)); omega))
set_option maxHeartbeats 4000000 in
set_option maxRecDepth 100000 in
theorem m_X11_four (l : Launch) (N : c_N) (h0 : Nat) (k0 : N.2.2.1 h0 = some 11) (hO : mOK N) (V : Nat → Value) (p1 : Int32) (g15 : Int32) (h4 : g15.toInt ≤ 196) : cMv l yX11_four cX11_four 3 { frames := 0, cells := 0, slots := 0, locals := 0 } [.ref h0, .int p1] N [11, 50] (fun H => mI N h0 H ∧ kp N h0 [15] V H ∧ wt_pin N.1 vwCl h0 11 15 (.int g15) H) (fun H => mI N h0 H ∧ kp N h0 [15] V H ∧ ∃ x : Int32, pI N h0 15 x H ∧ x.toInt = g15.toInt + 4) := by
  refine Met.ofW (cc := cX11_four) (maxL := 3) (ret := none) (by decide) rfl ?_
  intro p e s m args below meth c s₁ B hml hv
  obtain ⟨rfl, ⟨hK, hW, hT, hnn⟩, hB⟩ := hv
  obtain ⟨hI, hV, hB⟩ := hB
  have nh0_15 := hB
  have rg15 : ir g15 0 200 := gi_r (cpin_P hW (cg11 k0) rfl (by decide) nh0_15)
  have hx := B.exec
  have hb := B.bytes
  have hr := B.returns
  have hts : ∀ w ∈ lw_g, w.before _ s = true := fun w h => atoms_spec (ws := wc_ws yX11_four cX11_four 3 none) B.pre w (List.mem_cons_of_mem _ h)
  have hown : s.vm.findClass RX11 = some m.cls := findClass_of_methodNamed B.named
  have hlocks := B.notSynchronized
  have hS : va_S (cE N [11, 50]) s.heap s.heap [] := va_S.rf
  have hl := lv_entry ([.ref h0, .int p1]) (n := 3) (Nat.le_of_ble_eq_true rfl)
  rw [lg_entry_eq]
  generalize (lg_sl ([.ref h0, .int p1]) ++ List.replicate (3 - (lg_sl ([.ref h0, .int p1])).length) Slot.unset).toArray = ls at hl ⊢
  have hl : lv_has ls 3 [(0, .ref h0), (1, .int p1)] := hl
  refine wq_all ?_
  intro WW w1 w2
  have rlim : ir g15 0 196 := ⟨rg15.1, h4⟩
  refine lv_bipush (v := 24) hx hb dX11_four_0 (by decide) ?_
  refine lv_istore_n (lv' := [(2, .int (24 : Int32)), (0, .ref h0), (1, .int p1)]) hx hb dX11_four_2 rfl hl (by decide) rfl (fun ls hl => ?_)
  refine lv_iload_n hx hb dX11_four_3 rfl (lv_at hl 0 rfl) ?_
  refine lv_if_lt (tgt := 39) hx hb dX11_four_4 (by decide) (fun c4 => ?_) (fun c4 => ?_)
  · exact absurd c4 (by decide)
  · refine lv_aload_n hx hb dX11_four_7 rfl (lv_at hl 1 rfl) ?_
    refine wt_get hx hb hts cfX11 hown hK hW (cg11 k0) rfl 14 (by decide) q886 dX11_four_8 (fun v hv => ?_)
    obtain ⟨x8, rfl, k8⟩ : gr N 50 v := hv
    refine lv_aload_n hx hb dX11_four_11 rfl (lv_at hl 1 rfl) ?_
    refine wt_rel hx hb hts cfX11 hown hK nh0_15 rfl (by decide) (Or.inl (hts _ q887)) dX11_four_12 ?_
    refine lv_iload_n hx hb dX11_four_15 rfl (lv_at hl 2 rfl) ?_
    refine lv_iload_n hx hb dX11_four_16 rfl (lv_at hl 0 rfl) ?_
    refine lv_ishr hx hb dX11_four_17 ?_
    refine lv_topi (fun x17 e17 => ?_)
    refine lv_sipush (v := 255) hx hb dX11_four_18 (by decide) ?_
    refine lv_iand hx hb dX11_four_21 ?_
    refine lv_topi (fun x21 e21 => ?_)
    have r21 : ir x21 0 255 := ir_and e21 (ir_w (ir_c (255) (by decide) : ir (255 : Int32) (255) (255)) (by decide) (by decide))
    refine wt_iastp hx hb hK hW hS 0 (cg50 k8) (ce k8 (by decide)) rfl (ir_in (ir_w (lo' := 0) (hi' := 199) rlim (by decide) (by decide)) (by decide) (by decide)) (gi_mk r21) dX11_four_22 (fun H locs hW hS oq => ?_)
    have nh0_15 := nh0_15.kept (oq _ (ne_kind k0 k8 (by decide)))
    have hV := hV.keep (oq _ (ne_kind k0 k8 (by decide)))
    have hI := mI.fr.arr hI k0 k8 oq (by decide) (by decide)
    refine lv_aload_n hx hb dX11_four_23 rfl (lv_at hl 1 rfl) ?_
    refine lv_dup hx hb dX11_four_24 rfl ?_
    refine wt_rel hx hb hts cfX11 hown hK nh0_15 rfl (by decide) (Or.inl (hts _ q887)) dX11_four_25 ?_
    refine lv_iconst (v := 1) hx hb dX11_four_28 (by decide) ?_
    refine lv_iadd hx hb dX11_four_29 ?_
    refine lv_topi (fun x29 e29 => ?_)
    have t29 : x29.toInt = g15.toInt + (1) := it_add e29 rlim (ir_c (1) (by decide) : ir (1 : Int32) (1) (1)) (by decide) (by decide)
    have r29 : ir x29 1 197 := ir_w (ir_add e29 rlim (ir_c (1) (by decide) : ir (1 : Int32) (1) (1)) (by decide) (by decide)) (by decide) (by decide)
    refine wt_putp hx hb hts cfX11 tyX11 tyX11_ok nmX11 hown hK hW hS (cg11 k0) (ce k0 (by decide)) rfl 15 (by decide) (Or.inl (hts _ q887)) rfl rfl rfl (gi_mk (ir_w (lo' := 0) (hi' := 200) r29 (by decide) (by decide))) dX11_four_30 (fun H locs hW hS oq o2 np => ?_)
    have nh0_15 : wt_pin N.1 vwCl h0 11 15 (.int x29) H := np
    have hV := hV.put (by decide) o2
    have hI := mI.fr.put hI k0 oq o2 (by decide) (by decide)
    obtain ⟨x33, e33⟩ : ∃ y : Int32, y = (24 : Int32) + (-8) := ⟨_, rfl⟩
    have r33 : ir x33 16 16 := ir_w (ir_add e33 (ir_c (24) (by decide) : ir (24 : Int32) (24) (24)) (ir_c (-8) (by decide) : ir (-8 : Int32) (-8) (-8)) (by decide) (by decide)) (by decide) (by decide)
    have t33 : x33.toInt = (24 : Int32).toInt + (-8) := it_add e33 (ir_c (24) (by decide) : ir (24 : Int32) (24) (24)) (ir_c (-8) (by decide) : ir (-8 : Int32) (-8) (-8)) (by decide) (by decide)
    refine lv_iinc (v := x33) (lv' := [(2, .int x33), (0, .ref h0), (1, .int p1)]) hx hb dX11_four_33 hl (k := 0) rfl (by rw [e33]; rfl) (by decide) rfl (fun ls hl => ?_)
    refine lv_goto (tgt := 3) hx hb dX11_four_36 (by decide) ?_
    refine lv_iload_n hx hb dX11_four_3 rfl (lv_at hl 0 rfl) ?_
    refine lv_if_lt (tgt := 39) hx hb dX11_four_4 (by decide) (fun c10004 => ?_) (fun c10004 => ?_)
    · exact absurd (rf_lt c10004 r33 (ir_c (0) (by decide) : ir (0 : Int32) (0) (0))) (by have h8 := r33; have h9 := (ir_c (0) (by decide) : ir (0 : Int32) (0) (0)); omega)
    · refine lv_aload_n hx hb dX11_four_7 rfl (lv_at hl 1 rfl) ?_
      refine wt_get hx hb hts cfX11 hown hK hW (cg11 k0) rfl 14 (by decide) q886 dX11_four_8 (fun v hv => ?_)
      obtain ⟨x10008, rfl, k10008⟩ : gr N 50 v := hv
      refine lv_aload_n hx hb dX11_four_11 rfl (lv_at hl 1 rfl) ?_
      refine wt_rel hx hb hts cfX11 hown hK nh0_15 rfl (by decide) (Or.inl (hts _ q887)) dX11_four_12 ?_
      refine lv_iload_n hx hb dX11_four_15 rfl (lv_at hl 2 rfl) ?_
      refine lv_iload_n hx hb dX11_four_16 rfl (lv_at hl 0 rfl) ?_
      refine lv_ishr hx hb dX11_four_17 ?_
      refine lv_topi (fun x10017 e10017 => ?_)
      refine lv_sipush (v := 255) hx hb dX11_four_18 (by decide) ?_
      refine lv_iand hx hb dX11_four_21 ?_
      refine lv_topi (fun x10021 e10021 => ?_)
      have r10021 : ir x10021 0 255 := ir_and e10021 (ir_w (ir_c (255) (by decide) : ir (255 : Int32) (255) (255)) (by decide) (by decide))
      refine wt_iastp hx hb hK hW hS 0 (cg50 k10008) (ce k10008 (by decide)) rfl (ir_in (ir_w (lo' := 0) (hi' := 199) r29 (by decide) (by decide)) (by decide) (by decide)) (gi_mk r10021) dX11_four_22 (fun H locs hW hS oq => ?_)
      have nh0_15 := nh0_15.kept (oq _ (ne_kind k0 k10008 (by decide)))
      have hV := hV.keep (oq _ (ne_kind k0 k10008 (by decide)))
      have hI := mI.fr.arr hI k0 k10008 oq (by decide) (by decide)
      refine lv_aload_n hx hb dX11_four_23 rfl (lv_at hl 1 rfl) ?_
      refine lv_dup hx hb dX11_four_24 rfl ?_
      refine wt_rel hx hb hts cfX11 hown hK nh0_15 rfl (by decide) (Or.inl (hts _ q887)) dX11_four_25 ?_
      refine lv_iconst (v := 1) hx hb dX11_four_28 (by decide) ?_
      refine lv_iadd hx hb dX11_four_29 ?_
      refine lv_topi (fun x10029 e10029 => ?_)
      have t10029 : x10029.toInt = x29.toInt + (1) := it_add e10029 r29 (ir_c (1) (by decide) : ir (1 : Int32) (1) (1)) (by decide) (by decide)
      have r10029 : ir x10029 2 198 := ir_w (ir_add e10029 r29 (ir_c (1) (by decide) : ir (1 : Int32) (1) (1)) (by decide) (by decide)) (by decide) (by decide)
      refine wt_putp hx hb hts cfX11 tyX11 tyX11_ok nmX11 hown hK hW hS (cg11 k0) (ce k0 (by decide)) rfl 15 (by decide) (Or.inl (hts _ q887)) rfl rfl rfl (gi_mk (ir_w (lo' := 0) (hi' := 200) r10029 (by decide) (by decide))) dX11_four_30 (fun H locs hW hS oq o2 np => ?_)
      have nh0_15 : wt_pin N.1 vwCl h0 11 15 (.int x10029) H := np
      have hV := hV.put (by decide) o2
      have hI := mI.fr.put hI k0 oq o2 (by decide) (by decide)
      obtain ⟨x10033, e10033⟩ : ∃ y : Int32, y = x33 + (-8) := ⟨_, rfl⟩
      have r10033 : ir x10033 8 8 := ir_w (ir_add e10033 r33 (ir_c (-8) (by decide) : ir (-8 : Int32) (-8) (-8)) (by decide) (by decide)) (by decide) (by decide)
      have t10033 : x10033.toInt = x33.toInt + (-8) := it_add e10033 r33 (ir_c (-8) (by decide) : ir (-8 : Int32) (-8) (-8)) (by decide) (by decide)
      refine lv_iinc (v := x10033) (lv' := [(2, .int x10033), (0, .ref h0), (1, .int p1)]) hx hb dX11_four_33 hl (k := 0) rfl (by rw [e10033]; rfl) (by decide) rfl (fun ls hl => ?_)
      refine lv_goto (tgt := 3) hx hb dX11_four_36 (by decide) ?_
      refine lv_iload_n hx hb dX11_four_3 rfl (lv_at hl 0 rfl) ?_
      refine lv_if_lt (tgt := 39) hx hb dX11_four_4 (by decide) (fun c20004 => ?_) (fun c20004 => ?_)
      · exact absurd (rf_lt c20004 r10033 (ir_c (0) (by decide) : ir (0 : Int32) (0) (0))) (by have h8 := r10033; have h9 := (ir_c (0) (by decide) : ir (0 : Int32) (0) (0)); omega)
      · refine lv_aload_n hx hb dX11_four_7 rfl (lv_at hl 1 rfl) ?_
        refine wt_get hx hb hts cfX11 hown hK hW (cg11 k0) rfl 14 (by decide) q886 dX11_four_8 (fun v hv => ?_)
        obtain ⟨x20008, rfl, k20008⟩ : gr N 50 v := hv
        refine lv_aload_n hx hb dX11_four_11 rfl (lv_at hl 1 rfl) ?_
        refine wt_rel hx hb hts cfX11 hown hK nh0_15 rfl (by decide) (Or.inl (hts _ q887)) dX11_four_12 ?_
        refine lv_iload_n hx hb dX11_four_15 rfl (lv_at hl 2 rfl) ?_
        refine lv_iload_n hx hb dX11_four_16 rfl (lv_at hl 0 rfl) ?_
        refine lv_ishr hx hb dX11_four_17 ?_
        refine lv_topi (fun x20017 e20017 => ?_)
        refine lv_sipush (v := 255) hx hb dX11_four_18 (by decide) ?_
        refine lv_iand hx hb dX11_four_21 ?_
        refine lv_topi (fun x20021 e20021 => ?_)
        have r20021 : ir x20021 0 255 := ir_and e20021 (ir_w (ir_c (255) (by decide) : ir (255 : Int32) (255) (255)) (by decide) (by decide))
        refine wt_iastp hx hb hK hW hS 0 (cg50 k20008) (ce k20008 (by decide)) rfl (ir_in (ir_w (lo' := 0) (hi' := 199) r10029 (by decide) (by decide)) (by decide) (by decide)) (gi_mk r20021) dX11_four_22 (fun H locs hW hS oq => ?_)
        have nh0_15 := nh0_15.kept (oq _ (ne_kind k0 k20008 (by decide)))
        have hV := hV.keep (oq _ (ne_kind k0 k20008 (by decide)))
        have hI := mI.fr.arr hI k0 k20008 oq (by decide) (by decide)
        refine lv_aload_n hx hb dX11_four_23 rfl (lv_at hl 1 rfl) ?_
        refine lv_dup hx hb dX11_four_24 rfl ?_
        refine wt_rel hx hb hts cfX11 hown hK nh0_15 rfl (by decide) (Or.inl (hts _ q887)) dX11_four_25 ?_
        refine lv_iconst (v := 1) hx hb dX11_four_28 (by decide) ?_
        refine lv_iadd hx hb dX11_four_29 ?_
        refine lv_topi (fun x20029 e20029 => ?_)
        have t20029 : x20029.toInt = x10029.toInt + (1) := it_add e20029 r10029 (ir_c (1) (by decide) : ir (1 : Int32) (1) (1)) (by decide) (by decide)
        have r20029 : ir x20029 3 199 := ir_w (ir_add e20029 r10029 (ir_c (1) (by decide) : ir (1 : Int32) (1) (1)) (by decide) (by decide)) (by decide) (by decide)
        refine wt_putp hx hb hts cfX11 tyX11 tyX11_ok nmX11 hown hK hW hS (cg11 k0) (ce k0 (by decide)) rfl 15 (by decide) (Or.inl (hts _ q887)) rfl rfl rfl (gi_mk (ir_w (lo' := 0) (hi' := 200) r20029 (by decide) (by decide))) dX11_four_30 (fun H locs hW hS oq o2 np => ?_)
        have nh0_15 : wt_pin N.1 vwCl h0 11 15 (.int x20029) H := np
        have hV := hV.put (by decide) o2
        have hI := mI.fr.put hI k0 oq o2 (by decide) (by decide)
        obtain ⟨x20033, e20033⟩ : ∃ y : Int32, y = x10033 + (-8) := ⟨_, rfl⟩
        have r20033 : ir x20033 0 0 := ir_w (ir_add e20033 r10033 (ir_c (-8) (by decide) : ir (-8 : Int32) (-8) (-8)) (by decide) (by decide)) (by decide) (by decide)
        have t20033 : x20033.toInt = x10033.toInt + (-8) := it_add e20033 r10033 (ir_c (-8) (by decide) : ir (-8 : Int32) (-8) (-8)) (by decide) (by decide)
        refine lv_iinc (v := x20033) (lv' := [(2, .int x20033), (0, .ref h0), (1, .int p1)]) hx hb dX11_four_33 hl (k := 0) rfl (by rw [e20033]; rfl) (by decide) rfl (fun ls hl => ?_)
        refine lv_goto (tgt := 3) hx hb dX11_four_36 (by decide) ?_
        refine lv_iload_n hx hb dX11_four_3 rfl (lv_at hl 0 rfl) ?_
        refine lv_if_lt (tgt := 39) hx hb dX11_four_4 (by decide) (fun c30004 => ?_) (fun c30004 => ?_)
        · exact absurd (rf_lt c30004 r20033 (ir_c (0) (by decide) : ir (0 : Int32) (0) (0))) (by have h8 := r20033; have h9 := (ir_c (0) (by decide) : ir (0 : Int32) (0) (0)); omega)
        · refine lv_aload_n hx hb dX11_four_7 rfl (lv_at hl 1 rfl) ?_
          refine wt_get hx hb hts cfX11 hown hK hW (cg11 k0) rfl 14 (by decide) q886 dX11_four_8 (fun v hv => ?_)
          obtain ⟨x30008, rfl, k30008⟩ : gr N 50 v := hv
          refine lv_aload_n hx hb dX11_four_11 rfl (lv_at hl 1 rfl) ?_
          refine wt_rel hx hb hts cfX11 hown hK nh0_15 rfl (by decide) (Or.inl (hts _ q887)) dX11_four_12 ?_
          refine lv_iload_n hx hb dX11_four_15 rfl (lv_at hl 2 rfl) ?_
          refine lv_iload_n hx hb dX11_four_16 rfl (lv_at hl 0 rfl) ?_
          refine lv_ishr hx hb dX11_four_17 ?_
          refine lv_topi (fun x30017 e30017 => ?_)
          refine lv_sipush (v := 255) hx hb dX11_four_18 (by decide) ?_
          refine lv_iand hx hb dX11_four_21 ?_
          refine lv_topi (fun x30021 e30021 => ?_)
          have r30021 : ir x30021 0 255 := ir_and e30021 (ir_w (ir_c (255) (by decide) : ir (255 : Int32) (255) (255)) (by decide) (by decide))
          refine wt_iastp hx hb hK hW hS 0 (cg50 k30008) (ce k30008 (by decide)) rfl (ir_in (ir_w (lo' := 0) (hi' := 199) r20029 (by decide) (by decide)) (by decide) (by decide)) (gi_mk r30021) dX11_four_22 (fun H locs hW hS oq => ?_)
          have nh0_15 := nh0_15.kept (oq _ (ne_kind k0 k30008 (by decide)))
          have hV := hV.keep (oq _ (ne_kind k0 k30008 (by decide)))
          have hI := mI.fr.arr hI k0 k30008 oq (by decide) (by decide)
          refine lv_aload_n hx hb dX11_four_23 rfl (lv_at hl 1 rfl) ?_
          refine lv_dup hx hb dX11_four_24 rfl ?_
          refine wt_rel hx hb hts cfX11 hown hK nh0_15 rfl (by decide) (Or.inl (hts _ q887)) dX11_four_25 ?_
          refine lv_iconst (v := 1) hx hb dX11_four_28 (by decide) ?_
          refine lv_iadd hx hb dX11_four_29 ?_
          refine lv_topi (fun x30029 e30029 => ?_)
          have t30029 : x30029.toInt = x20029.toInt + (1) := it_add e30029 r20029 (ir_c (1) (by decide) : ir (1 : Int32) (1) (1)) (by decide) (by decide)
          have r30029 : ir x30029 4 200 := ir_w (ir_add e30029 r20029 (ir_c (1) (by decide) : ir (1 : Int32) (1) (1)) (by decide) (by decide)) (by decide) (by decide)
          refine wt_putp hx hb hts cfX11 tyX11 tyX11_ok nmX11 hown hK hW hS (cg11 k0) (ce k0 (by decide)) rfl 15 (by decide) (Or.inl (hts _ q887)) rfl rfl rfl (gi_mk (ir_w (lo' := 0) (hi' := 200) r30029 (by decide) (by decide))) dX11_four_30 (fun H locs hW hS oq o2 np => ?_)
          have nh0_15 : wt_pin N.1 vwCl h0 11 15 (.int x30029) H := np
          have hV := hV.put (by decide) o2
          have hI := mI.fr.put hI k0 oq o2 (by decide) (by decide)
          obtain ⟨x30033, e30033⟩ : ∃ y : Int32, y = x20033 + (-8) := ⟨_, rfl⟩
          have r30033 : ir x30033 (-8) (-8) := ir_w (ir_add e30033 r20033 (ir_c (-8) (by decide) : ir (-8 : Int32) (-8) (-8)) (by decide) (by decide)) (by decide) (by decide)
          have t30033 : x30033.toInt = x20033.toInt + (-8) := it_add e30033 r20033 (ir_c (-8) (by decide) : ir (-8 : Int32) (-8) (-8)) (by decide) (by decide)
          refine lv_iinc (v := x30033) (lv' := [(2, .int x30033), (0, .ref h0), (1, .int p1)]) hx hb dX11_four_33 hl (k := 0) rfl (by rw [e30033]; rfl) (by decide) rfl (fun ls hl => ?_)
          refine lv_goto (tgt := 3) hx hb dX11_four_36 (by decide) ?_
          refine lv_iload_n hx hb dX11_four_3 rfl (lv_at hl 0 rfl) ?_
          refine lv_if_lt (tgt := 39) hx hb dX11_four_4 (by decide) (fun c40004 => ?_) (fun c40004 => ?_)
          · exact W.vret hx hb hr (fun t ht _ => ⟨⟨(), rfl, trivial, cW_at ht hW, ⟨mI_at ht hI, kp_at ht hV, ⟨_, pin_at ht nh0_15, by omega⟩⟩⟩, hS.F ht⟩) hS.2.2 dX11_four_39
          · exact absurd (rf_le (rf_nlt c40004) (ir_c (0) (by decide) : ir (0 : Int32) (0) (0)) r30033) (by have h8 := (ir_c (0) (by decide) : ir (0 : Int32) (0) (0)); have h9 := r30033; omega)
set_option maxHeartbeats 4000000 in
set_option maxRecDepth 100000 in
theorem m_X11_feed (l : Launch) (N : c_N) (h0 : Nat) (k0 : N.2.2.1 h0 = some 11) (hO : mOK N) (V : Nat → Value) (p1 : Int32) (p2 : Int32) (p3 : Int32) (p4 : Int32) (p5 : Int32) : cMi2 l yX11_feed cX11_feed 6 .int { frames := 1, cells := 0, slots := 0, locals := 22 } [.ref h0, .int p1, .int p2, .int p3, .int p4, .int p5] N [11, 50] (fun H => mI N h0 H ∧ kp N h0 [15] V H) (fun _ => True) (fun _ H => mI N h0 H ∧ kp N h0 [15] V H) := by
  refine Met.ofW (cc := cX11_feed) (maxL := 6) (ret := some .int) (by decide) rfl ?_
  intro p e s m args below meth c s₁ B hml hv
  obtain ⟨rfl, ⟨hK, hW, hT, hnn⟩, hB⟩ := hv
  obtain ⟨hI, hV⟩ := hB
  have hx := B.exec
  have hb := B.bytes
  have hr := B.returns
  have hts : ∀ w ∈ lw_g, w.before _ s = true := fun w h => atoms_spec (ws := wc_ws yX11_feed cX11_feed 6 (some .int)) B.pre w (List.mem_cons_of_mem _ h)
  have hown : s.vm.findClass RX11 = some m.cls := findClass_of_methodNamed B.named
  have hlocks := B.notSynchronized
  have hS : va_S (cE N [11, 50]) s.heap s.heap [] := va_S.rf
  have hl := lv_entry ([.ref h0, .int p1, .int p2, .int p3, .int p4, .int p5]) (n := 6) (Nat.le_of_ble_eq_true rfl)
  rw [lg_entry_eq]
  generalize (lg_sl ([.ref h0, .int p1, .int p2, .int p3, .int p4, .int p5]) ++ List.replicate (6 - (lg_sl ([.ref h0, .int p1, .int p2, .int p3, .int p4, .int p5])).length) Slot.unset).toArray = ls at hl ⊢
  have hl : lv_has ls 6 [(0, .ref h0), (1, .int p1), (2, .int p2), (3, .int p3), (4, .int p4), (5, .int p5)] := hl
  refine wq_all ?_
  intro WW w1 w2
  refine lv_aload_n hx hb dX11_feed_0 rfl (lv_at hl 0 rfl) ?_
  refine wt_getp hx hb hts cfX11 hown hK hW (cg11 k0) rfl 15 (by decide) (Or.inl (hts _ q887)) dX11_feed_1 (fun v hv nh0_15 => ?_)
  obtain ⟨x1, rfl, r1⟩ : gi 0 200 v := hv
  refine lv_bipush (v := 20) hx hb dX11_feed_4 (by decide) ?_
  refine lv_iadd hx hb dX11_feed_6 ?_
  refine lv_topi (fun x6 e6 => ?_)
  have t6 : x6.toInt = x1.toInt + (20) := it_add e6 r1 (ir_c (20) (by decide) : ir (20 : Int32) (20) (20)) (by decide) (by decide)
  have r6 : ir x6 20 220 := ir_w (ir_add e6 r1 (ir_c (20) (by decide) : ir (20 : Int32) (20) (20)) (by decide) (by decide)) (by decide) (by decide)
  refine lv_sipush (v := 200) hx hb dX11_feed_7 (by decide) ?_
  refine lv_icmp_le (tgt := 15) hx hb dX11_feed_10 (by decide) (fun c10 => ?_) (fun c10 => ?_)
  · have rx6_10 : ir x6 20 200 := ⟨(r6).1, Int.le_trans (rf_le c10 r6 (ir_c (200) (by decide) : ir (200 : Int32) (200) (200))).1 (by decide)⟩
    have d10 := Int32.le_iff_toInt_le.mp c10
    have rx1_10_1 : ir x1 0 180 := by have h6 := t6; have h7 := r1; have h8 := (ir_c (20) (by decide) : ir (20 : Int32) (20) (20)); have h9 := rx6_10; constructor <;> omega
    refine lv_aload_n hx hb dX11_feed_15 rfl (lv_at hl 0 rfl) ?_
    refine lv_iload_n hx hb dX11_feed_16 rfl (lv_at hl 1 rfl) ?_
    obtain ⟨V1, hV1⟩ := kp_all hW k0
    refine cc_v (B2 := fun H => mI N h0 H ∧ kp N h0 [15] V1 H ∧ ∃ x : Int32, pI N h0 15 x H ∧ x.toInt = x1.toInt + 4) (wt_runV (As := [.int p1]) (rest := []) ⟨hx, hb, hml, hown, hts⟩ (m_X11_four l N h0 k0 hO V1 p1 x1 (by have h6 := rx1_10_1; omega)) wm_X11_four q1128 ⟨rfl, rfl⟩ ⟨Nat.le_of_ble_eq_true rfl, Nat.le_of_ble_eq_true rfl⟩ (cS_preV (B := fun H => mI N h0 H ∧ kp N h0 [15] V1 H ∧ wt_pin N.1 vwCl h0 11 15 (.int x1) H) hK hW hT hnn hS (cg11 k0) rfl rfl (And.intro hI (And.intro (kp_of (F := [15]) hV1) nh0_15))) rfl hl.1 rfl (Nat.le_of_ble_eq_true rfl) dX11_feed_17 ⟨Nat.zero_le _, Nat.zero_le _⟩) hS (by decide) (fun H locs hW hS oq hB2 => ?_)
    obtain ⟨hI, hV2, hB2⟩ := hB2
    have hV := kp_call hV hV1 hV2 (by decide)
    obtain ⟨xx17_15, nh0_15, w17⟩ := hB2
    have rxx17_15 : ir xx17_15 4 184 := by have h6 := rx1_10_1; have h7 : ir xx17_15 0 200 := gi_r (cpin_P hW (cg11 k0) rfl (by decide) nh0_15); constructor <;> omega
    refine lv_aload_n hx hb dX11_feed_20 rfl (lv_at hl 0 rfl) ?_
    refine lv_iload_n hx hb dX11_feed_21 rfl (lv_at hl 2 rfl) ?_
    obtain ⟨V1, hV1⟩ := kp_all hW k0
    refine cc_v (B2 := fun H => mI N h0 H ∧ kp N h0 [15] V1 H ∧ ∃ x : Int32, pI N h0 15 x H ∧ x.toInt = xx17_15.toInt + 4) (wt_runV (As := [.int p2]) (rest := []) ⟨hx, hb, hml, hown, hts⟩ (m_X11_four l N h0 k0 hO V1 p2 xx17_15 (by have h6 := rxx17_15; omega)) wm_X11_four q1128 ⟨rfl, rfl⟩ ⟨Nat.le_of_ble_eq_true rfl, Nat.le_of_ble_eq_true rfl⟩ (cS_preV (B := fun H => mI N h0 H ∧ kp N h0 [15] V1 H ∧ wt_pin N.1 vwCl h0 11 15 (.int xx17_15) H) hK hW hT hnn hS (cg11 k0) rfl rfl (And.intro hI (And.intro (kp_of (F := [15]) hV1) nh0_15))) rfl hl.1 rfl (Nat.le_of_ble_eq_true rfl) dX11_feed_22 ⟨Nat.zero_le _, Nat.zero_le _⟩) hS (by decide) (fun H locs hW hS oq hB2 => ?_)
    obtain ⟨hI, hV2, hB2⟩ := hB2
    have hV := kp_call hV hV1 hV2 (by decide)
    obtain ⟨xx22_15, nh0_15, w22⟩ := hB2
    have rxx22_15 : ir xx22_15 8 188 := by have h6 := rxx17_15; have h7 : ir xx22_15 0 200 := gi_r (cpin_P hW (cg11 k0) rfl (by decide) nh0_15); constructor <;> omega
    refine lv_aload_n hx hb dX11_feed_25 rfl (lv_at hl 0 rfl) ?_
    refine lv_iload_n hx hb dX11_feed_26 rfl (lv_at hl 3 rfl) ?_
    obtain ⟨V1, hV1⟩ := kp_all hW k0
    refine cc_v (B2 := fun H => mI N h0 H ∧ kp N h0 [15] V1 H ∧ ∃ x : Int32, pI N h0 15 x H ∧ x.toInt = xx22_15.toInt + 4) (wt_runV (As := [.int p3]) (rest := []) ⟨hx, hb, hml, hown, hts⟩ (m_X11_four l N h0 k0 hO V1 p3 xx22_15 (by have h6 := rxx22_15; omega)) wm_X11_four q1128 ⟨rfl, rfl⟩ ⟨Nat.le_of_ble_eq_true rfl, Nat.le_of_ble_eq_true rfl⟩ (cS_preV (B := fun H => mI N h0 H ∧ kp N h0 [15] V1 H ∧ wt_pin N.1 vwCl h0 11 15 (.int xx22_15) H) hK hW hT hnn hS (cg11 k0) rfl rfl (And.intro hI (And.intro (kp_of (F := [15]) hV1) nh0_15))) rfl hl.1 rfl (Nat.le_of_ble_eq_true rfl) dX11_feed_27 ⟨Nat.zero_le _, Nat.zero_le _⟩) hS (by decide) (fun H locs hW hS oq hB2 => ?_)
    obtain ⟨hI, hV2, hB2⟩ := hB2
    have hV := kp_call hV hV1 hV2 (by decide)
    obtain ⟨xx27_15, nh0_15, w27⟩ := hB2
    have rxx27_15 : ir xx27_15 12 192 := by have h6 := rxx22_15; have h7 : ir xx27_15 0 200 := gi_r (cpin_P hW (cg11 k0) rfl (by decide) nh0_15); constructor <;> omega
    refine lv_aload_n hx hb dX11_feed_30 rfl (lv_at hl 0 rfl) ?_
    refine lv_iload hx hb dX11_feed_31 (lv_at hl 4 rfl) ?_
    obtain ⟨V1, hV1⟩ := kp_all hW k0
    refine cc_v (B2 := fun H => mI N h0 H ∧ kp N h0 [15] V1 H ∧ ∃ x : Int32, pI N h0 15 x H ∧ x.toInt = xx27_15.toInt + 4) (wt_runV (As := [.int p4]) (rest := []) ⟨hx, hb, hml, hown, hts⟩ (m_X11_four l N h0 k0 hO V1 p4 xx27_15 (by have h6 := rxx27_15; omega)) wm_X11_four q1128 ⟨rfl, rfl⟩ ⟨Nat.le_of_ble_eq_true rfl, Nat.le_of_ble_eq_true rfl⟩ (cS_preV (B := fun H => mI N h0 H ∧ kp N h0 [15] V1 H ∧ wt_pin N.1 vwCl h0 11 15 (.int xx27_15) H) hK hW hT hnn hS (cg11 k0) rfl rfl (And.intro hI (And.intro (kp_of (F := [15]) hV1) nh0_15))) rfl hl.1 rfl (Nat.le_of_ble_eq_true rfl) dX11_feed_33 ⟨Nat.zero_le _, Nat.zero_le _⟩) hS (by decide) (fun H locs hW hS oq hB2 => ?_)
    obtain ⟨hI, hV2, hB2⟩ := hB2
    have hV := kp_call hV hV1 hV2 (by decide)
    obtain ⟨xx33_15, nh0_15, w33⟩ := hB2
    have rxx33_15 : ir xx33_15 16 196 := by have h6 := rxx27_15; have h7 : ir xx33_15 0 200 := gi_r (cpin_P hW (cg11 k0) rfl (by decide) nh0_15); constructor <;> omega
    refine lv_aload_n hx hb dX11_feed_36 rfl (lv_at hl 0 rfl) ?_
    refine lv_iload hx hb dX11_feed_37 (lv_at hl 5 rfl) ?_
    obtain ⟨V1, hV1⟩ := kp_all hW k0
    refine cc_v (B2 := fun H => mI N h0 H ∧ kp N h0 [15] V1 H ∧ ∃ x : Int32, pI N h0 15 x H ∧ x.toInt = xx33_15.toInt + 4) (wt_runV (As := [.int p5]) (rest := []) ⟨hx, hb, hml, hown, hts⟩ (m_X11_four l N h0 k0 hO V1 p5 xx33_15 (by have h6 := rxx33_15; omega)) wm_X11_four q1128 ⟨rfl, rfl⟩ ⟨Nat.le_of_ble_eq_true rfl, Nat.le_of_ble_eq_true rfl⟩ (cS_preV (B := fun H => mI N h0 H ∧ kp N h0 [15] V1 H ∧ wt_pin N.1 vwCl h0 11 15 (.int xx33_15) H) hK hW hT hnn hS (cg11 k0) rfl rfl (And.intro hI (And.intro (kp_of (F := [15]) hV1) nh0_15))) rfl hl.1 rfl (Nat.le_of_ble_eq_true rfl) dX11_feed_39 ⟨Nat.zero_le _, Nat.zero_le _⟩) hS (by decide) (fun H locs hW hS oq hB2 => ?_)
    obtain ⟨hI, hV2, hB2⟩ := hB2
    have hV := kp_call hV hV1 hV2 (by decide)
    obtain ⟨xx39_15, nh0_15, w39⟩ := hB2
    have rxx39_15 : ir xx39_15 20 200 := by have h6 := rxx33_15; have h7 : ir xx39_15 0 200 := gi_r (cpin_P hW (cg11 k0) rfl (by decide) nh0_15); constructor <;> omega
    refine lv_aload_n hx hb dX11_feed_42 rfl (lv_at hl 0 rfl) ?_
    refine wt_rel hx hb hts cfX11 hown hK nh0_15 rfl (by decide) (Or.inl (hts _ q887)) dX11_feed_43 ?_
    exact W.iret (v := xx39_15) hx hb hr (fun t ht _ => ⟨⟨xx39_15, xx39_15, rfl, ⟨rfl, trivial⟩, cW_at ht hW, ⟨mI_at ht hI, kp_at ht hV⟩⟩, hS.F ht⟩) hS.2.2 dX11_feed_46
  · have rx6_10 : ir x6 201 220 := ⟨Int.le_trans (by decide) (rf_lt (rf_nle c10) (ir_c (200) (by decide) : ir (200 : Int32) (200) (200)) r6).2, (r6).2⟩
    have d10 := Int32.lt_iff_toInt_lt.mp (rf_nle c10)
    have rx1_10_1 : ir x1 181 200 := by have h6 := t6; have h7 := r1; have h8 := (ir_c (20) (by decide) : ir (20 : Int32) (20) (20)); have h9 := rx6_10; constructor <;> omega
    refine lv_iconst (v := -1) hx hb dX11_feed_13 (by decide) ?_
    exact W.iret (v := (-1 : Int32)) hx hb hr (fun t ht _ => ⟨⟨(-1 : Int32), (-1 : Int32), rfl, ⟨rfl, trivial⟩, cW_at ht hW, ⟨mI_at ht hI, kp_at ht hV⟩⟩, hS.F ht⟩) hS.2.2 dX11_feed_14
set_option maxHeartbeats 4000000 in
set_option maxRecDepth 100000 in
theorem m_X11_isDigit (l : Launch) (N : c_N) (h0 : Nat) (k0 : N.2.2.1 h0 = some 11) (hO : mOK N) (V : Nat → Value) (p1 : Int32) (rp1 : ir p1 0 200) : cMi2 l yX11_isDigit cX11_isDigit 2 .boolean { frames := 1, cells := 0, slots := 0, locals := 25 } [.ref h0, .int p1] N [] (fun H => mI N h0 H ∧ kp N h0 [] V H) (fun r => ir r 0 1 ∧ (¬ r = 0 → ir p1 0 199)) (fun r H => mI N h0 H ∧ kp N h0 [] V H ∧ (¬ r = 0 → ∀ aT : Nat, N.2.2.1 aT = some 50 → ∃ x : Int32, wt_ap (N.2.1 0) 200 aT p1.toNatClampNeg (.int x) H ∧ ir x 48 57)) := by
  refine Met.ofW (cc := cX11_isDigit) (maxL := 2) (ret := some .boolean) (by decide) rfl ?_
  intro p e s m args below meth c s₁ B hml hv
  obtain ⟨rfl, ⟨hK, hW, hT, hnn⟩, hB⟩ := hv
  obtain ⟨hI, hV⟩ := hB
  have hx := B.exec
  have hb := B.bytes
  have hr := B.returns
  have hts : ∀ w ∈ lw_g, w.before _ s = true := fun w h => atoms_spec (ws := wc_ws yX11_isDigit cX11_isDigit 2 (some .boolean)) B.pre w (List.mem_cons_of_mem _ h)
  have hown : s.vm.findClass RX11 = some m.cls := findClass_of_methodNamed B.named
  have hlocks := B.notSynchronized
  have hS : va_S (cE N []) s.heap s.heap [] := va_S.rf
  have hl := lv_entry ([.ref h0, .int p1]) (n := 2) (Nat.le_of_ble_eq_true rfl)
  rw [lg_entry_eq]
  generalize (lg_sl ([.ref h0, .int p1]) ++ List.replicate (2 - (lg_sl ([.ref h0, .int p1])).length) Slot.unset).toArray = ls at hl ⊢
  have hl : lv_has ls 2 [(0, .ref h0), (1, .int p1)] := hl
  refine wq_all ?_
  intro WW w1 w2
  refine lv_iload_n hx hb dX11_isDigit_0 rfl (lv_at hl 1 rfl) ?_
  refine lv_aload_n hx hb dX11_isDigit_1 rfl (lv_at hl 0 rfl) ?_
  refine wt_getp hx hb hts cfX11 hown hK hW (cg11 k0) rfl 15 (by decide) (Or.inl (hts _ q887)) dX11_isDigit_2 (fun v hv nh0_15 => ?_)
  obtain ⟨x2, rfl, r2⟩ : gi 0 200 v := hv
  refine lv_icmp_ge (tgt := 31) hx hb dX11_isDigit_5 (by decide) (fun c5 => ?_) (fun c5 => ?_)
  · refine lv_iconst (v := 0) hx hb dX11_isDigit_31 (by decide) ?_
    exact W.zret (v := (0 : Int32)) hx hb hr rfl (fun t ht _ => ⟨⟨(0 : Int32), (0 : Int32), rfl, ⟨rfl, (⟨⟨by decide, by decide⟩, fun h => absurd rfl h⟩)⟩, cW_at ht hW, ⟨mI_at ht hI, kp_at ht hV, fun h => absurd rfl h⟩⟩, hS.F ht⟩) hS.2.2 dX11_isDigit_32
  · have rp1_5 : ir p1 0 199 := ⟨(rp1).1, Int.le_trans (rf_lt (rf_nle c5) rp1 r2).1 (by decide)⟩
    have rx2_5 : ir x2 1 200 := ⟨Int.le_trans (by decide) (rf_lt (rf_nle c5) rp1 r2).2, (r2).2⟩
    refine lv_aload_n hx hb dX11_isDigit_8 rfl (lv_at hl 0 rfl) ?_
    refine wt_get hx hb hts cfX11 hown hK hW (cg11 k0) rfl 14 (by decide) q886 dX11_isDigit_9 (fun v hv => ?_)
    obtain ⟨x9, rfl, k9⟩ : gr N 50 v := hv
    refine lv_iload_n hx hb dX11_isDigit_12 rfl (lv_at hl 1 rfl) ?_
    refine wt_ialdx hx hb hK hW 0 (cg50 k9) rfl (ir_in rp1_5 (by decide) (by decide)) dX11_isDigit_13 (fun v hv ap13 => ?_)
    obtain ⟨x13, rfl, r13⟩ : gi 0 255 v := hv
    refine lv_i2l hx hb dX11_isDigit_14 rfl ?_
    refine lv_topl (fun x14 e14 => ?_)
    have r14 : lr x14 0 255 := by rw [e14]; exact i2l_r r13
    refine lv_ldc2 hx hb hown (hts _ q1162) dX11_isDigit_15 ?_
    refine lv_ldc2 hx hb hown (hts _ q1163) dX11_isDigit_18 ?_
    refine cp_i (wt_runS (As := [.long x14, .long (48 : Int64), .long (57 : Int64)]) (rest := []) ⟨hx, hb, hml, hown, hts⟩ (m_X11_isIn l x14 (48 : Int64) (57 : Int64)) wm_X11_isIn q1050 ⟨rfl, rfl⟩ ⟨Nat.le_of_ble_eq_true rfl, Nat.le_of_ble_eq_true rfl⟩ pS_pre rfl hl.1 rfl (Nat.le_of_ble_eq_true rfl) dX11_isDigit_21 ⟨Nat.zero_le _, Nat.zero_le _⟩) hW hS (fun x21 H locs hp hW1 hS oq => ?_)
    have hV := hV.same hW k0 oq
    have hI := mI.fr.same hI hW oq
    have hWo := hW
    have hW := hW1
    have ap13 := ap13.kept (oq _ (hW_lt hWo k9) (cE_nil _))
    have nh0_15 := nh0_15.kept (oq _ nh0_15.lt (cE_not k0 (by decide)))
    obtain ⟨r21, b21⟩ := hp
    refine lv_if_eq (tgt := 31) hx hb dX11_isDigit_24 (by decide) (fun c24 => ?_) (fun c24 => ?_)
    · have rx21_24 : ir x21 0 0 := rf_eq c24 (ir_c (0) (by decide) : ir (0 : Int32) (0) (0))
      refine lv_iconst (v := 0) hx hb dX11_isDigit_31 (by decide) ?_
      exact W.zret (v := (0 : Int32)) hx hb hr rfl (fun t ht _ => ⟨⟨(0 : Int32), (0 : Int32), rfl, ⟨rfl, (⟨⟨by decide, by decide⟩, fun h => absurd rfl h⟩)⟩, cW_at ht hW, ⟨mI_at ht hI, kp_at ht hV, fun h => absurd rfl h⟩⟩, hS.F ht⟩) hS.2.2 dX11_isDigit_32
    · have rx21_24 : ir x21 1 1 := rf_ne0 c24 r21
      have bx21_24 := b21 c24
      have rbx14_24 : lr x14 48 57 := by have h5 := bx21_24; have h6 := r14; have h7 := (lr_c (48) (by decide) : lr (48 : Int64) (48) (48)); have h8 := (lr_c (57) (by decide) : lr (57 : Int64) (57) (57)); constructor <;> omega
      have rx13_24 : ir x13 48 57 := i2l_b e14 rbx14_24
      refine lv_iconst (v := 1) hx hb dX11_isDigit_27 (by decide) ?_
      refine lv_goto (tgt := 32) hx hb dX11_isDigit_28 (by decide) ?_
      exact W.zret (v := (1 : Int32)) hx hb hr rfl (fun t ht _ => ⟨⟨(1 : Int32), (1 : Int32), rfl, ⟨rfl, (⟨⟨by decide, by decide⟩, fun _ => rp1_5⟩)⟩, cW_at ht hW, ⟨mI_at ht hI, kp_at ht hV, fun _ aT kT => ⟨x13, by rw [hO.1 aT _ 50 (by decide) kT k9]; exact ap_at ht ap13, rx13_24⟩⟩⟩, hS.F ht⟩) hS.2.2 dX11_isDigit_32
set_option maxHeartbeats 4000000 in
set_option maxRecDepth 100000 in
theorem m_X11_see (l : Launch) (N : c_N) (h0 : Nat) (k0 : N.2.2.1 h0 = some 11) (hO : mOK N) (V : Nat → Value) (g15 : Int32) (g18 : Int32) : cMi2 l yX11_see cX11_see 1 .int { frames := 0, cells := 0, slots := 0, locals := 0 } [.ref h0] N [11] (fun H => mI N h0 H ∧ kp N h0 [18] V H ∧ wt_pin N.1 vwCl h0 11 15 (.int g15) H ∧ wt_pin N.1 vwCl h0 11 18 (.int g18) H) (fun r => ir r (-1) 255) (fun r H => mI N h0 H ∧ kp N h0 [18] V H ∧ ∃ x : Int32, pI N h0 18 x H ∧ ir x 0 200 ∧ g18.toInt ≤ x.toInt ∧ (¬ r = -1 → x.toInt ≤ 199)) := by
  refine Met.ofW (cc := cX11_see) (maxL := 1) (ret := some .int) (by decide) rfl ?_
  intro p e s m args below meth c s₁ B hml hv
  obtain ⟨rfl, ⟨hK, hW, hT, hnn⟩, hB⟩ := hv
  obtain ⟨hI, hV, hB⟩ := hB
  have nh0_15 := hB.1
  have rg15 : ir g15 0 200 := gi_r (cpin_P hW (cg11 k0) rfl (by decide) nh0_15)
  have nh0_18 := hB.2
  have rg18 : ir g18 0 200 := gi_r (cpin_P hW (cg11 k0) rfl (by decide) nh0_18)
  have hx := B.exec
  have hb := B.bytes
  have hr := B.returns
  have hts : ∀ w ∈ lw_g, w.before _ s = true := fun w h => atoms_spec (ws := wc_ws yX11_see cX11_see 1 (some .int)) B.pre w (List.mem_cons_of_mem _ h)
  have hown : s.vm.findClass RX11 = some m.cls := findClass_of_methodNamed B.named
  have hlocks := B.notSynchronized
  have hS : va_S (cE N [11]) s.heap s.heap [] := va_S.rf
  have hl := lv_entry ([.ref h0]) (n := 1) (Nat.le_of_ble_eq_true rfl)
  rw [lg_entry_eq]
  generalize (lg_sl ([.ref h0]) ++ List.replicate (1 - (lg_sl ([.ref h0])).length) Slot.unset).toArray = ls at hl ⊢
  have hl : lv_has ls 1 [(0, .ref h0)] := hl
  refine wq_all ?_
  intro WW w1 w2
  have L0 : ∀ (n : Nat) (H : Heap) (locs : List Loc) (ls : Array Slot) (u0_1 : Int32), cW N H → mI N h0 H → kp N h0 [18] V H → va_S (cE N [11]) s.heap H locs → lv_has ls 1 [(0, .ref h0)] → ir g15 0 200 → wt_pin N.1 vwCl h0 11 15 (.int g15) H → ir u0_1 0 200 → wt_pin N.1 vwCl h0 11 18 (.int u0_1) H → g18.toInt ≤ u0_1.toInt → 200 - u0_1.toInt < (n : Int) → WW H locs (F0 m 0 ls []) := by
    intro n
    induction n with
    | zero =>
      intro H locs ls u0_1 hW hI hV hS hl ru0_0 nh0_15 ru0_1 nh0_18 rw0_0 mu0
      exfalso
      omega
    | succ n ih0 =>
      intro H locs ls u0_1 hW hI hV hS hl ru0_0 nh0_15 ru0_1 nh0_18 rw0_0 mu0
      refine w1 _ _ _ ?_
      refine lv_aload_n hx hb dX11_see_0 rfl (lv_at hl 0 rfl) ?_
      refine wt_rel hx hb hts cfX11 hown hK nh0_18 rfl (by decide) (Or.inl (hts _ q890)) dX11_see_1 ?_
      refine lv_aload_n hx hb dX11_see_4 rfl (lv_at hl 0 rfl) ?_
      refine wt_rel hx hb hts cfX11 hown hK nh0_15 rfl (by decide) (Or.inl (hts _ q887)) dX11_see_5 ?_
      refine lv_icmp_ge (tgt := 52) hx hb dX11_see_8 (by decide) (fun c8 => ?_) (fun c8 => ?_)
      · refine lv_aload_n hx hb dX11_see_52 rfl (lv_at hl 0 rfl) ?_
        refine wt_rel hx hb hts cfX11 hown hK nh0_18 rfl (by decide) (Or.inl (hts _ q890)) dX11_see_53 ?_
        refine lv_aload_n hx hb dX11_see_56 rfl (lv_at hl 0 rfl) ?_
        refine wt_rel hx hb hts cfX11 hown hK nh0_15 rfl (by decide) (Or.inl (hts _ q887)) dX11_see_57 ?_
        refine lv_icmp_ge (tgt := 75) hx hb dX11_see_60 (by decide) (fun c60 => ?_) (fun c60 => ?_)
        · refine lv_iconst (v := -1) hx hb dX11_see_75 (by decide) ?_
          exact W.iret (v := (-1 : Int32)) hx hb hr (fun t ht _ => ⟨⟨(-1 : Int32), (-1 : Int32), rfl, ⟨rfl, (ir_w (lo' := -1) (hi' := 255) (ir_c (-1) (by decide) : ir (-1 : Int32) (-1) (-1)) (by decide) (by decide))⟩, cW_at ht hW, ⟨mI_at ht hI, kp_at ht hV, ⟨_, pin_at ht nh0_18, ru0_1, by omega, fun h => absurd rfl h⟩⟩⟩, hS.F ht⟩) hS.2.2 dX11_see_76
        · have ru0_1_60 : ir u0_1 0 199 := ⟨(ru0_1).1, Int.le_trans (rf_lt (rf_nle c60) ru0_1 ru0_0).1 (by decide)⟩
          have rg15_60 : ir g15 1 200 := ⟨Int.le_trans (by decide) (rf_lt (rf_nle c60) ru0_1 ru0_0).2, (ru0_0).2⟩
          have rg15_60_1 : ir g15 1 199 := ⟨(rg15_60).1, Int.le_trans (rf_le c8 rg15_60 ru0_1_60).1 (by decide)⟩
          have ru0_1_60_2 : ir u0_1 0 198 := ⟨(ru0_1_60).1, Int.le_trans (rf_lt (rf_nle c60) ru0_1_60 rg15_60_1).1 (by decide)⟩
          have rg15_60_3 : ir g15 1 198 := ⟨(rg15_60_1).1, Int.le_trans (rf_le c8 rg15_60_1 ru0_1_60_2).1 (by decide)⟩
          have ru0_1_60_4 : ir u0_1 0 197 := ⟨(ru0_1_60_2).1, Int.le_trans (rf_lt (rf_nle c60) ru0_1_60_2 rg15_60_3).1 (by decide)⟩
          have rg15_60_5 : ir g15 1 197 := ⟨(rg15_60_3).1, Int.le_trans (rf_le c8 rg15_60_3 ru0_1_60_4).1 (by decide)⟩
          have ru0_1_60_6 : ir u0_1 0 196 := ⟨(ru0_1_60_4).1, Int.le_trans (rf_lt (rf_nle c60) ru0_1_60_4 rg15_60_5).1 (by decide)⟩
          have rg15_60_7 : ir g15 1 196 := ⟨(rg15_60_5).1, Int.le_trans (rf_le c8 rg15_60_5 ru0_1_60_6).1 (by decide)⟩
          have ru0_1_60_8 : ir u0_1 0 195 := ⟨(ru0_1_60_6).1, Int.le_trans (rf_lt (rf_nle c60) ru0_1_60_6 rg15_60_7).1 (by decide)⟩
          have rg15_60_9 : ir g15 1 195 := ⟨(rg15_60_7).1, Int.le_trans (rf_le c8 rg15_60_7 ru0_1_60_8).1 (by decide)⟩
          have ru0_1_60_10 : ir u0_1 0 194 := ⟨(ru0_1_60_8).1, Int.le_trans (rf_lt (rf_nle c60) ru0_1_60_8 rg15_60_9).1 (by decide)⟩
          have rg15_60_11 : ir g15 1 194 := ⟨(rg15_60_9).1, Int.le_trans (rf_le c8 rg15_60_9 ru0_1_60_10).1 (by decide)⟩
          have ru0_1_60_12 : ir u0_1 0 193 := ⟨(ru0_1_60_10).1, Int.le_trans (rf_lt (rf_nle c60) ru0_1_60_10 rg15_60_11).1 (by decide)⟩
          have rg15_60_13 : ir g15 1 193 := ⟨(rg15_60_11).1, Int.le_trans (rf_le c8 rg15_60_11 ru0_1_60_12).1 (by decide)⟩
          have ru0_1_60_14 : ir u0_1 0 192 := ⟨(ru0_1_60_12).1, Int.le_trans (rf_lt (rf_nle c60) ru0_1_60_12 rg15_60_13).1 (by decide)⟩
          have rg15_60_15 : ir g15 1 192 := ⟨(rg15_60_13).1, Int.le_trans (rf_le c8 rg15_60_13 ru0_1_60_14).1 (by decide)⟩
          have ru0_1_60_16 : ir u0_1 0 191 := ⟨(ru0_1_60_14).1, Int.le_trans (rf_lt (rf_nle c60) ru0_1_60_14 rg15_60_15).1 (by decide)⟩
          have rg15_60_17 : ir g15 1 191 := ⟨(rg15_60_15).1, Int.le_trans (rf_le c8 rg15_60_15 ru0_1_60_16).1 (by decide)⟩
          have ru0_1_60_18 : ir u0_1 0 190 := ⟨(ru0_1_60_16).1, Int.le_trans (rf_lt (rf_nle c60) ru0_1_60_16 rg15_60_17).1 (by decide)⟩
          have rg15_60_19 : ir g15 1 190 := ⟨(rg15_60_17).1, Int.le_trans (rf_le c8 rg15_60_17 ru0_1_60_18).1 (by decide)⟩
          have ru0_1_60_20 : ir u0_1 0 189 := ⟨(ru0_1_60_18).1, Int.le_trans (rf_lt (rf_nle c60) ru0_1_60_18 rg15_60_19).1 (by decide)⟩
          refine lv_aload_n hx hb dX11_see_63 rfl (lv_at hl 0 rfl) ?_
          refine wt_get hx hb hts cfX11 hown hK hW (cg11 k0) rfl 14 (by decide) q886 dX11_see_64 (fun v hv => ?_)
          obtain ⟨x64, rfl, k64⟩ : gr N 50 v := hv
          refine lv_aload_n hx hb dX11_see_67 rfl (lv_at hl 0 rfl) ?_
          refine wt_rel hx hb hts cfX11 hown hK nh0_18 rfl (by decide) (Or.inl (hts _ q890)) dX11_see_68 ?_
          refine wt_ialdx hx hb hK hW 0 (cg50 k64) rfl (ir_in (ir_w (lo' := 0) (hi' := 199) ru0_1_60_20 (by decide) (by decide)) (by decide) (by decide)) dX11_see_71 (fun v hv ap71 => ?_)
          obtain ⟨x71, rfl, r71⟩ : gi 0 255 v := hv
          refine lv_goto (tgt := 76) hx hb dX11_see_72 (by decide) ?_
          exact W.iret (v := x71) hx hb hr (fun t ht _ => ⟨⟨x71, x71, rfl, ⟨rfl, (ir_w (lo' := -1) (hi' := 255) r71 (by decide) (by decide))⟩, cW_at ht hW, ⟨mI_at ht hI, kp_at ht hV, ⟨_, pin_at ht nh0_18, (ir_w (lo' := 0) (hi' := 200) ru0_1_60_20 (by decide) (by decide)), by omega, fun _ => ((ir_w (lo' := 0) (hi' := 199) ru0_1_60_20 (by decide) (by decide))).2⟩⟩⟩, hS.F ht⟩) hS.2.2 dX11_see_76
      · have ru0_1_8 : ir u0_1 0 199 := ⟨(ru0_1).1, Int.le_trans (rf_lt (rf_nle c8) ru0_1 ru0_0).1 (by decide)⟩
        have rg15_8 : ir g15 1 200 := ⟨Int.le_trans (by decide) (rf_lt (rf_nle c8) ru0_1 ru0_0).2, (ru0_0).2⟩
        refine lv_aload_n hx hb dX11_see_11 rfl (lv_at hl 0 rfl) ?_
        refine wt_get hx hb hts cfX11 hown hK hW (cg11 k0) rfl 14 (by decide) q886 dX11_see_12 (fun v hv => ?_)
        obtain ⟨x12, rfl, k12⟩ : gr N 50 v := hv
        refine lv_aload_n hx hb dX11_see_15 rfl (lv_at hl 0 rfl) ?_
        refine wt_rel hx hb hts cfX11 hown hK nh0_18 rfl (by decide) (Or.inl (hts _ q890)) dX11_see_16 ?_
        refine wt_ialdx hx hb hK hW 0 (cg50 k12) rfl (ir_in ru0_1_8 (by decide) (by decide)) dX11_see_19 (fun v hv ap19 => ?_)
        obtain ⟨x19, rfl, r19⟩ : gi 0 255 v := hv
        refine lv_bipush (v := 32) hx hb dX11_see_20 (by decide) ?_
        refine lv_icmp_eq (tgt := 39) hx hb dX11_see_22 (by decide) (fun c22 => ?_) (fun c22 => ?_)
        · have rx19_22 : ir x19 32 32 := rf_eq c22 (ir_c (32) (by decide) : ir (32 : Int32) (32) (32))
          refine lv_aload_n hx hb dX11_see_39 rfl (lv_at hl 0 rfl) ?_
          refine lv_dup hx hb dX11_see_40 rfl ?_
          refine wt_rel hx hb hts cfX11 hown hK nh0_18 rfl (by decide) (Or.inl (hts _ q890)) dX11_see_41 ?_
          refine lv_iconst (v := 1) hx hb dX11_see_44 (by decide) ?_
          refine lv_iadd hx hb dX11_see_45 ?_
          refine lv_topi (fun x45 e45 => ?_)
          have t45 : x45.toInt = u0_1.toInt + (1) := it_add e45 ru0_1_8 (ir_c (1) (by decide) : ir (1 : Int32) (1) (1)) (by decide) (by decide)
          have r45 : ir x45 1 200 := ir_w (ir_add e45 ru0_1_8 (ir_c (1) (by decide) : ir (1 : Int32) (1) (1)) (by decide) (by decide)) (by decide) (by decide)
          refine wt_putp hx hb hts cfX11 tyX11 tyX11_ok nmX11 hown hK hW hS (cg11 k0) (ce k0 (by decide)) rfl 18 (by decide) (Or.inl (hts _ q890)) rfl rfl rfl (gi_mk (ir_w (lo' := 0) (hi' := 200) r45 (by decide) (by decide))) dX11_see_46 (fun H locs hW hS oq o2 np => ?_)
          have nh0_15 := o2 15 _ (by decide) (by decide) nh0_15
          have ap19 := ap19.kept (oq _ (ne_kind k12 k0 (by decide)))
          have nh0_18 : wt_pin N.1 vwCl h0 11 18 (.int x45) H := np
          have hV := hV.put (by decide) o2
          have hI := mI.fr.put hI k0 oq o2 (by decide) (by decide)
          refine lv_goto (tgt := 0) hx hb dX11_see_49 (by decide) ?_
          exact w2 _ _ _ (ih0 _ _ _ x45 hW hI hV hS (lv_sub hl [0] rfl) (ir_w (lo' := 0) (hi' := 200) rg15_8 (by decide) (by decide)) nh0_15 (ir_w (lo' := 0) (hi' := 200) r45 (by decide) (by decide)) nh0_18 (by have h20 := r45; omega) (by omega))
        · refine lv_aload_n hx hb dX11_see_25 rfl (lv_at hl 0 rfl) ?_
          refine wt_get hx hb hts cfX11 hown hK hW (cg11 k0) rfl 14 (by decide) q886 dX11_see_26 (fun v hv => ?_)
          obtain ⟨x26, rfl, k26⟩ : gr N 50 v := hv
          refine lv_aload_n hx hb dX11_see_29 rfl (lv_at hl 0 rfl) ?_
          refine wt_rel hx hb hts cfX11 hown hK nh0_18 rfl (by decide) (Or.inl (hts _ q890)) dX11_see_30 ?_
          refine wt_ialdx hx hb hK hW 0 (cg50 k26) rfl (ir_in ru0_1_8 (by decide) (by decide)) dX11_see_33 (fun v hv ap33 => ?_)
          obtain ⟨x33, rfl, r33⟩ : gi 0 255 v := hv
          refine lv_bipush (v := 10) hx hb dX11_see_34 (by decide) ?_
          refine lv_icmp_ne (tgt := 52) hx hb dX11_see_36 (by decide) (fun c36 => ?_) (fun c36 => ?_)
          · refine lv_aload_n hx hb dX11_see_52 rfl (lv_at hl 0 rfl) ?_
            refine wt_rel hx hb hts cfX11 hown hK nh0_18 rfl (by decide) (Or.inl (hts _ q890)) dX11_see_53 ?_
            refine lv_aload_n hx hb dX11_see_56 rfl (lv_at hl 0 rfl) ?_
            refine wt_rel hx hb hts cfX11 hown hK nh0_15 rfl (by decide) (Or.inl (hts _ q887)) dX11_see_57 ?_
            refine lv_icmp_ge (tgt := 75) hx hb dX11_see_60 (by decide) (fun c60 => ?_) (fun c60 => ?_)
            · have rg15_60 : ir g15 1 199 := ⟨(rg15_8).1, Int.le_trans (rf_le c60 rg15_8 ru0_1_8).1 (by decide)⟩
              have ru0_1_60 : ir u0_1 1 199 := ⟨Int.le_trans (by decide) (rf_le c60 rg15_8 ru0_1_8).2, (ru0_1_8).2⟩
              have ru0_1_60_1 : ir u0_1 1 198 := ⟨(ru0_1_60).1, Int.le_trans (rf_lt (rf_nle c8) ru0_1_60 rg15_60).1 (by decide)⟩
              have rg15_60_2 : ir g15 1 198 := ⟨(rg15_60).1, Int.le_trans (rf_le c60 rg15_60 ru0_1_60_1).1 (by decide)⟩
              have ru0_1_60_3 : ir u0_1 1 197 := ⟨(ru0_1_60_1).1, Int.le_trans (rf_lt (rf_nle c8) ru0_1_60_1 rg15_60_2).1 (by decide)⟩
              have rg15_60_4 : ir g15 1 197 := ⟨(rg15_60_2).1, Int.le_trans (rf_le c60 rg15_60_2 ru0_1_60_3).1 (by decide)⟩
              have ru0_1_60_5 : ir u0_1 1 196 := ⟨(ru0_1_60_3).1, Int.le_trans (rf_lt (rf_nle c8) ru0_1_60_3 rg15_60_4).1 (by decide)⟩
              have rg15_60_6 : ir g15 1 196 := ⟨(rg15_60_4).1, Int.le_trans (rf_le c60 rg15_60_4 ru0_1_60_5).1 (by decide)⟩
              have ru0_1_60_7 : ir u0_1 1 195 := ⟨(ru0_1_60_5).1, Int.le_trans (rf_lt (rf_nle c8) ru0_1_60_5 rg15_60_6).1 (by decide)⟩
              have rg15_60_8 : ir g15 1 195 := ⟨(rg15_60_6).1, Int.le_trans (rf_le c60 rg15_60_6 ru0_1_60_7).1 (by decide)⟩
              have ru0_1_60_9 : ir u0_1 1 194 := ⟨(ru0_1_60_7).1, Int.le_trans (rf_lt (rf_nle c8) ru0_1_60_7 rg15_60_8).1 (by decide)⟩
              have rg15_60_10 : ir g15 1 194 := ⟨(rg15_60_8).1, Int.le_trans (rf_le c60 rg15_60_8 ru0_1_60_9).1 (by decide)⟩
              have ru0_1_60_11 : ir u0_1 1 193 := ⟨(ru0_1_60_9).1, Int.le_trans (rf_lt (rf_nle c8) ru0_1_60_9 rg15_60_10).1 (by decide)⟩
              have rg15_60_12 : ir g15 1 193 := ⟨(rg15_60_10).1, Int.le_trans (rf_le c60 rg15_60_10 ru0_1_60_11).1 (by decide)⟩
              have ru0_1_60_13 : ir u0_1 1 192 := ⟨(ru0_1_60_11).1, Int.le_trans (rf_lt (rf_nle c8) ru0_1_60_11 rg15_60_12).1 (by decide)⟩
              have rg15_60_14 : ir g15 1 192 := ⟨(rg15_60_12).1, Int.le_trans (rf_le c60 rg15_60_12 ru0_1_60_13).1 (by decide)⟩
              have ru0_1_60_15 : ir u0_1 1 191 := ⟨(ru0_1_60_13).1, Int.le_trans (rf_lt (rf_nle c8) ru0_1_60_13 rg15_60_14).1 (by decide)⟩
              have rg15_60_16 : ir g15 1 191 := ⟨(rg15_60_14).1, Int.le_trans (rf_le c60 rg15_60_14 ru0_1_60_15).1 (by decide)⟩
              have ru0_1_60_17 : ir u0_1 1 190 := ⟨(ru0_1_60_15).1, Int.le_trans (rf_lt (rf_nle c8) ru0_1_60_15 rg15_60_16).1 (by decide)⟩
              have rg15_60_18 : ir g15 1 190 := ⟨(rg15_60_16).1, Int.le_trans (rf_le c60 rg15_60_16 ru0_1_60_17).1 (by decide)⟩
              have ru0_1_60_19 : ir u0_1 1 189 := ⟨(ru0_1_60_17).1, Int.le_trans (rf_lt (rf_nle c8) ru0_1_60_17 rg15_60_18).1 (by decide)⟩
              have rg15_60_20 : ir g15 1 189 := ⟨(rg15_60_18).1, Int.le_trans (rf_le c60 rg15_60_18 ru0_1_60_19).1 (by decide)⟩
              refine lv_iconst (v := -1) hx hb dX11_see_75 (by decide) ?_
              exact W.iret (v := (-1 : Int32)) hx hb hr (fun t ht _ => ⟨⟨(-1 : Int32), (-1 : Int32), rfl, ⟨rfl, (ir_w (lo' := -1) (hi' := 255) (ir_c (-1) (by decide) : ir (-1 : Int32) (-1) (-1)) (by decide) (by decide))⟩, cW_at ht hW, ⟨mI_at ht hI, kp_at ht hV, ⟨_, pin_at ht nh0_18, (ir_w (lo' := 0) (hi' := 200) ru0_1_60_19 (by decide) (by decide)), by omega, fun h => absurd rfl h⟩⟩⟩, hS.F ht⟩) hS.2.2 dX11_see_76
            · refine lv_aload_n hx hb dX11_see_63 rfl (lv_at hl 0 rfl) ?_
              refine wt_get hx hb hts cfX11 hown hK hW (cg11 k0) rfl 14 (by decide) q886 dX11_see_64 (fun v hv => ?_)
              obtain ⟨x64, rfl, k64⟩ : gr N 50 v := hv
              refine lv_aload_n hx hb dX11_see_67 rfl (lv_at hl 0 rfl) ?_
              refine wt_rel hx hb hts cfX11 hown hK nh0_18 rfl (by decide) (Or.inl (hts _ q890)) dX11_see_68 ?_
              refine wt_ialdx hx hb hK hW 0 (cg50 k64) rfl (ir_in ru0_1_8 (by decide) (by decide)) dX11_see_71 (fun v hv ap71 => ?_)
              obtain ⟨x71, rfl, r71⟩ : gi 0 255 v := hv
              refine lv_goto (tgt := 76) hx hb dX11_see_72 (by decide) ?_
              exact W.iret (v := x71) hx hb hr (fun t ht _ => ⟨⟨x71, x71, rfl, ⟨rfl, (ir_w (lo' := -1) (hi' := 255) r71 (by decide) (by decide))⟩, cW_at ht hW, ⟨mI_at ht hI, kp_at ht hV, ⟨_, pin_at ht nh0_18, (ir_w (lo' := 0) (hi' := 200) ru0_1_8 (by decide) (by decide)), by omega, fun _ => (ru0_1_8).2⟩⟩⟩, hS.F ht⟩) hS.2.2 dX11_see_76
          · have rx33_36 : ir x33 10 10 := rf_eq c36 (ir_c (10) (by decide) : ir (10 : Int32) (10) (10))
            refine lv_aload_n hx hb dX11_see_39 rfl (lv_at hl 0 rfl) ?_
            refine lv_dup hx hb dX11_see_40 rfl ?_
            refine wt_rel hx hb hts cfX11 hown hK nh0_18 rfl (by decide) (Or.inl (hts _ q890)) dX11_see_41 ?_
            refine lv_iconst (v := 1) hx hb dX11_see_44 (by decide) ?_
            refine lv_iadd hx hb dX11_see_45 ?_
            refine lv_topi (fun x45 e45 => ?_)
            have t45 : x45.toInt = u0_1.toInt + (1) := it_add e45 ru0_1_8 (ir_c (1) (by decide) : ir (1 : Int32) (1) (1)) (by decide) (by decide)
            have r45 : ir x45 1 200 := ir_w (ir_add e45 ru0_1_8 (ir_c (1) (by decide) : ir (1 : Int32) (1) (1)) (by decide) (by decide)) (by decide) (by decide)
            refine wt_putp hx hb hts cfX11 tyX11 tyX11_ok nmX11 hown hK hW hS (cg11 k0) (ce k0 (by decide)) rfl 18 (by decide) (Or.inl (hts _ q890)) rfl rfl rfl (gi_mk (ir_w (lo' := 0) (hi' := 200) r45 (by decide) (by decide))) dX11_see_46 (fun H locs hW hS oq o2 np => ?_)
            have nh0_15 := o2 15 _ (by decide) (by decide) nh0_15
            have ap19 := ap19.kept (oq _ (ne_kind k12 k0 (by decide)))
            have ap33 := ap33.kept (oq _ (ne_kind k26 k0 (by decide)))
            have nh0_18 : wt_pin N.1 vwCl h0 11 18 (.int x45) H := np
            have hV := hV.put (by decide) o2
            have hI := mI.fr.put hI k0 oq o2 (by decide) (by decide)
            refine lv_goto (tgt := 0) hx hb dX11_see_49 (by decide) ?_
            exact w2 _ _ _ (ih0 _ _ _ x45 hW hI hV hS (lv_sub hl [0] rfl) (ir_w (lo' := 0) (hi' := 200) rg15_8 (by decide) (by decide)) nh0_15 (ir_w (lo' := 0) (hi' := 200) r45 (by decide) (by decide)) nh0_18 (by have h20 := r45; omega) (by omega))
  exact w2 _ _ _ (L0 201 _ _ _ g18 hW hI hV hS (lv_sub hl [0] rfl) rg15 nh0_15 rg18 nh0_18 (by have h20 := rg18; omega) (by omega))
set_option maxHeartbeats 4000000 in
set_option maxRecDepth 100000 in
theorem m_X11_readNumber (l : Launch) (N : c_N) (h0 : Nat) (k0 : N.2.2.1 h0 = some 11) (hO : mOK N) (V : Nat → Value) (g18 : Int32) : cMv l yX11_readNumber cX11_readNumber 1 { frames := 2, cells := 0, slots := 0, locals := 46 } [.ref h0] N [11] (fun H => mI N h0 H ∧ kp N h0 [18, 21, 22] V H ∧ wt_pin N.1 vwCl h0 11 18 (.int g18) H) (fun H => mI N h0 H ∧ kp N h0 [18, 21, 22] V H ∧ ∃ x : Int32, pI N h0 18 x H ∧ g18.toInt ≤ x.toInt) := by
  refine Met.ofW (cc := cX11_readNumber) (maxL := 1) (ret := none) (by decide) rfl ?_
  intro p e s m args below meth c s₁ B hml hv
  obtain ⟨rfl, ⟨hK, hW, hT, hnn⟩, hB⟩ := hv
  obtain ⟨hI, hV, hB⟩ := hB
  have nh0_18 := hB
  have rg18 : ir g18 0 200 := gi_r (cpin_P hW (cg11 k0) rfl (by decide) nh0_18)
  have hx := B.exec
  have hb := B.bytes
  have hr := B.returns
  have hts : ∀ w ∈ lw_g, w.before _ s = true := fun w h => atoms_spec (ws := wc_ws yX11_readNumber cX11_readNumber 1 none) B.pre w (List.mem_cons_of_mem _ h)
  have hown : s.vm.findClass RX11 = some m.cls := findClass_of_methodNamed B.named
  have hlocks := B.notSynchronized
  have hS : va_S (cE N [11]) s.heap s.heap [] := va_S.rf
  have hl := lv_entry ([.ref h0]) (n := 1) (Nat.le_of_ble_eq_true rfl)
  rw [lg_entry_eq]
  generalize (lg_sl ([.ref h0]) ++ List.replicate (1 - (lg_sl ([.ref h0])).length) Slot.unset).toArray = ls at hl ⊢
  have hl : lv_has ls 1 [(0, .ref h0)] := hl
  refine wq_all ?_
  intro WW w1 w2
  have L13 : ∀ (n : Nat) (H : Heap) (locs : List Loc) (ls : Array Slot) (u13_0 : Int32) (u13_1 : Int32), cW N H → mI N h0 H → kp N h0 [18, 21, 22] V H → va_S (cE N [11]) s.heap H locs → lv_has ls 1 [(0, .ref h0)] → ir u13_0 0 200 → wt_pin N.1 vwCl h0 11 18 (.int u13_0) H → ir u13_1 0 100 → wt_pin N.1 vwCl h0 11 21 (.int u13_1) H → ir g18 0 200 → wt_pin N.1 vwCl h0 11 22 (.int g18) H → g18.toInt ≤ u13_0.toInt → 200 - u13_0.toInt < (n : Int) → WW H locs (F0 m 13 ls []) := by
    intro n
    induction n with
    | zero =>
      intro H locs ls u13_0 u13_1 hW hI hV hS hl ru13_0 nh0_18 ru13_1 nh0_21 ru13_2 nh0_22 rw13_0 mu13
      exfalso
      omega
    | succ n ih13 =>
      intro H locs ls u13_0 u13_1 hW hI hV hS hl ru13_0 nh0_18 ru13_1 nh0_21 ru13_2 nh0_22 rw13_0 mu13
      refine w1 _ _ _ ?_
      refine lv_aload_n hx hb dX11_readNumber_13 rfl (lv_at hl 0 rfl) ?_
      refine lv_aload_n hx hb dX11_readNumber_14 rfl (lv_at hl 0 rfl) ?_
      refine wt_rel hx hb hts cfX11 hown hK nh0_18 rfl (by decide) (Or.inl (hts _ q890)) dX11_readNumber_15 ?_
      obtain ⟨V1, hV1⟩ := kp_all hW k0
      refine cc_i2 (B2 := fun r H => mI N h0 H ∧ kp N h0 [] V1 H ∧ (¬ r = 0 → ∀ aT : Nat, N.2.2.1 aT = some 50 → ∃ x : Int32, wt_ap (N.2.1 0) 200 aT u13_0.toNatClampNeg (.int x) H ∧ ir x 48 57)) (wt_runV (As := [.int u13_0]) (rest := []) ⟨hx, hb, hml, hown, hts⟩ (m_X11_isDigit l N h0 k0 hO V1 u13_0 ru13_0) wm_X11_isDigit q1158 ⟨rfl, rfl⟩ ⟨Nat.le_of_ble_eq_true rfl, Nat.le_of_ble_eq_true rfl⟩ (cS_preV (B := fun H => mI N h0 H ∧ kp N h0 [] V1 H) hK hW hT hnn hS (cg11 k0) rfl rfl (And.intro hI (kp_of (F := []) hV1))) rfl hl.1 rfl (Nat.le_of_ble_eq_true rfl) dX11_readNumber_18 ⟨Nat.zero_le _, Nat.zero_le _⟩) hS (by decide) (fun x18 H locs hp hW hS oq hB2 => ?_)
      obtain ⟨hI, hV2, hB2⟩ := hB2
      have hV := kp_call hV hV1 hV2 (by decide)
      have hq18 := hB2
      have nh0_18 := kp_use hV1 hV2 (by decide) (by decide) nh0_18
      have nh0_21 := kp_use hV1 hV2 (by decide) (by decide) nh0_21
      have nh0_22 := kp_use hV1 hV2 (by decide) (by decide) nh0_22
      obtain ⟨r18, b18⟩ := hp
      refine lv_if_eq (tgt := 66) hx hb dX11_readNumber_21 (by decide) (fun c21 => ?_) (fun c21 => ?_)
      · have rx18_21 : ir x18 0 0 := rf_eq c21 (ir_c (0) (by decide) : ir (0 : Int32) (0) (0))
        exact W.vret hx hb hr (fun t ht _ => ⟨⟨(), rfl, trivial, cW_at ht hW, ⟨mI_at ht hI, kp_at ht hV, ⟨_, pin_at ht nh0_18, by omega⟩⟩⟩, hS.F ht⟩) hS.2.2 dX11_readNumber_66
      · have rx18_21 : ir x18 1 1 := rf_ne0 c21 r18
        have bx18_21 := b18 c21
        refine lv_aload_n hx hb dX11_readNumber_24 rfl (lv_at hl 0 rfl) ?_
        refine lv_bipush (v := 100) hx hb dX11_readNumber_25 (by decide) ?_
        refine lv_bipush (v := 10) hx hb dX11_readNumber_27 (by decide) ?_
        refine lv_aload_n hx hb dX11_readNumber_29 rfl (lv_at hl 0 rfl) ?_
        refine wt_rel hx hb hts cfX11 hown hK nh0_21 rfl (by decide) (Or.inl (hts _ q893)) dX11_readNumber_30 ?_
        refine lv_imul hx hb dX11_readNumber_33 ?_
        refine lv_topi (fun x33 e33 => ?_)
        have r33 : ir x33 0 1000 := ir_w (it_mul e33 (ir_c (10) (by decide) : ir (10 : Int32) (10) (10)) ru13_1 (by decide) (by decide) (by decide)).2 (by decide) (by decide)
        refine lv_aload_n hx hb dX11_readNumber_34 rfl (lv_at hl 0 rfl) ?_
        refine wt_get hx hb hts cfX11 hown hK hW (cg11 k0) rfl 14 (by decide) q886 dX11_readNumber_35 (fun v hv => ?_)
        obtain ⟨x35, rfl, k35⟩ : gr N 50 v := hv
        refine lv_aload_n hx hb dX11_readNumber_38 rfl (lv_at hl 0 rfl) ?_
        refine wt_rel hx hb hts cfX11 hown hK nh0_18 rfl (by decide) (Or.inl (hts _ q890)) dX11_readNumber_39 ?_
        refine wt_ialdx hx hb hK hW 0 (cg50 k35) rfl (ir_in bx18_21 (by decide) (by decide)) dX11_readNumber_42 (fun v hv ap42 => ?_)
        obtain ⟨x42, rfl, r42⟩ : gi 0 255 v := hv
        obtain ⟨d42, da42, dr42⟩ := hq18 c21 _ k35
        have q42 : d42 = x42 := ap_inj da42 ap42 (ir_in bx18_21 (by decide) (by decide))
        have s42 : ir x42 48 57 := by rw [← q42]; exact dr42
        refine lv_iadd hx hb dX11_readNumber_43 ?_
        refine lv_topi (fun x43 e43 => ?_)
        have t43 : x43.toInt = x33.toInt + x42.toInt := it_add e43 r33 s42 (by decide) (by decide)
        have r43 : ir x43 48 1057 := ir_w (ir_add e43 r33 s42 (by decide) (by decide)) (by decide) (by decide)
        refine lv_bipush (v := 48) hx hb dX11_readNumber_44 (by decide) ?_
        refine lv_isub hx hb dX11_readNumber_46 ?_
        refine lv_topi (fun x46 e46 => ?_)
        have t46 : x46.toInt = x43.toInt - (48) := it_sub e46 r43 (ir_c (48) (by decide) : ir (48 : Int32) (48) (48)) (by decide) (by decide)
        have r46 : ir x46 0 1009 := ir_w (ir_sub e46 r43 (ir_c (48) (by decide) : ir (48 : Int32) (48) (48)) (by decide) (by decide)) (by decide) (by decide)
        refine va_mmin hx hb (hml.trans hl.1.symm) hown (hts _ q1157) (hts _ q398) (hts _ q13) (hts _ q399) (Nat.le_of_ble_eq_true rfl) (Nat.le_of_ble_eq_true rfl) (Nat.zero_le _) (Nat.zero_le _) dX11_readNumber_47 ?_
        refine lv_topi (fun x47 e47 => ?_)
        have r47 : ir x47 0 100 := ir_min e47 (ir_c (100) (by decide) : ir (100 : Int32) (100) (100)) r46 (by decide) (by decide) (by decide) (by decide)
        refine wt_putp hx hb hts cfX11 tyX11 tyX11_ok nmX11 hown hK hW hS (cg11 k0) (ce k0 (by decide)) rfl 21 (by decide) (Or.inl (hts _ q893)) rfl rfl rfl (gi_mk r47) dX11_readNumber_50 (fun H locs hW hS oq o2 np => ?_)
        have nh0_18 := o2 18 _ (by decide) (by decide) nh0_18
        have nh0_22 := o2 22 _ (by decide) (by decide) nh0_22
        have ap42 := ap42.kept (oq _ (ne_kind k35 k0 (by decide)))
        have nh0_21 : wt_pin N.1 vwCl h0 11 21 (.int x47) H := np
        have hV := hV.put (by decide) o2
        have hI := mI.fr.put hI k0 oq o2 (by decide) (by decide)
        refine lv_aload_n hx hb dX11_readNumber_53 rfl (lv_at hl 0 rfl) ?_
        refine lv_dup hx hb dX11_readNumber_54 rfl ?_
        refine wt_rel hx hb hts cfX11 hown hK nh0_18 rfl (by decide) (Or.inl (hts _ q890)) dX11_readNumber_55 ?_
        refine lv_iconst (v := 1) hx hb dX11_readNumber_58 (by decide) ?_
        refine lv_iadd hx hb dX11_readNumber_59 ?_
        refine lv_topi (fun x59 e59 => ?_)
        have t59 : x59.toInt = u13_0.toInt + (1) := it_add e59 bx18_21 (ir_c (1) (by decide) : ir (1 : Int32) (1) (1)) (by decide) (by decide)
        have r59 : ir x59 1 200 := ir_w (ir_add e59 bx18_21 (ir_c (1) (by decide) : ir (1 : Int32) (1) (1)) (by decide) (by decide)) (by decide) (by decide)
        refine wt_putp hx hb hts cfX11 tyX11 tyX11_ok nmX11 hown hK hW hS (cg11 k0) (ce k0 (by decide)) rfl 18 (by decide) (Or.inl (hts _ q890)) rfl rfl rfl (gi_mk (ir_w (lo' := 0) (hi' := 200) r59 (by decide) (by decide))) dX11_readNumber_60 (fun H locs hW hS oq o2 np => ?_)
        have nh0_22 := o2 22 _ (by decide) (by decide) nh0_22
        have nh0_21 := o2 21 _ (by decide) (by decide) nh0_21
        have ap42 := ap42.kept (oq _ (ne_kind k35 k0 (by decide)))
        have nh0_18 : wt_pin N.1 vwCl h0 11 18 (.int x59) H := np
        have hV := hV.put (by decide) o2
        have hI := mI.fr.put hI k0 oq o2 (by decide) (by decide)
        refine lv_goto (tgt := 13) hx hb dX11_readNumber_63 (by decide) ?_
        exact w2 _ _ _ (ih13 _ _ _ x59 x47 hW hI hV hS (lv_sub hl [0] rfl) (ir_w (lo' := 0) (hi' := 200) r59 (by decide) (by decide)) nh0_18 r47 nh0_21 ru13_2 nh0_22 (by have h20 := r59; omega) (by omega))
  refine lv_aload_n hx hb dX11_readNumber_0 rfl (lv_at hl 0 rfl) ?_
  refine lv_aload_n hx hb dX11_readNumber_1 rfl (lv_at hl 0 rfl) ?_
  refine wt_rel hx hb hts cfX11 hown hK nh0_18 rfl (by decide) (Or.inl (hts _ q890)) dX11_readNumber_2 ?_
  refine wt_putp hx hb hts cfX11 tyX11 tyX11_ok nmX11 hown hK hW hS (cg11 k0) (ce k0 (by decide)) rfl 22 (by decide) (Or.inl (hts _ q894)) rfl rfl rfl ga_mk dX11_readNumber_5 (fun H locs hW hS oq o2 np => ?_)
  have nh0_18 := o2 18 _ (by decide) (by decide) nh0_18
  have nh0_22 : wt_pin N.1 vwCl h0 11 22 (.int g18) H := np
  have hV := hV.put (by decide) o2
  have hI := mI.fr.put hI k0 oq o2 (by decide) (by decide)
  refine lv_aload_n hx hb dX11_readNumber_8 rfl (lv_at hl 0 rfl) ?_
  refine lv_iconst (v := 0) hx hb dX11_readNumber_9 (by decide) ?_
  refine wt_putp hx hb hts cfX11 tyX11 tyX11_ok nmX11 hown hK hW hS (cg11 k0) (ce k0 (by decide)) rfl 21 (by decide) (Or.inl (hts _ q893)) rfl rfl rfl (gi_mk (ir_w (lo' := 0) (hi' := 100) (ir_c (0) (by decide) : ir (0 : Int32) (0) (0)) (by decide) (by decide))) dX11_readNumber_10 (fun H locs hW hS oq o2 np => ?_)
  have nh0_18 := o2 18 _ (by decide) (by decide) nh0_18
  have nh0_22 := o2 22 _ (by decide) (by decide) nh0_22
  have nh0_21 : wt_pin N.1 vwCl h0 11 21 (.int (0 : Int32)) H := np
  have hV := hV.put (by decide) o2
  have hI := mI.fr.put hI k0 oq o2 (by decide) (by decide)
  exact w2 _ _ _ (L13 201 _ _ _ g18 (0 : Int32) hW hI hV hS (lv_sub hl [0] rfl) rg18 nh0_18 (ir_w (lo' := 0) (hi' := 100) (ir_c (0) (by decide) : ir (0 : Int32) (0) (0)) (by decide) (by decide)) nh0_21 rg18 nh0_22 (by have h20 := rg18; omega) (by omega))
set_option maxHeartbeats 4000000 in
set_option maxRecDepth 100000 in
theorem m_X11_says (l : Launch) (N : c_N) (h0 : Nat) (k0 : N.2.2.1 h0 = some 11) (hO : mOK N) (V : Nat → Value) (p1 : Int32) (g55 : Int32) (h4 : g55.toInt ≤ 199) : cMv l yX11_says cX11_says 2 { frames := 0, cells := 0, slots := 0, locals := 0 } [.ref h0, .int p1] N [11, 61] (fun H => mI N h0 H ∧ kp N h0 [55] V H ∧ wt_pin N.1 vwCl h0 11 55 (.int g55) H) (fun H => mI N h0 H ∧ kp N h0 [55] V H ∧ ∃ x : Int32, pI N h0 55 x H ∧ x.toInt = g55.toInt + 1) := by
  refine Met.ofW (cc := cX11_says) (maxL := 2) (ret := none) (by decide) rfl ?_
  intro p e s m args below meth c s₁ B hml hv
  obtain ⟨rfl, ⟨hK, hW, hT, hnn⟩, hB⟩ := hv
  obtain ⟨hI, hV, hB⟩ := hB
  have nh0_55 := hB
  have rg55 : ir g55 0 200 := gi_r (cpin_P hW (cg11 k0) rfl (by decide) nh0_55)
  have hx := B.exec
  have hb := B.bytes
  have hr := B.returns
  have hts : ∀ w ∈ lw_g, w.before _ s = true := fun w h => atoms_spec (ws := wc_ws yX11_says cX11_says 2 none) B.pre w (List.mem_cons_of_mem _ h)
  have hown : s.vm.findClass RX11 = some m.cls := findClass_of_methodNamed B.named
  have hlocks := B.notSynchronized
  have hS : va_S (cE N [11, 61]) s.heap s.heap [] := va_S.rf
  have hl := lv_entry ([.ref h0, .int p1]) (n := 2) (Nat.le_of_ble_eq_true rfl)
  rw [lg_entry_eq]
  generalize (lg_sl ([.ref h0, .int p1]) ++ List.replicate (2 - (lg_sl ([.ref h0, .int p1])).length) Slot.unset).toArray = ls at hl ⊢
  have hl : lv_has ls 2 [(0, .ref h0), (1, .int p1)] := hl
  refine wq_all ?_
  intro WW w1 w2
  have rlim : ir g55 0 199 := ⟨rg55.1, h4⟩
  refine lv_aload_n hx hb dX11_says_0 rfl (lv_at hl 0 rfl) ?_
  refine wt_get hx hb hts cfX11 hown hK hW (cg11 k0) rfl 54 (by decide) q926 dX11_says_1 (fun v hv => ?_)
  obtain ⟨x1, rfl, k1⟩ : gr N 61 v := hv
  refine lv_aload_n hx hb dX11_says_4 rfl (lv_at hl 0 rfl) ?_
  refine wt_rel hx hb hts cfX11 hown hK nh0_55 rfl (by decide) (Or.inl (hts _ q927)) dX11_says_5 ?_
  refine lv_iload_n hx hb dX11_says_8 rfl (lv_at hl 1 rfl) ?_
  refine wt_iastp hx hb hK hW hS 0 (cg61 k1) (ce k1 (by decide)) rfl (ir_in rlim (by decide) (by decide)) ga_mk dX11_says_9 (fun H locs hW hS oq => ?_)
  have nh0_55 := nh0_55.kept (oq _ (ne_kind k0 k1 (by decide)))
  have hV := hV.keep (oq _ (ne_kind k0 k1 (by decide)))
  have hI := mI.fr.arr hI k0 k1 oq (by decide) (by decide)
  refine lv_aload_n hx hb dX11_says_10 rfl (lv_at hl 0 rfl) ?_
  refine lv_dup hx hb dX11_says_11 rfl ?_
  refine wt_rel hx hb hts cfX11 hown hK nh0_55 rfl (by decide) (Or.inl (hts _ q927)) dX11_says_12 ?_
  refine lv_iconst (v := 1) hx hb dX11_says_15 (by decide) ?_
  refine lv_iadd hx hb dX11_says_16 ?_
  refine lv_topi (fun x16 e16 => ?_)
  have t16 : x16.toInt = g55.toInt + (1) := it_add e16 rlim (ir_c (1) (by decide) : ir (1 : Int32) (1) (1)) (by decide) (by decide)
  have r16 : ir x16 1 200 := ir_w (ir_add e16 rlim (ir_c (1) (by decide) : ir (1 : Int32) (1) (1)) (by decide) (by decide)) (by decide) (by decide)
  refine wt_putp hx hb hts cfX11 tyX11 tyX11_ok nmX11 hown hK hW hS (cg11 k0) (ce k0 (by decide)) rfl 55 (by decide) (Or.inl (hts _ q927)) rfl rfl rfl (gi_mk (ir_w (lo' := 0) (hi' := 200) r16 (by decide) (by decide))) dX11_says_17 (fun H locs hW hS oq o2 np => ?_)
  have nh0_55 : wt_pin N.1 vwCl h0 11 55 (.int x16) H := np
  have hV := hV.put (by decide) o2
  have hI := mI.fr.put hI k0 oq o2 (by decide) (by decide)
  exact W.vret hx hb hr (fun t ht _ => ⟨⟨(), rfl, trivial, cW_at ht hW, ⟨mI_at ht hI, kp_at ht hV, ⟨_, pin_at ht nh0_55, by omega⟩⟩⟩, hS.F ht⟩) hS.2.2 dX11_says_20
set_option maxHeartbeats 4000000 in
set_option maxRecDepth 100000 in
theorem m_X11_show (l : Launch) (N : c_N) (h0 : Nat) (k0 : N.2.2.1 h0 = some 11) (hO : mOK N) (V : Nat → Value) : cMi2 l yX11_show cX11_show 2 .int { frames := 1, cells := 0, slots := 0, locals := 21 } [.ref h0] N [11, 61] (fun H => mI N h0 H ∧ kp N h0 [55] V H) (fun _ => True) (fun _ H => mI N h0 H ∧ kp N h0 [55] V H) := by
  refine Met.ofW (cc := cX11_show) (maxL := 2) (ret := some .int) (by decide) rfl ?_
  intro p e s m args below meth c s₁ B hml hv
  obtain ⟨rfl, ⟨hK, hW, hT, hnn⟩, hB⟩ := hv
  obtain ⟨hI, hV⟩ := hB
  have hx := B.exec
  have hb := B.bytes
  have hr := B.returns
  have hts : ∀ w ∈ lw_g, w.before _ s = true := fun w h => atoms_spec (ws := wc_ws yX11_show cX11_show 2 (some .int)) B.pre w (List.mem_cons_of_mem _ h)
  have hown : s.vm.findClass RX11 = some m.cls := findClass_of_methodNamed B.named
  have hlocks := B.notSynchronized
  have hS : va_S (cE N [11, 61]) s.heap s.heap [] := va_S.rf
  have hl := lv_entry ([.ref h0]) (n := 2) (Nat.le_of_ble_eq_true rfl)
  rw [lg_entry_eq]
  generalize (lg_sl ([.ref h0]) ++ List.replicate (2 - (lg_sl ([.ref h0])).length) Slot.unset).toArray = ls at hl ⊢
  have hl : lv_has ls 2 [(0, .ref h0)] := hl
  refine wq_all ?_
  intro WW w1 w2
  have L7 : ∀ (n : Nat) (H : Heap) (locs : List Loc) (ls : Array Slot) (v7_1 : Int32) (u7_0 : Int32), cW N H → mI N h0 H → kp N h0 [55] V H → va_S (cE N [11, 61]) s.heap H locs → lv_has ls 2 [(0, .ref h0), (1, .int v7_1)] → ir v7_1 0 24 → ir u7_0 0 200 → wt_pin N.1 vwCl h0 11 55 (.int u7_0) H → u7_0.toInt ≤ 4 * v7_1.toInt → 24 - v7_1.toInt < (n : Int) → WW H locs (F0 m 7 ls []) := by
    intro n
    induction n with
    | zero =>
      intro H locs ls v7_1 u7_0 hW hI hV hS hl rv7_1 ru7_0 nh0_55 rw7_0 mu7
      exfalso
      omega
    | succ n ih7 =>
      intro H locs ls v7_1 u7_0 hW hI hV hS hl rv7_1 ru7_0 nh0_55 rw7_0 mu7
      have J98 : ∀ (H : Heap) (locs : List Loc) (ls : Array Slot) (u98_0 : Int32) (u98_1 : Int32), cW N H → mI N h0 H → kp N h0 [55] V H → va_S (cE N [11, 61]) s.heap H locs → lv_has ls 2 [(0, .ref h0), (1, .int v7_1)] → ir v7_1 0 23 → ir u98_0 1 24 → wt_pin N.1 vwCl h0 11 7 (.int u98_0) H → ir u98_1 1 200 → wt_pin N.1 vwCl h0 11 55 (.int u98_1) H → u98_1.toInt ≤ 4 * v7_1.toInt + 4 → WW H locs (F0 m 98 ls []) := by
        intro H locs ls u98_0 u98_1 hW hI hV hS hl rv98_1 ru98_0 nh0_7 ru98_1 nh0_55 rw98_0
        refine w1 _ _ _ ?_
        obtain ⟨x98, e98⟩ : ∃ y : Int32, y = v7_1 + 1 := ⟨_, rfl⟩
        have r98 : ir x98 1 24 := ir_w (ir_add e98 rv98_1 (ir_c (1) (by decide) : ir (1 : Int32) (1) (1)) (by decide) (by decide)) (by decide) (by decide)
        have t98 : x98.toInt = v7_1.toInt + (1) := it_add e98 rv98_1 (ir_c (1) (by decide) : ir (1 : Int32) (1) (1)) (by decide) (by decide)
        refine lv_iinc (v := x98) (lv' := [(1, .int x98), (0, .ref h0)]) hx hb dX11_show_98 hl (k := 1) rfl (by rw [e98]; rfl) (by decide) rfl (fun ls hl => ?_)
        refine lv_goto (tgt := 7) hx hb dX11_show_101 (by decide) ?_
        exact w2 _ _ _ (ih7 _ _ _ x98 u98_1 hW hI hV hS (lv_sub hl [1, 0] rfl) (ir_w (lo' := 0) (hi' := 24) r98 (by decide) (by decide)) (ir_w (lo' := 0) (hi' := 200) ru98_1 (by decide) (by decide)) nh0_55 (by have h20 := r98; have h21 := ru98_1; omega) (by have h9 := r98; omega))
      have J66 : ∀ (H : Heap) (locs : List Loc) (ls : Array Slot) (u66_0 : Int32) (u66_1 : Int32), cW N H → mI N h0 H → kp N h0 [55] V H → va_S (cE N [11, 61]) s.heap H locs → lv_has ls 2 [(0, .ref h0), (1, .int v7_1)] → ir v7_1 0 23 → ir u66_0 1 24 → wt_pin N.1 vwCl h0 11 7 (.int u66_0) H → ir u66_1 1 200 → wt_pin N.1 vwCl h0 11 55 (.int u66_1) H → u66_1.toInt ≤ 4 * v7_1.toInt + 1 → WW H locs (F0 m 66 ls []) := by
        intro H locs ls u66_0 u66_1 hW hI hV hS hl rv66_1 ru66_0 nh0_7 ru66_1 nh0_55 rw66_0
        refine w1 _ _ _ ?_
        refine lv_aload_n hx hb dX11_show_66 rfl (lv_at hl 0 rfl) ?_
        refine lv_bipush (v := 48) hx hb dX11_show_67 (by decide) ?_
        refine lv_aload_n hx hb dX11_show_69 rfl (lv_at hl 0 rfl) ?_
        refine wt_get hx hb hts cfX11 hown hK hW (cg11 k0) rfl 5 (by decide) q877 dX11_show_70 (fun v hv => ?_)
        obtain ⟨x70, rfl, k70⟩ : gr N 43 v := hv
        refine lv_iload_n hx hb dX11_show_73 rfl (lv_at hl 1 rfl) ?_
        refine wt_ialdx hx hb hK hW 0 (cg43 k70) rfl (ir_in (ir_w (lo' := 0) (hi' := 24) rv66_1 (by decide) (by decide)) (by decide) (by decide)) dX11_show_74 (fun v hv ap74 => ?_)
        obtain ⟨x74, rfl, r74⟩ : gi 0 6 v := hv
        refine lv_iadd hx hb dX11_show_75 ?_
        refine lv_topi (fun x75 e75 => ?_)
        have t75 : x75.toInt = (48) + x74.toInt := it_add e75 (ir_c (48) (by decide) : ir (48 : Int32) (48) (48)) r74 (by decide) (by decide)
        have r75 : ir x75 48 54 := ir_w (ir_add e75 (ir_c (48) (by decide) : ir (48 : Int32) (48) (48)) r74 (by decide) (by decide)) (by decide) (by decide)
        obtain ⟨V1, hV1⟩ := kp_all hW k0
        refine cc_v (B2 := fun H => mI N h0 H ∧ kp N h0 [55] V1 H ∧ ∃ x : Int32, pI N h0 55 x H ∧ x.toInt = u66_1.toInt + 1) (wt_runV (As := [.int x75]) (rest := []) ⟨hx, hb, hml, hown, hts⟩ (m_X11_says l N h0 k0 hO V1 x75 u66_1 (by have h6 := ru66_1; omega)) wm_X11_says q1390 ⟨rfl, rfl⟩ ⟨Nat.le_of_ble_eq_true rfl, Nat.le_of_ble_eq_true rfl⟩ (cS_preV (B := fun H => mI N h0 H ∧ kp N h0 [55] V1 H ∧ wt_pin N.1 vwCl h0 11 55 (.int u66_1) H) hK hW hT hnn hS (cg11 k0) rfl rfl (And.intro hI (And.intro (kp_of (F := [55]) hV1) nh0_55))) rfl hl.1 rfl (Nat.le_of_ble_eq_true rfl) dX11_show_76 ⟨Nat.zero_le _, Nat.zero_le _⟩) hS (by decide) (fun H locs hW hS oq hB2 => ?_)
        obtain ⟨hI, hV2, hB2⟩ := hB2
        have hV := kp_call hV hV1 hV2 (by decide)
        obtain ⟨xx76_55, nh0_55, w76⟩ := hB2
        have rxx76_55 : ir xx76_55 2 200 := by have h6 := ru66_1; have h7 : ir xx76_55 0 200 := gi_r (cpin_P hW (cg11 k0) rfl (by decide) nh0_55); constructor <;> omega
        have nh0_7 := kp_use hV1 hV2 (by decide) (by decide) nh0_7
        refine lv_aload_n hx hb dX11_show_79 rfl (lv_at hl 0 rfl) ?_
        refine lv_bipush (v := 47) hx hb dX11_show_80 (by decide) ?_
        obtain ⟨V1, hV1⟩ := kp_all hW k0
        refine cc_v (B2 := fun H => mI N h0 H ∧ kp N h0 [55] V1 H ∧ ∃ x : Int32, pI N h0 55 x H ∧ x.toInt = xx76_55.toInt + 1) (wt_runV (As := [.int (47 : Int32)]) (rest := []) ⟨hx, hb, hml, hown, hts⟩ (m_X11_says l N h0 k0 hO V1 (47 : Int32) xx76_55 (by have h6 := rxx76_55; omega)) wm_X11_says q1390 ⟨rfl, rfl⟩ ⟨Nat.le_of_ble_eq_true rfl, Nat.le_of_ble_eq_true rfl⟩ (cS_preV (B := fun H => mI N h0 H ∧ kp N h0 [55] V1 H ∧ wt_pin N.1 vwCl h0 11 55 (.int xx76_55) H) hK hW hT hnn hS (cg11 k0) rfl rfl (And.intro hI (And.intro (kp_of (F := [55]) hV1) nh0_55))) rfl hl.1 rfl (Nat.le_of_ble_eq_true rfl) dX11_show_82 ⟨Nat.zero_le _, Nat.zero_le _⟩) hS (by decide) (fun H locs hW hS oq hB2 => ?_)
        obtain ⟨hI, hV2, hB2⟩ := hB2
        have hV := kp_call hV hV1 hV2 (by decide)
        obtain ⟨xx82_55, nh0_55, w82⟩ := hB2
        have rxx82_55 : ir xx82_55 3 200 := by have h6 := rxx76_55; have h7 : ir xx82_55 0 200 := gi_r (cpin_P hW (cg11 k0) rfl (by decide) nh0_55); constructor <;> omega
        have nh0_7 := kp_use hV1 hV2 (by decide) (by decide) nh0_7
        refine lv_aload_n hx hb dX11_show_85 rfl (lv_at hl 0 rfl) ?_
        refine lv_bipush (v := 48) hx hb dX11_show_86 (by decide) ?_
        refine lv_aload_n hx hb dX11_show_88 rfl (lv_at hl 0 rfl) ?_
        refine wt_get hx hb hts cfX11 hown hK hW (cg11 k0) rfl 6 (by decide) q878 dX11_show_89 (fun v hv => ?_)
        obtain ⟨x89, rfl, k89⟩ : gr N 44 v := hv
        refine lv_iload_n hx hb dX11_show_92 rfl (lv_at hl 1 rfl) ?_
        refine wt_ialdx hx hb hK hW 0 (cg44 k89) rfl (ir_in (ir_w (lo' := 0) (hi' := 24) rv66_1 (by decide) (by decide)) (by decide) (by decide)) dX11_show_93 (fun v hv ap93 => ?_)
        obtain ⟨x93, rfl, r93⟩ : gi 0 6 v := hv
        refine lv_iadd hx hb dX11_show_94 ?_
        refine lv_topi (fun x94 e94 => ?_)
        have t94 : x94.toInt = (48) + x93.toInt := it_add e94 (ir_c (48) (by decide) : ir (48 : Int32) (48) (48)) r93 (by decide) (by decide)
        have r94 : ir x94 48 54 := ir_w (ir_add e94 (ir_c (48) (by decide) : ir (48 : Int32) (48) (48)) r93 (by decide) (by decide)) (by decide) (by decide)
        obtain ⟨V1, hV1⟩ := kp_all hW k0
        refine cc_v (B2 := fun H => mI N h0 H ∧ kp N h0 [55] V1 H ∧ ∃ x : Int32, pI N h0 55 x H ∧ x.toInt = xx82_55.toInt + 1) (wt_runV (As := [.int x94]) (rest := []) ⟨hx, hb, hml, hown, hts⟩ (m_X11_says l N h0 k0 hO V1 x94 xx82_55 (by have h6 := rxx82_55; omega)) wm_X11_says q1390 ⟨rfl, rfl⟩ ⟨Nat.le_of_ble_eq_true rfl, Nat.le_of_ble_eq_true rfl⟩ (cS_preV (B := fun H => mI N h0 H ∧ kp N h0 [55] V1 H ∧ wt_pin N.1 vwCl h0 11 55 (.int xx82_55) H) hK hW hT hnn hS (cg11 k0) rfl rfl (And.intro hI (And.intro (kp_of (F := [55]) hV1) nh0_55))) rfl hl.1 rfl (Nat.le_of_ble_eq_true rfl) dX11_show_95 ⟨Nat.zero_le _, Nat.zero_le _⟩) hS (by decide) (fun H locs hW hS oq hB2 => ?_)
        obtain ⟨hI, hV2, hB2⟩ := hB2
        have hV := kp_call hV hV1 hV2 (by decide)
        obtain ⟨xx95_55, nh0_55, w95⟩ := hB2
        have rxx95_55 : ir xx95_55 4 200 := by have h6 := rxx82_55; have h7 : ir xx95_55 0 200 := gi_r (cpin_P hW (cg11 k0) rfl (by decide) nh0_55); constructor <;> omega
        have nh0_7 := kp_use hV1 hV2 (by decide) (by decide) nh0_7
        exact w2 _ _ _ (J98 _ _ _ u66_0 xx95_55 hW hI hV hS (lv_sub hl [0, 1] rfl) rv66_1 ru66_0 nh0_7 (ir_w (lo' := 1) (hi' := 200) rxx95_55 (by decide) (by decide)) nh0_55 (by have h20 := rv66_1; have h21 := rxx95_55; omega))
      refine w1 _ _ _ ?_
      refine lv_iload_n hx hb dX11_show_7 rfl (lv_at hl 1 rfl) ?_
      refine lv_aload_n hx hb dX11_show_8 rfl (lv_at hl 0 rfl) ?_
      refine wt_getp hx hb hts cfX11 hown hK hW (cg11 k0) rfl 7 (by decide) (Or.inl (hts _ q879)) dX11_show_9 (fun v hv nh0_7 => ?_)
      obtain ⟨x9, rfl, r9⟩ : gi 0 24 v := hv
      refine lv_icmp_ge (tgt := 104) hx hb dX11_show_12 (by decide) (fun c12 => ?_) (fun c12 => ?_)
      · have d12 := Int32.le_iff_toInt_le.mp c12
        refine lv_aload_n hx hb dX11_show_104 rfl (lv_at hl 0 rfl) ?_
        refine wt_rel hx hb hts cfX11 hown hK nh0_55 rfl (by decide) (Or.inl (hts _ q927)) dX11_show_105 ?_
        exact W.iret (v := u7_0) hx hb hr (fun t ht _ => ⟨⟨u7_0, u7_0, rfl, ⟨rfl, trivial⟩, cW_at ht hW, ⟨mI_at ht hI, kp_at ht hV⟩⟩, hS.F ht⟩) hS.2.2 dX11_show_108
      · have rv7_1_12 : ir v7_1 0 23 := ⟨(rv7_1).1, Int.le_trans (rf_lt (rf_nle c12) rv7_1 r9).1 (by decide)⟩
        have rx9_12 : ir x9 1 24 := ⟨Int.le_trans (by decide) (rf_lt (rf_nle c12) rv7_1 r9).2, (r9).2⟩
        have d12 := Int32.lt_iff_toInt_lt.mp (rf_nle c12)
        refine lv_aload_n hx hb dX11_show_15 rfl (lv_at hl 0 rfl) ?_
        refine lv_bipush (v := 65) hx hb dX11_show_16 (by decide) ?_
        refine lv_aload_n hx hb dX11_show_18 rfl (lv_at hl 0 rfl) ?_
        refine wt_get hx hb hts cfX11 hown hK hW (cg11 k0) rfl 4 (by decide) q876 dX11_show_19 (fun v hv => ?_)
        obtain ⟨x19, rfl, k19⟩ : gr N 42 v := hv
        refine lv_iload_n hx hb dX11_show_22 rfl (lv_at hl 1 rfl) ?_
        refine wt_iald hx hb hK hW 0 (cg42 k19) rfl (ir_in (ir_w (lo' := 0) (hi' := 24) rv7_1_12 (by decide) (by decide)) (by decide) (by decide)) dX11_show_23 (fun v hv => ?_)
        obtain ⟨x23, rfl, r23⟩ : gi 0 5 v := hv
        refine lv_iadd hx hb dX11_show_24 ?_
        refine lv_topi (fun x24 e24 => ?_)
        have t24 : x24.toInt = (65) + x23.toInt := it_add e24 (ir_c (65) (by decide) : ir (65 : Int32) (65) (65)) r23 (by decide) (by decide)
        have r24 : ir x24 65 70 := ir_w (ir_add e24 (ir_c (65) (by decide) : ir (65 : Int32) (65) (65)) r23 (by decide) (by decide)) (by decide) (by decide)
        obtain ⟨V1, hV1⟩ := kp_all hW k0
        refine cc_v (B2 := fun H => mI N h0 H ∧ kp N h0 [55] V1 H ∧ ∃ x : Int32, pI N h0 55 x H ∧ x.toInt = u7_0.toInt + 1) (wt_runV (As := [.int x24]) (rest := []) ⟨hx, hb, hml, hown, hts⟩ (m_X11_says l N h0 k0 hO V1 x24 u7_0 (by have h6 := ru7_0; omega)) wm_X11_says q1390 ⟨rfl, rfl⟩ ⟨Nat.le_of_ble_eq_true rfl, Nat.le_of_ble_eq_true rfl⟩ (cS_preV (B := fun H => mI N h0 H ∧ kp N h0 [55] V1 H ∧ wt_pin N.1 vwCl h0 11 55 (.int u7_0) H) hK hW hT hnn hS (cg11 k0) rfl rfl (And.intro hI (And.intro (kp_of (F := [55]) hV1) nh0_55))) rfl hl.1 rfl (Nat.le_of_ble_eq_true rfl) dX11_show_25 ⟨Nat.zero_le _, Nat.zero_le _⟩) hS (by decide) (fun H locs hW hS oq hB2 => ?_)
        obtain ⟨hI, hV2, hB2⟩ := hB2
        have hV := kp_call hV hV1 hV2 (by decide)
        obtain ⟨xx25_55, nh0_55, w25⟩ := hB2
        have rxx25_55 : ir xx25_55 1 200 := by have h6 := ru7_0; have h7 : ir xx25_55 0 200 := gi_r (cpin_P hW (cg11 k0) rfl (by decide) nh0_55); constructor <;> omega
        have nh0_7 := kp_use hV1 hV2 (by decide) (by decide) nh0_7
        refine lv_aload_n hx hb dX11_show_28 rfl (lv_at hl 0 rfl) ?_
        refine wt_get hx hb hts cfX11 hown hK hW (cg11 k0) rfl 6 (by decide) q878 dX11_show_29 (fun v hv => ?_)
        obtain ⟨x29, rfl, k29⟩ : gr N 44 v := hv
        refine lv_iload_n hx hb dX11_show_32 rfl (lv_at hl 1 rfl) ?_
        refine wt_ialdx hx hb hK hW 0 (cg44 k29) rfl (ir_in (ir_w (lo' := 0) (hi' := 24) rv7_1_12 (by decide) (by decide)) (by decide) (by decide)) dX11_show_33 (fun v hv ap33 => ?_)
        obtain ⟨x33, rfl, r33⟩ : gi 0 6 v := hv
        refine lv_if_ne (tgt := 46) hx hb dX11_show_34 (by decide) (fun c34 => ?_) (fun c34 => ?_)
        · have rx33_34 : ir x33 1 6 := rf_ne0 c34 r33
          refine lv_aload_n hx hb dX11_show_46 rfl (lv_at hl 0 rfl) ?_
          refine wt_get hx hb hts cfX11 hown hK hW (cg11 k0) rfl 5 (by decide) q877 dX11_show_47 (fun v hv => ?_)
          obtain ⟨x47, rfl, k47⟩ : gr N 43 v := hv
          refine lv_iload_n hx hb dX11_show_50 rfl (lv_at hl 1 rfl) ?_
          refine wt_ialdx hx hb hK hW 0 (cg43 k47) rfl (ir_in (ir_w (lo' := 0) (hi' := 24) rv7_1_12 (by decide) (by decide)) (by decide) (by decide)) dX11_show_51 (fun v hv ap51 => ?_)
          obtain ⟨x51, rfl, r51⟩ : gi 0 6 v := hv
          refine lv_iconst (v := 1) hx hb dX11_show_52 (by decide) ?_
          refine lv_icmp_ne (tgt := 66) hx hb dX11_show_53 (by decide) (fun c53 => ?_) (fun c53 => ?_)
          · exact w2 _ _ _ (J66 _ _ _ x9 xx25_55 hW hI hV hS (lv_sub hl [0, 1] rfl) rv7_1_12 rx9_12 nh0_7 rxx25_55 nh0_55 (by have h20 := rv7_1_12; have h21 := rxx25_55; omega))
          · have rx51_53 : ir x51 1 1 := rf_eq c53 (ir_c (1) (by decide) : ir (1 : Int32) (1) (1))
            refine lv_aload_n hx hb dX11_show_56 rfl (lv_at hl 0 rfl) ?_
            refine wt_get hx hb hts cfX11 hown hK hW (cg11 k0) rfl 6 (by decide) q878 dX11_show_57 (fun v hv => ?_)
            obtain ⟨x57, rfl, k57⟩ : gr N 44 v := hv
            refine lv_iload_n hx hb dX11_show_60 rfl (lv_at hl 1 rfl) ?_
            refine wt_ialdx hx hb hK hW 0 (cg44 k57) rfl (ir_in (ir_w (lo' := 0) (hi' := 24) rv7_1_12 (by decide) (by decide)) (by decide) (by decide)) dX11_show_61 (fun v hv ap61 => ?_)
            obtain ⟨x61, rfl, r61⟩ : gi 0 6 v := hv
            refine lv_iconst (v := 1) hx hb dX11_show_62 (by decide) ?_
            refine lv_icmp_eq (tgt := 98) hx hb dX11_show_63 (by decide) (fun c63 => ?_) (fun c63 => ?_)
            · have rx61_63 : ir x61 1 1 := rf_eq c63 (ir_c (1) (by decide) : ir (1 : Int32) (1) (1))
              exact w2 _ _ _ (J98 _ _ _ x9 xx25_55 hW hI hV hS (lv_sub hl [0, 1] rfl) rv7_1_12 rx9_12 nh0_7 rxx25_55 nh0_55 (by have h20 := rv7_1_12; have h21 := rxx25_55; omega))
            · exact w2 _ _ _ (J66 _ _ _ x9 xx25_55 hW hI hV hS (lv_sub hl [0, 1] rfl) rv7_1_12 rx9_12 nh0_7 rxx25_55 nh0_55 (by have h20 := rv7_1_12; have h21 := rxx25_55; omega))
        · have rx33_34 : ir x33 0 0 := rf_eq c34 (ir_c (0) (by decide) : ir (0 : Int32) (0) (0))
          refine lv_aload_n hx hb dX11_show_37 rfl (lv_at hl 0 rfl) ?_
          refine lv_bipush (v := 104) hx hb dX11_show_38 (by decide) ?_
          obtain ⟨V1, hV1⟩ := kp_all hW k0
          refine cc_v (B2 := fun H => mI N h0 H ∧ kp N h0 [55] V1 H ∧ ∃ x : Int32, pI N h0 55 x H ∧ x.toInt = xx25_55.toInt + 1) (wt_runV (As := [.int (104 : Int32)]) (rest := []) ⟨hx, hb, hml, hown, hts⟩ (m_X11_says l N h0 k0 hO V1 (104 : Int32) xx25_55 (by have h6 := rxx25_55; omega)) wm_X11_says q1390 ⟨rfl, rfl⟩ ⟨Nat.le_of_ble_eq_true rfl, Nat.le_of_ble_eq_true rfl⟩ (cS_preV (B := fun H => mI N h0 H ∧ kp N h0 [55] V1 H ∧ wt_pin N.1 vwCl h0 11 55 (.int xx25_55) H) hK hW hT hnn hS (cg11 k0) rfl rfl (And.intro hI (And.intro (kp_of (F := [55]) hV1) nh0_55))) rfl hl.1 rfl (Nat.le_of_ble_eq_true rfl) dX11_show_40 ⟨Nat.zero_le _, Nat.zero_le _⟩) hS (by decide) (fun H locs hW hS oq hB2 => ?_)
          obtain ⟨hI, hV2, hB2⟩ := hB2
          have hV := kp_call hV hV1 hV2 (by decide)
          obtain ⟨xx40_55, nh0_55, w40⟩ := hB2
          have rxx40_55 : ir xx40_55 2 200 := by have h6 := rxx25_55; have h7 : ir xx40_55 0 200 := gi_r (cpin_P hW (cg11 k0) rfl (by decide) nh0_55); constructor <;> omega
          have nh0_7 := kp_use hV1 hV2 (by decide) (by decide) nh0_7
          refine lv_goto (tgt := 98) hx hb dX11_show_43 (by decide) ?_
          exact w2 _ _ _ (J98 _ _ _ x9 xx40_55 hW hI hV hS (lv_sub hl [0, 1] rfl) rv7_1_12 rx9_12 nh0_7 (ir_w (lo' := 1) (hi' := 200) rxx40_55 (by decide) (by decide)) nh0_55 (by have h20 := rv7_1_12; have h21 := rxx40_55; omega))
  refine lv_aload_n hx hb dX11_show_0 rfl (lv_at hl 0 rfl) ?_
  refine lv_iconst (v := 0) hx hb dX11_show_1 (by decide) ?_
  refine wt_putp hx hb hts cfX11 tyX11 tyX11_ok nmX11 hown hK hW hS (cg11 k0) (ce k0 (by decide)) rfl 55 (by decide) (Or.inl (hts _ q927)) rfl rfl rfl (gi_mk (ir_w (lo' := 0) (hi' := 200) (ir_c (0) (by decide) : ir (0 : Int32) (0) (0)) (by decide) (by decide))) dX11_show_2 (fun H locs hW hS oq o2 np => ?_)
  have nh0_55 : wt_pin N.1 vwCl h0 11 55 (.int (0 : Int32)) H := np
  have hV := hV.put (by decide) o2
  have hI := mI.fr.put hI k0 oq o2 (by decide) (by decide)
  refine lv_iconst (v := 0) hx hb dX11_show_5 (by decide) ?_
  refine lv_istore_n (lv' := [(1, .int (0 : Int32)), (0, .ref h0)]) hx hb dX11_show_6 rfl hl (by decide) rfl (fun ls hl => ?_)
  exact w2 _ _ _ (L7 25 _ _ _ (0 : Int32) (0 : Int32) hW hI hV hS (lv_sub hl [1, 0] rfl) (ir_w (lo' := 0) (hi' := 24) (ir_c (0) (by decide) : ir (0 : Int32) (0) (0)) (by decide) (by decide)) (ir_w (lo' := 0) (hi' := 200) (ir_c (0) (by decide) : ir (0 : Int32) (0) (0)) (by decide) (by decide)) nh0_55 (by have h20 := (ir_c (0) (by decide) : ir (0 : Int32) (0) (0)); have h21 := (ir_c (0) (by decide) : ir (0 : Int32) (0) (0)); omega) (by have h9 := (ir_c (0) (by decide) : ir (0 : Int32) (0) (0)); omega))
set_option maxHeartbeats 4000000 in
set_option maxRecDepth 100000 in
theorem m_X11_matrix (l : Launch) (N : c_N) (h0 : Nat) (k0 : N.2.2.1 h0 = some 11) (hO : mOK N) (V : Nat → Value) (p1 : Int32) (p2 : Int32) (p3 : Int32) : cMi2 l yX11_matrix cX11_matrix 4 .int { frames := 4, cells := 0, slots := 0, locals := 126 } [.ref h0, .int p1, .int p2, .int p3] N [11] (fun H => mI N h0 H ∧ kp N h0 [32, 33, 34, 35, 36, 37, 38] V H) (fun _ => True) (fun _ H => mI N h0 H ∧ kp N h0 [32, 33, 34, 35, 36, 37, 38] V H) := by
  refine Met.ofW (cc := cX11_matrix) (maxL := 4) (ret := some .int) (by decide) rfl ?_
  intro p e s m args below meth c s₁ B hml hv
  obtain ⟨rfl, ⟨hK, hW, hT, hnn⟩, hB⟩ := hv
  obtain ⟨hI, hV⟩ := hB
  have hx := B.exec
  have hb := B.bytes
  have hr := B.returns
  have hts : ∀ w ∈ lw_g, w.before _ s = true := fun w h => atoms_spec (ws := wc_ws yX11_matrix cX11_matrix 4 (some .int)) B.pre w (List.mem_cons_of_mem _ h)
  have hown : s.vm.findClass RX11 = some m.cls := findClass_of_methodNamed B.named
  have hlocks := B.notSynchronized
  have hS : va_S (cE N [11]) s.heap s.heap [] := va_S.rf
  have hl := lv_entry ([.ref h0, .int p1, .int p2, .int p3]) (n := 4) (Nat.le_of_ble_eq_true rfl)
  rw [lg_entry_eq]
  generalize (lg_sl ([.ref h0, .int p1, .int p2, .int p3]) ++ List.replicate (4 - (lg_sl ([.ref h0, .int p1, .int p2, .int p3])).length) Slot.unset).toArray = ls at hl ⊢
  have hl : lv_has ls 4 [(0, .ref h0), (1, .int p1), (2, .int p2), (3, .int p3)] := hl
  refine wq_all ?_
  intro WW w1 w2
  refine lv_iload_n hx hb dX11_matrix_0 rfl (lv_at hl 1 rfl) ?_
  refine lv_i2l hx hb dX11_matrix_1 rfl ?_
  refine lv_topl (fun x1 e1 => ?_)
  have r1 : lr x1 (-2147483648) 2147483647 := by rw [e1]; exact i2l_r (ir_any p1)
  have t1 : x1.toInt = p1.toInt := by rw [e1]; exact Int32.toInt_toInt64 p1
  refine lv_ldc2 hx hb hown (hts _ q1203) dX11_matrix_2 ?_
  refine lv_aload_n hx hb dX11_matrix_5 rfl (lv_at hl 0 rfl) ?_
  refine wt_getp hx hb hts cfX11 hown hK hW (cg11 k0) rfl 7 (by decide) (Or.inl (hts _ q879)) dX11_matrix_6 (fun v hv nh0_7 => ?_)
  obtain ⟨x6, rfl, r6⟩ : gi 0 24 v := hv
  refine lv_i2l hx hb dX11_matrix_9 rfl ?_
  refine lv_topl (fun x9 e9 => ?_)
  have r9 : lr x9 0 24 := by rw [e9]; exact i2l_r r6
  have t9 : x9.toInt = x6.toInt := by rw [e9]; exact Int32.toInt_toInt64 x6
  refine cp_i (wt_runS (As := [.long x1, .long (-1 : Int64), .long x9]) (rest := []) ⟨hx, hb, hml, hown, hts⟩ (m_X11_isIn l x1 (-1 : Int64) x9) wm_X11_isIn q1050 ⟨rfl, rfl⟩ ⟨Nat.le_of_ble_eq_true rfl, Nat.le_of_ble_eq_true rfl⟩ pS_pre rfl hl.1 rfl (Nat.le_of_ble_eq_true rfl) dX11_matrix_10 ⟨Nat.zero_le _, Nat.zero_le _⟩) hW hS (fun x10 H locs hp hW1 hS oq => ?_)
  have hV := hV.same hW k0 oq
  have hI := mI.fr.same hI hW oq
  have hW := hW1
  have nh0_7 := nh0_7.kept (oq _ nh0_7.lt (cE_not k0 (by decide)))
  obtain ⟨r10, b10⟩ := hp
  refine lv_if_eq (tgt := 36) hx hb dX11_matrix_13 (by decide) (fun c13 => ?_) (fun c13 => ?_)
  · have rx10_13 : ir x10 0 0 := rf_eq c13 (ir_c (0) (by decide) : ir (0 : Int32) (0) (0))
    refine lv_ldcw hx hb hown (hts _ q1210) dX11_matrix_36 ?_
    exact W.iret (v := (-20000001 : Int32)) hx hb hr (fun t ht _ => ⟨⟨(-20000001 : Int32), (-20000001 : Int32), rfl, ⟨rfl, trivial⟩, cW_at ht hW, ⟨mI_at ht hI, kp_at ht hV⟩⟩, hS.F ht⟩) hS.2.2 dX11_matrix_39
  · have rx10_13 : ir x10 1 1 := rf_ne0 c13 r10
    have bx10_13 := b10 c13
    have rbx1_13 : lr x1 (-1) 24 := by have h5 := bx10_13; have h6 := r1; have h7 := (lr_c (-1) (by decide) : lr (-1 : Int64) (-1) (-1)); have h8 := r9; constructor <;> omega
    have rp1_13 : ir p1 (-1) 24 := i2l_b e1 rbx1_13
    refine lv_aload_n hx hb dX11_matrix_16 rfl (lv_at hl 0 rfl) ?_
    refine lv_iload_n hx hb dX11_matrix_17 rfl (lv_at hl 2 rfl) ?_
    obtain ⟨V1, hV1⟩ := kp_all hW k0
    refine cc_i2 (B2 := fun _ H => mI N h0 H ∧ kp N h0 [] V1 H) (wt_runV (As := [.int p2]) (rest := []) ⟨hx, hb, hml, hown, hts⟩ (m_X11_isMark l N h0 k0 hO V1 p2) wm_X11_isMark q1204 ⟨rfl, rfl⟩ ⟨Nat.le_of_ble_eq_true rfl, Nat.le_of_ble_eq_true rfl⟩ (cS_preV (B := fun H => mI N h0 H ∧ kp N h0 [] V1 H) hK hW hT hnn hS (cg11 k0) rfl rfl (And.intro hI (kp_of (F := []) hV1))) rfl hl.1 rfl (Nat.le_of_ble_eq_true rfl) dX11_matrix_18 ⟨Nat.zero_le _, Nat.zero_le _⟩) hS (by decide) (fun x18 H locs hp hW hS oq hB2 => ?_)
    obtain ⟨hI, hV2⟩ := hB2
    have hV := kp_call hV hV1 hV2 (by decide)
    have nh0_7 := kp_use hV1 hV2 (by decide) (by decide) nh0_7
    obtain ⟨r18, b18⟩ := hp
    refine lv_if_eq (tgt := 36) hx hb dX11_matrix_21 (by decide) (fun c21 => ?_) (fun c21 => ?_)
    · have rx18_21 : ir x18 0 0 := rf_eq c21 (ir_c (0) (by decide) : ir (0 : Int32) (0) (0))
      refine lv_ldcw hx hb hown (hts _ q1210) dX11_matrix_36 ?_
      exact W.iret (v := (-20000001 : Int32)) hx hb hr (fun t ht _ => ⟨⟨(-20000001 : Int32), (-20000001 : Int32), rfl, ⟨rfl, trivial⟩, cW_at ht hW, ⟨mI_at ht hI, kp_at ht hV⟩⟩, hS.F ht⟩) hS.2.2 dX11_matrix_39
    · have rx18_21 : ir x18 1 1 := rf_ne0 c21 r18
      have bx18_21 := b18 c21
      refine lv_iload_n hx hb dX11_matrix_24 rfl (lv_at hl 3 rfl) ?_
      refine lv_i2l hx hb dX11_matrix_25 rfl ?_
      refine lv_topl (fun x25 e25 => ?_)
      have r25 : lr x25 (-2147483648) 2147483647 := by rw [e25]; exact i2l_r (ir_any p3)
      have t25 : x25.toInt = p3.toInt := by rw [e25]; exact Int32.toInt_toInt64 p3
      refine lv_lconst (v := 0) hx hb dX11_matrix_26 (by decide) ?_
      refine lv_ldc2 hx hb hown (hts _ q1209) dX11_matrix_27 ?_
      refine cp_i (wt_runS (As := [.long x25, .long (0 : Int64), .long (3 : Int64)]) (rest := []) ⟨hx, hb, hml, hown, hts⟩ (m_X11_isIn l x25 (0 : Int64) (3 : Int64)) wm_X11_isIn q1050 ⟨rfl, rfl⟩ ⟨Nat.le_of_ble_eq_true rfl, Nat.le_of_ble_eq_true rfl⟩ pS_pre rfl hl.1 rfl (Nat.le_of_ble_eq_true rfl) dX11_matrix_30 ⟨Nat.zero_le _, Nat.zero_le _⟩) hW hS (fun x30 H locs hp hW1 hS oq => ?_)
      have hV := hV.same hW k0 oq
      have hI := mI.fr.same hI hW oq
      have hW := hW1
      have nh0_7 := nh0_7.kept (oq _ nh0_7.lt (cE_not k0 (by decide)))
      obtain ⟨r30, b30⟩ := hp
      refine lv_if_ne (tgt := 40) hx hb dX11_matrix_33 (by decide) (fun c33 => ?_) (fun c33 => ?_)
      · have rx30_33 : ir x30 1 1 := rf_ne0 c33 r30
        have bx30_33 := b30 c33
        have rbx25_33 : lr x25 0 3 := by have h5 := bx30_33; have h6 := r25; have h7 := (lr_c (0) (by decide) : lr (0 : Int64) (0) (0)); have h8 := (lr_c (3) (by decide) : lr (3 : Int64) (3) (3)); constructor <;> omega
        have rp3_33 : ir p3 0 3 := i2l_b e25 rbx25_33
        refine lv_aload_n hx hb dX11_matrix_40 rfl (lv_at hl 0 rfl) ?_
        refine lv_aload_n hx hb dX11_matrix_41 rfl (lv_at hl 0 rfl) ?_
        refine lv_iload_n hx hb dX11_matrix_42 rfl (lv_at hl 1 rfl) ?_
        obtain ⟨V1, hV1⟩ := kp_all hW k0
        refine cc_i2 (B2 := fun r H => mI N h0 H ∧ kp N h0 [] V1 H ∧ r.toInt ≤ x6.toInt) (wt_runV (As := [.int p1]) (rest := [.ref h0]) ⟨hx, hb, hml, hown, hts⟩ (m_X11_manyOf l N h0 k0 hO V1 p1 rp1_13 x6 (by have h6 := rp1_13; have h7 := r6; omega)) wm_X11_manyOf q1211 ⟨rfl, rfl⟩ ⟨Nat.le_of_ble_eq_true rfl, Nat.le_of_ble_eq_true rfl⟩ (cS_preV (B := fun H => mI N h0 H ∧ kp N h0 [] V1 H ∧ wt_pin N.1 vwCl h0 11 7 (.int x6) H) hK hW hT hnn hS (cg11 k0) rfl rfl (And.intro hI (And.intro (kp_of (F := []) hV1) nh0_7))) rfl hl.1 rfl (Nat.le_of_ble_eq_true rfl) dX11_matrix_43 ⟨Nat.zero_le _, Nat.zero_le _⟩) hS (by decide) (fun x43 H locs hp hW hS oq hB2 => ?_)
        obtain ⟨hI, hV2, hB2⟩ := hB2
        have hV := kp_call hV hV1 hV2 (by decide)
        have l43 := hB2
        have nh0_7 := kp_use hV1 hV2 (by decide) (by decide) nh0_7
        have r43 : ir x43 0 24 := hp
        refine lv_iload_n hx hb dX11_matrix_46 rfl (lv_at hl 2 rfl) ?_
        obtain ⟨V1, hV1⟩ := kp_all hW k0
        refine cc_v (B2 := fun H => mI N h0 H ∧ kp N h0 [32, 33, 34, 35, 36, 37, 38] V1 H) (wt_runV (As := [.int x43, .int p2]) (rest := []) ⟨hx, hb, hml, hown, hts⟩ (m_X11_rows l N h0 k0 hO V1 x43 r43 p2 bx18_21 x6 (by have h6 := r43; have h7 := r6; omega)) wm_X11_rows q1215 ⟨rfl, rfl⟩ ⟨Nat.le_of_ble_eq_true rfl, Nat.le_of_ble_eq_true rfl⟩ (cS_preV (B := fun H => mI N h0 H ∧ kp N h0 [32, 33, 34, 35, 36, 37, 38] V1 H ∧ wt_pin N.1 vwCl h0 11 7 (.int x6) H) hK hW hT hnn hS (cg11 k0) rfl rfl (And.intro hI (And.intro (kp_of (F := [32, 33, 34, 35, 36, 37, 38]) hV1) nh0_7))) rfl hl.1 rfl (Nat.le_of_ble_eq_true rfl) dX11_matrix_47 ⟨Nat.zero_le _, Nat.zero_le _⟩) hS (by decide) (fun H locs hW hS oq hB2 => ?_)
        obtain ⟨hI, hV2⟩ := hB2
        have hV := kp_call hV hV1 hV2 (by decide)
        have nh0_7 := kp_use hV1 hV2 (by decide) (by decide) nh0_7
        refine lv_aload_n hx hb dX11_matrix_50 rfl (lv_at hl 0 rfl) ?_
        refine wt_getp hx hb hts cfX11 hown hK hW (cg11 k0) rfl 38 (by decide) (Or.inl (hts _ q910)) dX11_matrix_51 (fun v hv nh0_38 => ?_)
        obtain ⟨x51, rfl, r51⟩ : gi 0 1 v := hv
        refine lv_if_ne (tgt := 61) hx hb dX11_matrix_54 (by decide) (fun c54 => ?_) (fun c54 => ?_)
        · have rx51_54 : ir x51 1 1 := rf_ne0 c54 r51
          refine lv_iload_n hx hb dX11_matrix_61 rfl (lv_at hl 3 rfl) ?_
          refine lv_if_ne (tgt := 72) hx hb dX11_matrix_62 (by decide) (fun c62 => ?_) (fun c62 => ?_)
          · have rp3_62 : ir p3 1 3 := rf_ne0 c62 rp3_33
            refine lv_iload_n hx hb dX11_matrix_72 rfl (lv_at hl 3 rfl) ?_
            refine lv_iconst (v := 1) hx hb dX11_matrix_73 (by decide) ?_
            refine lv_icmp_ne (tgt := 84) hx hb dX11_matrix_74 (by decide) (fun c74 => ?_) (fun c74 => ?_)
            · have rp3_74 : ir p3 2 3 := rf_nel c74 rp3_62 (by decide) (by decide)
              refine lv_iload_n hx hb dX11_matrix_84 rfl (lv_at hl 3 rfl) ?_
              refine lv_iconst (v := 2) hx hb dX11_matrix_85 (by decide) ?_
              refine lv_icmp_ne (tgt := 96) hx hb dX11_matrix_86 (by decide) (fun c86 => ?_) (fun c86 => ?_)
              · have rp3_86 : ir p3 3 3 := rf_nel c86 rp3_74 (by decide) (by decide)
                refine lv_aload_n hx hb dX11_matrix_96 rfl (lv_at hl 0 rfl) ?_
                refine wt_getp hx hb hts cfX11 hown hK hW (cg11 k0) rfl 37 (by decide) (Or.inl (hts _ q909)) dX11_matrix_97 (fun v hv nh0_37 => ?_)
                obtain ⟨x97, rfl⟩ : gl v := hv
                refine lv_l2i hx hb dX11_matrix_100 rfl ?_
                refine lv_topi (fun x100 e100 => ?_)
                exact W.iret (v := x100) hx hb hr (fun t ht _ => ⟨⟨x100, x100, rfl, ⟨rfl, trivial⟩, cW_at ht hW, ⟨mI_at ht hI, kp_at ht hV⟩⟩, hS.F ht⟩) hS.2.2 dX11_matrix_101
              · have rp3_86 : ir p3 2 2 := rf_eq c86 (ir_c (2) (by decide) : ir (2 : Int32) (2) (2))
                refine lv_aload_n hx hb dX11_matrix_89 rfl (lv_at hl 0 rfl) ?_
                refine wt_getp hx hb hts cfX11 hown hK hW (cg11 k0) rfl 36 (by decide) (Or.inl (hts _ q908)) dX11_matrix_90 (fun v hv nh0_36 => ?_)
                obtain ⟨x90, rfl⟩ : gl v := hv
                refine lv_goto (tgt := 100) hx hb dX11_matrix_93 (by decide) ?_
                refine lv_l2i hx hb dX11_matrix_100 rfl ?_
                refine lv_topi (fun x100 e100 => ?_)
                exact W.iret (v := x100) hx hb hr (fun t ht _ => ⟨⟨x100, x100, rfl, ⟨rfl, trivial⟩, cW_at ht hW, ⟨mI_at ht hI, kp_at ht hV⟩⟩, hS.F ht⟩) hS.2.2 dX11_matrix_101
            · have rp3_74 : ir p3 1 1 := rf_eq c74 (ir_c (1) (by decide) : ir (1 : Int32) (1) (1))
              refine lv_aload_n hx hb dX11_matrix_77 rfl (lv_at hl 0 rfl) ?_
              refine wt_getp hx hb hts cfX11 hown hK hW (cg11 k0) rfl 35 (by decide) (Or.inl (hts _ q907)) dX11_matrix_78 (fun v hv nh0_35 => ?_)
              obtain ⟨x78, rfl⟩ : gl v := hv
              refine lv_goto (tgt := 100) hx hb dX11_matrix_81 (by decide) ?_
              refine lv_l2i hx hb dX11_matrix_100 rfl ?_
              refine lv_topi (fun x100 e100 => ?_)
              exact W.iret (v := x100) hx hb hr (fun t ht _ => ⟨⟨x100, x100, rfl, ⟨rfl, trivial⟩, cW_at ht hW, ⟨mI_at ht hI, kp_at ht hV⟩⟩, hS.F ht⟩) hS.2.2 dX11_matrix_101
          · have rp3_62 : ir p3 0 0 := rf_eq c62 (ir_c (0) (by decide) : ir (0 : Int32) (0) (0))
            refine lv_aload_n hx hb dX11_matrix_65 rfl (lv_at hl 0 rfl) ?_
            refine wt_getp hx hb hts cfX11 hown hK hW (cg11 k0) rfl 34 (by decide) (Or.inl (hts _ q906)) dX11_matrix_66 (fun v hv nh0_34 => ?_)
            obtain ⟨x66, rfl⟩ : gl v := hv
            refine lv_goto (tgt := 100) hx hb dX11_matrix_69 (by decide) ?_
            refine lv_l2i hx hb dX11_matrix_100 rfl ?_
            refine lv_topi (fun x100 e100 => ?_)
            exact W.iret (v := x100) hx hb hr (fun t ht _ => ⟨⟨x100, x100, rfl, ⟨rfl, trivial⟩, cW_at ht hW, ⟨mI_at ht hI, kp_at ht hV⟩⟩, hS.F ht⟩) hS.2.2 dX11_matrix_101
        · have rx51_54 : ir x51 0 0 := rf_eq c54 (ir_c (0) (by decide) : ir (0 : Int32) (0) (0))
          refine lv_ldcw hx hb hown (hts _ q1210) dX11_matrix_57 ?_
          exact W.iret (v := (-20000001 : Int32)) hx hb hr (fun t ht _ => ⟨⟨(-20000001 : Int32), (-20000001 : Int32), rfl, ⟨rfl, trivial⟩, cW_at ht hW, ⟨mI_at ht hI, kp_at ht hV⟩⟩, hS.F ht⟩) hS.2.2 dX11_matrix_60
      · have rx30_33 : ir x30 0 0 := rf_eq c33 (ir_c (0) (by decide) : ir (0 : Int32) (0) (0))
        refine lv_ldcw hx hb hown (hts _ q1210) dX11_matrix_36 ?_
        exact W.iret (v := (-20000001 : Int32)) hx hb hr (fun t ht _ => ⟨⟨(-20000001 : Int32), (-20000001 : Int32), rfl, ⟨rfl, trivial⟩, cW_at ht hW, ⟨mI_at ht hI, kp_at ht hV⟩⟩, hS.F ht⟩) hS.2.2 dX11_matrix_39
set_option maxHeartbeats 4000000 in
set_option maxRecDepth 100000 in
theorem m_X11_light (l : Launch) (N : c_N) (h0 : Nat) (k0 : N.2.2.1 h0 = some 11) (hO : mOK N) (V : Nat → Value) (p1 : Int32) (p2 : Int32) (p3 : Int32) : cMl2 l yX11_light cX11_light 4 .long { frames := 5, cells := 0, slots := 0, locals := 148 } [.ref h0, .int p1, .int p2, .int p3] N [11] (fun H => mI N h0 H ∧ kp N h0 [32, 33, 34, 35, 36, 37, 38, 39, 40, 41, 42] V H) (fun _ => True) (fun _ H => mI N h0 H ∧ kp N h0 [32, 33, 34, 35, 36, 37, 38, 39, 40, 41, 42] V H) := by
  refine Met.ofW (cc := cX11_light) (maxL := 4) (ret := some .long) (by decide) rfl ?_
  intro p e s m args below meth c s₁ B hml hv
  obtain ⟨rfl, ⟨hK, hW, hT, hnn⟩, hB⟩ := hv
  obtain ⟨hI, hV⟩ := hB
  have hx := B.exec
  have hb := B.bytes
  have hr := B.returns
  have hts : ∀ w ∈ lw_g, w.before _ s = true := fun w h => atoms_spec (ws := wc_ws yX11_light cX11_light 4 (some .long)) B.pre w (List.mem_cons_of_mem _ h)
  have hown : s.vm.findClass RX11 = some m.cls := findClass_of_methodNamed B.named
  have hlocks := B.notSynchronized
  have hS : va_S (cE N [11]) s.heap s.heap [] := va_S.rf
  have hl := lv_entry ([.ref h0, .int p1, .int p2, .int p3]) (n := 4) (Nat.le_of_ble_eq_true rfl)
  rw [lg_entry_eq]
  generalize (lg_sl ([.ref h0, .int p1, .int p2, .int p3]) ++ List.replicate (4 - (lg_sl ([.ref h0, .int p1, .int p2, .int p3])).length) Slot.unset).toArray = ls at hl ⊢
  have hl : lv_has ls 4 [(0, .ref h0), (1, .int p1), (2, .int p2), (3, .int p3)] := hl
  refine wq_all ?_
  intro WW w1 w2
  refine lv_iload_n hx hb dX11_light_0 rfl (lv_at hl 1 rfl) ?_
  refine lv_i2l hx hb dX11_light_1 rfl ?_
  refine lv_topl (fun x1 e1 => ?_)
  have r1 : lr x1 (-2147483648) 2147483647 := by rw [e1]; exact i2l_r (ir_any p1)
  have t1 : x1.toInt = p1.toInt := by rw [e1]; exact Int32.toInt_toInt64 p1
  refine lv_ldc2 hx hb hown (hts _ q1203) dX11_light_2 ?_
  refine lv_aload_n hx hb dX11_light_5 rfl (lv_at hl 0 rfl) ?_
  refine wt_getp hx hb hts cfX11 hown hK hW (cg11 k0) rfl 7 (by decide) (Or.inl (hts _ q879)) dX11_light_6 (fun v hv nh0_7 => ?_)
  obtain ⟨x6, rfl, r6⟩ : gi 0 24 v := hv
  refine lv_i2l hx hb dX11_light_9 rfl ?_
  refine lv_topl (fun x9 e9 => ?_)
  have r9 : lr x9 0 24 := by rw [e9]; exact i2l_r r6
  have t9 : x9.toInt = x6.toInt := by rw [e9]; exact Int32.toInt_toInt64 x6
  refine cp_i (wt_runS (As := [.long x1, .long (-1 : Int64), .long x9]) (rest := []) ⟨hx, hb, hml, hown, hts⟩ (m_X11_isIn l x1 (-1 : Int64) x9) wm_X11_isIn q1050 ⟨rfl, rfl⟩ ⟨Nat.le_of_ble_eq_true rfl, Nat.le_of_ble_eq_true rfl⟩ pS_pre rfl hl.1 rfl (Nat.le_of_ble_eq_true rfl) dX11_light_10 ⟨Nat.zero_le _, Nat.zero_le _⟩) hW hS (fun x10 H locs hp hW1 hS oq => ?_)
  have hV := hV.same hW k0 oq
  have hI := mI.fr.same hI hW oq
  have hW := hW1
  have nh0_7 := nh0_7.kept (oq _ nh0_7.lt (cE_not k0 (by decide)))
  obtain ⟨r10, b10⟩ := hp
  refine lv_if_eq (tgt := 36) hx hb dX11_light_13 (by decide) (fun c13 => ?_) (fun c13 => ?_)
  · have rx10_13 : ir x10 0 0 := rf_eq c13 (ir_c (0) (by decide) : ir (0 : Int32) (0) (0))
    refine lv_ldc2 hx hb hown (hts _ q1237) dX11_light_36 ?_
    exact W.lret (v := (-2 : Int64)) hx hb hr (fun t ht _ => ⟨⟨(-2 : Int64), (-2 : Int64), rfl, ⟨rfl, trivial⟩, cW_at ht hW, ⟨mI_at ht hI, kp_at ht hV⟩⟩, hS.F ht⟩) hS.2.2 dX11_light_39
  · have rx10_13 : ir x10 1 1 := rf_ne0 c13 r10
    have bx10_13 := b10 c13
    have rbx1_13 : lr x1 (-1) 24 := by have h5 := bx10_13; have h6 := r1; have h7 := (lr_c (-1) (by decide) : lr (-1 : Int64) (-1) (-1)); have h8 := r9; constructor <;> omega
    have rp1_13 : ir p1 (-1) 24 := i2l_b e1 rbx1_13
    refine lv_aload_n hx hb dX11_light_16 rfl (lv_at hl 0 rfl) ?_
    refine lv_iload_n hx hb dX11_light_17 rfl (lv_at hl 2 rfl) ?_
    obtain ⟨V1, hV1⟩ := kp_all hW k0
    refine cc_i2 (B2 := fun _ H => mI N h0 H ∧ kp N h0 [] V1 H) (wt_runV (As := [.int p2]) (rest := []) ⟨hx, hb, hml, hown, hts⟩ (m_X11_isMark l N h0 k0 hO V1 p2) wm_X11_isMark q1204 ⟨rfl, rfl⟩ ⟨Nat.le_of_ble_eq_true rfl, Nat.le_of_ble_eq_true rfl⟩ (cS_preV (B := fun H => mI N h0 H ∧ kp N h0 [] V1 H) hK hW hT hnn hS (cg11 k0) rfl rfl (And.intro hI (kp_of (F := []) hV1))) rfl hl.1 rfl (Nat.le_of_ble_eq_true rfl) dX11_light_18 ⟨Nat.zero_le _, Nat.zero_le _⟩) hS (by decide) (fun x18 H locs hp hW hS oq hB2 => ?_)
    obtain ⟨hI, hV2⟩ := hB2
    have hV := kp_call hV hV1 hV2 (by decide)
    have nh0_7 := kp_use hV1 hV2 (by decide) (by decide) nh0_7
    obtain ⟨r18, b18⟩ := hp
    refine lv_if_eq (tgt := 36) hx hb dX11_light_21 (by decide) (fun c21 => ?_) (fun c21 => ?_)
    · have rx18_21 : ir x18 0 0 := rf_eq c21 (ir_c (0) (by decide) : ir (0 : Int32) (0) (0))
      refine lv_ldc2 hx hb hown (hts _ q1237) dX11_light_36 ?_
      exact W.lret (v := (-2 : Int64)) hx hb hr (fun t ht _ => ⟨⟨(-2 : Int64), (-2 : Int64), rfl, ⟨rfl, trivial⟩, cW_at ht hW, ⟨mI_at ht hI, kp_at ht hV⟩⟩, hS.F ht⟩) hS.2.2 dX11_light_39
    · have rx18_21 : ir x18 1 1 := rf_ne0 c21 r18
      have bx18_21 := b18 c21
      refine lv_iload_n hx hb dX11_light_24 rfl (lv_at hl 3 rfl) ?_
      refine lv_i2l hx hb dX11_light_25 rfl ?_
      refine lv_topl (fun x25 e25 => ?_)
      have r25 : lr x25 (-2147483648) 2147483647 := by rw [e25]; exact i2l_r (ir_any p3)
      have t25 : x25.toInt = p3.toInt := by rw [e25]; exact Int32.toInt_toInt64 p3
      refine lv_lconst (v := 0) hx hb dX11_light_26 (by decide) ?_
      refine lv_ldc2 hx hb hown (hts _ q1209) dX11_light_27 ?_
      refine cp_i (wt_runS (As := [.long x25, .long (0 : Int64), .long (3 : Int64)]) (rest := []) ⟨hx, hb, hml, hown, hts⟩ (m_X11_isIn l x25 (0 : Int64) (3 : Int64)) wm_X11_isIn q1050 ⟨rfl, rfl⟩ ⟨Nat.le_of_ble_eq_true rfl, Nat.le_of_ble_eq_true rfl⟩ pS_pre rfl hl.1 rfl (Nat.le_of_ble_eq_true rfl) dX11_light_30 ⟨Nat.zero_le _, Nat.zero_le _⟩) hW hS (fun x30 H locs hp hW1 hS oq => ?_)
      have hV := hV.same hW k0 oq
      have hI := mI.fr.same hI hW oq
      have hW := hW1
      have nh0_7 := nh0_7.kept (oq _ nh0_7.lt (cE_not k0 (by decide)))
      obtain ⟨r30, b30⟩ := hp
      refine lv_if_ne (tgt := 40) hx hb dX11_light_33 (by decide) (fun c33 => ?_) (fun c33 => ?_)
      · have rx30_33 : ir x30 1 1 := rf_ne0 c33 r30
        have bx30_33 := b30 c33
        have rbx25_33 : lr x25 0 3 := by have h5 := bx30_33; have h6 := r25; have h7 := (lr_c (0) (by decide) : lr (0 : Int64) (0) (0)); have h8 := (lr_c (3) (by decide) : lr (3 : Int64) (3) (3)); constructor <;> omega
        have rp3_33 : ir p3 0 3 := i2l_b e25 rbx25_33
        refine lv_aload_n hx hb dX11_light_40 rfl (lv_at hl 0 rfl) ?_
        refine lv_aload_n hx hb dX11_light_41 rfl (lv_at hl 0 rfl) ?_
        refine lv_iload_n hx hb dX11_light_42 rfl (lv_at hl 1 rfl) ?_
        obtain ⟨V1, hV1⟩ := kp_all hW k0
        refine cc_i2 (B2 := fun r H => mI N h0 H ∧ kp N h0 [] V1 H ∧ r.toInt ≤ x6.toInt) (wt_runV (As := [.int p1]) (rest := [.ref h0]) ⟨hx, hb, hml, hown, hts⟩ (m_X11_manyOf l N h0 k0 hO V1 p1 rp1_13 x6 (by have h6 := rp1_13; have h7 := r6; omega)) wm_X11_manyOf q1211 ⟨rfl, rfl⟩ ⟨Nat.le_of_ble_eq_true rfl, Nat.le_of_ble_eq_true rfl⟩ (cS_preV (B := fun H => mI N h0 H ∧ kp N h0 [] V1 H ∧ wt_pin N.1 vwCl h0 11 7 (.int x6) H) hK hW hT hnn hS (cg11 k0) rfl rfl (And.intro hI (And.intro (kp_of (F := []) hV1) nh0_7))) rfl hl.1 rfl (Nat.le_of_ble_eq_true rfl) dX11_light_43 ⟨Nat.zero_le _, Nat.zero_le _⟩) hS (by decide) (fun x43 H locs hp hW hS oq hB2 => ?_)
        obtain ⟨hI, hV2, hB2⟩ := hB2
        have hV := kp_call hV hV1 hV2 (by decide)
        have l43 := hB2
        have nh0_7 := kp_use hV1 hV2 (by decide) (by decide) nh0_7
        have r43 : ir x43 0 24 := hp
        refine lv_iload_n hx hb dX11_light_46 rfl (lv_at hl 2 rfl) ?_
        obtain ⟨V1, hV1⟩ := kp_all hW k0
        refine cc_i2 (B2 := fun r H => mI N h0 H ∧ kp N h0 [32, 33, 34, 35, 36, 37, 38, 39, 40, 41, 42] V1 H ∧ (¬ r = 0 → ∃ bu bb : Int64, pL N h0 39 bu H ∧ pL N h0 40 bb H ∧ 0 ≤ bu.toInt ∧ 1 ≤ bb.toInt)) (wt_runV (As := [.int x43, .int p2]) (rest := []) ⟨hx, hb, hml, hown, hts⟩ (m_X11_shines l N h0 k0 hO V1 x43 r43 p2 bx18_21 x6 (by have h6 := r43; have h7 := r6; omega)) wm_X11_shines q1238 ⟨rfl, rfl⟩ ⟨Nat.le_of_ble_eq_true rfl, Nat.le_of_ble_eq_true rfl⟩ (cS_preV (B := fun H => mI N h0 H ∧ kp N h0 [32, 33, 34, 35, 36, 37, 38, 39, 40, 41, 42] V1 H ∧ wt_pin N.1 vwCl h0 11 7 (.int x6) H) hK hW hT hnn hS (cg11 k0) rfl rfl (And.intro hI (And.intro (kp_of (F := [32, 33, 34, 35, 36, 37, 38, 39, 40, 41, 42]) hV1) nh0_7))) rfl hl.1 rfl (Nat.le_of_ble_eq_true rfl) dX11_light_47 ⟨Nat.zero_le _, Nat.zero_le _⟩) hS (by decide) (fun x47 H locs hp hW hS oq hB2 => ?_)
        obtain ⟨hI, hV2, hB2⟩ := hB2
        have hV := kp_call hV hV1 hV2 (by decide)
        have hq47 := hB2
        have nh0_7 := kp_use hV1 hV2 (by decide) (by decide) nh0_7
        have r47 : ir x47 0 1 := hp
        refine lv_if_eq (tgt := 61) hx hb dX11_light_50 (by decide) (fun c50 => ?_) (fun c50 => ?_)
        · have rx47_50 : ir x47 0 0 := rf_eq c50 (ir_c (0) (by decide) : ir (0 : Int32) (0) (0))
          refine lv_ldc2 hx hb hown (hts _ q1203) dX11_light_61 ?_
          exact W.lret (v := (-1 : Int64)) hx hb hr (fun t ht _ => ⟨⟨(-1 : Int64), (-1 : Int64), rfl, ⟨rfl, trivial⟩, cW_at ht hW, ⟨mI_at ht hI, kp_at ht hV⟩⟩, hS.F ht⟩) hS.2.2 dX11_light_64
        · have rx47_50 : ir x47 1 1 := rf_ne0 c50 r47
          obtain ⟨bu47, bb47, nh0_39, nh0_40, vu47, vb47⟩ := hq47 c50
          refine lv_aload_n hx hb dX11_light_53 rfl (lv_at hl 0 rfl) ?_
          refine lv_iload_n hx hb dX11_light_54 rfl (lv_at hl 3 rfl) ?_
          obtain ⟨V1, hV1⟩ := kp_all hW k0
          refine cc_l2 (B2 := fun _ H => mI N h0 H ∧ kp N h0 [] V1 H) (wt_runV (As := [.int p3]) (rest := []) ⟨hx, hb, hml, hown, hts⟩ (m_X11_lightOf l N h0 k0 hO V1 p3) wm_X11_lightOf q1246 ⟨rfl, rfl⟩ ⟨Nat.le_of_ble_eq_true rfl, Nat.le_of_ble_eq_true rfl⟩ (cS_preV (B := fun H => mI N h0 H ∧ kp N h0 [] V1 H) hK hW hT hnn hS (cg11 k0) rfl rfl (And.intro hI (kp_of (F := []) hV1))) rfl hl.1 rfl (Nat.le_of_ble_eq_true rfl) dX11_light_55 ⟨Nat.zero_le _, Nat.zero_le _⟩) hS (by decide) (fun x55 H locs hp hW hS oq hB2 => ?_)
          obtain ⟨hI, hV2⟩ := hB2
          have hV := kp_call hV hV1 hV2 (by decide)
          have nh0_7 := kp_use hV1 hV2 (by decide) (by decide) nh0_7
          have nh0_39 := kp_use hV1 hV2 (by decide) (by decide) nh0_39
          have nh0_40 := kp_use hV1 hV2 (by decide) (by decide) nh0_40
          refine lv_goto (tgt := 64) hx hb dX11_light_58 (by decide) ?_
          exact W.lret (v := x55) hx hb hr (fun t ht _ => ⟨⟨x55, x55, rfl, ⟨rfl, trivial⟩, cW_at ht hW, ⟨mI_at ht hI, kp_at ht hV⟩⟩, hS.F ht⟩) hS.2.2 dX11_light_64
      · have rx30_33 : ir x30 0 0 := rf_eq c33 (ir_c (0) (by decide) : ir (0 : Int32) (0) (0))
        refine lv_ldc2 hx hb hown (hts _ q1237) dX11_light_36 ?_
        exact W.lret (v := (-2 : Int64)) hx hb hr (fun t ht _ => ⟨⟨(-2 : Int64), (-2 : Int64), rfl, ⟨rfl, trivial⟩, cW_at ht hW, ⟨mI_at ht hI, kp_at ht hV⟩⟩, hS.F ht⟩) hS.2.2 dX11_light_39
