set_option maxHeartbeats 4000000 in
set_option maxRecDepth 100000 in
theorem m_X11_wanted (l : Launch) (N : c_N) (h0 : Nat) (k0 : N.2.2.1 h0 = some 11) (hO : mOK N) (V : Nat → Value) (p1 : Int32) (p2 : Int32) (p3 : Int32) (p4 : Int32) : cMi2 l yX11_wanted cX11_wanted 7 .int { frames := 9, cells := 0, slots := 0, locals := 257 } [.ref h0, .int p1, .int p2, .int p3, .int p4] N [11, 42, 43, 44, 45, 46, 47, 48, 49, 56, 57, 58, 59, 60] (fun H => mI N h0 H ∧ kp N h0 [7, 13, 32, 33, 34, 35, 36, 37, 38, 39, 40, 41, 42, 48, 49, 50, 51] V H) (fun _ => True) (fun _ H => mI N h0 H ∧ kp N h0 [7, 13, 32, 33, 34, 35, 36, 37, 38, 39, 40, 41, 42, 48, 49, 50, 51] V H) := by
  refine Met.ofW (cc := cX11_wanted) (maxL := 7) (ret := some .int) (by decide) rfl ?_
  intro p e s m args below meth c s₁ B hml hv
  obtain ⟨rfl, ⟨hK, hW, hT, hnn⟩, hB⟩ := hv
  obtain ⟨hI, hV⟩ := hB
  have hx := B.exec
  have hb := B.bytes
  have hr := B.returns
  have hts : ∀ w ∈ lw_g, w.before _ s = true := fun w h => atoms_spec (ws := wc_ws yX11_wanted cX11_wanted 7 (some .int)) B.pre w (List.mem_cons_of_mem _ h)
  have hown : s.vm.findClass RX11 = some m.cls := findClass_of_methodNamed B.named
  have hlocks := B.notSynchronized
  have hS : va_S (cE N [11, 42, 43, 44, 45, 46, 47, 48, 49, 56, 57, 58, 59, 60]) s.heap s.heap [] := va_S.rf
  have hl := lv_entry ([.ref h0, .int p1, .int p2, .int p3, .int p4]) (n := 7) (Nat.le_of_ble_eq_true rfl)
  rw [lg_entry_eq]
  generalize (lg_sl ([.ref h0, .int p1, .int p2, .int p3, .int p4]) ++ List.replicate (7 - (lg_sl ([.ref h0, .int p1, .int p2, .int p3, .int p4])).length) Slot.unset).toArray = ls at hl ⊢
  have hl : lv_has ls 7 [(0, .ref h0), (1, .int p1), (2, .int p2), (3, .int p3), (4, .int p4)] := hl
  refine wq_all ?_
  intro WW w1 w2
  have L64 : ∀ (n : Nat) (H : Heap) (locs : List Loc) (ls : Array Slot) (v64_5 : Int32) (v64_6 : Int32) (u64_0 : Int32), cW N H → QP N h0 H → QR N h0 H → QB N h0 H → QM N h0 H → kp N h0 [7, 13, 32, 33, 34, 35, 36, 37, 38, 39, 40, 41, 42, 48, 49, 50, 51] V H → gP N 43 44 25 (fun j => (j : Int) < v64_6.toInt) H → va_S (cE N [11, 42, 43, 44, 45, 46, 47, 48, 49, 56, 57, 58, 59, 60]) s.heap H locs → lv_has ls 7 [(0, .ref h0), (5, .int v64_5), (6, .int v64_6)] → ir v64_5 1 3 → ir v64_6 0 3 → ir u64_0 1 3 → wt_pin N.1 vwCl h0 11 7 (.int u64_0) H → u64_0.toInt = v64_5.toInt → 3 - v64_6.toInt < (n : Int) → WW H locs (F0 m 64 ls []) := by
    intro n
    induction n with
    | zero =>
      intro H locs ls v64_5 v64_6 u64_0 hW iP iR iB iM hV hGL hS hl rv64_5 rv64_6 ru64_0 nh0_7 rw64_0 mu64
      exfalso
      omega
    | succ n ih64 =>
      intro H locs ls v64_5 v64_6 u64_0 hW iP iR iB iM hV hGL hS hl rv64_5 rv64_6 ru64_0 nh0_7 rw64_0 mu64
      refine w1 _ _ _ ?_
      refine lv_iload hx hb dX11_wanted_64 (lv_at hl 2 rfl) ?_
      refine lv_iload hx hb dX11_wanted_66 (lv_at hl 1 rfl) ?_
      refine lv_icmp_ge (tgt := 110) hx hb dX11_wanted_68 (by decide) (fun c68 => ?_) (fun c68 => ?_)
      · have rv64_6_68 : ir v64_6 1 3 := ⟨Int.le_trans (by decide) (rf_le c68 rv64_5 rv64_6).2, (rv64_6).2⟩
        have d68 := Int32.le_iff_toInt_le.mp c68
        have iL : QL N h0 H := ⟨_, nh0_7, (hGL.sub (fun j hj h => by have h : (j : Int) < u64_0.toInt := h; show (j : Int) < v64_6.toInt; have h30 := ru64_0; have h31 := rv64_6_68; omega))⟩
        have hI : mI N h0 H := ⟨iL, iP, iR, iB, iM⟩
        refine lv_iload hx hb dX11_wanted_110 (lv_at hl 1 rfl) ?_
        exact W.iret (v := v64_5) hx hb hr (fun t ht _ => ⟨⟨v64_5, v64_5, rfl, ⟨rfl, trivial⟩, cW_at ht hW, ⟨mI_at ht hI, kp_at ht hV⟩⟩, hS.F ht⟩) hS.2.2 dX11_wanted_112
      · have rv64_6_68 : ir v64_6 0 2 := ⟨(rv64_6).1, Int.le_trans (rf_lt (rf_nle c68) rv64_6 rv64_5).1 (by decide)⟩
        have d68 := Int32.lt_iff_toInt_lt.mp (rf_nle c68)
        refine lv_aload_n hx hb dX11_wanted_71 rfl (lv_at hl 0 rfl) ?_
        refine lv_iload hx hb dX11_wanted_72 (lv_at hl 2 rfl) ?_
        refine lv_aload_n hx hb dX11_wanted_74 rfl (lv_at hl 0 rfl) ?_
        refine wt_get hx hb hts cfX11 hown hK hW (cg11 k0) rfl 46 (by decide) q918 dX11_wanted_75 (fun v hv => ?_)
        obtain ⟨x75, rfl, k75⟩ : gr N 59 v := hv
        refine lv_iload hx hb dX11_wanted_78 (lv_at hl 2 rfl) ?_
        refine wt_iald hx hb hK hW 0 (cg59 k75) rfl (ir_in rv64_6_68 (by decide) (by decide)) dX11_wanted_80 (fun v hv => ?_)
        obtain ⟨x80, rfl, r80⟩ : gi 0 5 v := hv
        refine lv_aload_n hx hb dX11_wanted_81 rfl (lv_at hl 0 rfl) ?_
        refine wt_get hx hb hts cfX11 hown hK hW (cg11 k0) rfl 47 (by decide) q919 dX11_wanted_82 (fun v hv => ?_)
        obtain ⟨x82, rfl, k82⟩ : gr N 60 v := hv
        refine lv_iload hx hb dX11_wanted_85 (lv_at hl 2 rfl) ?_
        refine wt_iald hx hb hK hW 0 (cg60 k82) rfl (ir_in rv64_6_68 (by decide) (by decide)) dX11_wanted_87 (fun v hv => ?_)
        obtain ⟨x87, rfl, r87⟩ : gi 0 6 v := hv
        refine cp_i (wt_runS (As := [.int x87]) (rest := [.int x80, .int v64_6, .ref h0]) ⟨hx, hb, hml, hown, hts⟩ (m_X11_thickUp l x87) wm_X11_thickUp q1356 ⟨rfl, rfl⟩ ⟨Nat.le_of_ble_eq_true rfl, Nat.le_of_ble_eq_true rfl⟩ pS_pre rfl hl.1 rfl (Nat.le_of_ble_eq_true rfl) dX11_wanted_88 ⟨Nat.zero_le _, Nat.zero_le _⟩) hW hS (fun x88 H locs hp hW1 hS oq => ?_)
        have hV := hV.same hW k0 oq
        have hGL := hGL.same hW oq (by decide) (by decide)
        have iP := QP.fr.same iP hW oq
        have iR := QR.fr.same iR hW oq
        have iB := QB.fr.same iB hW oq
        have iM := QM.fr.same iM hW oq
        have hW := hW1
        have nh0_7 := nh0_7.kept (oq _ nh0_7.lt (cE_not k0 (by decide)))
        have r88 : ir x88 1 3 := hp
        refine lv_aload_n hx hb dX11_wanted_91 rfl (lv_at hl 0 rfl) ?_
        refine wt_get hx hb hts cfX11 hown hK hW (cg11 k0) rfl 47 (by decide) q919 dX11_wanted_92 (fun v hv => ?_)
        obtain ⟨x92, rfl, k92⟩ : gr N 60 v := hv
        refine lv_iload hx hb dX11_wanted_95 (lv_at hl 2 rfl) ?_
        refine wt_iald hx hb hK hW 0 (cg60 k92) rfl (ir_in rv64_6_68 (by decide) (by decide)) dX11_wanted_97 (fun v hv => ?_)
        obtain ⟨x97, rfl, r97⟩ : gi 0 6 v := hv
        refine cp_i (wt_runS (As := [.int x97]) (rest := [.int x88, .int x80, .int v64_6, .ref h0]) ⟨hx, hb, hml, hown, hts⟩ (m_X11_thickBy l x97) wm_X11_thickBy q1359 ⟨rfl, rfl⟩ ⟨Nat.le_of_ble_eq_true rfl, Nat.le_of_ble_eq_true rfl⟩ pS_pre rfl hl.1 rfl (Nat.le_of_ble_eq_true rfl) dX11_wanted_98 ⟨Nat.zero_le _, Nat.zero_le _⟩) hW hS (fun x98 H locs hp hW1 hS oq => ?_)
        have hV := hV.same hW k0 oq
        have hGL := hGL.same hW oq (by decide) (by decide)
        have iP := QP.fr.same iP hW oq
        have iR := QR.fr.same iR hW oq
        have iB := QB.fr.same iB hW oq
        have iM := QM.fr.same iM hW oq
        have hW := hW1
        have nh0_7 := nh0_7.kept (oq _ nh0_7.lt (cE_not k0 (by decide)))
        have r98 : ir x98 1 3 := hp
        obtain ⟨V1, hV1⟩ := kp_all hW k0
        have hWo := hW
        refine cc_v (B2 := fun H => kp N h0 [] V1 H ∧ gP N 43 44 25 (fun j => ((j : Int) < v64_6.toInt) ∨ (j : Int) = v64_6.toInt) H) (wt_runV (As := [.int v64_6, .int x80, .int x88, .int x98]) (rest := []) ⟨hx, hb, hml, hown, hts⟩ (m_X11_lays l N h0 k0 hO V1 v64_6 (ir_w (lo' := 0) (hi' := 24) rv64_6_68 (by decide) (by decide)) x80 r80 x88 (ir_w (lo' := 0) (hi' := 6) r88 (by decide) (by decide)) x98 (ir_w (lo' := 0) (hi' := 6) r98 (by decide) (by decide)) (fun j => (j : Int) < v64_6.toInt) (Or.inl (by have h9 := r88; omega))) wm_X11_lays q1096 ⟨rfl, rfl⟩ ⟨Nat.le_of_ble_eq_true rfl, Nat.le_of_ble_eq_true rfl⟩ (cS_preV (B := fun H => kp N h0 [] V1 H ∧ gP N 43 44 25 (fun j => (j : Int) < v64_6.toInt) H) hK hW hT hnn hS (cg11 k0) rfl rfl (And.intro (kp_of (F := []) hV1) hGL)) rfl hl.1 rfl (Nat.le_of_ble_eq_true rfl) dX11_wanted_101 ⟨Nat.zero_le _, Nat.zero_le _⟩) hS (by decide) (fun H locs hW hS oq hB2 => ?_)
        obtain ⟨hV2, hB2⟩ := hB2
        have hV := kp_call hV hV1 hV2 (by decide)
        have iP := QP.fr.kcall iP hWo hV1 hV2 oq (by decide) (by decide)
        have iR := QR.fr.kcall iR hWo hV1 hV2 oq (by decide) (by decide)
        have iB := QB.fr.kcall iB hWo hV1 hV2 oq (by decide) (by decide)
        have iM := QM.fr.kcall iM hWo hV1 hV2 oq (by decide) (by decide)
        have hGL : gP N 43 44 25 (fun j => ((j : Int) < v64_6.toInt) ∨ (j : Int) = v64_6.toInt) H := hB2
        have nh0_7 := kp_use hV1 hV2 (by decide) (by decide) nh0_7
        obtain ⟨x104, e104⟩ : ∃ y : Int32, y = v64_6 + 1 := ⟨_, rfl⟩
        have r104 : ir x104 1 3 := ir_w (ir_add e104 rv64_6_68 (ir_c (1) (by decide) : ir (1 : Int32) (1) (1)) (by decide) (by decide)) (by decide) (by decide)
        have t104 : x104.toInt = v64_6.toInt + (1) := it_add e104 rv64_6_68 (ir_c (1) (by decide) : ir (1 : Int32) (1) (1)) (by decide) (by decide)
        refine lv_iinc (v := x104) (lv' := [(6, .int x104), (0, .ref h0), (5, .int v64_5)]) hx hb dX11_wanted_104 hl (k := 2) rfl (by rw [e104]; rfl) (by decide) rfl (fun ls hl => ?_)
        refine lv_goto (tgt := 64) hx hb dX11_wanted_107 (by decide) ?_
        exact w2 _ _ _ (ih64 _ _ _ v64_5 x104 u64_0 hW iP iR iB iM hV (hGL.sub (fun j hj h => by have h : (j : Int) < x104.toInt := h; show ((j : Int) < v64_6.toInt) ∨ (j : Int) = v64_6.toInt; have h30 := rv64_6_68; have h31 := r104; omega)) hS (lv_sub hl [1, 2, 0] rfl) rv64_5 (ir_w (lo' := 0) (hi' := 3) r104 (by decide) (by decide)) ru64_0 nh0_7 (by have h20 := rv64_5; have h21 := ru64_0; omega) (by have h9 := r104; omega))
  have L28 : ∀ (n : Nat) (H : Heap) (locs : List Loc) (ls : Array Slot) (v28_5 : Int32), cW N H → mI N h0 H → kp N h0 [7, 13, 32, 33, 34, 35, 36, 37, 38, 39, 40, 41, 42, 48, 49, 50, 51] V H → va_S (cE N [11, 42, 43, 44, 45, 46, 47, 48, 49, 56, 57, 58, 59, 60]) s.heap H locs → lv_has ls 7 [(0, .ref h0), (1, .int p1), (2, .int p2), (3, .int p3), (4, .int p4), (5, .int v28_5)] → ir p4 1 3 → ir v28_5 1 4 → 4 - v28_5.toInt < (n : Int) → WW H locs (F0 m 28 ls []) := by
    intro n
    induction n with
    | zero =>
      intro H locs ls v28_5 hW hI hV hS hl rv28_4 rv28_5 mu28
      exfalso
      omega
    | succ n ih28 =>
      intro H locs ls v28_5 hW hI hV hS hl rv28_4 rv28_5 mu28
      refine w1 _ _ _ ?_
      refine lv_iload hx hb dX11_wanted_28 (lv_at hl 5 rfl) ?_
      refine lv_iload hx hb dX11_wanted_30 (lv_at hl 4 rfl) ?_
      refine lv_icmp_gt (tgt := 119) hx hb dX11_wanted_32 (by decide) (fun c32 => ?_) (fun c32 => ?_)
      · have rv28_5_32 : ir v28_5 2 4 := ⟨Int.le_trans (by decide) (rf_lt c32 rv28_4 rv28_5).2, (rv28_5).2⟩
        have d32 := Int32.lt_iff_toInt_lt.mp c32
        refine lv_iconst (v := -1) hx hb dX11_wanted_119 (by decide) ?_
        exact W.iret (v := (-1 : Int32)) hx hb hr (fun t ht _ => ⟨⟨(-1 : Int32), (-1 : Int32), rfl, ⟨rfl, trivial⟩, cW_at ht hW, ⟨mI_at ht hI, kp_at ht hV⟩⟩, hS.F ht⟩) hS.2.2 dX11_wanted_120
      · have rv28_5_32 : ir v28_5 1 3 := ⟨(rv28_5).1, Int.le_trans (rf_le (rf_nlt c32) rv28_5 rv28_4).1 (by decide)⟩
        have d32 := Int32.le_iff_toInt_le.mp (rf_nlt c32)
        refine lv_aload_n hx hb dX11_wanted_35 rfl (lv_at hl 0 rfl) ?_
        refine lv_iload_n hx hb dX11_wanted_36 rfl (lv_at hl 1 rfl) ?_
        refine lv_iload_n hx hb dX11_wanted_37 rfl (lv_at hl 2 rfl) ?_
        refine lv_iload_n hx hb dX11_wanted_38 rfl (lv_at hl 3 rfl) ?_
        refine lv_iload hx hb dX11_wanted_39 (lv_at hl 5 rfl) ?_
        obtain ⟨V1, hV1⟩ := kp_all hW k0
        refine cc_i2 (B2 := fun _ H => mI N h0 H ∧ kp N h0 [32, 33, 34, 35, 36, 37, 38, 39, 40, 41, 42, 48, 49, 50, 51] V1 H) (wt_runV (As := [.int p1, .int p2, .int p3, .int v28_5]) (rest := []) ⟨hx, hb, hml, hown, hts⟩ (m_X11_waysOf l N h0 k0 hO V1 p1 p2 p3 v28_5 rv28_5_32) wm_X11_waysOf q1336 ⟨rfl, rfl⟩ ⟨Nat.le_of_ble_eq_true rfl, Nat.le_of_ble_eq_true rfl⟩ (cS_preV (B := fun H => mI N h0 H ∧ kp N h0 [32, 33, 34, 35, 36, 37, 38, 39, 40, 41, 42, 48, 49, 50, 51] V1 H) hK hW hT hnn hS (cg11 k0) rfl rfl (And.intro hI (kp_of (F := [32, 33, 34, 35, 36, 37, 38, 39, 40, 41, 42, 48, 49, 50, 51]) hV1))) rfl hl.1 rfl (Nat.le_of_ble_eq_true rfl) dX11_wanted_41 ⟨Nat.zero_le _, Nat.zero_le _⟩) hS (by decide) (fun x41 H locs hp hW hS oq hB2 => ?_)
        obtain ⟨hI, hV2⟩ := hB2
        have hV := kp_call hV hV1 hV2 (by decide)
        refine lv_if_ne (tgt := 50) hx hb dX11_wanted_44 (by decide) (fun c44 => ?_) (fun c44 => ?_)
        · refine lv_aload_n hx hb dX11_wanted_50 rfl (lv_at hl 0 rfl) ?_
          refine lv_iconst (v := 0) hx hb dX11_wanted_51 (by decide) ?_
          obtain ⟨V1, hV1⟩ := kp_all hW k0
          refine cc_v (B2 := fun H => mI N h0 H ∧ kp N h0 [13] V1 H) (wt_runV (As := [.int (0 : Int32)]) (rest := []) ⟨hx, hb, hml, hown, hts⟩ (m_X11_keeps l N h0 k0 hO V1 (0 : Int32) (ir_w (lo' := 0) (hi' := 1) (ir_c (0) (by decide) : ir (0 : Int32) (0) (0)) (by decide) (by decide))) wm_X11_keeps q1084 ⟨rfl, rfl⟩ ⟨Nat.le_of_ble_eq_true rfl, Nat.le_of_ble_eq_true rfl⟩ (cS_preV (B := fun H => mI N h0 H ∧ kp N h0 [13] V1 H) hK hW hT hnn hS (cg11 k0) rfl rfl (And.intro hI (kp_of (F := [13]) hV1))) rfl hl.1 rfl (Nat.le_of_ble_eq_true rfl) dX11_wanted_52 ⟨Nat.zero_le _, Nat.zero_le _⟩) hS (by decide) (fun H locs hW hS oq hB2 => ?_)
          obtain ⟨hI, hV2⟩ := hB2
          have hV := kp_call hV hV1 hV2 (by decide)
          refine lv_aload_n hx hb dX11_wanted_55 rfl (lv_at hl 0 rfl) ?_
          refine lv_iload hx hb dX11_wanted_56 (lv_at hl 5 rfl) ?_
          refine wt_putp hx hb hts cfX11 tyX11 tyX11_ok nmX11 hown hK hW hS (cg11 k0) (ce k0 (by decide)) rfl 7 (by decide) (Or.inl (hts _ q879)) rfl rfl rfl (gi_mk (ir_w (lo' := 0) (hi' := 24) rv28_5_32 (by decide) (by decide))) dX11_wanted_58 (fun H locs hW hS oq o2 np => ?_)
          have nh0_7 : wt_pin N.1 vwCl h0 11 7 (.int v28_5) H := np
          have hV := hV.put (by decide) o2
          obtain ⟨iL, iP, iR, iB, iM⟩ := hI
          have iP := QP.fr.put iP k0 oq o2 (by decide) (by decide)
          have iR := QR.fr.put iR k0 oq o2 (by decide) (by decide)
          have iB := QB.fr.put iB k0 oq o2 (by decide) (by decide)
          have iM := QM.fr.put iM k0 oq o2 (by decide) (by decide)
          have hGL : gP N 43 44 25 (fun j => (j : Int) < 0) H := gP_none
          refine lv_iconst (v := 0) hx hb dX11_wanted_61 (by decide) ?_
          refine lv_istore (lv' := [(6, .int (0 : Int32)), (0, .ref h0), (1, .int p1), (2, .int p2), (3, .int p3), (4, .int p4), (5, .int v28_5)]) hx hb dX11_wanted_62 hl (by decide) rfl (fun ls hl => ?_)
          exact w2 _ _ _ (L64 4 _ _ _ v28_5 (0 : Int32) v28_5 hW iP iR iB iM hV (hGL.sub (fun j hj h => by have h : (j : Int) < (0 : Int32).toInt := h; show (j : Int) < 0; have l30 : (0 : Int32).toInt = 0 := (by decide); omega)) hS (lv_sub hl [1, 6, 0] rfl) rv28_5_32 (ir_w (lo' := 0) (hi' := 3) (ir_c (0) (by decide) : ir (0 : Int32) (0) (0)) (by decide) (by decide)) rv28_5_32 nh0_7 (by have h20 := rv28_5_32; have h21 := rv28_5_32; omega) (by have h9 := (ir_c (0) (by decide) : ir (0 : Int32) (0) (0)); omega))
        · have rx41_44 : ir x41 0 0 := rf_eq c44 (ir_c (0) (by decide) : ir (0 : Int32) (0) (0))
          refine lv_goto (tgt := 113) hx hb dX11_wanted_47 (by decide) ?_
          obtain ⟨x113, e113⟩ : ∃ y : Int32, y = v28_5 + 1 := ⟨_, rfl⟩
          have r113 : ir x113 2 4 := ir_w (ir_add e113 rv28_5_32 (ir_c (1) (by decide) : ir (1 : Int32) (1) (1)) (by decide) (by decide)) (by decide) (by decide)
          have t113 : x113.toInt = v28_5.toInt + (1) := it_add e113 rv28_5_32 (ir_c (1) (by decide) : ir (1 : Int32) (1) (1)) (by decide) (by decide)
          refine lv_iinc (v := x113) (lv' := [(5, .int x113), (0, .ref h0), (1, .int p1), (2, .int p2), (3, .int p3), (4, .int p4)]) hx hb dX11_wanted_113 hl (k := 5) rfl (by rw [e113]; rfl) (by decide) rfl (fun ls hl => ?_)
          refine lv_goto (tgt := 28) hx hb dX11_wanted_116 (by decide) ?_
          exact w2 _ _ _ (ih28 _ _ _ x113 hW hI hV hS (lv_sub hl [1, 2, 3, 4, 5, 0] rfl) rv28_4 (ir_w (lo' := 1) (hi' := 4) r113 (by decide) (by decide)) (by have h9 := r113; omega))
  refine lv_iload_n hx hb dX11_wanted_0 rfl (lv_at hl 1 rfl) ?_
  refine lv_iload_n hx hb dX11_wanted_1 rfl (lv_at hl 2 rfl) ?_
  refine lv_iload_n hx hb dX11_wanted_2 rfl (lv_at hl 3 rfl) ?_
  refine cp_i (wt_runS (As := [.int p1, .int p2, .int p3]) (rest := []) ⟨hx, hb, hml, hown, hts⟩ (m_X11_areSets l p1 p2 p3) wm_X11_areSets q1330 ⟨rfl, rfl⟩ ⟨Nat.le_of_ble_eq_true rfl, Nat.le_of_ble_eq_true rfl⟩ pS_pre rfl hl.1 rfl (Nat.le_of_ble_eq_true rfl) dX11_wanted_3 ⟨Nat.zero_le _, Nat.zero_le _⟩) hW hS (fun x3 H locs hp hW1 hS oq => ?_)
  have hV := hV.same hW k0 oq
  have hI := mI.fr.same hI hW oq
  have hW := hW1
  have r3 : ir x3 0 1 := hp
  refine lv_if_eq (tgt := 22) hx hb dX11_wanted_6 (by decide) (fun c6 => ?_) (fun c6 => ?_)
  · have rx3_6 : ir x3 0 0 := rf_eq c6 (ir_c (0) (by decide) : ir (0 : Int32) (0) (0))
    refine lv_bipush (v := -2) hx hb dX11_wanted_22 (by decide) ?_
    exact W.iret (v := (-2 : Int32)) hx hb hr (fun t ht _ => ⟨⟨(-2 : Int32), (-2 : Int32), rfl, ⟨rfl, trivial⟩, cW_at ht hW, ⟨mI_at ht hI, kp_at ht hV⟩⟩, hS.F ht⟩) hS.2.2 dX11_wanted_24
  · have rx3_6 : ir x3 1 1 := rf_ne0 c6 r3
    refine lv_iload hx hb dX11_wanted_9 (lv_at hl 4 rfl) ?_
    refine lv_i2l hx hb dX11_wanted_11 rfl ?_
    refine lv_topl (fun x11 e11 => ?_)
    have r11 : lr x11 (-2147483648) 2147483647 := by rw [e11]; exact i2l_r (ir_any p4)
    have t11 : x11.toInt = p4.toInt := by rw [e11]; exact Int32.toInt_toInt64 p4
    refine lv_lconst (v := 1) hx hb dX11_wanted_12 (by decide) ?_
    refine lv_ldc2 hx hb hown (hts _ q1209) dX11_wanted_13 ?_
    refine cp_i (wt_runS (As := [.long x11, .long (1 : Int64), .long (3 : Int64)]) (rest := []) ⟨hx, hb, hml, hown, hts⟩ (m_X11_isIn l x11 (1 : Int64) (3 : Int64)) wm_X11_isIn q1050 ⟨rfl, rfl⟩ ⟨Nat.le_of_ble_eq_true rfl, Nat.le_of_ble_eq_true rfl⟩ pS_pre rfl hl.1 rfl (Nat.le_of_ble_eq_true rfl) dX11_wanted_16 ⟨Nat.zero_le _, Nat.zero_le _⟩) hW hS (fun x16 H locs hp hW1 hS oq => ?_)
    have hV := hV.same hW k0 oq
    have hI := mI.fr.same hI hW oq
    have hW := hW1
    obtain ⟨r16, b16⟩ := hp
    refine lv_if_ne (tgt := 25) hx hb dX11_wanted_19 (by decide) (fun c19 => ?_) (fun c19 => ?_)
    · have rx16_19 : ir x16 1 1 := rf_ne0 c19 r16
      have bx16_19 := b16 c19
      have rbx11_19 : lr x11 1 3 := by have h5 := bx16_19; have h6 := r11; have h7 := (lr_c (1) (by decide) : lr (1 : Int64) (1) (1)); have h8 := (lr_c (3) (by decide) : lr (3 : Int64) (3) (3)); constructor <;> omega
      have rp4_19 : ir p4 1 3 := i2l_b e11 rbx11_19
      refine lv_iconst (v := 1) hx hb dX11_wanted_25 (by decide) ?_
      refine lv_istore (lv' := [(5, .int (1 : Int32)), (0, .ref h0), (1, .int p1), (2, .int p2), (3, .int p3), (4, .int p4)]) hx hb dX11_wanted_26 hl (by decide) rfl (fun ls hl => ?_)
      exact w2 _ _ _ (L28 4 _ _ _ (1 : Int32) hW hI hV hS (lv_sub hl [1, 2, 3, 4, 5, 0] rfl) rp4_19 (ir_w (lo' := 1) (hi' := 4) (ir_c (1) (by decide) : ir (1 : Int32) (1) (1)) (by decide) (by decide)) (by have h9 := (ir_c (1) (by decide) : ir (1 : Int32) (1) (1)); omega))
    · have rx16_19 : ir x16 0 0 := rf_eq c19 (ir_c (0) (by decide) : ir (0 : Int32) (0) (0))
      refine lv_bipush (v := -2) hx hb dX11_wanted_22 (by decide) ?_
      exact W.iret (v := (-2 : Int32)) hx hb hr (fun t ht _ => ⟨⟨(-2 : Int32), (-2 : Int32), rfl, ⟨rfl, trivial⟩, cW_at ht hW, ⟨mI_at ht hI, kp_at ht hV⟩⟩, hS.F ht⟩) hS.2.2 dX11_wanted_24
set_option maxHeartbeats 4000000 in
set_option maxRecDepth 100000 in
theorem m_X11_tune (l : Launch) (N : c_N) (h0 : Nat) (k0 : N.2.2.1 h0 = some 11) (hO : mOK N) (V : Nat → Value) (p1 : Int32) (p2 : Int32) : cMi2 l yX11_tune cX11_tune 11 .int { frames := 5, cells := 0, slots := 0, locals := 148 } [.ref h0, .int p1, .int p2] N [11, 43, 44, 45, 46, 47, 48, 49] (fun H => mI N h0 H ∧ kp N h0 [13, 32, 33, 34, 35, 36, 37, 38, 39, 40, 41, 42] V H) (fun _ => True) (fun _ H => mI N h0 H ∧ kp N h0 [13, 32, 33, 34, 35, 36, 37, 38, 39, 40, 41, 42] V H) := by
  refine Met.ofW (cc := cX11_tune) (maxL := 11) (ret := some .int) (by decide) rfl ?_
  intro p e s m args below meth c s₁ B hml hv
  obtain ⟨rfl, ⟨hK, hW, hT, hnn⟩, hB⟩ := hv
  obtain ⟨hI, hV⟩ := hB
  have hx := B.exec
  have hb := B.bytes
  have hr := B.returns
  have hts : ∀ w ∈ lw_g, w.before _ s = true := fun w h => atoms_spec (ws := wc_ws yX11_tune cX11_tune 11 (some .int)) B.pre w (List.mem_cons_of_mem _ h)
  have hown : s.vm.findClass RX11 = some m.cls := findClass_of_methodNamed B.named
  have hlocks := B.notSynchronized
  have hS : va_S (cE N [11, 43, 44, 45, 46, 47, 48, 49]) s.heap s.heap [] := va_S.rf
  have hl := lv_entry ([.ref h0, .int p1, .int p2]) (n := 11) (Nat.le_of_ble_eq_true rfl)
  rw [lg_entry_eq]
  generalize (lg_sl ([.ref h0, .int p1, .int p2]) ++ List.replicate (11 - (lg_sl ([.ref h0, .int p1, .int p2])).length) Slot.unset).toArray = ls at hl ⊢
  have hl : lv_has ls 11 [(0, .ref h0), (1, .int p1), (2, .int p2)] := hl
  refine wq_all ?_
  intro WW w1 w2
  have L54 : ∀ (n : Nat) (H : Heap) (locs : List Loc) (ls : Array Slot) (v54_3 : Int32) (v54_4 : Int32) (v54_5 : Int32) (v54_6 : Int64) (v54_8 : Int64) (v54_10 : Int32) (u54_0 : Int32), cW N H → mI N h0 H → kp N h0 [13, 32, 33, 34, 35, 36, 37, 38, 39, 40, 41, 42] V H → va_S (cE N [11, 43, 44, 45, 46, 47, 48, 49]) s.heap H locs → lv_has ls 11 [(0, .ref h0), (1, .int p1), (2, .int p2), (3, .int v54_3), (4, .int v54_4), (5, .int v54_5), (6, .long v54_6), (8, .long v54_8), (10, .int v54_10)] → ir p1 0 23 → ir p2 1 4 → ir v54_3 0 6 → ir v54_4 0 6 → ir v54_5 (-1) 6 → lr v54_6 0 9223372036854775807 → lr v54_8 1 9223372036854775807 → ir v54_10 0 7 → ir u54_0 0 24 → wt_pin N.1 vwCl h0 11 7 (.int u54_0) H → (v54_3.toInt ≠ 0 ∨ v54_4.toInt ≠ 0) → 7 - v54_10.toInt < (n : Int) → WW H locs (F0 m 54 ls []) := by
    intro n
    induction n with
    | zero =>
      intro H locs ls v54_3 v54_4 v54_5 v54_6 v54_8 v54_10 u54_0 hW hI hV hS hl rv54_1 rv54_2 rv54_3 rv54_4 rv54_5 rv54_6 rv54_8 rv54_10 ru54_0 nh0_7 rw54_0 mu54
      exfalso
      omega
    | succ n ih54 =>
      intro H locs ls v54_3 v54_4 v54_5 v54_6 v54_8 v54_10 u54_0 hW hI hV hS hl rv54_1 rv54_2 rv54_3 rv54_4 rv54_5 rv54_6 rv54_8 rv54_10 ru54_0 nh0_7 rw54_0 mu54
      have J138 : ∀ (H : Heap) (locs : List Loc) (ls : Array Slot) (v138_5 : Int32) (v138_6 : Int64) (v138_8 : Int64), cW N H → mI N h0 H → kp N h0 [13, 32, 33, 34, 35, 36, 37, 38, 39, 40, 41, 42] V H → va_S (cE N [11, 43, 44, 45, 46, 47, 48, 49]) s.heap H locs → lv_has ls 11 [(0, .ref h0), (1, .int p1), (2, .int p2), (3, .int v54_3), (4, .int v54_4), (5, .int v138_5), (6, .long v138_6), (8, .long v138_8), (10, .int v54_10)] → ir p1 0 23 → ir p2 1 4 → ir v54_3 0 6 → ir v54_4 0 6 → ir v138_5 (-1) 6 → lr v138_6 0 9223372036854775807 → lr v138_8 1 9223372036854775807 → ir v54_10 0 6 → ir u54_0 0 24 → wt_pin N.1 vwCl h0 11 7 (.int u54_0) H → WW H locs (F0 m 138 ls []) := by
        intro H locs ls v138_5 v138_6 v138_8 hW hI hV hS hl rv138_1 rv138_2 rv138_3 rv138_4 rv138_5 rv138_6 rv138_8 rv138_10 ru138_0 nh0_7
        refine w1 _ _ _ ?_
        obtain ⟨x138, e138⟩ : ∃ y : Int32, y = v54_10 + 1 := ⟨_, rfl⟩
        have r138 : ir x138 1 7 := ir_w (ir_add e138 rv138_10 (ir_c (1) (by decide) : ir (1 : Int32) (1) (1)) (by decide) (by decide)) (by decide) (by decide)
        have t138 : x138.toInt = v54_10.toInt + (1) := it_add e138 rv138_10 (ir_c (1) (by decide) : ir (1 : Int32) (1) (1)) (by decide) (by decide)
        refine lv_iinc (v := x138) (lv' := [(10, .int x138), (0, .ref h0), (1, .int p1), (2, .int p2), (3, .int v54_3), (4, .int v54_4), (5, .int v138_5), (6, .long v138_6), (8, .long v138_8)]) hx hb dX11_tune_138 hl (k := 8) rfl (by rw [e138]; rfl) (by decide) rfl (fun ls hl => ?_)
        refine lv_goto (tgt := 54) hx hb dX11_tune_141 (by decide) ?_
        exact w2 _ _ _ (ih54 _ _ _ v54_3 v54_4 v138_5 v138_6 v138_8 x138 u54_0 hW hI hV hS (lv_sub hl [1, 2, 3, 4, 5, 6, 7, 8, 0] rfl) rv138_1 rv138_2 rv138_3 rv138_4 rv138_5 rv138_6 rv138_8 (ir_w (lo' := 0) (hi' := 7) r138 (by decide) (by decide)) ru138_0 nh0_7 rw54_0 (by have h9 := r138; omega))
      have J122 : ∀ (H : Heap) (locs : List Loc) (ls : Array Slot) (u122_1 : Int64) (u122_2 : Int64), cW N H → mI N h0 H → kp N h0 [13, 32, 33, 34, 35, 36, 37, 38, 39, 40, 41, 42] V H → va_S (cE N [11, 43, 44, 45, 46, 47, 48, 49]) s.heap H locs → lv_has ls 11 [(0, .ref h0), (1, .int p1), (2, .int p2), (3, .int v54_3), (4, .int v54_4), (10, .int v54_10)] → ir p1 0 23 → ir p2 1 4 → ir v54_3 0 6 → ir v54_4 0 6 → ir v54_10 0 6 → ir u54_0 0 24 → wt_pin N.1 vwCl h0 11 7 (.int u54_0) H → lr u122_1 0 9223372036854775807 → wt_pin N.1 vwCl h0 11 39 (.long u122_1) H → lr u122_2 1 9223372036854775807 → wt_pin N.1 vwCl h0 11 40 (.long u122_2) H → WW H locs (F0 m 122 ls []) := by
        intro H locs ls u122_1 u122_2 hW hI hV hS hl rv122_1 rv122_2 rv122_3 rv122_4 rv122_10 ru122_0 nh0_7 ru122_1 nh0_39 ru122_2 nh0_40
        refine w1 _ _ _ ?_
        refine lv_iload hx hb dX11_tune_122 (lv_at hl 5 rfl) ?_
        refine lv_istore (lv' := [(5, .int v54_10), (0, .ref h0), (1, .int p1), (2, .int p2), (3, .int v54_3), (4, .int v54_4), (10, .int v54_10)]) hx hb dX11_tune_124 hl (by decide) rfl (fun ls hl => ?_)
        refine lv_aload_n hx hb dX11_tune_126 rfl (lv_at hl 1 rfl) ?_
        refine wt_rel hx hb hts cfX11 hown hK nh0_39 rfl (by decide) (Or.inl (hts _ q911)) dX11_tune_127 ?_
        refine lv_lstore (lv' := [(6, .long u122_1), (5, .int v54_10), (0, .ref h0), (1, .int p1), (2, .int p2), (3, .int v54_3), (4, .int v54_4), (10, .int v54_10)]) hx hb dX11_tune_130 hl (by decide) rfl (fun ls hl => ?_)
        refine lv_aload_n hx hb dX11_tune_132 rfl (lv_at hl 2 rfl) ?_
        refine wt_rel hx hb hts cfX11 hown hK nh0_40 rfl (by decide) (Or.inl (hts _ q912)) dX11_tune_133 ?_
        refine lv_lstore (lv' := [(8, .long u122_2), (6, .long u122_1), (5, .int v54_10), (0, .ref h0), (1, .int p1), (2, .int p2), (3, .int v54_3), (4, .int v54_4), (10, .int v54_10)]) hx hb dX11_tune_136 hl (by decide) rfl (fun ls hl => ?_)
        exact w2 _ _ _ (J138 _ _ _ v54_10 u122_1 u122_2 hW hI hV hS (lv_sub hl [3, 4, 5, 6, 7, 2, 1, 0, 8] rfl) rv122_1 rv122_2 rv122_3 rv122_4 (ir_w (lo' := -1) (hi' := 6) rv122_10 (by decide) (by decide)) ru122_1 ru122_2 rv122_10 ru122_0 nh0_7)
      refine w1 _ _ _ ?_
      refine lv_iload hx hb dX11_tune_54 (lv_at hl 8 rfl) ?_
      refine lv_bipush (v := 7) hx hb dX11_tune_56 (by decide) ?_
      refine lv_icmp_ge (tgt := 144) hx hb dX11_tune_58 (by decide) (fun c58 => ?_) (fun c58 => ?_)
      · have rv54_10_58 : ir v54_10 7 7 := ⟨Int.le_trans (by decide) (rf_le c58 (ir_c (7) (by decide) : ir (7 : Int32) (7) (7)) rv54_10).2, (rv54_10).2⟩
        have d58 := Int32.le_iff_toInt_le.mp c58
        refine lv_aload_n hx hb dX11_tune_144 rfl (lv_at hl 0 rfl) ?_
        refine wt_get hx hb hts cfX11 hown hK hW (cg11 k0) rfl 5 (by decide) q877 dX11_tune_145 (fun v hv => ?_)
        obtain ⟨x145, rfl, k145⟩ : gr N 43 v := hv
        refine lv_iload_n hx hb dX11_tune_148 rfl (lv_at hl 1 rfl) ?_
        refine lv_iload_n hx hb dX11_tune_149 rfl (lv_at hl 3 rfl) ?_
        have hGL := QL_gp hI.1 nh0_7
        obtain ⟨fr150, hfr150⟩ := row_exi hW (cg43 k145)
        refine wt_iastx hx hb hK hW hS 0 (cg43 k145) (ce k145 (by decide)) rfl (ir_in (ir_w (lo' := 0) (hi' := 24) rv54_1 (by decide) (by decide)) (by decide) (by decide)) (gi_mk rv54_3) dX11_tune_150 (fun H locs hW hS oq hat => ?_)
        have nh0_7 := nh0_7.kept (oq _ (ne_kind k0 k145 (by decide)))
        have aps150 := ap_of (hat _ hfr150)
        have hV := hV.keep (oq _ (ne_kind k0 k145 (by decide)))
        obtain ⟨iL, iP, iR, iB, iM⟩ := hI
        have iP := QP.fr.arr iP k0 k145 oq (by decide) (by decide)
        have iR := QR.fr.arr iR k0 k145 oq (by decide) (by decide)
        have iB := QB.fr.arr iB k0 k145 oq (by decide) (by decide)
        have iM := QM.fr.arr iM k0 k145 oq (by decide) (by decide)
        have hGL := hGL.stA hO (by decide) (by decide) k145 hfr150 (hat _ hfr150) oq
        refine lv_aload_n hx hb dX11_tune_151 rfl (lv_at hl 0 rfl) ?_
        refine wt_get hx hb hts cfX11 hown hK hW (cg11 k0) rfl 6 (by decide) q878 dX11_tune_152 (fun v hv => ?_)
        obtain ⟨x152, rfl, k152⟩ : gr N 44 v := hv
        refine lv_iload_n hx hb dX11_tune_155 rfl (lv_at hl 1 rfl) ?_
        refine lv_iload hx hb dX11_tune_156 (lv_at hl 4 rfl) ?_
        obtain ⟨fr158, hfr158⟩ := row_exi hW (cg44 k152)
        refine wt_iastx hx hb hK hW hS 0 (cg44 k152) (ce k152 (by decide)) rfl (ir_in (ir_w (lo' := 0) (hi' := 24) rv54_1 (by decide) (by decide)) (by decide) (by decide)) (gi_mk rv54_4) dX11_tune_158 (fun H locs hW hS oq hat => ?_)
        have nh0_7 := nh0_7.kept (oq _ (ne_kind k0 k152 (by decide)))
        have aps150 := aps150.kept (oq _ (ne_kind k145 k152 (by decide)))
        have aps158 := ap_of (hat _ hfr158)
        have hV := hV.keep (oq _ (ne_kind k0 k152 (by decide)))
        have iP := QP.fr.arr iP k0 k152 oq (by decide) (by decide)
        have iR := QR.fr.arr iR k0 k152 oq (by decide) (by decide)
        have iB := QB.fr.arr iB k0 k152 oq (by decide) (by decide)
        have iM := QM.fr.arr iM k0 k152 oq (by decide) (by decide)
        have hGL := hGL.stU hO (by decide) (by decide) k152 hfr158 (hat _ hfr158) oq
        have hGL : gP N 43 44 25 (fun j => (j : Int) < u54_0.toInt) H := (hGL.ins hO (by decide) (by decide) k145 k152 aps150 aps158 rfl rw54_0).sub (fun j hj h => by have h : (j : Int) < u54_0.toInt := h; show ((((j : Int) < u54_0.toInt) ∧ j ≠ p1.toNatClampNeg) ∧ j ≠ p1.toNatClampNeg) ∨ j = p1.toNatClampNeg; have h30 := rv54_1; have h31 := ru54_0; have k40 := (ir_clamp rv54_1 (by decide)).1; omega)
        have iL : QL N h0 H := ⟨_, nh0_7, hGL⟩
        have hI : mI N h0 H := ⟨iL, iP, iR, iB, iM⟩
        refine lv_iload hx hb dX11_tune_159 (lv_at hl 5 rfl) ?_
        refine lv_iconst (v := -1) hx hb dX11_tune_161 (by decide) ?_
        refine lv_icmp_ne (tgt := 167) hx hb dX11_tune_162 (by decide) (fun c162 => ?_) (fun c162 => ?_)
        · have rv54_5_162 : ir v54_5 0 6 := rf_nel c162 rv54_5 (by decide) (by decide)
          refine lv_aload_n hx hb dX11_tune_167 rfl (lv_at hl 0 rfl) ?_
          refine lv_iconst (v := 0) hx hb dX11_tune_168 (by decide) ?_
          obtain ⟨V1, hV1⟩ := kp_all hW k0
          refine cc_v (B2 := fun H => mI N h0 H ∧ kp N h0 [13] V1 H) (wt_runV (As := [.int (0 : Int32)]) (rest := []) ⟨hx, hb, hml, hown, hts⟩ (m_X11_keeps l N h0 k0 hO V1 (0 : Int32) (ir_w (lo' := 0) (hi' := 1) (ir_c (0) (by decide) : ir (0 : Int32) (0) (0)) (by decide) (by decide))) wm_X11_keeps q1084 ⟨rfl, rfl⟩ ⟨Nat.le_of_ble_eq_true rfl, Nat.le_of_ble_eq_true rfl⟩ (cS_preV (B := fun H => mI N h0 H ∧ kp N h0 [13] V1 H) hK hW hT hnn hS (cg11 k0) rfl rfl (And.intro hI (kp_of (F := [13]) hV1))) rfl hl.1 rfl (Nat.le_of_ble_eq_true rfl) dX11_tune_169 ⟨Nat.zero_le _, Nat.zero_le _⟩) hS (by decide) (fun H locs hW hS oq hB2 => ?_)
          obtain ⟨hI, hV2⟩ := hB2
          have hV := kp_call hV hV1 hV2 (by decide)
          have nh0_7 := kp_use hV1 hV2 (by decide) (by decide) nh0_7
          refine lv_aload_n hx hb dX11_tune_172 rfl (lv_at hl 0 rfl) ?_
          refine wt_get hx hb hts cfX11 hown hK hW (cg11 k0) rfl 5 (by decide) q877 dX11_tune_173 (fun v hv => ?_)
          obtain ⟨x173, rfl, k173⟩ : gr N 43 v := hv
          refine lv_iload_n hx hb dX11_tune_176 rfl (lv_at hl 1 rfl) ?_
          refine lv_iload hx hb dX11_tune_177 (lv_at hl 5 rfl) ?_
          refine cp_i (wt_runS (As := [.int v54_5]) (rest := [.int p1, .ref x173]) ⟨hx, hb, hml, hown, hts⟩ (m_X11_thickUp l v54_5) wm_X11_thickUp q1356 ⟨rfl, rfl⟩ ⟨Nat.le_of_ble_eq_true rfl, Nat.le_of_ble_eq_true rfl⟩ pS_pre rfl hl.1 rfl (Nat.le_of_ble_eq_true rfl) dX11_tune_179 ⟨Nat.zero_le _, Nat.zero_le _⟩) hW hS (fun x179 H locs hp hW1 hS oq => ?_)
          have hV := hV.same hW k0 oq
          have hI := mI.fr.same hI hW oq
          have hW := hW1
          have nh0_7 := nh0_7.kept (oq _ nh0_7.lt (cE_not k0 (by decide)))
          have r179 : ir x179 1 3 := hp
          have hGL := QL_gp hI.1 nh0_7
          obtain ⟨fr182, hfr182⟩ := row_exi hW (cg43 k173)
          refine wt_iastx hx hb hK hW hS 0 (cg43 k173) (ce k173 (by decide)) rfl (ir_in (ir_w (lo' := 0) (hi' := 24) rv54_1 (by decide) (by decide)) (by decide) (by decide)) (gi_mk (ir_w (lo' := 0) (hi' := 6) r179 (by decide) (by decide))) dX11_tune_182 (fun H locs hW hS oq hat => ?_)
          have nh0_7 := nh0_7.kept (oq _ (ne_kind k0 k173 (by decide)))
          have aps182 := ap_of (hat _ hfr182)
          have hV := hV.keep (oq _ (ne_kind k0 k173 (by decide)))
          obtain ⟨iL, iP, iR, iB, iM⟩ := hI
          have iP := QP.fr.arr iP k0 k173 oq (by decide) (by decide)
          have iR := QR.fr.arr iR k0 k173 oq (by decide) (by decide)
          have iB := QB.fr.arr iB k0 k173 oq (by decide) (by decide)
          have iM := QM.fr.arr iM k0 k173 oq (by decide) (by decide)
          have hGL := hGL.stA hO (by decide) (by decide) k173 hfr182 (hat _ hfr182) oq
          refine lv_aload_n hx hb dX11_tune_183 rfl (lv_at hl 0 rfl) ?_
          refine wt_get hx hb hts cfX11 hown hK hW (cg11 k0) rfl 6 (by decide) q878 dX11_tune_184 (fun v hv => ?_)
          obtain ⟨x184, rfl, k184⟩ : gr N 44 v := hv
          refine lv_iload_n hx hb dX11_tune_187 rfl (lv_at hl 1 rfl) ?_
          refine lv_iload hx hb dX11_tune_188 (lv_at hl 5 rfl) ?_
          refine cp_i (wt_runS (As := [.int v54_5]) (rest := [.int p1, .ref x184]) ⟨hx, hb, hml, hown, hts⟩ (m_X11_thickBy l v54_5) wm_X11_thickBy q1359 ⟨rfl, rfl⟩ ⟨Nat.le_of_ble_eq_true rfl, Nat.le_of_ble_eq_true rfl⟩ pS_pre rfl hl.1 rfl (Nat.le_of_ble_eq_true rfl) dX11_tune_190 ⟨Nat.zero_le _, Nat.zero_le _⟩) hW hS (fun x190 H locs hp hW1 hS oq => ?_)
          have hV := hV.same hW k0 oq
          have hGL := hGL.same hW oq (by decide) (by decide)
          have iP := QP.fr.same iP hW oq
          have iR := QR.fr.same iR hW oq
          have iB := QB.fr.same iB hW oq
          have iM := QM.fr.same iM hW oq
          have hWo := hW
          have hW := hW1
          have aps182 := aps182.kept (oq _ (hW_lt hWo k173) (cE_nil _))
          have nh0_7 := nh0_7.kept (oq _ nh0_7.lt (cE_not k0 (by decide)))
          have r190 : ir x190 1 3 := hp
          obtain ⟨fr193, hfr193⟩ := row_exi hW (cg44 k184)
          refine wt_iastx hx hb hK hW hS 0 (cg44 k184) (ce k184 (by decide)) rfl (ir_in (ir_w (lo' := 0) (hi' := 24) rv54_1 (by decide) (by decide)) (by decide) (by decide)) (gi_mk (ir_w (lo' := 0) (hi' := 6) r190 (by decide) (by decide))) dX11_tune_193 (fun H locs hW hS oq hat => ?_)
          have nh0_7 := nh0_7.kept (oq _ (ne_kind k0 k184 (by decide)))
          have aps182 := aps182.kept (oq _ (ne_kind k173 k184 (by decide)))
          have aps193 := ap_of (hat _ hfr193)
          have hV := hV.keep (oq _ (ne_kind k0 k184 (by decide)))
          have iP := QP.fr.arr iP k0 k184 oq (by decide) (by decide)
          have iR := QR.fr.arr iR k0 k184 oq (by decide) (by decide)
          have iB := QB.fr.arr iB k0 k184 oq (by decide) (by decide)
          have iM := QM.fr.arr iM k0 k184 oq (by decide) (by decide)
          have hGL := hGL.stU hO (by decide) (by decide) k184 hfr193 (hat _ hfr193) oq
          have hGL : gP N 43 44 25 (fun j => (j : Int) < u54_0.toInt) H := (hGL.ins hO (by decide) (by decide) k173 k184 aps182 aps193 rfl (Or.inl (by have h9 := r179; omega))).sub (fun j hj h => by have h : (j : Int) < u54_0.toInt := h; show ((((j : Int) < u54_0.toInt) ∧ j ≠ p1.toNatClampNeg) ∧ j ≠ p1.toNatClampNeg) ∨ j = p1.toNatClampNeg; have h30 := rv54_1; have h31 := ru54_0; have k40 := (ir_clamp rv54_1 (by decide)).1; omega)
          have iL : QL N h0 H := ⟨_, nh0_7, hGL⟩
          have hI : mI N h0 H := ⟨iL, iP, iR, iB, iM⟩
          refine lv_iload hx hb dX11_tune_194 (lv_at hl 5 rfl) ?_
          exact W.iret (v := v54_5) hx hb hr (fun t ht _ => ⟨⟨v54_5, v54_5, rfl, ⟨rfl, trivial⟩, cW_at ht hW, ⟨mI_at ht hI, kp_at ht hV⟩⟩, hS.F ht⟩) hS.2.2 dX11_tune_196
        · have rv54_5_162 : ir v54_5 (-1) (-1) := rf_eq c162 (ir_c (-1) (by decide) : ir (-1 : Int32) (-1) (-1))
          refine lv_iconst (v := -1) hx hb dX11_tune_165 (by decide) ?_
          exact W.iret (v := (-1 : Int32)) hx hb hr (fun t ht _ => ⟨⟨(-1 : Int32), (-1 : Int32), rfl, ⟨rfl, trivial⟩, cW_at ht hW, ⟨mI_at ht hI, kp_at ht hV⟩⟩, hS.F ht⟩) hS.2.2 dX11_tune_166
      · have rv54_10_58 : ir v54_10 0 6 := ⟨(rv54_10).1, Int.le_trans (rf_lt (rf_nle c58) rv54_10 (ir_c (7) (by decide) : ir (7 : Int32) (7) (7))).1 (by decide)⟩
        have d58 := Int32.lt_iff_toInt_lt.mp (rf_nle c58)
        refine lv_aload_n hx hb dX11_tune_61 rfl (lv_at hl 0 rfl) ?_
        refine wt_get hx hb hts cfX11 hown hK hW (cg11 k0) rfl 5 (by decide) q877 dX11_tune_62 (fun v hv => ?_)
        obtain ⟨x62, rfl, k62⟩ : gr N 43 v := hv
        refine lv_iload_n hx hb dX11_tune_65 rfl (lv_at hl 1 rfl) ?_
        refine lv_iload hx hb dX11_tune_66 (lv_at hl 8 rfl) ?_
        refine cp_i (wt_runS (As := [.int v54_10]) (rest := [.int p1, .ref x62]) ⟨hx, hb, hml, hown, hts⟩ (m_X11_thickUp l v54_10) wm_X11_thickUp q1356 ⟨rfl, rfl⟩ ⟨Nat.le_of_ble_eq_true rfl, Nat.le_of_ble_eq_true rfl⟩ pS_pre rfl hl.1 rfl (Nat.le_of_ble_eq_true rfl) dX11_tune_68 ⟨Nat.zero_le _, Nat.zero_le _⟩) hW hS (fun x68 H locs hp hW1 hS oq => ?_)
        have hV := hV.same hW k0 oq
        have hI := mI.fr.same hI hW oq
        have hW := hW1
        have nh0_7 := nh0_7.kept (oq _ nh0_7.lt (cE_not k0 (by decide)))
        have r68 : ir x68 1 3 := hp
        have hGL := QL_gp hI.1 nh0_7
        obtain ⟨fr71, hfr71⟩ := row_exi hW (cg43 k62)
        refine wt_iastx hx hb hK hW hS 0 (cg43 k62) (ce k62 (by decide)) rfl (ir_in (ir_w (lo' := 0) (hi' := 24) rv54_1 (by decide) (by decide)) (by decide) (by decide)) (gi_mk (ir_w (lo' := 0) (hi' := 6) r68 (by decide) (by decide))) dX11_tune_71 (fun H locs hW hS oq hat => ?_)
        have nh0_7 := nh0_7.kept (oq _ (ne_kind k0 k62 (by decide)))
        have aps71 := ap_of (hat _ hfr71)
        have hV := hV.keep (oq _ (ne_kind k0 k62 (by decide)))
        obtain ⟨iL, iP, iR, iB, iM⟩ := hI
        have iP := QP.fr.arr iP k0 k62 oq (by decide) (by decide)
        have iR := QR.fr.arr iR k0 k62 oq (by decide) (by decide)
        have iB := QB.fr.arr iB k0 k62 oq (by decide) (by decide)
        have iM := QM.fr.arr iM k0 k62 oq (by decide) (by decide)
        have hGL := hGL.stA hO (by decide) (by decide) k62 hfr71 (hat _ hfr71) oq
        refine lv_aload_n hx hb dX11_tune_72 rfl (lv_at hl 0 rfl) ?_
        refine wt_get hx hb hts cfX11 hown hK hW (cg11 k0) rfl 6 (by decide) q878 dX11_tune_73 (fun v hv => ?_)
        obtain ⟨x73, rfl, k73⟩ : gr N 44 v := hv
        refine lv_iload_n hx hb dX11_tune_76 rfl (lv_at hl 1 rfl) ?_
        refine lv_iload hx hb dX11_tune_77 (lv_at hl 8 rfl) ?_
        refine cp_i (wt_runS (As := [.int v54_10]) (rest := [.int p1, .ref x73]) ⟨hx, hb, hml, hown, hts⟩ (m_X11_thickBy l v54_10) wm_X11_thickBy q1359 ⟨rfl, rfl⟩ ⟨Nat.le_of_ble_eq_true rfl, Nat.le_of_ble_eq_true rfl⟩ pS_pre rfl hl.1 rfl (Nat.le_of_ble_eq_true rfl) dX11_tune_79 ⟨Nat.zero_le _, Nat.zero_le _⟩) hW hS (fun x79 H locs hp hW1 hS oq => ?_)
        have hV := hV.same hW k0 oq
        have hGL := hGL.same hW oq (by decide) (by decide)
        have iP := QP.fr.same iP hW oq
        have iR := QR.fr.same iR hW oq
        have iB := QB.fr.same iB hW oq
        have iM := QM.fr.same iM hW oq
        have hWo := hW
        have hW := hW1
        have aps71 := aps71.kept (oq _ (hW_lt hWo k62) (cE_nil _))
        have nh0_7 := nh0_7.kept (oq _ nh0_7.lt (cE_not k0 (by decide)))
        have r79 : ir x79 1 3 := hp
        obtain ⟨fr82, hfr82⟩ := row_exi hW (cg44 k73)
        refine wt_iastx hx hb hK hW hS 0 (cg44 k73) (ce k73 (by decide)) rfl (ir_in (ir_w (lo' := 0) (hi' := 24) rv54_1 (by decide) (by decide)) (by decide) (by decide)) (gi_mk (ir_w (lo' := 0) (hi' := 6) r79 (by decide) (by decide))) dX11_tune_82 (fun H locs hW hS oq hat => ?_)
        have nh0_7 := nh0_7.kept (oq _ (ne_kind k0 k73 (by decide)))
        have aps71 := aps71.kept (oq _ (ne_kind k62 k73 (by decide)))
        have aps82 := ap_of (hat _ hfr82)
        have hV := hV.keep (oq _ (ne_kind k0 k73 (by decide)))
        have iP := QP.fr.arr iP k0 k73 oq (by decide) (by decide)
        have iR := QR.fr.arr iR k0 k73 oq (by decide) (by decide)
        have iB := QB.fr.arr iB k0 k73 oq (by decide) (by decide)
        have iM := QM.fr.arr iM k0 k73 oq (by decide) (by decide)
        have hGL := hGL.stU hO (by decide) (by decide) k73 hfr82 (hat _ hfr82) oq
        have hGL : gP N 43 44 25 (fun j => (j : Int) < u54_0.toInt) H := (hGL.ins hO (by decide) (by decide) k62 k73 aps71 aps82 rfl (Or.inl (by have h9 := r68; omega))).sub (fun j hj h => by have h : (j : Int) < u54_0.toInt := h; show ((((j : Int) < u54_0.toInt) ∧ j ≠ p1.toNatClampNeg) ∧ j ≠ p1.toNatClampNeg) ∨ j = p1.toNatClampNeg; have h30 := rv54_1; have h31 := ru54_0; have k40 := (ir_clamp rv54_1 (by decide)).1; omega)
        have iL : QL N h0 H := ⟨_, nh0_7, hGL⟩
        have hI : mI N h0 H := ⟨iL, iP, iR, iB, iM⟩
        refine lv_aload_n hx hb dX11_tune_83 rfl (lv_at hl 0 rfl) ?_
        refine lv_aload_n hx hb dX11_tune_84 rfl (lv_at hl 0 rfl) ?_
        refine wt_rel hx hb hts cfX11 hown hK nh0_7 rfl (by decide) (Or.inl (hts _ q879)) dX11_tune_85 ?_
        refine lv_iload_n hx hb dX11_tune_88 rfl (lv_at hl 2 rfl) ?_
        obtain ⟨V1, hV1⟩ := kp_all hW k0
        refine cc_i2 (B2 := fun r H => mI N h0 H ∧ kp N h0 [32, 33, 34, 35, 36, 37, 38, 39, 40, 41, 42] V1 H ∧ (¬ r = 0 → ∃ bu bb : Int64, pL N h0 39 bu H ∧ pL N h0 40 bb H ∧ 0 ≤ bu.toInt ∧ 1 ≤ bb.toInt)) (wt_runV (As := [.int u54_0, .int p2]) (rest := []) ⟨hx, hb, hml, hown, hts⟩ (m_X11_shines l N h0 k0 hO V1 u54_0 ru54_0 p2 rv54_2 u54_0 (by have h6 := ru54_0; have h7 := ru54_0; omega)) wm_X11_shines q1238 ⟨rfl, rfl⟩ ⟨Nat.le_of_ble_eq_true rfl, Nat.le_of_ble_eq_true rfl⟩ (cS_preV (B := fun H => mI N h0 H ∧ kp N h0 [32, 33, 34, 35, 36, 37, 38, 39, 40, 41, 42] V1 H ∧ wt_pin N.1 vwCl h0 11 7 (.int u54_0) H) hK hW hT hnn hS (cg11 k0) rfl rfl (And.intro hI (And.intro (kp_of (F := [32, 33, 34, 35, 36, 37, 38, 39, 40, 41, 42]) hV1) nh0_7))) rfl hl.1 rfl (Nat.le_of_ble_eq_true rfl) dX11_tune_89 ⟨Nat.zero_le _, Nat.zero_le _⟩) hS (by decide) (fun x89 H locs hp hW hS oq hB2 => ?_)
        obtain ⟨hI, hV2, hB2⟩ := hB2
        have hV := kp_call hV hV1 hV2 (by decide)
        have hq89 := hB2
        have nh0_7 := kp_use hV1 hV2 (by decide) (by decide) nh0_7
        have r89 : ir x89 0 1 := hp
        refine lv_if_eq (tgt := 138) hx hb dX11_tune_92 (by decide) (fun c92 => ?_) (fun c92 => ?_)
        · have rx89_92 : ir x89 0 0 := rf_eq c92 (ir_c (0) (by decide) : ir (0 : Int32) (0) (0))
          exact w2 _ _ _ (J138 _ _ _ v54_5 v54_6 v54_8 hW hI hV hS (lv_sub hl [0, 1, 2, 3, 4, 5, 6, 7, 8] rfl) rv54_1 rv54_2 rv54_3 rv54_4 rv54_5 rv54_6 rv54_8 rv54_10_58 ru54_0 nh0_7)
        · have rx89_92 : ir x89 1 1 := rf_ne0 c92 r89
          obtain ⟨bu89, bb89, nh0_39, nh0_40, vu89, vb89⟩ := hq89 c92
          refine lv_iload hx hb dX11_tune_95 (lv_at hl 5 rfl) ?_
          refine lv_iconst (v := -1) hx hb dX11_tune_97 (by decide) ?_
          refine lv_icmp_eq (tgt := 122) hx hb dX11_tune_98 (by decide) (fun c98 => ?_) (fun c98 => ?_)
          · have rv54_5_98 : ir v54_5 (-1) (-1) := rf_eq c98 (ir_c (-1) (by decide) : ir (-1 : Int32) (-1) (-1))
            exact w2 _ _ _ (J122 _ _ _ bu89 bb89 hW hI hV hS (lv_sub hl [0, 1, 2, 3, 4, 8] rfl) rv54_1 rv54_2 rv54_3 rv54_4 rv54_10_58 ru54_0 nh0_7 (⟨vu89, (lr_any bu89).2⟩ : lr bu89 0 9223372036854775807) nh0_39 (⟨vb89, (lr_any bb89).2⟩ : lr bb89 1 9223372036854775807) nh0_40)
          · have rv54_5_98 : ir v54_5 0 6 := rf_nel c98 rv54_5 (by decide) (by decide)
            refine lv_aload_n hx hb dX11_tune_101 rfl (lv_at hl 0 rfl) ?_
            refine wt_rel hx hb hts cfX11 hown hK nh0_39 rfl (by decide) (Or.inl (hts _ q911)) dX11_tune_102 ?_
            refine lv_aload_n hx hb dX11_tune_105 rfl (lv_at hl 0 rfl) ?_
            refine wt_rel hx hb hts cfX11 hown hK nh0_40 rfl (by decide) (Or.inl (hts _ q912)) dX11_tune_106 ?_
            refine lv_lload hx hb dX11_tune_109 (lv_at hl 6 rfl) ?_
            refine lv_lload hx hb dX11_tune_111 (lv_at hl 7 rfl) ?_
            refine cp_i (wt_runS (As := [.long bu89, .long bb89, .long v54_6, .long v54_8]) (rest := []) ⟨hx, hb, hml, hown, hts⟩ (m_X11_isLess l bu89 (⟨vu89, (lr_any bu89).2⟩ : lr bu89 0 9223372036854775807) bb89 (⟨vb89, (lr_any bb89).2⟩ : lr bb89 1 9223372036854775807) v54_6 rv54_6 v54_8 rv54_8) wm_X11_isLess q1291 ⟨rfl, rfl⟩ ⟨Nat.le_of_ble_eq_true rfl, Nat.le_of_ble_eq_true rfl⟩ pS_pre rfl hl.1 rfl (Nat.le_of_ble_eq_true rfl) dX11_tune_113 ⟨Nat.zero_le _, Nat.zero_le _⟩) hW hS (fun x113 H locs hp hW1 hS oq => ?_)
            have hV := hV.same hW k0 oq
            have hI := mI.fr.same hI hW oq
            have hW := hW1
            have nh0_7 := nh0_7.kept (oq _ nh0_7.lt (cE_not k0 (by decide)))
            have nh0_39 := nh0_39.kept (oq _ nh0_39.lt (cE_not k0 (by decide)))
            have nh0_40 := nh0_40.kept (oq _ nh0_40.lt (cE_not k0 (by decide)))
            have r113 : ir x113 0 1 := hp
            refine lv_if_ne (tgt := 122) hx hb dX11_tune_116 (by decide) (fun c116 => ?_) (fun c116 => ?_)
            · have rx113_116 : ir x113 1 1 := rf_ne0 c116 r113
              exact w2 _ _ _ (J122 _ _ _ bu89 bb89 hW hI hV hS (lv_sub hl [0, 1, 2, 3, 4, 8] rfl) rv54_1 rv54_2 rv54_3 rv54_4 rv54_10_58 ru54_0 nh0_7 (⟨vu89, (lr_any bu89).2⟩ : lr bu89 0 9223372036854775807) nh0_39 (⟨vb89, (lr_any bb89).2⟩ : lr bb89 1 9223372036854775807) nh0_40)
            · have rx113_116 : ir x113 0 0 := rf_eq c116 (ir_c (0) (by decide) : ir (0 : Int32) (0) (0))
              refine lv_goto (tgt := 138) hx hb dX11_tune_119 (by decide) ?_
              exact w2 _ _ _ (J138 _ _ _ v54_5 v54_6 v54_8 hW hI hV hS (lv_sub hl [0, 1, 2, 3, 4, 5, 6, 7, 8] rfl) rv54_1 rv54_2 rv54_3 rv54_4 (ir_w (lo' := -1) (hi' := 6) rv54_5_98 (by decide) (by decide)) rv54_6 rv54_8 rv54_10_58 ru54_0 nh0_7)
  refine lv_iload_n hx hb dX11_tune_0 rfl (lv_at hl 1 rfl) ?_
  refine lv_i2l hx hb dX11_tune_1 rfl ?_
  refine lv_topl (fun x1 e1 => ?_)
  have r1 : lr x1 (-2147483648) 2147483647 := by rw [e1]; exact i2l_r (ir_any p1)
  have t1 : x1.toInt = p1.toInt := by rw [e1]; exact Int32.toInt_toInt64 p1
  refine lv_lconst (v := 0) hx hb dX11_tune_2 (by decide) ?_
  refine lv_aload_n hx hb dX11_tune_3 rfl (lv_at hl 0 rfl) ?_
  refine wt_getp hx hb hts cfX11 hown hK hW (cg11 k0) rfl 7 (by decide) (Or.inl (hts _ q879)) dX11_tune_4 (fun v hv nh0_7 => ?_)
  obtain ⟨x4, rfl, r4⟩ : gi 0 24 v := hv
  refine lv_iconst (v := 1) hx hb dX11_tune_7 (by decide) ?_
  refine lv_isub hx hb dX11_tune_8 ?_
  refine lv_topi (fun x8 e8 => ?_)
  have t8 : x8.toInt = x4.toInt - (1) := it_sub e8 r4 (ir_c (1) (by decide) : ir (1 : Int32) (1) (1)) (by decide) (by decide)
  have r8 : ir x8 (-1) 23 := ir_w (ir_sub e8 r4 (ir_c (1) (by decide) : ir (1 : Int32) (1) (1)) (by decide) (by decide)) (by decide) (by decide)
  refine lv_i2l hx hb dX11_tune_9 rfl ?_
  refine lv_topl (fun x9 e9 => ?_)
  have r9 : lr x9 (-1) 23 := by rw [e9]; exact i2l_r r8
  have t9 : x9.toInt = x8.toInt := by rw [e9]; exact Int32.toInt_toInt64 x8
  refine cp_i (wt_runS (As := [.long x1, .long (0 : Int64), .long x9]) (rest := []) ⟨hx, hb, hml, hown, hts⟩ (m_X11_isIn l x1 (0 : Int64) x9) wm_X11_isIn q1050 ⟨rfl, rfl⟩ ⟨Nat.le_of_ble_eq_true rfl, Nat.le_of_ble_eq_true rfl⟩ pS_pre rfl hl.1 rfl (Nat.le_of_ble_eq_true rfl) dX11_tune_10 ⟨Nat.zero_le _, Nat.zero_le _⟩) hW hS (fun x10 H locs hp hW1 hS oq => ?_)
  have hV := hV.same hW k0 oq
  have hI := mI.fr.same hI hW oq
  have hW := hW1
  have nh0_7 := nh0_7.kept (oq _ nh0_7.lt (cE_not k0 (by decide)))
  obtain ⟨r10, b10⟩ := hp
  refine lv_if_eq (tgt := 24) hx hb dX11_tune_13 (by decide) (fun c13 => ?_) (fun c13 => ?_)
  · have rx10_13 : ir x10 0 0 := rf_eq c13 (ir_c (0) (by decide) : ir (0 : Int32) (0) (0))
    refine lv_bipush (v := -2) hx hb dX11_tune_24 (by decide) ?_
    exact W.iret (v := (-2 : Int32)) hx hb hr (fun t ht _ => ⟨⟨(-2 : Int32), (-2 : Int32), rfl, ⟨rfl, trivial⟩, cW_at ht hW, ⟨mI_at ht hI, kp_at ht hV⟩⟩, hS.F ht⟩) hS.2.2 dX11_tune_26
  · have rx10_13 : ir x10 1 1 := rf_ne0 c13 r10
    have bx10_13 := b10 c13
    have rbx1_13 : lr x1 0 23 := by have h5 := bx10_13; have h6 := r1; have h7 := (lr_c (0) (by decide) : lr (0 : Int64) (0) (0)); have h8 := r9; constructor <;> omega
    have rp1_13 : ir p1 0 23 := i2l_b e1 rbx1_13
    refine lv_aload_n hx hb dX11_tune_16 rfl (lv_at hl 0 rfl) ?_
    refine lv_iload_n hx hb dX11_tune_17 rfl (lv_at hl 2 rfl) ?_
    obtain ⟨V1, hV1⟩ := kp_all hW k0
    refine cc_i2 (B2 := fun _ H => mI N h0 H ∧ kp N h0 [] V1 H) (wt_runV (As := [.int p2]) (rest := []) ⟨hx, hb, hml, hown, hts⟩ (m_X11_isMark l N h0 k0 hO V1 p2) wm_X11_isMark q1204 ⟨rfl, rfl⟩ ⟨Nat.le_of_ble_eq_true rfl, Nat.le_of_ble_eq_true rfl⟩ (cS_preV (B := fun H => mI N h0 H ∧ kp N h0 [] V1 H) hK hW hT hnn hS (cg11 k0) rfl rfl (And.intro hI (kp_of (F := []) hV1))) rfl hl.1 rfl (Nat.le_of_ble_eq_true rfl) dX11_tune_18 ⟨Nat.zero_le _, Nat.zero_le _⟩) hS (by decide) (fun x18 H locs hp hW hS oq hB2 => ?_)
    obtain ⟨hI, hV2⟩ := hB2
    have hV := kp_call hV hV1 hV2 (by decide)
    have nh0_7 := kp_use hV1 hV2 (by decide) (by decide) nh0_7
    obtain ⟨r18, b18⟩ := hp
    refine lv_if_ne (tgt := 27) hx hb dX11_tune_21 (by decide) (fun c21 => ?_) (fun c21 => ?_)
    · have rx18_21 : ir x18 1 1 := rf_ne0 c21 r18
      have bx18_21 := b18 c21
      refine lv_aload_n hx hb dX11_tune_27 rfl (lv_at hl 0 rfl) ?_
      refine wt_get hx hb hts cfX11 hown hK hW (cg11 k0) rfl 5 (by decide) q877 dX11_tune_28 (fun v hv => ?_)
      obtain ⟨x28, rfl, k28⟩ : gr N 43 v := hv
      refine lv_iload_n hx hb dX11_tune_31 rfl (lv_at hl 1 rfl) ?_
      refine wt_ialdx hx hb hK hW 0 (cg43 k28) rfl (ir_in (ir_w (lo' := 0) (hi' := 24) rp1_13 (by decide) (by decide)) (by decide) (by decide)) dX11_tune_32 (fun v hv ap32 => ?_)
      obtain ⟨x32, rfl, r32⟩ : gi 0 6 v := hv
      refine lv_istore_n (lv' := [(3, .int x32), (0, .ref h0), (1, .int p1), (2, .int p2)]) hx hb dX11_tune_33 rfl hl (by decide) rfl (fun ls hl => ?_)
      refine lv_aload_n hx hb dX11_tune_34 rfl (lv_at hl 1 rfl) ?_
      refine wt_get hx hb hts cfX11 hown hK hW (cg11 k0) rfl 6 (by decide) q878 dX11_tune_35 (fun v hv => ?_)
      obtain ⟨x35, rfl, k35⟩ : gr N 44 v := hv
      refine lv_iload_n hx hb dX11_tune_38 rfl (lv_at hl 2 rfl) ?_
      refine wt_ialdx hx hb hK hW 0 (cg44 k35) rfl (ir_in (ir_w (lo' := 0) (hi' := 24) rp1_13 (by decide) (by decide)) (by decide) (by decide)) dX11_tune_39 (fun v hv ap39 => ?_)
      obtain ⟨x39, rfl, r39⟩ : gi 0 6 v := hv
      refine lv_istore (lv' := [(4, .int x39), (3, .int x32), (0, .ref h0), (1, .int p1), (2, .int p2)]) hx hb dX11_tune_40 hl (by decide) rfl (fun ls hl => ?_)
      have hz40 := QL_use hI.1 nh0_7 k28 k35 ap32 ap39 rp1_13 (by decide) (by decide) (by have h9 := rp1_13; omega)
      refine lv_iconst (v := -1) hx hb dX11_tune_42 (by decide) ?_
      refine lv_istore (lv' := [(5, .int (-1 : Int32)), (4, .int x39), (3, .int x32), (0, .ref h0), (1, .int p1), (2, .int p2)]) hx hb dX11_tune_43 hl (by decide) rfl (fun ls hl => ?_)
      refine lv_lconst (v := 0) hx hb dX11_tune_45 (by decide) ?_
      refine lv_lstore (lv' := [(6, .long (0 : Int64)), (5, .int (-1 : Int32)), (4, .int x39), (3, .int x32), (0, .ref h0), (1, .int p1), (2, .int p2)]) hx hb dX11_tune_46 hl (by decide) rfl (fun ls hl => ?_)
      refine lv_lconst (v := 1) hx hb dX11_tune_48 (by decide) ?_
      refine lv_lstore (lv' := [(8, .long (1 : Int64)), (6, .long (0 : Int64)), (5, .int (-1 : Int32)), (4, .int x39), (3, .int x32), (0, .ref h0), (1, .int p1), (2, .int p2)]) hx hb dX11_tune_49 hl (by decide) rfl (fun ls hl => ?_)
      refine lv_iconst (v := 0) hx hb dX11_tune_51 (by decide) ?_
      refine lv_istore (lv' := [(10, .int (0 : Int32)), (8, .long (1 : Int64)), (6, .long (0 : Int64)), (5, .int (-1 : Int32)), (4, .int x39), (3, .int x32), (0, .ref h0), (1, .int p1), (2, .int p2)]) hx hb dX11_tune_52 hl (by decide) rfl (fun ls hl => ?_)
      exact w2 _ _ _ (L54 8 _ _ _ x32 x39 (-1 : Int32) (0 : Int64) (1 : Int64) (0 : Int32) x4 hW hI hV hS (lv_sub hl [6, 7, 8, 5, 4, 3, 2, 1, 0] rfl) rp1_13 bx18_21 r32 r39 (ir_w (lo' := -1) (hi' := 6) (ir_c (-1) (by decide) : ir (-1 : Int32) (-1) (-1)) (by decide) (by decide)) (lr_w (lo' := 0) (hi' := 9223372036854775807) (lr_c (0) (by decide) : lr (0 : Int64) (0) (0)) (by decide) (by decide)) (lr_w (lo' := 1) (hi' := 9223372036854775807) (lr_c (1) (by decide) : lr (1 : Int64) (1) (1)) (by decide) (by decide)) (ir_w (lo' := 0) (hi' := 7) (ir_c (0) (by decide) : ir (0 : Int32) (0) (0)) (by decide) (by decide)) r4 nh0_7 hz40 (by have h9 := (ir_c (0) (by decide) : ir (0 : Int32) (0) (0)); omega))
    · have rx18_21 : ir x18 0 0 := rf_eq c21 (ir_c (0) (by decide) : ir (0 : Int32) (0) (0))
      refine lv_bipush (v := -2) hx hb dX11_tune_24 (by decide) ?_
      exact W.iret (v := (-2 : Int32)) hx hb hr (fun t ht _ => ⟨⟨(-2 : Int32), (-2 : Int32), rfl, ⟨rfl, trivial⟩, cW_at ht hW, ⟨mI_at ht hI, kp_at ht hV⟩⟩, hS.F ht⟩) hS.2.2 dX11_tune_26
set_option maxHeartbeats 4000000 in
set_option maxRecDepth 100000 in
theorem m_X11_add (l : Launch) (N : c_N) (h0 : Nat) (k0 : N.2.2.1 h0 = some 11) (hO : mOK N) (V : Nat → Value) (p1 : Int32) (p2 : Int32) (p3 : Int32) : cMi2 l yX11_add cX11_add 15 .int { frames := 6, cells := 0, slots := 0, locals := 170 } [.ref h0, .int p1, .int p2, .int p3] N [11, 42, 43, 44, 45, 46, 47, 48, 49] (fun H => mI N h0 H ∧ kp N h0 [7, 13, 32, 33, 34, 35, 36, 37, 38, 39, 40, 41, 42, 52, 53] V H) (fun _ => True) (fun _ H => mI N h0 H ∧ kp N h0 [7, 13, 32, 33, 34, 35, 36, 37, 38, 39, 40, 41, 42, 52, 53] V H) := by
  refine Met.ofW (cc := cX11_add) (maxL := 15) (ret := some .int) (by decide) rfl ?_
  intro p e s m args below meth c s₁ B hml hv
  obtain ⟨rfl, ⟨hK, hW, hT, hnn⟩, hB⟩ := hv
  obtain ⟨hI, hV⟩ := hB
  have hx := B.exec
  have hb := B.bytes
  have hr := B.returns
  have hts : ∀ w ∈ lw_g, w.before _ s = true := fun w h => atoms_spec (ws := wc_ws yX11_add cX11_add 15 (some .int)) B.pre w (List.mem_cons_of_mem _ h)
  have hown : s.vm.findClass RX11 = some m.cls := findClass_of_methodNamed B.named
  have hlocks := B.notSynchronized
  have hS : va_S (cE N [11, 42, 43, 44, 45, 46, 47, 48, 49]) s.heap s.heap [] := va_S.rf
  have hl := lv_entry ([.ref h0, .int p1, .int p2, .int p3]) (n := 15) (Nat.le_of_ble_eq_true rfl)
  rw [lg_entry_eq]
  generalize (lg_sl ([.ref h0, .int p1, .int p2, .int p3]) ++ List.replicate (15 - (lg_sl ([.ref h0, .int p1, .int p2, .int p3])).length) Slot.unset).toArray = ls at hl ⊢
  have hl : lv_has ls 15 [(0, .ref h0), (1, .int p1), (2, .int p2), (3, .int p3)] := hl
  refine wq_all ?_
  intro WW w1 w2
  have L56 : ∀ (n : Nat) (H : Heap) (locs : List Loc) (ls : Array Slot) (v56_4 : Int32) (v56_5 : Int64) (v56_7 : Int64) (v56_9 : Int32) (v56_10 : Int32) (u56_0 : Int32) (u56_1 : Int64) (u56_2 : Int64), cW N H → mI N h0 H → kp N h0 [7, 13, 32, 33, 34, 35, 36, 37, 38, 39, 40, 41, 42, 52, 53] V H → va_S (cE N [11, 42, 43, 44, 45, 46, 47, 48, 49]) s.heap H locs → lv_has ls 15 [(0, .ref h0), (1, .int p1), (2, .int p2), (3, .int p3), (4, .int v56_4), (5, .long v56_5), (7, .long v56_7), (9, .int v56_9), (10, .int v56_10)] → ir v56_4 0 1 → lr v56_5 0 9223372036854775807 → lr v56_7 1 9223372036854775807 → ir v56_9 (-1) 1050 → ir v56_10 0 1050 → ir u56_0 0 23 → wt_pin N.1 vwCl h0 11 7 (.int u56_0) H → lr u56_1 0 9223372036854775807 → wt_pin N.1 vwCl h0 11 52 (.long u56_1) H → lr u56_2 1 9223372036854775807 → wt_pin N.1 vwCl h0 11 53 (.long u56_2) H → v56_9.toInt < (u56_0.toInt + 1) * 42 → 1050 - v56_10.toInt < (n : Int) → WW H locs (F0 m 56 ls []) := by
    intro n
    induction n with
    | zero =>
      intro H locs ls v56_4 v56_5 v56_7 v56_9 v56_10 u56_0 u56_1 u56_2 hW hI hV hS hl rv56_4 rv56_5 rv56_7 rv56_9 rv56_10 ru56_0 nh0_7 ru56_1 nh0_52 ru56_2 nh0_53 rw56_0 mu56
      exfalso
      omega
    | succ n ih56 =>
      intro H locs ls v56_4 v56_5 v56_7 v56_9 v56_10 u56_0 u56_1 u56_2 hW hI hV hS hl rv56_4 rv56_5 rv56_7 rv56_9 rv56_10 ru56_0 nh0_7 ru56_1 nh0_52 ru56_2 nh0_53 rw56_0 mu56
      have J213 : ∀ (H : Heap) (locs : List Loc) (ls : Array Slot) (v213_4 : Int32) (v213_5 : Int64) (v213_7 : Int64) (v213_9 : Int32) (u213_0 : Int32) (u213_1 : Int64) (u213_2 : Int64), cW N H → mI N h0 H → kp N h0 [7, 13, 32, 33, 34, 35, 36, 37, 38, 39, 40, 41, 42, 52, 53] V H → va_S (cE N [11, 42, 43, 44, 45, 46, 47, 48, 49]) s.heap H locs → lv_has ls 15 [(0, .ref h0), (1, .int p1), (2, .int p2), (3, .int p3), (4, .int v213_4), (5, .long v213_5), (7, .long v213_7), (9, .int v213_9), (10, .int v56_10)] → ir v213_4 0 1 → lr v213_5 0 9223372036854775807 → lr v213_7 1 9223372036854775807 → ir v213_9 (-1) 1050 → ir v56_10 0 1007 → ir u213_0 0 23 → wt_pin N.1 vwCl h0 11 7 (.int u213_0) H → lr u213_1 0 9223372036854775807 → wt_pin N.1 vwCl h0 11 52 (.long u213_1) H → lr u213_2 1 9223372036854775807 → wt_pin N.1 vwCl h0 11 53 (.long u213_2) H → v213_9.toInt < (u213_0.toInt + 1) * 42 → WW H locs (F0 m 213 ls []) := by
        intro H locs ls v213_4 v213_5 v213_7 v213_9 u213_0 u213_1 u213_2 hW hI hV hS hl rv213_4 rv213_5 rv213_7 rv213_9 rv213_10 ru213_0 nh0_7 ru213_1 nh0_52 ru213_2 nh0_53 rw213_0
        refine w1 _ _ _ ?_
        obtain ⟨x213, e213⟩ : ∃ y : Int32, y = v56_10 + 1 := ⟨_, rfl⟩
        have r213 : ir x213 1 1008 := ir_w (ir_add e213 rv213_10 (ir_c (1) (by decide) : ir (1 : Int32) (1) (1)) (by decide) (by decide)) (by decide) (by decide)
        have t213 : x213.toInt = v56_10.toInt + (1) := it_add e213 rv213_10 (ir_c (1) (by decide) : ir (1 : Int32) (1) (1)) (by decide) (by decide)
        refine lv_iinc (v := x213) (lv' := [(10, .int x213), (0, .ref h0), (1, .int p1), (2, .int p2), (3, .int p3), (4, .int v213_4), (5, .long v213_5), (7, .long v213_7), (9, .int v213_9)]) hx hb dX11_add_213 hl (k := 8) rfl (by rw [e213]; rfl) (by decide) rfl (fun ls hl => ?_)
        refine lv_goto (tgt := 56) hx hb dX11_add_216 (by decide) ?_
        exact w2 _ _ _ (ih56 _ _ _ v213_4 v213_5 v213_7 v213_9 x213 u213_0 u213_1 u213_2 hW hI hV hS (lv_sub hl [1, 2, 3, 4, 5, 6, 7, 8, 0] rfl) rv213_4 rv213_5 rv213_7 rv213_9 (ir_w (lo' := 0) (hi' := 1050) r213 (by decide) (by decide)) ru213_0 nh0_7 ru213_1 nh0_52 ru213_2 nh0_53 (by have h20 := rv213_9; have h21 := ru213_0; omega) (by have h9 := r213; omega))
      have J178 : ∀ (H : Heap) (locs : List Loc) (ls : Array Slot) (v178_11 : Int32) (w178_0 : Int32) (u178_0 : Int32) (u178_1 : Int64) (u178_2 : Int64), cW N H → mI N h0 H → kp N h0 [7, 13, 32, 33, 34, 35, 36, 37, 38, 39, 40, 41, 42, 52, 53] V H → va_S (cE N [11, 42, 43, 44, 45, 46, 47, 48, 49]) s.heap H locs → lv_has ls 15 [(0, .ref h0), (1, .int p1), (2, .int p2), (3, .int p3), (4, .int v56_4), (5, .long v56_5), (7, .long v56_7), (9, .int v56_9), (10, .int v56_10), (11, .int v178_11)] → ir v56_4 0 1 → lr v56_5 0 9223372036854775807 → lr v56_7 1 9223372036854775807 → ir v56_9 (-1) 1050 → ir v56_10 0 1007 → ir v178_11 0 23 → ir w178_0 0 1 → ir u178_0 1 24 → wt_pin N.1 vwCl h0 11 7 (.int u178_0) H → lr u178_1 0 9223372036854775807 → wt_pin N.1 vwCl h0 11 52 (.long u178_1) H → lr u178_2 1 9223372036854775807 → wt_pin N.1 vwCl h0 11 53 (.long u178_2) H → u178_0.toInt = u56_0.toInt + 1 → v178_11.toInt < u178_0.toInt → v56_10.toInt < u178_0.toInt * 42 → WW H locs (F0 m 178 ls [.int w178_0]) := by
        intro H locs ls v178_11 w178_0 u178_0 u178_1 u178_2 hW hI hV hS hl rv178_4 rv178_5 rv178_7 rv178_9 rv178_10 rv178_11 rw178_0 ru178_0 nh0_7 ru178_1 nh0_52 ru178_2 nh0_53 rz178_0 rz178_1 rz178_2
        refine w1 _ _ _ ?_
        refine lv_istore (lv' := [(14, .int w178_0), (0, .ref h0), (1, .int p1), (2, .int p2), (3, .int p3), (4, .int v56_4), (5, .long v56_5), (7, .long v56_7), (9, .int v56_9), (10, .int v56_10), (11, .int v178_11)]) hx hb dX11_add_178 hl (by decide) rfl (fun ls hl => ?_)
        refine lv_aload_n hx hb dX11_add_180 rfl (lv_at hl 1 rfl) ?_
        refine lv_iload hx hb dX11_add_181 (lv_at hl 10 rfl) ?_
        obtain ⟨V1, hV1⟩ := kp_all hW k0
        have hWo := hW
        have hGL := QL_gp hI.1 nh0_7
        refine cc_v (B2 := fun H => kp N h0 [7] V1 H ∧ ∃ x : Int32, pI N h0 7 x H ∧ x.toInt = u178_0.toInt - 1 ∧ gP N 43 44 25 (fun j => (j : Int) < u178_0.toInt - 1) H) (wt_runV (As := [.int v178_11]) (rest := []) ⟨hx, hb, hml, hown, hts⟩ (m_X11_closes l N h0 k0 hO V1 v178_11 rv178_11 u178_0 (by have h6 := rv178_11; have h7 := ru178_0; omega)) wm_X11_closes q1104 ⟨rfl, rfl⟩ ⟨Nat.le_of_ble_eq_true rfl, Nat.le_of_ble_eq_true rfl⟩ (cS_preV (B := fun H => kp N h0 [7] V1 H ∧ wt_pin N.1 vwCl h0 11 7 (.int u178_0) H ∧ gP N 43 44 25 (fun j => (j : Int) < u178_0.toInt) H) hK hW hT hnn hS (cg11 k0) rfl rfl (And.intro (kp_of (F := [7]) hV1) (And.intro nh0_7 hGL))) rfl hl.1 rfl (Nat.le_of_ble_eq_true rfl) dX11_add_183 ⟨Nat.zero_le _, Nat.zero_le _⟩) hS (by decide) (fun H locs hW hS oq hB2 => ?_)
        obtain ⟨hV2, hB2⟩ := hB2
        have hV := kp_call hV hV1 hV2 (by decide)
        obtain ⟨iL, iP, iR, iB, iM⟩ := hI
        have iP := QP.fr.kcall iP hWo hV1 hV2 oq (by decide) (by decide)
        have iR := QR.fr.kcall iR hWo hV1 hV2 oq (by decide) (by decide)
        have iB := QB.fr.kcall iB hWo hV1 hV2 oq (by decide) (by decide)
        have iM := QM.fr.kcall iM hWo hV1 hV2 oq (by decide) (by decide)
        obtain ⟨xx183_7, nh0_7, w183, hGL⟩ := hB2
        have rxx183_7 : ir xx183_7 0 23 := by have h6 := ru178_0; have h7 : ir xx183_7 0 24 := gi_r (cpin_P hW (cg11 k0) rfl (by decide) nh0_7); constructor <;> omega
        have nh0_52 := kp_use hV1 hV2 (by decide) (by decide) nh0_52
        have nh0_53 := kp_use hV1 hV2 (by decide) (by decide) nh0_53
        have iL : QL N h0 H := ⟨_, nh0_7, (hGL.sub (fun j hj h => by have h : (j : Int) < xx183_7.toInt := h; show (j : Int) < u178_0.toInt - 1; have h30 := ru178_0; have h31 := rxx183_7; omega))⟩
        have hI : mI N h0 H := ⟨iL, iP, iR, iB, iM⟩
        refine lv_iload hx hb dX11_add_186 (lv_at hl 0 rfl) ?_
        refine lv_if_ne (tgt := 194) hx hb dX11_add_188 (by decide) (fun c188 => ?_) (fun c188 => ?_)
        · have rw178_0_188 : ir w178_0 1 1 := rf_ne0 c188 rw178_0
          refine lv_iconst (v := 0) hx hb dX11_add_194 (by decide) ?_
          refine lv_istore (lv' := [(4, .int (0 : Int32)), (14, .int w178_0), (0, .ref h0), (1, .int p1), (2, .int p2), (3, .int p3), (5, .long v56_5), (7, .long v56_7), (9, .int v56_9), (10, .int v56_10), (11, .int v178_11)]) hx hb dX11_add_195 hl (by decide) rfl (fun ls hl => ?_)
          refine lv_iload hx hb dX11_add_197 (lv_at hl 9 rfl) ?_
          refine lv_istore (lv' := [(9, .int v56_10), (4, .int (0 : Int32)), (14, .int w178_0), (0, .ref h0), (1, .int p1), (2, .int p2), (3, .int p3), (5, .long v56_5), (7, .long v56_7), (10, .int v56_10), (11, .int v178_11)]) hx hb dX11_add_199 hl (by decide) rfl (fun ls hl => ?_)
          refine lv_aload_n hx hb dX11_add_201 rfl (lv_at hl 3 rfl) ?_
          refine wt_rel hx hb hts cfX11 hown hK nh0_52 rfl (by decide) (Or.inl (hts _ q924)) dX11_add_202 ?_
          refine lv_lstore (lv' := [(5, .long u178_1), (9, .int v56_10), (4, .int (0 : Int32)), (14, .int w178_0), (0, .ref h0), (1, .int p1), (2, .int p2), (3, .int p3), (7, .long v56_7), (10, .int v56_10), (11, .int v178_11)]) hx hb dX11_add_205 hl (by decide) rfl (fun ls hl => ?_)
          refine lv_aload_n hx hb dX11_add_207 rfl (lv_at hl 4 rfl) ?_
          refine wt_rel hx hb hts cfX11 hown hK nh0_53 rfl (by decide) (Or.inl (hts _ q925)) dX11_add_208 ?_
          refine lv_lstore (lv' := [(7, .long u178_2), (5, .long u178_1), (9, .int v56_10), (4, .int (0 : Int32)), (14, .int w178_0), (0, .ref h0), (1, .int p1), (2, .int p2), (3, .int p3), (10, .int v56_10), (11, .int v178_11)]) hx hb dX11_add_211 hl (by decide) rfl (fun ls hl => ?_)
          exact w2 _ _ _ (J213 _ _ _ (0 : Int32) u178_1 u178_2 v56_10 xx183_7 u178_1 u178_2 hW hI hV hS (lv_sub hl [5, 6, 7, 8, 3, 1, 0, 2, 9] rfl) (ir_w (lo' := 0) (hi' := 1) (ir_c (0) (by decide) : ir (0 : Int32) (0) (0)) (by decide) (by decide)) ru178_1 ru178_2 (ir_w (lo' := -1) (hi' := 1050) rv178_10 (by decide) (by decide)) rv178_10 rxx183_7 nh0_7 ru178_1 nh0_52 ru178_2 nh0_53 (by have h20 := rv178_10; have h21 := rxx183_7; omega))
        · have rw178_0_188 : ir w178_0 0 0 := rf_eq c188 (ir_c (0) (by decide) : ir (0 : Int32) (0) (0))
          refine lv_goto (tgt := 213) hx hb dX11_add_191 (by decide) ?_
          exact w2 _ _ _ (J213 _ _ _ v56_4 v56_5 v56_7 v56_9 xx183_7 u178_1 u178_2 hW hI hV hS (lv_sub hl [1, 2, 3, 4, 5, 6, 7, 8, 9] rfl) rv178_4 rv178_5 rv178_7 rv178_9 rv178_10 rxx183_7 nh0_7 ru178_1 nh0_52 ru178_2 nh0_53 (by have h20 := rv178_9; have h21 := rxx183_7; omega))
      refine w1 _ _ _ ?_
      refine lv_iload hx hb dX11_add_56 (lv_at hl 8 rfl) ?_
      refine lv_aload_n hx hb dX11_add_58 rfl (lv_at hl 0 rfl) ?_
      refine wt_rel hx hb hts cfX11 hown hK nh0_7 rfl (by decide) (Or.inl (hts _ q879)) dX11_add_59 ?_
      refine lv_iconst (v := 1) hx hb dX11_add_62 (by decide) ?_
      refine lv_iadd hx hb dX11_add_63 ?_
      refine lv_topi (fun x63 e63 => ?_)
      have t63 : x63.toInt = u56_0.toInt + (1) := it_add e63 ru56_0 (ir_c (1) (by decide) : ir (1 : Int32) (1) (1)) (by decide) (by decide)
      have r63 : ir x63 1 24 := ir_w (ir_add e63 ru56_0 (ir_c (1) (by decide) : ir (1 : Int32) (1) (1)) (by decide) (by decide)) (by decide) (by decide)
      refine lv_bipush (v := 6) hx hb dX11_add_64 (by decide) ?_
      refine lv_imul hx hb dX11_add_66 ?_
      refine lv_topi (fun x66 e66 => ?_)
      have t66 : x66.toInt = x63.toInt * (6) := (it_mul e66 r63 (ir_c (6) (by decide) : ir (6 : Int32) (6) (6)) (by decide) (by decide) (by decide)).1
      have r66 : ir x66 6 144 := ir_w (it_mul e66 r63 (ir_c (6) (by decide) : ir (6 : Int32) (6) (6)) (by decide) (by decide) (by decide)).2 (by decide) (by decide)
      refine lv_bipush (v := 7) hx hb dX11_add_67 (by decide) ?_
      refine lv_imul hx hb dX11_add_69 ?_
      refine lv_topi (fun x69 e69 => ?_)
      have t69 : x69.toInt = x66.toInt * (7) := (it_mul e69 r66 (ir_c (7) (by decide) : ir (7 : Int32) (7) (7)) (by decide) (by decide) (by decide)).1
      have r69 : ir x69 42 1008 := ir_w (it_mul e69 r66 (ir_c (7) (by decide) : ir (7 : Int32) (7) (7)) (by decide) (by decide) (by decide)).2 (by decide) (by decide)
      refine lv_icmp_ge (tgt := 219) hx hb dX11_add_70 (by decide) (fun c70 => ?_) (fun c70 => ?_)
      · have rv56_10_70 : ir v56_10 42 1050 := ⟨Int.le_trans (by decide) (rf_le c70 r69 rv56_10).2, (rv56_10).2⟩
        have d70 := Int32.le_iff_toInt_le.mp c70
        refine lv_iload hx hb dX11_add_219 (lv_at hl 7 rfl) ?_
        refine lv_iconst (v := -1) hx hb dX11_add_221 (by decide) ?_
        refine lv_icmp_ne (tgt := 227) hx hb dX11_add_222 (by decide) (fun c222 => ?_) (fun c222 => ?_)
        · have rv56_9_222 : ir v56_9 0 1050 := rf_nel c222 rv56_9 (by decide) (by decide)
          refine lv_iload hx hb dX11_add_227 (lv_at hl 7 rfl) ?_
          refine lv_bipush (v := 42) hx hb dX11_add_229 (by decide) ?_
          refine lv_idiv hx hb dX11_add_231 (by decide) ?_
          refine lv_topi (fun x231 e231 => ?_)
          have t231 := ir_divc e231 rv56_9_222 (by decide) 42 (by decide) (by decide) (by decide)
          have r231 : ir x231 0 23 := by have h6 := t231; have h7 := rv56_9_222; have h8 := ru56_0; constructor <;> omega
          refine lv_istore (lv' := [(10, .int x231), (0, .ref h0), (1, .int p1), (2, .int p2), (3, .int p3), (4, .int v56_4), (5, .long v56_5), (7, .long v56_7), (9, .int v56_9)]) hx hb dX11_add_232 hl (by decide) rfl (fun ls hl => ?_)
          refine lv_aload_n hx hb dX11_add_234 rfl (lv_at hl 1 rfl) ?_
          refine lv_iconst (v := 0) hx hb dX11_add_235 (by decide) ?_
          obtain ⟨V1, hV1⟩ := kp_all hW k0
          refine cc_v (B2 := fun H => mI N h0 H ∧ kp N h0 [13] V1 H) (wt_runV (As := [.int (0 : Int32)]) (rest := []) ⟨hx, hb, hml, hown, hts⟩ (m_X11_keeps l N h0 k0 hO V1 (0 : Int32) (ir_w (lo' := 0) (hi' := 1) (ir_c (0) (by decide) : ir (0 : Int32) (0) (0)) (by decide) (by decide))) wm_X11_keeps q1084 ⟨rfl, rfl⟩ ⟨Nat.le_of_ble_eq_true rfl, Nat.le_of_ble_eq_true rfl⟩ (cS_preV (B := fun H => mI N h0 H ∧ kp N h0 [13] V1 H) hK hW hT hnn hS (cg11 k0) rfl rfl (And.intro hI (kp_of (F := [13]) hV1))) rfl hl.1 rfl (Nat.le_of_ble_eq_true rfl) dX11_add_236 ⟨Nat.zero_le _, Nat.zero_le _⟩) hS (by decide) (fun H locs hW hS oq hB2 => ?_)
          obtain ⟨hI, hV2⟩ := hB2
          have hV := kp_call hV hV1 hV2 (by decide)
          have nh0_7 := kp_use hV1 hV2 (by decide) (by decide) nh0_7
          have nh0_52 := kp_use hV1 hV2 (by decide) (by decide) nh0_52
          have nh0_53 := kp_use hV1 hV2 (by decide) (by decide) nh0_53
          refine lv_aload_n hx hb dX11_add_239 rfl (lv_at hl 1 rfl) ?_
          refine lv_iload hx hb dX11_add_240 (lv_at hl 0 rfl) ?_
          obtain ⟨V1, hV1⟩ := kp_all hW k0
          have hWo := hW
          have hGL := QL_gp hI.1 nh0_7
          refine cc_v (B2 := fun H => kp N h0 [7] V1 H ∧ ∃ x : Int32, pI N h0 7 x H ∧ x.toInt = u56_0.toInt + 1 ∧ gP N 43 44 25 (fun j => (j : Int) < u56_0.toInt + 1 ∧ (j : Int) ≠ x231.toInt) H) (wt_runV (As := [.int x231]) (rest := []) ⟨hx, hb, hml, hown, hts⟩ (m_X11_opens l N h0 k0 hO V1 x231 r231 u56_0 (by have h6 := r231; have h7 := ru56_0; omega)) wm_X11_opens q1088 ⟨rfl, rfl⟩ ⟨Nat.le_of_ble_eq_true rfl, Nat.le_of_ble_eq_true rfl⟩ (cS_preV (B := fun H => kp N h0 [7] V1 H ∧ wt_pin N.1 vwCl h0 11 7 (.int u56_0) H ∧ gP N 43 44 25 (fun j => (j : Int) < u56_0.toInt) H) hK hW hT hnn hS (cg11 k0) rfl rfl (And.intro (kp_of (F := [7]) hV1) (And.intro nh0_7 hGL))) rfl hl.1 rfl (Nat.le_of_ble_eq_true rfl) dX11_add_242 ⟨Nat.zero_le _, Nat.zero_le _⟩) hS (by decide) (fun H locs hW hS oq hB2 => ?_)
          obtain ⟨hV2, hB2⟩ := hB2
          have hV := kp_call hV hV1 hV2 (by decide)
          obtain ⟨iL, iP, iR, iB, iM⟩ := hI
          have iP := QP.fr.kcall iP hWo hV1 hV2 oq (by decide) (by decide)
          have iR := QR.fr.kcall iR hWo hV1 hV2 oq (by decide) (by decide)
          have iB := QB.fr.kcall iB hWo hV1 hV2 oq (by decide) (by decide)
          have iM := QM.fr.kcall iM hWo hV1 hV2 oq (by decide) (by decide)
          obtain ⟨xx242_7, nh0_7, w242, hGL⟩ := hB2
          have rxx242_7 : ir xx242_7 1 24 := by have h6 := ru56_0; have h7 : ir xx242_7 0 24 := gi_r (cpin_P hW (cg11 k0) rfl (by decide) nh0_7); constructor <;> omega
          have nh0_52 := kp_use hV1 hV2 (by decide) (by decide) nh0_52
          have nh0_53 := kp_use hV1 hV2 (by decide) (by decide) nh0_53
          refine lv_aload_n hx hb dX11_add_245 rfl (lv_at hl 1 rfl) ?_
          refine lv_iload hx hb dX11_add_246 (lv_at hl 0 rfl) ?_
          refine lv_iload hx hb dX11_add_248 (lv_at hl 8 rfl) ?_
          refine lv_bipush (v := 7) hx hb dX11_add_250 (by decide) ?_
          refine lv_idiv hx hb dX11_add_252 (by decide) ?_
          refine lv_topi (fun x252 e252 => ?_)
          have t252 := ir_divc e252 rv56_9_222 (by decide) 7 (by decide) (by decide) (by decide)
          have r252 : ir x252 0 150 := by have t := ir_divc e252 rv56_9_222 (by decide) 7 (by decide) (by decide) (by decide); have h9 := rv56_9_222; constructor <;> omega
          refine lv_bipush (v := 6) hx hb dX11_add_253 (by decide) ?_
          refine lv_irem hx hb dX11_add_255 (by decide) ?_
          refine lv_topi (fun x255 e255 => ?_)
          have r255 : ir x255 0 5 := ir_remr e255 r252 (by decide) 6 (by decide) (by decide) (by decide) (by decide)
          refine lv_iload hx hb dX11_add_256 (lv_at hl 8 rfl) ?_
          refine lv_bipush (v := 7) hx hb dX11_add_258 (by decide) ?_
          refine lv_irem hx hb dX11_add_260 (by decide) ?_
          refine lv_topi (fun x260 e260 => ?_)
          have r260 : ir x260 0 6 := ir_remr e260 rv56_9_222 (by decide) 7 (by decide) (by decide) (by decide) (by decide)
          refine cp_i (wt_runS (As := [.int x260]) (rest := [.int x255, .int x231, .ref h0]) ⟨hx, hb, hml, hown, hts⟩ (m_X11_thickUp l x260) wm_X11_thickUp q1356 ⟨rfl, rfl⟩ ⟨Nat.le_of_ble_eq_true rfl, Nat.le_of_ble_eq_true rfl⟩ pS_pre rfl hl.1 rfl (Nat.le_of_ble_eq_true rfl) dX11_add_261 ⟨Nat.zero_le _, Nat.zero_le _⟩) hW hS (fun x261 H locs hp hW1 hS oq => ?_)
          have hV := hV.same hW k0 oq
          have hGL := hGL.same hW oq (by decide) (by decide)
          have iP := QP.fr.same iP hW oq
          have iR := QR.fr.same iR hW oq
          have iB := QB.fr.same iB hW oq
          have iM := QM.fr.same iM hW oq
          have hW := hW1
          have nh0_7 := nh0_7.kept (oq _ nh0_7.lt (cE_not k0 (by decide)))
          have nh0_52 := nh0_52.kept (oq _ nh0_52.lt (cE_not k0 (by decide)))
          have nh0_53 := nh0_53.kept (oq _ nh0_53.lt (cE_not k0 (by decide)))
          have r261 : ir x261 1 3 := hp
          refine lv_iload hx hb dX11_add_264 (lv_at hl 8 rfl) ?_
          refine lv_bipush (v := 7) hx hb dX11_add_266 (by decide) ?_
          refine lv_irem hx hb dX11_add_268 (by decide) ?_
          refine lv_topi (fun x268 e268 => ?_)
          have r268 : ir x268 0 6 := ir_remr e268 rv56_9_222 (by decide) 7 (by decide) (by decide) (by decide) (by decide)
          refine cp_i (wt_runS (As := [.int x268]) (rest := [.int x261, .int x255, .int x231, .ref h0]) ⟨hx, hb, hml, hown, hts⟩ (m_X11_thickBy l x268) wm_X11_thickBy q1359 ⟨rfl, rfl⟩ ⟨Nat.le_of_ble_eq_true rfl, Nat.le_of_ble_eq_true rfl⟩ pS_pre rfl hl.1 rfl (Nat.le_of_ble_eq_true rfl) dX11_add_269 ⟨Nat.zero_le _, Nat.zero_le _⟩) hW hS (fun x269 H locs hp hW1 hS oq => ?_)
          have hV := hV.same hW k0 oq
          have hGL := hGL.same hW oq (by decide) (by decide)
          have iP := QP.fr.same iP hW oq
          have iR := QR.fr.same iR hW oq
          have iB := QB.fr.same iB hW oq
          have iM := QM.fr.same iM hW oq
          have hW := hW1
          have nh0_7 := nh0_7.kept (oq _ nh0_7.lt (cE_not k0 (by decide)))
          have nh0_52 := nh0_52.kept (oq _ nh0_52.lt (cE_not k0 (by decide)))
          have nh0_53 := nh0_53.kept (oq _ nh0_53.lt (cE_not k0 (by decide)))
          have r269 : ir x269 1 3 := hp
          obtain ⟨V1, hV1⟩ := kp_all hW k0
          have hWo := hW
          refine cc_v (B2 := fun H => kp N h0 [] V1 H ∧ gP N 43 44 25 (fun j => ((j : Int) < u56_0.toInt + 1 ∧ (j : Int) ≠ x231.toInt) ∨ (j : Int) = x231.toInt) H) (wt_runV (As := [.int x231, .int x255, .int x261, .int x269]) (rest := []) ⟨hx, hb, hml, hown, hts⟩ (m_X11_lays l N h0 k0 hO V1 x231 (ir_w (lo' := 0) (hi' := 24) r231 (by decide) (by decide)) x255 r255 x261 (ir_w (lo' := 0) (hi' := 6) r261 (by decide) (by decide)) x269 (ir_w (lo' := 0) (hi' := 6) r269 (by decide) (by decide)) (fun j => (j : Int) < u56_0.toInt + 1 ∧ (j : Int) ≠ x231.toInt) (Or.inl (by have h9 := r261; omega))) wm_X11_lays q1096 ⟨rfl, rfl⟩ ⟨Nat.le_of_ble_eq_true rfl, Nat.le_of_ble_eq_true rfl⟩ (cS_preV (B := fun H => kp N h0 [] V1 H ∧ gP N 43 44 25 (fun j => (j : Int) < u56_0.toInt + 1 ∧ (j : Int) ≠ x231.toInt) H) hK hW hT hnn hS (cg11 k0) rfl rfl (And.intro (kp_of (F := []) hV1) hGL)) rfl hl.1 rfl (Nat.le_of_ble_eq_true rfl) dX11_add_272 ⟨Nat.zero_le _, Nat.zero_le _⟩) hS (by decide) (fun H locs hW hS oq hB2 => ?_)
          obtain ⟨hV2, hB2⟩ := hB2
          have hV := kp_call hV hV1 hV2 (by decide)
          have iP := QP.fr.kcall iP hWo hV1 hV2 oq (by decide) (by decide)
          have iR := QR.fr.kcall iR hWo hV1 hV2 oq (by decide) (by decide)
          have iB := QB.fr.kcall iB hWo hV1 hV2 oq (by decide) (by decide)
          have iM := QM.fr.kcall iM hWo hV1 hV2 oq (by decide) (by decide)
          have hGL : gP N 43 44 25 (fun j => ((j : Int) < u56_0.toInt + 1 ∧ (j : Int) ≠ x231.toInt) ∨ (j : Int) = x231.toInt) H := hB2
          have nh0_7 := kp_use hV1 hV2 (by decide) (by decide) nh0_7
          have nh0_52 := kp_use hV1 hV2 (by decide) (by decide) nh0_52
          have nh0_53 := kp_use hV1 hV2 (by decide) (by decide) nh0_53
          have iL : QL N h0 H := ⟨_, nh0_7, (hGL.sub (fun j hj h => by have h : (j : Int) < xx242_7.toInt := h; show ((j : Int) < u56_0.toInt + 1 ∧ (j : Int) ≠ x231.toInt) ∨ (j : Int) = x231.toInt; have h30 := ru56_0; have h31 := r231; have h32 := rxx242_7; omega))⟩
          have hI : mI N h0 H := ⟨iL, iP, iR, iB, iM⟩
          refine lv_iload hx hb dX11_add_275 (lv_at hl 0 rfl) ?_
          exact W.iret (v := x231) hx hb hr (fun t ht _ => ⟨⟨x231, x231, rfl, ⟨rfl, trivial⟩, cW_at ht hW, ⟨mI_at ht hI, kp_at ht hV⟩⟩, hS.F ht⟩) hS.2.2 dX11_add_277
        · have rv56_9_222 : ir v56_9 (-1) (-1) := rf_eq c222 (ir_c (-1) (by decide) : ir (-1 : Int32) (-1) (-1))
          refine lv_iconst (v := -1) hx hb dX11_add_225 (by decide) ?_
          exact W.iret (v := (-1 : Int32)) hx hb hr (fun t ht _ => ⟨⟨(-1 : Int32), (-1 : Int32), rfl, ⟨rfl, trivial⟩, cW_at ht hW, ⟨mI_at ht hI, kp_at ht hV⟩⟩, hS.F ht⟩) hS.2.2 dX11_add_226
      · have rv56_10_70 : ir v56_10 0 1007 := ⟨(rv56_10).1, Int.le_trans (rf_lt (rf_nle c70) rv56_10 r69).1 (by decide)⟩
        have d70 := Int32.lt_iff_toInt_lt.mp (rf_nle c70)
        refine lv_iload hx hb dX11_add_73 (lv_at hl 8 rfl) ?_
        refine lv_bipush (v := 42) hx hb dX11_add_75 (by decide) ?_
        refine lv_idiv hx hb dX11_add_77 (by decide) ?_
        refine lv_topi (fun x77 e77 => ?_)
        have t77 := ir_divc e77 rv56_10_70 (by decide) 42 (by decide) (by decide) (by decide)
        have r77 : ir x77 0 23 := by have h6 := t77; have h7 := rv56_10_70; have h8 := ru56_0; constructor <;> omega
        refine lv_istore (lv' := [(11, .int x77), (0, .ref h0), (1, .int p1), (2, .int p2), (3, .int p3), (4, .int v56_4), (5, .long v56_5), (7, .long v56_7), (9, .int v56_9), (10, .int v56_10)]) hx hb dX11_add_78 hl (by decide) rfl (fun ls hl => ?_)
        refine lv_iload hx hb dX11_add_80 (lv_at hl 9 rfl) ?_
        refine lv_bipush (v := 7) hx hb dX11_add_82 (by decide) ?_
        refine lv_idiv hx hb dX11_add_84 (by decide) ?_
        refine lv_topi (fun x84 e84 => ?_)
        have t84 := ir_divc e84 rv56_10_70 (by decide) 7 (by decide) (by decide) (by decide)
        have r84 : ir x84 0 143 := by have t := ir_divc e84 rv56_10_70 (by decide) 7 (by decide) (by decide) (by decide); have h9 := rv56_10_70; constructor <;> omega
        refine lv_bipush (v := 6) hx hb dX11_add_85 (by decide) ?_
        refine lv_irem hx hb dX11_add_87 (by decide) ?_
        refine lv_topi (fun x87 e87 => ?_)
        have r87 : ir x87 0 5 := ir_remr e87 r84 (by decide) 6 (by decide) (by decide) (by decide) (by decide)
        refine lv_istore (lv' := [(12, .int x87), (11, .int x77), (0, .ref h0), (1, .int p1), (2, .int p2), (3, .int p3), (4, .int v56_4), (5, .long v56_5), (7, .long v56_7), (9, .int v56_9), (10, .int v56_10)]) hx hb dX11_add_88 hl (by decide) rfl (fun ls hl => ?_)
        refine lv_iload hx hb dX11_add_90 (lv_at hl 10 rfl) ?_
        refine lv_bipush (v := 7) hx hb dX11_add_92 (by decide) ?_
        refine lv_irem hx hb dX11_add_94 (by decide) ?_
        refine lv_topi (fun x94 e94 => ?_)
        have r94 : ir x94 0 6 := ir_remr e94 rv56_10_70 (by decide) 7 (by decide) (by decide) (by decide) (by decide)
        refine lv_istore (lv' := [(13, .int x94), (12, .int x87), (11, .int x77), (0, .ref h0), (1, .int p1), (2, .int p2), (3, .int p3), (4, .int v56_4), (5, .long v56_5), (7, .long v56_7), (9, .int v56_9), (10, .int v56_10)]) hx hb dX11_add_95 hl (by decide) rfl (fun ls hl => ?_)
        refine lv_iload_n hx hb dX11_add_97 rfl (lv_at hl 5 rfl) ?_
        refine lv_iload hx hb dX11_add_98 (lv_at hl 1 rfl) ?_
        refine cp_i (wt_runS (As := [.int p2, .int x87]) (rest := []) ⟨hx, hb, hml, hown, hts⟩ (m_X11_has l p2 x87) wm_X11_has q1312 ⟨rfl, rfl⟩ ⟨Nat.le_of_ble_eq_true rfl, Nat.le_of_ble_eq_true rfl⟩ pS_pre rfl hl.1 rfl (Nat.le_of_ble_eq_true rfl) dX11_add_100 ⟨Nat.zero_le _, Nat.zero_le _⟩) hW hS (fun x100 H locs hp hW1 hS oq => ?_)
        have hV := hV.same hW k0 oq
        have hI := mI.fr.same hI hW oq
        have hW := hW1
        have nh0_7 := nh0_7.kept (oq _ nh0_7.lt (cE_not k0 (by decide)))
        have nh0_52 := nh0_52.kept (oq _ nh0_52.lt (cE_not k0 (by decide)))
        have nh0_53 := nh0_53.kept (oq _ nh0_53.lt (cE_not k0 (by decide)))
        have r100 : ir x100 0 1 := hp
        refine lv_if_eq (tgt := 213) hx hb dX11_add_103 (by decide) (fun c103 => ?_) (fun c103 => ?_)
        · have rx100_103 : ir x100 0 0 := rf_eq c103 (ir_c (0) (by decide) : ir (0 : Int32) (0) (0))
          exact w2 _ _ _ (J213 _ _ _ v56_4 v56_5 v56_7 v56_9 u56_0 u56_1 u56_2 hW hI hV hS (lv_sub hl [3, 4, 5, 6, 7, 8, 9, 10, 11] rfl) rv56_4 rv56_5 rv56_7 rv56_9 rv56_10_70 ru56_0 nh0_7 ru56_1 nh0_52 ru56_2 nh0_53 (by have h20 := rv56_9; have h21 := ru56_0; omega))
        · have rx100_103 : ir x100 1 1 := rf_ne0 c103 r100
          refine lv_iload_n hx hb dX11_add_106 rfl (lv_at hl 6 rfl) ?_
          refine lv_iload hx hb dX11_add_107 (lv_at hl 0 rfl) ?_
          refine cp_i (wt_runS (As := [.int p3, .int x94]) (rest := []) ⟨hx, hb, hml, hown, hts⟩ (m_X11_has l p3 x94) wm_X11_has q1312 ⟨rfl, rfl⟩ ⟨Nat.le_of_ble_eq_true rfl, Nat.le_of_ble_eq_true rfl⟩ pS_pre rfl hl.1 rfl (Nat.le_of_ble_eq_true rfl) dX11_add_109 ⟨Nat.zero_le _, Nat.zero_le _⟩) hW hS (fun x109 H locs hp hW1 hS oq => ?_)
          have hV := hV.same hW k0 oq
          have hI := mI.fr.same hI hW oq
          have hW := hW1
          have nh0_7 := nh0_7.kept (oq _ nh0_7.lt (cE_not k0 (by decide)))
          have nh0_52 := nh0_52.kept (oq _ nh0_52.lt (cE_not k0 (by decide)))
          have nh0_53 := nh0_53.kept (oq _ nh0_53.lt (cE_not k0 (by decide)))
          have r109 : ir x109 0 1 := hp
          refine lv_if_ne (tgt := 118) hx hb dX11_add_112 (by decide) (fun c112 => ?_) (fun c112 => ?_)
          · have rx109_112 : ir x109 1 1 := rf_ne0 c112 r109
            refine lv_aload_n hx hb dX11_add_118 rfl (lv_at hl 3 rfl) ?_
            refine lv_iload hx hb dX11_add_119 (lv_at hl 2 rfl) ?_
            obtain ⟨V1, hV1⟩ := kp_all hW k0
            have hWo := hW
            have hGL := QL_gp hI.1 nh0_7
            refine cc_v (B2 := fun H => kp N h0 [7] V1 H ∧ ∃ x : Int32, pI N h0 7 x H ∧ x.toInt = u56_0.toInt + 1 ∧ gP N 43 44 25 (fun j => (j : Int) < u56_0.toInt + 1 ∧ (j : Int) ≠ x77.toInt) H) (wt_runV (As := [.int x77]) (rest := []) ⟨hx, hb, hml, hown, hts⟩ (m_X11_opens l N h0 k0 hO V1 x77 r77 u56_0 (by have h6 := r77; have h7 := ru56_0; omega)) wm_X11_opens q1088 ⟨rfl, rfl⟩ ⟨Nat.le_of_ble_eq_true rfl, Nat.le_of_ble_eq_true rfl⟩ (cS_preV (B := fun H => kp N h0 [7] V1 H ∧ wt_pin N.1 vwCl h0 11 7 (.int u56_0) H ∧ gP N 43 44 25 (fun j => (j : Int) < u56_0.toInt) H) hK hW hT hnn hS (cg11 k0) rfl rfl (And.intro (kp_of (F := [7]) hV1) (And.intro nh0_7 hGL))) rfl hl.1 rfl (Nat.le_of_ble_eq_true rfl) dX11_add_121 ⟨Nat.zero_le _, Nat.zero_le _⟩) hS (by decide) (fun H locs hW hS oq hB2 => ?_)
            obtain ⟨hV2, hB2⟩ := hB2
            have hV := kp_call hV hV1 hV2 (by decide)
            obtain ⟨iL, iP, iR, iB, iM⟩ := hI
            have iP := QP.fr.kcall iP hWo hV1 hV2 oq (by decide) (by decide)
            have iR := QR.fr.kcall iR hWo hV1 hV2 oq (by decide) (by decide)
            have iB := QB.fr.kcall iB hWo hV1 hV2 oq (by decide) (by decide)
            have iM := QM.fr.kcall iM hWo hV1 hV2 oq (by decide) (by decide)
            obtain ⟨xx121_7, nh0_7, w121, hGL⟩ := hB2
            have rxx121_7 : ir xx121_7 1 24 := by have h6 := ru56_0; have h7 : ir xx121_7 0 24 := gi_r (cpin_P hW (cg11 k0) rfl (by decide) nh0_7); constructor <;> omega
            have nh0_52 := kp_use hV1 hV2 (by decide) (by decide) nh0_52
            have nh0_53 := kp_use hV1 hV2 (by decide) (by decide) nh0_53
            refine lv_aload_n hx hb dX11_add_124 rfl (lv_at hl 3 rfl) ?_
            refine lv_iload hx hb dX11_add_125 (lv_at hl 2 rfl) ?_
            refine lv_iload hx hb dX11_add_127 (lv_at hl 1 rfl) ?_
            refine lv_iload hx hb dX11_add_129 (lv_at hl 0 rfl) ?_
            refine cp_i (wt_runS (As := [.int x94]) (rest := [.int x87, .int x77, .ref h0]) ⟨hx, hb, hml, hown, hts⟩ (m_X11_thickUp l x94) wm_X11_thickUp q1356 ⟨rfl, rfl⟩ ⟨Nat.le_of_ble_eq_true rfl, Nat.le_of_ble_eq_true rfl⟩ pS_pre rfl hl.1 rfl (Nat.le_of_ble_eq_true rfl) dX11_add_131 ⟨Nat.zero_le _, Nat.zero_le _⟩) hW hS (fun x131 H locs hp hW1 hS oq => ?_)
            have hV := hV.same hW k0 oq
            have hGL := hGL.same hW oq (by decide) (by decide)
            have iP := QP.fr.same iP hW oq
            have iR := QR.fr.same iR hW oq
            have iB := QB.fr.same iB hW oq
            have iM := QM.fr.same iM hW oq
            have hW := hW1
            have nh0_7 := nh0_7.kept (oq _ nh0_7.lt (cE_not k0 (by decide)))
            have nh0_52 := nh0_52.kept (oq _ nh0_52.lt (cE_not k0 (by decide)))
            have nh0_53 := nh0_53.kept (oq _ nh0_53.lt (cE_not k0 (by decide)))
            have r131 : ir x131 1 3 := hp
            refine lv_iload hx hb dX11_add_134 (lv_at hl 0 rfl) ?_
            refine cp_i (wt_runS (As := [.int x94]) (rest := [.int x131, .int x87, .int x77, .ref h0]) ⟨hx, hb, hml, hown, hts⟩ (m_X11_thickBy l x94) wm_X11_thickBy q1359 ⟨rfl, rfl⟩ ⟨Nat.le_of_ble_eq_true rfl, Nat.le_of_ble_eq_true rfl⟩ pS_pre rfl hl.1 rfl (Nat.le_of_ble_eq_true rfl) dX11_add_136 ⟨Nat.zero_le _, Nat.zero_le _⟩) hW hS (fun x136 H locs hp hW1 hS oq => ?_)
            have hV := hV.same hW k0 oq
            have hGL := hGL.same hW oq (by decide) (by decide)
            have iP := QP.fr.same iP hW oq
            have iR := QR.fr.same iR hW oq
            have iB := QB.fr.same iB hW oq
            have iM := QM.fr.same iM hW oq
            have hW := hW1
            have nh0_7 := nh0_7.kept (oq _ nh0_7.lt (cE_not k0 (by decide)))
            have nh0_52 := nh0_52.kept (oq _ nh0_52.lt (cE_not k0 (by decide)))
            have nh0_53 := nh0_53.kept (oq _ nh0_53.lt (cE_not k0 (by decide)))
            have r136 : ir x136 1 3 := hp
            obtain ⟨V1, hV1⟩ := kp_all hW k0
            have hWo := hW
            refine cc_v (B2 := fun H => kp N h0 [] V1 H ∧ gP N 43 44 25 (fun j => ((j : Int) < u56_0.toInt + 1 ∧ (j : Int) ≠ x77.toInt) ∨ (j : Int) = x77.toInt) H) (wt_runV (As := [.int x77, .int x87, .int x131, .int x136]) (rest := []) ⟨hx, hb, hml, hown, hts⟩ (m_X11_lays l N h0 k0 hO V1 x77 (ir_w (lo' := 0) (hi' := 24) r77 (by decide) (by decide)) x87 r87 x131 (ir_w (lo' := 0) (hi' := 6) r131 (by decide) (by decide)) x136 (ir_w (lo' := 0) (hi' := 6) r136 (by decide) (by decide)) (fun j => (j : Int) < u56_0.toInt + 1 ∧ (j : Int) ≠ x77.toInt) (Or.inl (by have h9 := r131; omega))) wm_X11_lays q1096 ⟨rfl, rfl⟩ ⟨Nat.le_of_ble_eq_true rfl, Nat.le_of_ble_eq_true rfl⟩ (cS_preV (B := fun H => kp N h0 [] V1 H ∧ gP N 43 44 25 (fun j => (j : Int) < u56_0.toInt + 1 ∧ (j : Int) ≠ x77.toInt) H) hK hW hT hnn hS (cg11 k0) rfl rfl (And.intro (kp_of (F := []) hV1) hGL)) rfl hl.1 rfl (Nat.le_of_ble_eq_true rfl) dX11_add_139 ⟨Nat.zero_le _, Nat.zero_le _⟩) hS (by decide) (fun H locs hW hS oq hB2 => ?_)
            obtain ⟨hV2, hB2⟩ := hB2
            have hV := kp_call hV hV1 hV2 (by decide)
            have iP := QP.fr.kcall iP hWo hV1 hV2 oq (by decide) (by decide)
            have iR := QR.fr.kcall iR hWo hV1 hV2 oq (by decide) (by decide)
            have iB := QB.fr.kcall iB hWo hV1 hV2 oq (by decide) (by decide)
            have iM := QM.fr.kcall iM hWo hV1 hV2 oq (by decide) (by decide)
            have hGL : gP N 43 44 25 (fun j => ((j : Int) < u56_0.toInt + 1 ∧ (j : Int) ≠ x77.toInt) ∨ (j : Int) = x77.toInt) H := hB2
            have nh0_7 := kp_use hV1 hV2 (by decide) (by decide) nh0_7
            have nh0_52 := kp_use hV1 hV2 (by decide) (by decide) nh0_52
            have nh0_53 := kp_use hV1 hV2 (by decide) (by decide) nh0_53
            have iL : QL N h0 H := ⟨_, nh0_7, (hGL.sub (fun j hj h => by have h : (j : Int) < xx121_7.toInt := h; show ((j : Int) < u56_0.toInt + 1 ∧ (j : Int) ≠ x77.toInt) ∨ (j : Int) = x77.toInt; have h30 := ru56_0; have h31 := r77; have h32 := rxx121_7; omega))⟩
            have hI : mI N h0 H := ⟨iL, iP, iR, iB, iM⟩
            refine lv_aload_n hx hb dX11_add_142 rfl (lv_at hl 3 rfl) ?_
            refine lv_iload_n hx hb dX11_add_143 rfl (lv_at hl 4 rfl) ?_
            obtain ⟨V1, hV1⟩ := kp_all hW k0
            refine cc_i2 (B2 := fun r H => mI N h0 H ∧ kp N h0 [32, 33, 34, 35, 36, 37, 38, 39, 40, 41, 42, 52, 53] V1 H ∧ ∃ u b : Int64, pL N h0 52 u H ∧ pL N h0 53 b H ∧ 0 ≤ u.toInt ∧ 1 ≤ b.toInt) (wt_runV (As := [.int p1]) (rest := []) ⟨hx, hb, hml, hown, hts⟩ (m_X11_lightsAll l N h0 k0 hO V1 p1) wm_X11_lightsAll q1378 ⟨rfl, rfl⟩ ⟨Nat.le_of_ble_eq_true rfl, Nat.le_of_ble_eq_true rfl⟩ (cS_preV (B := fun H => mI N h0 H ∧ kp N h0 [32, 33, 34, 35, 36, 37, 38, 39, 40, 41, 42, 52, 53] V1 H) hK hW hT hnn hS (cg11 k0) rfl rfl (And.intro hI (kp_of (F := [32, 33, 34, 35, 36, 37, 38, 39, 40, 41, 42, 52, 53]) hV1))) rfl hl.1 rfl (Nat.le_of_ble_eq_true rfl) dX11_add_144 ⟨Nat.zero_le _, Nat.zero_le _⟩) hS (by decide) (fun x144 H locs hp hW hS oq hB2 => ?_)
            obtain ⟨hI, hV2, hB2⟩ := hB2
            have hV := kp_call hV hV1 hV2 (by decide)
            obtain ⟨mu144, mb144, nh0_52, nh0_53, vu144, vb144⟩ := hB2
            have nh0_7 := kp_use hV1 hV2 (by decide) (by decide) nh0_7
            have r144 : ir x144 0 1 := hp
            refine lv_if_eq (tgt := 177) hx hb dX11_add_147 (by decide) (fun c147 => ?_) (fun c147 => ?_)
            · have rx144_147 : ir x144 0 0 := rf_eq c147 (ir_c (0) (by decide) : ir (0 : Int32) (0) (0))
              refine lv_iconst (v := 0) hx hb dX11_add_177 (by decide) ?_
              exact w2 _ _ _ (J178 _ _ _ x77 (0 : Int32) xx121_7 mu144 mb144 hW hI hV hS (lv_sub hl [3, 4, 5, 6, 7, 8, 9, 10, 11, 2] rfl) rv56_4 rv56_5 rv56_7 rv56_9 rv56_10_70 r77 (ir_w (lo' := 0) (hi' := 1) (ir_c (0) (by decide) : ir (0 : Int32) (0) (0)) (by decide) (by decide)) rxx121_7 nh0_7 (⟨vu144, (lr_any mu144).2⟩ : lr mu144 0 9223372036854775807) nh0_52 (⟨vb144, (lr_any mb144).2⟩ : lr mb144 1 9223372036854775807) nh0_53 (by have h20 := rxx121_7; omega) (by have h20 := r77; have h21 := rxx121_7; omega) (by have h20 := rv56_10_70; have h21 := rxx121_7; omega))
            · have rx144_147 : ir x144 1 1 := rf_ne0 c147 r144
              refine lv_iload hx hb dX11_add_150 (lv_at hl 7 rfl) ?_
              refine lv_if_ne (tgt := 173) hx hb dX11_add_152 (by decide) (fun c152 => ?_) (fun c152 => ?_)
              · have rv56_4_152 : ir v56_4 1 1 := rf_ne0 c152 rv56_4
                refine lv_iconst (v := 1) hx hb dX11_add_173 (by decide) ?_
                refine lv_goto (tgt := 178) hx hb dX11_add_174 (by decide) ?_
                exact w2 _ _ _ (J178 _ _ _ x77 (1 : Int32) xx121_7 mu144 mb144 hW hI hV hS (lv_sub hl [3, 4, 5, 6, 7, 8, 9, 10, 11, 2] rfl) (ir_w (lo' := 0) (hi' := 1) rv56_4_152 (by decide) (by decide)) rv56_5 rv56_7 rv56_9 rv56_10_70 r77 (ir_w (lo' := 0) (hi' := 1) (ir_c (1) (by decide) : ir (1 : Int32) (1) (1)) (by decide) (by decide)) rxx121_7 nh0_7 (⟨vu144, (lr_any mu144).2⟩ : lr mu144 0 9223372036854775807) nh0_52 (⟨vb144, (lr_any mb144).2⟩ : lr mb144 1 9223372036854775807) nh0_53 (by have h20 := rxx121_7; omega) (by have h20 := r77; have h21 := rxx121_7; omega) (by have h20 := rv56_10_70; have h21 := rxx121_7; omega))
              · have rv56_4_152 : ir v56_4 0 0 := rf_eq c152 (ir_c (0) (by decide) : ir (0 : Int32) (0) (0))
                refine lv_aload_n hx hb dX11_add_155 rfl (lv_at hl 3 rfl) ?_
                refine wt_rel hx hb hts cfX11 hown hK nh0_52 rfl (by decide) (Or.inl (hts _ q924)) dX11_add_156 ?_
                refine lv_aload_n hx hb dX11_add_159 rfl (lv_at hl 3 rfl) ?_
                refine wt_rel hx hb hts cfX11 hown hK nh0_53 rfl (by decide) (Or.inl (hts _ q925)) dX11_add_160 ?_
                refine lv_lload hx hb dX11_add_163 (lv_at hl 8 rfl) ?_
                refine lv_lload hx hb dX11_add_165 (lv_at hl 9 rfl) ?_
                refine cp_i (wt_runS (As := [.long mu144, .long mb144, .long v56_5, .long v56_7]) (rest := []) ⟨hx, hb, hml, hown, hts⟩ (m_X11_isLess l mu144 (⟨vu144, (lr_any mu144).2⟩ : lr mu144 0 9223372036854775807) mb144 (⟨vb144, (lr_any mb144).2⟩ : lr mb144 1 9223372036854775807) v56_5 rv56_5 v56_7 rv56_7) wm_X11_isLess q1291 ⟨rfl, rfl⟩ ⟨Nat.le_of_ble_eq_true rfl, Nat.le_of_ble_eq_true rfl⟩ pS_pre rfl hl.1 rfl (Nat.le_of_ble_eq_true rfl) dX11_add_167 ⟨Nat.zero_le _, Nat.zero_le _⟩) hW hS (fun x167 H locs hp hW1 hS oq => ?_)
                have hV := hV.same hW k0 oq
                have hI := mI.fr.same hI hW oq
                have hW := hW1
                have nh0_7 := nh0_7.kept (oq _ nh0_7.lt (cE_not k0 (by decide)))
                have nh0_52 := nh0_52.kept (oq _ nh0_52.lt (cE_not k0 (by decide)))
                have nh0_53 := nh0_53.kept (oq _ nh0_53.lt (cE_not k0 (by decide)))
                have r167 : ir x167 0 1 := hp
                refine lv_if_eq (tgt := 177) hx hb dX11_add_170 (by decide) (fun c170 => ?_) (fun c170 => ?_)
                · have rx167_170 : ir x167 0 0 := rf_eq c170 (ir_c (0) (by decide) : ir (0 : Int32) (0) (0))
                  refine lv_iconst (v := 0) hx hb dX11_add_177 (by decide) ?_
                  exact w2 _ _ _ (J178 _ _ _ x77 (0 : Int32) xx121_7 mu144 mb144 hW hI hV hS (lv_sub hl [3, 4, 5, 6, 7, 8, 9, 10, 11, 2] rfl) (ir_w (lo' := 0) (hi' := 1) rv56_4_152 (by decide) (by decide)) rv56_5 rv56_7 rv56_9 rv56_10_70 r77 (ir_w (lo' := 0) (hi' := 1) (ir_c (0) (by decide) : ir (0 : Int32) (0) (0)) (by decide) (by decide)) rxx121_7 nh0_7 (⟨vu144, (lr_any mu144).2⟩ : lr mu144 0 9223372036854775807) nh0_52 (⟨vb144, (lr_any mb144).2⟩ : lr mb144 1 9223372036854775807) nh0_53 (by have h20 := rxx121_7; omega) (by have h20 := r77; have h21 := rxx121_7; omega) (by have h20 := rv56_10_70; have h21 := rxx121_7; omega))
                · have rx167_170 : ir x167 1 1 := rf_ne0 c170 r167
                  refine lv_iconst (v := 1) hx hb dX11_add_173 (by decide) ?_
                  refine lv_goto (tgt := 178) hx hb dX11_add_174 (by decide) ?_
                  exact w2 _ _ _ (J178 _ _ _ x77 (1 : Int32) xx121_7 mu144 mb144 hW hI hV hS (lv_sub hl [3, 4, 5, 6, 7, 8, 9, 10, 11, 2] rfl) (ir_w (lo' := 0) (hi' := 1) rv56_4_152 (by decide) (by decide)) rv56_5 rv56_7 rv56_9 rv56_10_70 r77 (ir_w (lo' := 0) (hi' := 1) (ir_c (1) (by decide) : ir (1 : Int32) (1) (1)) (by decide) (by decide)) rxx121_7 nh0_7 (⟨vu144, (lr_any mu144).2⟩ : lr mu144 0 9223372036854775807) nh0_52 (⟨vb144, (lr_any mb144).2⟩ : lr mb144 1 9223372036854775807) nh0_53 (by have h20 := rxx121_7; omega) (by have h20 := r77; have h21 := rxx121_7; omega) (by have h20 := rv56_10_70; have h21 := rxx121_7; omega))
          · have rx109_112 : ir x109 0 0 := rf_eq c112 (ir_c (0) (by decide) : ir (0 : Int32) (0) (0))
            refine lv_goto (tgt := 213) hx hb dX11_add_115 (by decide) ?_
            exact w2 _ _ _ (J213 _ _ _ v56_4 v56_5 v56_7 v56_9 u56_0 u56_1 u56_2 hW hI hV hS (lv_sub hl [3, 4, 5, 6, 7, 8, 9, 10, 11] rfl) rv56_4 rv56_5 rv56_7 rv56_9 rv56_10_70 ru56_0 nh0_7 ru56_1 nh0_52 ru56_2 nh0_53 (by have h20 := rv56_9; have h21 := ru56_0; omega))
  refine lv_iload_n hx hb dX11_add_0 rfl (lv_at hl 1 rfl) ?_
  refine lv_iload_n hx hb dX11_add_1 rfl (lv_at hl 2 rfl) ?_
  refine lv_iload_n hx hb dX11_add_2 rfl (lv_at hl 3 rfl) ?_
  refine cp_i (wt_runS (As := [.int p1, .int p2, .int p3]) (rest := []) ⟨hx, hb, hml, hown, hts⟩ (m_X11_areSets l p1 p2 p3) wm_X11_areSets q1330 ⟨rfl, rfl⟩ ⟨Nat.le_of_ble_eq_true rfl, Nat.le_of_ble_eq_true rfl⟩ pS_pre rfl hl.1 rfl (Nat.le_of_ble_eq_true rfl) dX11_add_3 ⟨Nat.zero_le _, Nat.zero_le _⟩) hW hS (fun x3 H locs hp hW1 hS oq => ?_)
  have hV := hV.same hW k0 oq
  have hI := mI.fr.same hI hW oq
  have hW := hW1
  have r3 : ir x3 0 1 := hp
  refine lv_if_ne (tgt := 12) hx hb dX11_add_6 (by decide) (fun c6 => ?_) (fun c6 => ?_)
  · have rx3_6 : ir x3 1 1 := rf_ne0 c6 r3
    refine lv_aload_n hx hb dX11_add_12 rfl (lv_at hl 0 rfl) ?_
    refine wt_getp hx hb hts cfX11 hown hK hW (cg11 k0) rfl 7 (by decide) (Or.inl (hts _ q879)) dX11_add_13 (fun v hv nh0_7 => ?_)
    obtain ⟨x13, rfl, r13⟩ : gi 0 24 v := hv
    refine lv_bipush (v := 24) hx hb dX11_add_16 (by decide) ?_
    refine lv_icmp_ne (tgt := 23) hx hb dX11_add_18 (by decide) (fun c18 => ?_) (fun c18 => ?_)
    · have rx13_18 : ir x13 0 23 := rf_neu c18 r13 (by decide) (by decide)
      refine lv_aload_n hx hb dX11_add_23 rfl (lv_at hl 0 rfl) ?_
      refine lv_iload_n hx hb dX11_add_24 rfl (lv_at hl 1 rfl) ?_
      obtain ⟨V1, hV1⟩ := kp_all hW k0
      refine cc_i2 (B2 := fun r H => mI N h0 H ∧ kp N h0 [32, 33, 34, 35, 36, 37, 38, 39, 40, 41, 42, 52, 53] V1 H ∧ ∃ u b : Int64, pL N h0 52 u H ∧ pL N h0 53 b H ∧ 0 ≤ u.toInt ∧ 1 ≤ b.toInt) (wt_runV (As := [.int p1]) (rest := []) ⟨hx, hb, hml, hown, hts⟩ (m_X11_lightsAll l N h0 k0 hO V1 p1) wm_X11_lightsAll q1378 ⟨rfl, rfl⟩ ⟨Nat.le_of_ble_eq_true rfl, Nat.le_of_ble_eq_true rfl⟩ (cS_preV (B := fun H => mI N h0 H ∧ kp N h0 [32, 33, 34, 35, 36, 37, 38, 39, 40, 41, 42, 52, 53] V1 H) hK hW hT hnn hS (cg11 k0) rfl rfl (And.intro hI (kp_of (F := [32, 33, 34, 35, 36, 37, 38, 39, 40, 41, 42, 52, 53]) hV1))) rfl hl.1 rfl (Nat.le_of_ble_eq_true rfl) dX11_add_25 ⟨Nat.zero_le _, Nat.zero_le _⟩) hS (by decide) (fun x25 H locs hp hW hS oq hB2 => ?_)
      obtain ⟨hI, hV2, hB2⟩ := hB2
      have hV := kp_call hV hV1 hV2 (by decide)
      obtain ⟨mu25, mb25, nh0_52, nh0_53, vu25, vb25⟩ := hB2
      have nh0_7 := kp_use hV1 hV2 (by decide) (by decide) nh0_7
      have r25 : ir x25 0 1 := hp
      refine lv_if_ne (tgt := 35) hx hb dX11_add_28 (by decide) (fun c28 => ?_) (fun c28 => ?_)
      · have rx25_28 : ir x25 1 1 := rf_ne0 c28 r25
        refine lv_iconst (v := 0) hx hb dX11_add_35 (by decide) ?_
        refine lv_istore (lv' := [(4, .int (0 : Int32)), (0, .ref h0), (1, .int p1), (2, .int p2), (3, .int p3)]) hx hb dX11_add_36 hl (by decide) rfl (fun ls hl => ?_)
        refine lv_aload_n hx hb dX11_add_38 rfl (lv_at hl 1 rfl) ?_
        refine wt_rel hx hb hts cfX11 hown hK nh0_52 rfl (by decide) (Or.inl (hts _ q924)) dX11_add_39 ?_
        refine lv_lstore (lv' := [(5, .long mu25), (4, .int (0 : Int32)), (0, .ref h0), (1, .int p1), (2, .int p2), (3, .int p3)]) hx hb dX11_add_42 hl (by decide) rfl (fun ls hl => ?_)
        refine lv_aload_n hx hb dX11_add_44 rfl (lv_at hl 2 rfl) ?_
        refine wt_rel hx hb hts cfX11 hown hK nh0_53 rfl (by decide) (Or.inl (hts _ q925)) dX11_add_45 ?_
        refine lv_lstore (lv' := [(7, .long mb25), (5, .long mu25), (4, .int (0 : Int32)), (0, .ref h0), (1, .int p1), (2, .int p2), (3, .int p3)]) hx hb dX11_add_48 hl (by decide) rfl (fun ls hl => ?_)
        refine lv_iconst (v := -1) hx hb dX11_add_50 (by decide) ?_
        refine lv_istore (lv' := [(9, .int (-1 : Int32)), (7, .long mb25), (5, .long mu25), (4, .int (0 : Int32)), (0, .ref h0), (1, .int p1), (2, .int p2), (3, .int p3)]) hx hb dX11_add_51 hl (by decide) rfl (fun ls hl => ?_)
        refine lv_iconst (v := 0) hx hb dX11_add_53 (by decide) ?_
        refine lv_istore (lv' := [(10, .int (0 : Int32)), (9, .int (-1 : Int32)), (7, .long mb25), (5, .long mu25), (4, .int (0 : Int32)), (0, .ref h0), (1, .int p1), (2, .int p2), (3, .int p3)]) hx hb dX11_add_54 hl (by decide) rfl (fun ls hl => ?_)
        exact w2 _ _ _ (L56 1051 _ _ _ (0 : Int32) mu25 mb25 (-1 : Int32) (0 : Int32) x13 mu25 mb25 hW hI hV hS (lv_sub hl [5, 6, 7, 8, 4, 3, 2, 1, 0] rfl) (ir_w (lo' := 0) (hi' := 1) (ir_c (0) (by decide) : ir (0 : Int32) (0) (0)) (by decide) (by decide)) (⟨vu25, (lr_any mu25).2⟩ : lr mu25 0 9223372036854775807) (⟨vb25, (lr_any mb25).2⟩ : lr mb25 1 9223372036854775807) (ir_w (lo' := -1) (hi' := 1050) (ir_c (-1) (by decide) : ir (-1 : Int32) (-1) (-1)) (by decide) (by decide)) (ir_w (lo' := 0) (hi' := 1050) (ir_c (0) (by decide) : ir (0 : Int32) (0) (0)) (by decide) (by decide)) rx13_18 nh0_7 (⟨vu25, (lr_any mu25).2⟩ : lr mu25 0 9223372036854775807) nh0_52 (⟨vb25, (lr_any mb25).2⟩ : lr mb25 1 9223372036854775807) nh0_53 (by have h20 := (ir_c (-1) (by decide) : ir (-1 : Int32) (-1) (-1)); have h21 := rx13_18; omega) (by have h9 := (ir_c (0) (by decide) : ir (0 : Int32) (0) (0)); omega))
      · have rx25_28 : ir x25 0 0 := rf_eq c28 (ir_c (0) (by decide) : ir (0 : Int32) (0) (0))
        refine lv_iconst (v := 1) hx hb dX11_add_31 (by decide) ?_
        refine lv_goto (tgt := 36) hx hb dX11_add_32 (by decide) ?_
        refine lv_istore (lv' := [(4, .int (1 : Int32)), (0, .ref h0), (1, .int p1), (2, .int p2), (3, .int p3)]) hx hb dX11_add_36 hl (by decide) rfl (fun ls hl => ?_)
        refine lv_aload_n hx hb dX11_add_38 rfl (lv_at hl 1 rfl) ?_
        refine wt_rel hx hb hts cfX11 hown hK nh0_52 rfl (by decide) (Or.inl (hts _ q924)) dX11_add_39 ?_
        refine lv_lstore (lv' := [(5, .long mu25), (4, .int (1 : Int32)), (0, .ref h0), (1, .int p1), (2, .int p2), (3, .int p3)]) hx hb dX11_add_42 hl (by decide) rfl (fun ls hl => ?_)
        refine lv_aload_n hx hb dX11_add_44 rfl (lv_at hl 2 rfl) ?_
        refine wt_rel hx hb hts cfX11 hown hK nh0_53 rfl (by decide) (Or.inl (hts _ q925)) dX11_add_45 ?_
        refine lv_lstore (lv' := [(7, .long mb25), (5, .long mu25), (4, .int (1 : Int32)), (0, .ref h0), (1, .int p1), (2, .int p2), (3, .int p3)]) hx hb dX11_add_48 hl (by decide) rfl (fun ls hl => ?_)
        refine lv_iconst (v := -1) hx hb dX11_add_50 (by decide) ?_
        refine lv_istore (lv' := [(9, .int (-1 : Int32)), (7, .long mb25), (5, .long mu25), (4, .int (1 : Int32)), (0, .ref h0), (1, .int p1), (2, .int p2), (3, .int p3)]) hx hb dX11_add_51 hl (by decide) rfl (fun ls hl => ?_)
        refine lv_iconst (v := 0) hx hb dX11_add_53 (by decide) ?_
        refine lv_istore (lv' := [(10, .int (0 : Int32)), (9, .int (-1 : Int32)), (7, .long mb25), (5, .long mu25), (4, .int (1 : Int32)), (0, .ref h0), (1, .int p1), (2, .int p2), (3, .int p3)]) hx hb dX11_add_54 hl (by decide) rfl (fun ls hl => ?_)
        exact w2 _ _ _ (L56 1051 _ _ _ (1 : Int32) mu25 mb25 (-1 : Int32) (0 : Int32) x13 mu25 mb25 hW hI hV hS (lv_sub hl [5, 6, 7, 8, 4, 3, 2, 1, 0] rfl) (ir_w (lo' := 0) (hi' := 1) (ir_c (1) (by decide) : ir (1 : Int32) (1) (1)) (by decide) (by decide)) (⟨vu25, (lr_any mu25).2⟩ : lr mu25 0 9223372036854775807) (⟨vb25, (lr_any mb25).2⟩ : lr mb25 1 9223372036854775807) (ir_w (lo' := -1) (hi' := 1050) (ir_c (-1) (by decide) : ir (-1 : Int32) (-1) (-1)) (by decide) (by decide)) (ir_w (lo' := 0) (hi' := 1050) (ir_c (0) (by decide) : ir (0 : Int32) (0) (0)) (by decide) (by decide)) rx13_18 nh0_7 (⟨vu25, (lr_any mu25).2⟩ : lr mu25 0 9223372036854775807) nh0_52 (⟨vb25, (lr_any mb25).2⟩ : lr mb25 1 9223372036854775807) nh0_53 (by have h20 := (ir_c (-1) (by decide) : ir (-1 : Int32) (-1) (-1)); have h21 := rx13_18; omega) (by have h9 := (ir_c (0) (by decide) : ir (0 : Int32) (0) (0)); omega))
    · have rx13_18 : ir x13 24 24 := rf_eq c18 (ir_c (24) (by decide) : ir (24 : Int32) (24) (24))
      refine lv_iconst (v := -1) hx hb dX11_add_21 (by decide) ?_
      exact W.iret (v := (-1 : Int32)) hx hb hr (fun t ht _ => ⟨⟨(-1 : Int32), (-1 : Int32), rfl, ⟨rfl, trivial⟩, cW_at ht hW, ⟨mI_at ht hI, kp_at ht hV⟩⟩, hS.F ht⟩) hS.2.2 dX11_add_22
  · have rx3_6 : ir x3 0 0 := rf_eq c6 (ir_c (0) (by decide) : ir (0 : Int32) (0) (0))
    refine lv_bipush (v := -2) hx hb dX11_add_9 (by decide) ?_
    exact W.iret (v := (-2 : Int32)) hx hb hr (fun t ht _ => ⟨⟨(-2 : Int32), (-2 : Int32), rfl, ⟨rfl, trivial⟩, cW_at ht hW, ⟨mI_at ht hI, kp_at ht hV⟩⟩, hS.F ht⟩) hS.2.2 dX11_add_11
