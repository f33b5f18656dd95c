set_option maxHeartbeats 4000000 in
set_option maxRecDepth 100000 in
theorem m_X11_isIn_e (l : Launch) (p1 : Int64) (p2 : Int64) (p3 : Int64) : pMi l yX11_isIn cX11_isIn 6 .boolean { frames := 0, cells := 0, slots := 0, locals := 0 } [.long p1, .long p2, .long p3] (fun r => (r = 1 ∧ (p2.toInt ≤ p1.toInt ∧ p1.toInt ≤ p3.toInt)) ∨ (r = 0 ∧ ¬ (p2.toInt ≤ p1.toInt ∧ p1.toInt ≤ p3.toInt))) := by
  refine Met.ofW (cc := cX11_isIn) (maxL := 6) (ret := some .boolean) (by decide) rfl ?_
  intro p e s m args below meth c s₁ B hml hv
  obtain ⟨rfl, -⟩ := hv
  have hx := B.exec
  have hb := B.bytes
  have hr := B.returns
  have hts : ∀ w ∈ lw_g, w.before _ s = true := fun w h => atoms_spec (ws := wc_ws yX11_isIn cX11_isIn 6 (some .boolean)) B.pre w (List.mem_cons_of_mem _ h)
  have hown : s.vm.findClass RX11 = some m.cls := findClass_of_methodNamed B.named
  have hlocks := B.notSynchronized
  have hS : va_S (fun _ => False) s.heap s.heap [] := va_S.rf
  have hl := lv_entry ([.long p1, .long p2, .long p3]) (n := 6) (Nat.le_of_ble_eq_true rfl)
  rw [lg_entry_eq]
  generalize (lg_sl ([.long p1, .long p2, .long p3]) ++ List.replicate (6 - (lg_sl ([.long p1, .long p2, .long p3])).length) Slot.unset).toArray = ls at hl ⊢
  have hl : lv_has ls 6 [(0, .long p1), (2, .long p2), (4, .long p3)] := hl
  refine wq_all ?_
  intro WW w1 w2
  refine lv_lload_n hx hb dX11_isIn_0 rfl (lv_at hl 0 rfl) ?_
  refine lv_lload_n hx hb dX11_isIn_1 rfl (lv_at hl 1 rfl) ?_
  refine wl_lt (tgt := 17) hx hb dX11_isIn_2 dX11_isIn_3 (by decide) (fun c2 => ?_) (fun c2 => ?_)
  · have rp1_2 : lr p1 (-9223372036854775808) 9223372036854775806 := by have h8 := (lr_any p1); have h9 := (lr_any p2); constructor <;> omega
    have rp2_2 : lr p2 (-9223372036854775807) 9223372036854775807 := by have h8 := (lr_any p2); have h9 := rp1_2; constructor <;> omega
    refine lv_iconst (v := 0) hx hb dX11_isIn_17 (by decide) ?_
    exact W.zret (v := (0 : Int32)) hx hb hr rfl (fun t ht _ => ⟨⟨(0 : Int32), (), rfl, (Or.inr ⟨rfl, by omega⟩), trivial⟩, hS.F ht⟩) hS.2.2 dX11_isIn_18
  · refine lv_lload_n hx hb dX11_isIn_6 rfl (lv_at hl 0 rfl) ?_
    refine lv_lload hx hb dX11_isIn_7 (lv_at hl 2 rfl) ?_
    refine wl_gt (tgt := 17) hx hb dX11_isIn_9 dX11_isIn_10 (by decide) (fun c9 => ?_) (fun c9 => ?_)
    · have rp1_9 : lr p1 (-9223372036854775807) 9223372036854775807 := by have h8 := (lr_any p1); have h9 := (lr_any p3); constructor <;> omega
      have rp3_9 : lr p3 (-9223372036854775808) 9223372036854775806 := by have h8 := (lr_any p3); have h9 := rp1_9; constructor <;> omega
      refine lv_iconst (v := 0) hx hb dX11_isIn_17 (by decide) ?_
      exact W.zret (v := (0 : Int32)) hx hb hr rfl (fun t ht _ => ⟨⟨(0 : Int32), (), rfl, (Or.inr ⟨rfl, by omega⟩), trivial⟩, hS.F ht⟩) hS.2.2 dX11_isIn_18
    · refine lv_iconst (v := 1) hx hb dX11_isIn_13 (by decide) ?_
      refine lv_goto (tgt := 18) hx hb dX11_isIn_14 (by decide) ?_
      exact W.zret (v := (1 : Int32)) hx hb hr rfl (fun t ht _ => ⟨⟨(1 : Int32), (), rfl, (Or.inl ⟨rfl, by omega⟩), trivial⟩, hS.F ht⟩) hS.2.2 dX11_isIn_18
/-! THE REFERENCE'S index() -/
def ixr (N : c_N) (bU bV : Nat) (p1 p2 p3 r : Int32) (X : Nat → Nat → Int32) : Prop :=
  ((ir p1 0 5 ∧ ir p2 1 9 ∧ ir p3 1 9) → ((N.2.2.2 bU p1.toNatClampNeg = p2 / gI p2 p3 ∧ N.2.2.2 bV p1.toNatClampNeg = p3 / gI p2 p3) → r = 0 ∧ X = N.2.2.2) ∧ (¬ (N.2.2.2 bU p1.toNatClampNeg = p2 / gI p2 p3 ∧ N.2.2.2 bV p1.toNatClampNeg = p3 / gI p2 p3) → r = 1 ∧ X = uX (uX N.2.2.2 bU p1.toNatClampNeg (p2 / gI p2 p3)) bV p1.toNatClampNeg (p3 / gI p2 p3))) ∧ (¬ (ir p1 0 5 ∧ ir p2 1 9 ∧ ir p3 1 9) → r = 0 ∧ X = N.2.2.2)
set_option maxHeartbeats 4000000 in
set_option maxRecDepth 100000 in
theorem m_X11_index (l : Launch) (N : c_N) (h0 : Nat) (k0 : N.2.2.1 h0 = some 11) (hO : mOK N) (p1 p2 p3 : Int32) (bU bV : Nat) (kU : N.2.2.1 bU = some 40) (kV : N.2.2.1 bV = some 41) : Met l yX11_index (wc_ws yX11_index cX11_index 5 (some .boolean)) { frames := 1, cells := 0, slots := 0, locals := 29 } (va_Pc [.ref h0, .int p1, .int p2, .int p3] (cSp N cT0)) (va_Qi (fun r (X : Nat → Nat → Int32) => ixr N bU bV p1 p2 p3 r X) (fun X t => cW (nX N X) t.heap) (cE N [40, 41])) 0 0 (cE N [40, 41]) := by
  refine Met.ofW (cc := cX11_index) (maxL := 5) (ret := some .boolean) (by decide) rfl ?_
  intro p e s m args below meth c s₁ B hml hv
  obtain ⟨rfl, ⟨hK, hW, hT, hnn⟩, hB⟩ := hv
  have hx := B.exec
  have hb := B.bytes
  have hr := B.returns
  have hts : ∀ w ∈ lw_g, w.before _ s = true := fun w h => atoms_spec (ws := wc_ws yX11_index cX11_index 5 (some .boolean)) B.pre w (List.mem_cons_of_mem _ h)
  have hown : s.vm.findClass RX11 = some m.cls := findClass_of_methodNamed B.named
  have hlocks := B.notSynchronized
  have hS : va_S (cE N [40, 41]) s.heap s.heap [] := va_S.rf
  have hl := lv_entry ([.ref h0, .int p1, .int p2, .int p3]) (n := 5) (Nat.le_of_ble_eq_true rfl)
  rw [lg_entry_eq]
  generalize (lg_sl ([.ref h0, .int p1, .int p2, .int p3]) ++ List.replicate (5 - (lg_sl ([.ref h0, .int p1, .int p2, .int p3])).length) Slot.unset).toArray = ls at hl ⊢
  have hl : lv_has ls 5 [(0, .ref h0), (1, .int p1), (2, .int p2), (3, .int p3)] := hl
  refine wq_all ?_
  intro WW w1 w2
  have J36 : ∀ (H : Heap) (locs : List Loc) (ls : Array Slot), cW N H → va_S (cE N [40, 41]) s.heap H locs → ¬ (ir p1 0 5 ∧ ir p2 1 9 ∧ ir p3 1 9) → WW H locs (F0 m 36 ls []) := by
    intro H locs ls hW hS hno
    refine w1 _ _ _ ?_
    refine lv_iconst (v := 0) hx hb dX11_index_36 (by decide) ?_
    exact W.zret (v := (0 : Int32)) hx hb hr rfl (fun t ht _ => ⟨⟨(0 : Int32), N.2.2.2, rfl, ⟨fun h => absurd h hno, fun _ => ⟨rfl, rfl⟩⟩, cW_at (N := nX N N.2.2.2) ht hW⟩, hS.F ht⟩) hS.2.2 dX11_index_37
  refine lv_iload_n hx hb dX11_index_0 rfl (lv_at hl 1 rfl) ?_
  refine lv_i2l hx hb dX11_index_1 rfl ?_
  refine lv_topl (fun x1 e1 => ?_)
  refine lv_lconst (v := 0) hx hb dX11_index_2 (by decide) ?_
  refine lv_ldc2 hx hb hown (hts _ q1049) dX11_index_3 ?_
  refine cp_i (wt_runS (As := [.long x1, .long (0 : Int64), .long (5 : Int64)]) (rest := []) ⟨hx, hb, hml, hown, hts⟩ (m_X11_isIn_e l x1 (0 : Int64) (5 : Int64)) wm_X11_isIn q1050 ⟨rfl, rfl⟩ ⟨Nat.le_of_ble_eq_true rfl, Nat.le_of_ble_eq_true rfl⟩ pS_pre rfl hl.1 rfl (Nat.le_of_ble_eq_true rfl) dX11_index_6 ⟨Nat.zero_le _, Nat.zero_le _⟩) hW hS (fun x6 H locs hp hW hS oq => ?_)
  rcases hp with ⟨y6, z6⟩ | ⟨y6, z6⟩
  rotate_left
  · subst y6
    have z6 : ¬ (0 ≤ x1.toInt ∧ x1.toInt ≤ 5) := z6
    refine lv_if_eq (tgt := 36) hx hb dX11_index_9 (by decide) (fun c9 => ?_) (fun c9 => absurd rfl c9)
    exact w2 _ _ _ (J36 _ _ _ hW hS (fun h => z6 (by have h9 := h.1; rw [e1, Int32.toInt_toInt64]; exact h9)))
  subst y6
  have z6 : lr x1 0 5 := z6
  have P1 : ir p1 0 5 := i2l_b e1 z6
  refine lv_if_eq (tgt := 36) hx hb dX11_index_9 (by decide) (fun c9 => absurd c9 (by decide)) (fun c9 => ?_)
  refine lv_iload_n hx hb dX11_index_12 rfl (lv_at hl 2 rfl) ?_
  refine lv_i2l hx hb dX11_index_13 rfl ?_
  refine lv_topl (fun x13 e13 => ?_)
  refine lv_lconst (v := 1) hx hb dX11_index_14 (by decide) ?_
  refine lv_ldc2 hx hb hown (hts _ q1053) dX11_index_15 ?_
  refine cp_i (wt_runS (As := [.long x13, .long (1 : Int64), .long (9 : Int64)]) (rest := []) ⟨hx, hb, hml, hown, hts⟩ (m_X11_isIn_e l x13 (1 : Int64) (9 : Int64)) wm_X11_isIn q1050 ⟨rfl, rfl⟩ ⟨Nat.le_of_ble_eq_true rfl, Nat.le_of_ble_eq_true rfl⟩ pS_pre rfl hl.1 rfl (Nat.le_of_ble_eq_true rfl) dX11_index_18 ⟨Nat.zero_le _, Nat.zero_le _⟩) hW hS (fun x18 H locs hp hW hS oq => ?_)
  rcases hp with ⟨y18, z18⟩ | ⟨y18, z18⟩
  rotate_left
  · subst y18
    have z18 : ¬ (1 ≤ x13.toInt ∧ x13.toInt ≤ 9) := z18
    refine lv_if_eq (tgt := 36) hx hb dX11_index_21 (by decide) (fun c9 => ?_) (fun c9 => absurd rfl c9)
    exact w2 _ _ _ (J36 _ _ _ hW hS (fun h => z18 (by have h9 := h.2.1; rw [e13, Int32.toInt_toInt64]; exact h9)))
  subst y18
  have z18 : lr x13 1 9 := z18
  have P2 : ir p2 1 9 := i2l_b e13 z18
  refine lv_if_eq (tgt := 36) hx hb dX11_index_21 (by decide) (fun c9 => absurd c9 (by decide)) (fun c9 => ?_)
  refine lv_iload_n hx hb dX11_index_24 rfl (lv_at hl 3 rfl) ?_
  refine lv_i2l hx hb dX11_index_25 rfl ?_
  refine lv_topl (fun x25 e25 => ?_)
  refine lv_lconst (v := 1) hx hb dX11_index_26 (by decide) ?_
  refine lv_ldc2 hx hb hown (hts _ q1053) dX11_index_27 ?_
  refine cp_i (wt_runS (As := [.long x25, .long (1 : Int64), .long (9 : Int64)]) (rest := []) ⟨hx, hb, hml, hown, hts⟩ (m_X11_isIn_e l x25 (1 : Int64) (9 : Int64)) wm_X11_isIn q1050 ⟨rfl, rfl⟩ ⟨Nat.le_of_ble_eq_true rfl, Nat.le_of_ble_eq_true rfl⟩ pS_pre rfl hl.1 rfl (Nat.le_of_ble_eq_true rfl) dX11_index_30 ⟨Nat.zero_le _, Nat.zero_le _⟩) hW hS (fun x30 H locs hp hW hS oq => ?_)
  rcases hp with ⟨y30, z30⟩ | ⟨y30, z30⟩
  rotate_left
  · subst y30
    have z30 : ¬ (1 ≤ x25.toInt ∧ x25.toInt ≤ 9) := z30
    refine lv_if_ne (tgt := 38) hx hb dX11_index_33 (by decide) (fun c9 => absurd rfl c9) (fun c9 => ?_)
    exact w2 _ _ _ (J36 _ _ _ hW hS (fun h => z30 (by have h9 := h.2.2; rw [e25, Int32.toInt_toInt64]; exact h9)))
  subst y30
  have z30 : lr x25 1 9 := z30
  have P3 : ir p3 1 9 := i2l_b e25 z30
  refine lv_if_ne (tgt := 38) hx hb dX11_index_33 (by decide) (fun c9 => ?_) (fun c9 => absurd c9 (by decide))
  refine lv_iload_n hx hb dX11_index_38 rfl (lv_at hl 2 rfl) ?_
  refine lv_i2l hx hb dX11_index_39 rfl ?_
  refine lv_topl (fun x39 e39 => ?_)
  have r39 : lr x39 1 9 := by rw [e39]; exact i2l_r P2
  refine lv_iload_n hx hb dX11_index_40 rfl (lv_at hl 3 rfl) ?_
  refine lv_i2l hx hb dX11_index_41 rfl ?_
  refine lv_topl (fun x41 e41 => ?_)
  have r41 : lr x41 1 9 := by rw [e41]; exact i2l_r P3
  refine cp_l (wt_runS (As := [.long x39, .long x41]) (rest := []) ⟨hx, hb, hml, hown, hts⟩ (m_X11_gcd l x39 (lr_w r39 (by decide) (by decide)) x41 (lr_w r41 (by decide) (by decide))) wm_X11_gcd q1054 ⟨rfl, rfl⟩ ⟨Nat.le_of_ble_eq_true rfl, Nat.le_of_ble_eq_true rfl⟩ pS_pre rfl hl.1 rfl (Nat.le_of_ble_eq_true rfl) dX11_index_42 ⟨Nat.zero_le _, Nat.zero_le _⟩) hW hS (fun x42 H locs hp hW hS oq => ?_)
  have z42 := gI_by e39 e41 hp P2 P3
  refine lv_l2i hx hb dX11_index_45 rfl ?_
  refine lv_topi (fun x45 e45 => ?_)
  have q45 : x45 = gI p2 p3 := e45.trans z42.1
  have r45 : ir x45 1 9 := by rw [q45]; exact (gI_r P2 P3).2
  refine lv_istore (lv' := [(4, .int x45), (0, .ref h0), (1, .int p1), (2, .int p2), (3, .int p3)]) hx hb dX11_index_46 hl (by decide) rfl (fun ls hl => ?_)
  have J76 : ∀ (H : Heap) (locs : List Loc) (ls : Array Slot), cW N H → va_S (cE N [40, 41]) s.heap H locs → lv_has ls 5 [(4, .int x45), (0, .ref h0), (1, .int p1), (2, .int p2), (3, .int p3)] → ¬ (N.2.2.2 bU p1.toNatClampNeg = p2 / gI p2 p3 ∧ N.2.2.2 bV p1.toNatClampNeg = p3 / gI p2 p3) → WW H locs (F0 m 76 ls []) := by
    intro H locs ls hW hS hl hno
    refine w1 _ _ _ ?_
    refine lv_aload_n hx hb dX11_index_76 rfl (lv_at hl 1 rfl) ?_
    refine lv_iload_n hx hb dX11_index_77 rfl (lv_at hl 2 rfl) ?_
    refine lv_iload_n hx hb dX11_index_78 rfl (lv_at hl 3 rfl) ?_
    refine lv_iload hx hb dX11_index_79 (lv_at hl 0 rfl) ?_
    refine lv_idiv hx hb dX11_index_81 (i_ne0 r45 (by decide)) ?_
    refine lv_topi (fun x81 e81 => ?_)
    refine lv_iload_n hx hb dX11_index_82 rfl (lv_at hl 4 rfl) ?_
    refine lv_iload hx hb dX11_index_83 (lv_at hl 0 rfl) ?_
    refine lv_idiv hx hb dX11_index_85 (i_ne0 r45 (by decide)) ?_
    refine lv_topi (fun x85 e85 => ?_)
    refine va_callv (wt_runV (As := [.int p1, .int x81, .int x85]) (rest := []) ⟨hx, hb, hml, hown, hts⟩ (m_X11_tells l N h0 k0 p1 P1 x81 x85 bU bV kU kV hO.1) wm_X11_tells q868 ⟨rfl, rfl⟩ ⟨Nat.le_of_ble_eq_true rfl, Nat.le_of_ble_eq_true rfl⟩ (cS_preV hK hW hT hnn hS (cg11 k0) rfl rfl trivial) rfl hl.1 rfl (Nat.le_of_ble_eq_true rfl) dX11_index_86 ⟨Nat.zero_le _, Nat.zero_le _⟩) hS (fun q _ h => h) (fun q h => h) (fun X t H1 locs ht hvm hp hB hz hk hS => ?_)
    have hW : cW (nX N X) H1 := by rw [← ht]; exact hB
    refine lv_iconst (v := 1) hx hb dX11_index_89 (by decide) ?_
    exact W.zret (v := (1 : Int32)) hx hb hr rfl (fun t ht _ => ⟨⟨(1 : Int32), X, rfl, ⟨fun _ => ⟨fun h => absurd h hno, fun _ => ⟨rfl, by rw [hp, e81, e85, q45]⟩⟩, fun h => absurd ⟨P1, P2, P3⟩ h⟩, cW_at (N := nX N X) ht hW⟩, hS.F ht⟩) hS.2.2 dX11_index_90
  refine lv_aload_n hx hb dX11_index_48 rfl (lv_at hl 1 rfl) ?_
  refine wt_get hx hb hts cfX11 hown hK hW (cg11 k0) rfl 0 (by decide) q872 dX11_index_49 (fun v hv => ?_)
  obtain ⟨x49, rfl, k49⟩ : gr N 40 v := hv
  have q49 : x49 = bU := hO.1 _ _ 40 (by decide) k49 kU
  refine lv_iload_n hx hb dX11_index_52 rfl (lv_at hl 2 rfl) ?_
  refine wt_iald hx hb hK hW 0 (cg40 k49) rfl (ir_in P1 (by decide) (by decide)) dX11_index_53 (fun v hv => ?_)
  have hv : v = .int _ := hv
  subst hv
  refine lv_topi (fun x53 e53 => ?_)
  refine lv_iload_n hx hb dX11_index_54 rfl (lv_at hl 3 rfl) ?_
  refine lv_iload hx hb dX11_index_55 (lv_at hl 0 rfl) ?_
  refine lv_idiv hx hb dX11_index_57 (i_ne0 r45 (by decide)) ?_
  refine lv_topi (fun x57 e57 => ?_)
  rw [q45] at e57
  rw [q49] at e53
  refine lv_icmp_ne (tgt := 76) hx hb dX11_index_58 (by decide) (fun c58 => ?_) (fun c58 => ?_)
  · exact w2 _ _ _ (J76 _ _ _ hW hS hl (fun h => c58 (by rw [e53, e57]; exact h.1)))
  have c58 : x53 = x57 := by first | exact c58 | exact Classical.not_not.mp c58
  refine lv_aload_n hx hb dX11_index_61 rfl (lv_at hl 1 rfl) ?_
  refine wt_get hx hb hts cfX11 hown hK hW (cg11 k0) rfl 1 (by decide) q873 dX11_index_62 (fun v hv => ?_)
  obtain ⟨x62, rfl, k62⟩ : gr N 41 v := hv
  have q62 : x62 = bV := hO.1 _ _ 41 (by decide) k62 kV
  refine lv_iload_n hx hb dX11_index_65 rfl (lv_at hl 2 rfl) ?_
  refine wt_iald hx hb hK hW 0 (cg41 k62) rfl (ir_in P1 (by decide) (by decide)) dX11_index_66 (fun v hv => ?_)
  have hv : v = .int _ := hv
  subst hv
  refine lv_topi (fun x66 e66 => ?_)
  refine lv_iload_n hx hb dX11_index_67 rfl (lv_at hl 4 rfl) ?_
  refine lv_iload hx hb dX11_index_68 (lv_at hl 0 rfl) ?_
  refine lv_idiv hx hb dX11_index_70 (i_ne0 r45 (by decide)) ?_
  refine lv_topi (fun x70 e70 => ?_)
  rw [q45] at e70
  rw [q62] at e66
  refine lv_icmp_ne (tgt := 76) hx hb dX11_index_71 (by decide) (fun c71 => ?_) (fun c71 => ?_)
  · exact w2 _ _ _ (J76 _ _ _ hW hS hl (fun h => c71 (by rw [e66, e70]; exact h.2)))
  have c71 : x66 = x70 := by first | exact c71 | exact Classical.not_not.mp c71
  refine lv_iconst (v := 0) hx hb dX11_index_74 (by decide) ?_
  exact W.zret (v := (0 : Int32)) hx hb hr rfl (fun t ht _ => ⟨⟨(0 : Int32), N.2.2.2, rfl, ⟨fun _ => ⟨fun _ => ⟨rfl, rfl⟩, fun h => absurd ⟨by rw [← e53, ← e57]; exact c58, by rw [← e66, ← e70]; exact c71⟩ h⟩, fun h => absurd ⟨P1, P2, P3⟩ h⟩, cW_at (N := nX N N.2.2.2) ht hW⟩, hS.F ht⟩) hS.2.2 dX11_index_75
