set_option maxHeartbeats 4000000 in
set_option maxRecDepth 100000 in
theorem m_X11_lays (l : Launch) (N : c_N) (h0 : Nat) (k0 : N.2.2.1 h0 = some 11) (hO : mOK N) (V : Nat → Value) (p1 : Int32) (rp1 : ir p1 0 24) (p2 : Int32) (rp2 : ir p2 0 5) (p3 : Int32) (rp3 : ir p3 0 6) (p4 : Int32) (rp4 : ir p4 0 6) (G : Nat → Prop) (hz : p3.toInt ≠ 0 ∨ p4.toInt ≠ 0) : cMv l yX11_lays cX11_lays 6 { frames := 1, cells := 0, slots := 0, locals := 29 } [.ref h0, .int p1, .int p2, .int p3, .int p4] N [42, 43, 44] (fun H => kp N h0 [] V H ∧ gP N 43 44 25 (fun j => G j) H) (fun H => kp N h0 [] V H ∧ gP N 43 44 25 (fun j => G j ∨ (j : Int) = p1.toInt) H) := by
  refine Met.ofW (cc := cX11_lays) (maxL := 6) (ret := none) (by decide) rfl ?_
  intro p e s m args below meth c s₁ B hml hv
  obtain ⟨rfl, ⟨hK, hW, hT, hnn⟩, hB⟩ := hv
  obtain ⟨hV, hB⟩ := hB
  have hGL := hB
  have hx := B.exec
  have hb := B.bytes
  have hr := B.returns
  have hts : ∀ w ∈ lw_g, w.before _ s = true := fun w h => atoms_spec (ws := wc_ws yX11_lays cX11_lays 6 none) B.pre w (List.mem_cons_of_mem _ h)
  have hown : s.vm.findClass RX11 = some m.cls := findClass_of_methodNamed B.named
  have hlocks := B.notSynchronized
  have hS : va_S (cE N [42, 43, 44]) s.heap s.heap [] := va_S.rf
  have hl := lv_entry ([.ref h0, .int p1, .int p2, .int p3, .int p4]) (n := 6) (Nat.le_of_ble_eq_true rfl)
  rw [lg_entry_eq]
  generalize (lg_sl ([.ref h0, .int p1, .int p2, .int p3, .int p4]) ++ List.replicate (6 - (lg_sl ([.ref h0, .int p1, .int p2, .int p3, .int p4])).length) Slot.unset).toArray = ls at hl ⊢
  have hl : lv_has ls 6 [(0, .ref h0), (1, .int p1), (2, .int p2), (3, .int p3), (4, .int p4)] := hl
  refine wq_all ?_
  intro WW w1 w2
  refine lv_iload_n hx hb dX11_lays_0 rfl (lv_at hl 3 rfl) ?_
  refine lv_i2l hx hb dX11_lays_1 rfl ?_
  refine lv_topl (fun x1 e1 => ?_)
  have r1 : lr x1 0 6 := by rw [e1]; exact i2l_r rp3
  have t1 : x1.toInt = p3.toInt := by rw [e1]; exact Int32.toInt_toInt64 p3
  refine lv_iload hx hb dX11_lays_2 (lv_at hl 4 rfl) ?_
  refine lv_i2l hx hb dX11_lays_4 rfl ?_
  refine lv_topl (fun x4 e4 => ?_)
  have r4 : lr x4 0 6 := by rw [e4]; exact i2l_r rp4
  have t4 : x4.toInt = p4.toInt := by rw [e4]; exact Int32.toInt_toInt64 p4
  refine cp_l (wt_runS (As := [.long x1, .long x4]) (rest := []) ⟨hx, hb, hml, hown, hts⟩ (m_X11_gcd l x1 (lr_w (lo' := -9223372036854775807) (hi' := 9223372036854775807) r1 (by decide) (by decide)) x4 (lr_w (lo' := -9223372036854775807) (hi' := 9223372036854775807) r4 (by decide) (by decide))) wm_X11_gcd q1054 ⟨rfl, rfl⟩ ⟨Nat.le_of_ble_eq_true rfl, Nat.le_of_ble_eq_true rfl⟩ pS_pre rfl hl.1 rfl (Nat.le_of_ble_eq_true rfl) dX11_lays_5 ⟨Nat.zero_le _, Nat.zero_le _⟩) hW hS (fun x5 H locs hp hW1 hS oq => ?_)
  have hV := hV.same hW k0 oq
  have hGL := hGL.same hW oq (by decide) (by decide)
  have hW := hW1
  have y5 : x5.toInt = ((Int.gcd x1.toInt x4.toInt : Nat) : Int) := hp
  have s5 : lr x5 1 6 := gcd_le6 y5 r1 r4 (by decide) (by decide) (by decide) (by decide) (hz_l hz e1 e4)
  refine lv_l2i hx hb dX11_lays_8 rfl ?_
  refine lv_topi (fun x8 e8 => ?_)
  have r8 : ir x8 1 6 := by rw [e8]; exact l2i_r s5 (by decide) (by decide)
  refine lv_istore (lv' := [(5, .int x8), (0, .ref h0), (1, .int p1), (2, .int p2), (3, .int p3), (4, .int p4)]) hx hb dX11_lays_9 hl (by decide) rfl (fun ls hl => ?_)
  have t8 := l2i_t e8 s5 (by decide) (by decide)
  refine lv_aload_n hx hb dX11_lays_11 rfl (lv_at hl 1 rfl) ?_
  refine wt_get hx hb hts cfX11 hown hK hW (cg11 k0) rfl 4 (by decide) q876 dX11_lays_12 (fun v hv => ?_)
  obtain ⟨x12, rfl, k12⟩ : gr N 42 v := hv
  refine lv_iload_n hx hb dX11_lays_15 rfl (lv_at hl 2 rfl) ?_
  refine lv_iload_n hx hb dX11_lays_16 rfl (lv_at hl 3 rfl) ?_
  refine wt_iastp hx hb hK hW hS 0 (cg42 k12) (ce k12 (by decide)) rfl (ir_in rp1 (by decide) (by decide)) (gi_mk rp2) dX11_lays_17 (fun H locs hW hS oq => ?_)
  have hV := hV.keep (oq _ (ne_kind k0 k12 (by decide)))
  have hGL := hGL.put k12 oq (by decide) (by decide)
  refine lv_aload_n hx hb dX11_lays_18 rfl (lv_at hl 1 rfl) ?_
  refine wt_get hx hb hts cfX11 hown hK hW (cg11 k0) rfl 5 (by decide) q877 dX11_lays_19 (fun v hv => ?_)
  obtain ⟨x19, rfl, k19⟩ : gr N 43 v := hv
  refine lv_iload_n hx hb dX11_lays_22 rfl (lv_at hl 2 rfl) ?_
  refine lv_iload_n hx hb dX11_lays_23 rfl (lv_at hl 4 rfl) ?_
  refine lv_iload hx hb dX11_lays_24 (lv_at hl 0 rfl) ?_
  refine lv_idiv hx hb dX11_lays_26 (i_ne0 r8 (by decide)) ?_
  refine lv_topi (fun x26 e26 => ?_)
  have r26 : ir x26 0 6 := ir_div e26 rp3 r8 (by decide) (by decide)
  have t26 := it_div e26 rp3 r8 (by decide) (by decide)
  obtain ⟨fr27, hfr27⟩ := row_exi hW (cg43 k19)
  refine wt_iastx hx hb hK hW hS 0 (cg43 k19) (ce k19 (by decide)) rfl (ir_in rp1 (by decide) (by decide)) (gi_mk r26) dX11_lays_27 (fun H locs hW hS oq hat => ?_)
  have aps27 := ap_of (hat _ hfr27)
  have hV := hV.keep (oq _ (ne_kind k0 k19 (by decide)))
  have hGL := hGL.stA hO (by decide) (by decide) k19 hfr27 (hat _ hfr27) oq
  refine lv_aload_n hx hb dX11_lays_28 rfl (lv_at hl 1 rfl) ?_
  refine wt_get hx hb hts cfX11 hown hK hW (cg11 k0) rfl 6 (by decide) q878 dX11_lays_29 (fun v hv => ?_)
  obtain ⟨x29, rfl, k29⟩ : gr N 44 v := hv
  refine lv_iload_n hx hb dX11_lays_32 rfl (lv_at hl 2 rfl) ?_
  refine lv_iload hx hb dX11_lays_33 (lv_at hl 5 rfl) ?_
  refine lv_iload hx hb dX11_lays_35 (lv_at hl 0 rfl) ?_
  refine lv_idiv hx hb dX11_lays_37 (i_ne0 r8 (by decide)) ?_
  refine lv_topi (fun x37 e37 => ?_)
  have r37 : ir x37 0 6 := ir_div e37 rp4 r8 (by decide) (by decide)
  have t37 := it_div e37 rp4 r8 (by decide) (by decide)
  obtain ⟨fr38, hfr38⟩ := row_exi hW (cg44 k29)
  refine wt_iastx hx hb hK hW hS 0 (cg44 k29) (ce k29 (by decide)) rfl (ir_in rp1 (by decide) (by decide)) (gi_mk r37) dX11_lays_38 (fun H locs hW hS oq hat => ?_)
  have aps27 := aps27.kept (oq _ (ne_kind k19 k29 (by decide)))
  have aps38 := ap_of (hat _ hfr38)
  have hV := hV.keep (oq _ (ne_kind k0 k29 (by decide)))
  have hGL := hGL.stU hO (by decide) (by decide) k29 hfr38 (hat _ hfr38) oq
  have hz2 := lays_nz t26 t37 (by rw [t8, ← t1]; exact gcd_dl y5) (by rw [t8, ← t4]; exact gcd_dr y5) hz
  have hGL : gP N 43 44 25 (fun j => G j ∨ (j : Int) = p1.toInt) H := (hGL.ins hO (by decide) (by decide) k19 k29 aps27 aps38 rfl hz2).sub (fun j hj h => by have h : G j ∨ (j : Int) = p1.toInt := h; show (((G j) ∧ j ≠ p1.toNatClampNeg) ∧ j ≠ p1.toNatClampNeg) ∨ j = p1.toNatClampNeg; have h30 := rp1; have k40 := (ir_clamp rp1 (by decide)).1; by_cases hx : (j : Int) = p1.toInt; exact Or.inr (by omega); exact Or.inl ⟨⟨h.resolve_right hx, by omega⟩, by omega⟩)
  exact W.vret hx hb hr (fun t ht _ => ⟨⟨(), rfl, trivial, cW_at ht hW, ⟨kp_at ht hV, gP_at ht hGL⟩⟩, hS.F ht⟩) hS.2.2 dX11_lays_39
set_option maxHeartbeats 4000000 in
set_option maxRecDepth 100000 in
theorem m_X11_moves (l : Launch) (N : c_N) (h0 : Nat) (k0 : N.2.2.1 h0 = some 11) (hO : mOK N) (V : Nat → Value) (p1 : Int32) (rp1 : ir p1 0 24) (p2 : Int32) (rp2 : ir p2 0 24) (G : Nat → Prop) (hk : ∀ j : Nat, (j : Int) = p2.toInt → G j) (hne : p1.toInt ≠ p2.toInt) : cMv l yX11_moves cX11_moves 3 { frames := 0, cells := 0, slots := 0, locals := 0 } [.ref h0, .int p1, .int p2] N [42, 43, 44] (fun H => kp N h0 [] V H ∧ gP N 43 44 25 (fun j => G j) H) (fun H => kp N h0 [] V H ∧ gP N 43 44 25 (fun j => G j ∨ (j : Int) = p1.toInt) H) := by
  refine Met.ofW (cc := cX11_moves) (maxL := 3) (ret := none) (by decide) rfl ?_
  intro p e s m args below meth c s₁ B hml hv
  obtain ⟨rfl, ⟨hK, hW, hT, hnn⟩, hB⟩ := hv
  obtain ⟨hV, hB⟩ := hB
  have hGL := hB
  have hx := B.exec
  have hb := B.bytes
  have hr := B.returns
  have hts : ∀ w ∈ lw_g, w.before _ s = true := fun w h => atoms_spec (ws := wc_ws yX11_moves cX11_moves 3 none) B.pre w (List.mem_cons_of_mem _ h)
  have hown : s.vm.findClass RX11 = some m.cls := findClass_of_methodNamed B.named
  have hlocks := B.notSynchronized
  have hS : va_S (cE N [42, 43, 44]) s.heap s.heap [] := va_S.rf
  have hl := lv_entry ([.ref h0, .int p1, .int p2]) (n := 3) (Nat.le_of_ble_eq_true rfl)
  rw [lg_entry_eq]
  generalize (lg_sl ([.ref h0, .int p1, .int p2]) ++ List.replicate (3 - (lg_sl ([.ref h0, .int p1, .int p2])).length) Slot.unset).toArray = ls at hl ⊢
  have hl : lv_has ls 3 [(0, .ref h0), (1, .int p1), (2, .int p2)] := hl
  refine wq_all ?_
  intro WW w1 w2
  refine lv_aload_n hx hb dX11_moves_0 rfl (lv_at hl 0 rfl) ?_
  refine wt_getp hx hb hts cfX11 hown hK hW (cg11 k0) rfl 4 (by decide) (Or.inl (hts _ q876)) dX11_moves_1 (fun v hv nh0_4 => ?_)
  obtain ⟨x1, rfl, k1⟩ : gr N 42 v := hv
  refine lv_iload_n hx hb dX11_moves_4 rfl (lv_at hl 1 rfl) ?_
  refine lv_aload_n hx hb dX11_moves_5 rfl (lv_at hl 0 rfl) ?_
  refine wt_rel hx hb hts cfX11 hown hK nh0_4 rfl (by decide) (Or.inl (hts _ q876)) dX11_moves_6 ?_
  refine lv_iload_n hx hb dX11_moves_9 rfl (lv_at hl 2 rfl) ?_
  refine wt_iald hx hb hK hW 0 (cg42 k1) rfl (ir_in rp2 (by decide) (by decide)) dX11_moves_10 (fun v hv => ?_)
  obtain ⟨x10, rfl, r10⟩ : gi 0 5 v := hv
  refine wt_iastp hx hb hK hW hS 0 (cg42 k1) (ce k1 (by decide)) rfl (ir_in rp1 (by decide) (by decide)) (gi_mk r10) dX11_moves_11 (fun H locs hW hS oq => ?_)
  have nh0_4 := nh0_4.kept (oq _ (ne_kind k0 k1 (by decide)))
  have hV := hV.keep (oq _ (ne_kind k0 k1 (by decide)))
  have hGL := hGL.put k1 oq (by decide) (by decide)
  refine lv_aload_n hx hb dX11_moves_12 rfl (lv_at hl 0 rfl) ?_
  refine wt_getp hx hb hts cfX11 hown hK hW (cg11 k0) rfl 5 (by decide) (Or.inl (hts _ q877)) dX11_moves_13 (fun v hv nh0_5 => ?_)
  obtain ⟨x13, rfl, k13⟩ : gr N 43 v := hv
  refine lv_iload_n hx hb dX11_moves_16 rfl (lv_at hl 1 rfl) ?_
  refine lv_aload_n hx hb dX11_moves_17 rfl (lv_at hl 0 rfl) ?_
  refine wt_rel hx hb hts cfX11 hown hK nh0_5 rfl (by decide) (Or.inl (hts _ q877)) dX11_moves_18 ?_
  refine lv_iload_n hx hb dX11_moves_21 rfl (lv_at hl 2 rfl) ?_
  refine wt_ialdx hx hb hK hW 0 (cg43 k13) rfl (ir_in rp2 (by decide) (by decide)) dX11_moves_22 (fun v hv ap22 => ?_)
  obtain ⟨x22, rfl, r22⟩ : gi 0 6 v := hv
  obtain ⟨fr23, hfr23⟩ := row_exi hW (cg43 k13)
  refine wt_iastx hx hb hK hW hS 0 (cg43 k13) (ce k13 (by decide)) rfl (ir_in rp1 (by decide) (by decide)) (gi_mk r22) dX11_moves_23 (fun H locs hW hS oq hat => ?_)
  have nh0_4 := nh0_4.kept (oq _ (ne_kind k0 k13 (by decide)))
  have nh0_5 := nh0_5.kept (oq _ (ne_kind k0 k13 (by decide)))
  have ap22 := ap22.st hat (by have h8 := (ir_clamp rp1 (by decide)).1; have h9 := (ir_clamp rp2 (by decide)).1; omega)
  have aps23 := ap_of (hat _ hfr23)
  have hV := hV.keep (oq _ (ne_kind k0 k13 (by decide)))
  have hGL := hGL.stA hO (by decide) (by decide) k13 hfr23 (hat _ hfr23) oq
  refine lv_aload_n hx hb dX11_moves_24 rfl (lv_at hl 0 rfl) ?_
  refine wt_getp hx hb hts cfX11 hown hK hW (cg11 k0) rfl 6 (by decide) (Or.inl (hts _ q878)) dX11_moves_25 (fun v hv nh0_6 => ?_)
  obtain ⟨x25, rfl, k25⟩ : gr N 44 v := hv
  refine lv_iload_n hx hb dX11_moves_28 rfl (lv_at hl 1 rfl) ?_
  refine lv_aload_n hx hb dX11_moves_29 rfl (lv_at hl 0 rfl) ?_
  refine wt_rel hx hb hts cfX11 hown hK nh0_6 rfl (by decide) (Or.inl (hts _ q878)) dX11_moves_30 ?_
  refine lv_iload_n hx hb dX11_moves_33 rfl (lv_at hl 2 rfl) ?_
  refine wt_ialdx hx hb hK hW 0 (cg44 k25) rfl (ir_in rp2 (by decide) (by decide)) dX11_moves_34 (fun v hv ap34 => ?_)
  obtain ⟨x34, rfl, r34⟩ : gi 0 6 v := hv
  have kc2 := (ir_clamp rp2 (by decide)).1
  have kc1 := (ir_clamp rp1 (by decide)).1
  have hz35 := gP_use hGL k13 k25 ap22 ap34 (by omega) ⟨hk _ kc2, by omega⟩
  obtain ⟨fr35, hfr35⟩ := row_exi hW (cg44 k25)
  refine wt_iastx hx hb hK hW hS 0 (cg44 k25) (ce k25 (by decide)) rfl (ir_in rp1 (by decide) (by decide)) (gi_mk r34) dX11_moves_35 (fun H locs hW hS oq hat => ?_)
  have nh0_4 := nh0_4.kept (oq _ (ne_kind k0 k25 (by decide)))
  have nh0_5 := nh0_5.kept (oq _ (ne_kind k0 k25 (by decide)))
  have nh0_6 := nh0_6.kept (oq _ (ne_kind k0 k25 (by decide)))
  have ap22 := ap22.kept (oq _ (ne_kind k13 k25 (by decide)))
  have aps23 := aps23.kept (oq _ (ne_kind k13 k25 (by decide)))
  have aps35 := ap_of (hat _ hfr35)
  have hV := hV.keep (oq _ (ne_kind k0 k25 (by decide)))
  have hGL := hGL.stU hO (by decide) (by decide) k25 hfr35 (hat _ hfr35) oq
  have hGL : gP N 43 44 25 (fun j => G j ∨ (j : Int) = p1.toInt) H := (hGL.ins hO (by decide) (by decide) k13 k25 aps23 aps35 rfl hz35).sub (fun j hj h => by have h : G j ∨ (j : Int) = p1.toInt := h; show (((G j) ∧ j ≠ p1.toNatClampNeg) ∧ j ≠ p1.toNatClampNeg) ∨ j = p1.toNatClampNeg; have h30 := rp1; have k40 := (ir_clamp rp1 (by decide)).1; by_cases hx : (j : Int) = p1.toInt; exact Or.inr (by omega); exact Or.inl ⟨⟨h.resolve_right hx, by omega⟩, by omega⟩)
  exact W.vret hx hb hr (fun t ht _ => ⟨⟨(), rfl, trivial, cW_at ht hW, ⟨kp_at ht hV, gP_at ht hGL⟩⟩, hS.F ht⟩) hS.2.2 dX11_moves_36
set_option maxHeartbeats 4000000 in
set_option maxRecDepth 100000 in
theorem m_X11_opens (l : Launch) (N : c_N) (h0 : Nat) (k0 : N.2.2.1 h0 = some 11) (hO : mOK N) (V : Nat → Value) (p1 : Int32) (rp1 : ir p1 0 23) (g7 : Int32) (hi : p1.toInt ≤ g7.toInt ∧ g7.toInt ≤ 23) : cMv l yX11_opens cX11_opens 3 { frames := 1, cells := 0, slots := 0, locals := 22 } [.ref h0, .int p1] N [11, 42, 43, 44] (fun H => kp N h0 [7] V H ∧ wt_pin N.1 vwCl h0 11 7 (.int g7) H ∧ gP N 43 44 25 (fun j => (j : Int) < g7.toInt) H) (fun H => kp N h0 [7] V H ∧ ∃ x : Int32, pI N h0 7 x H ∧ x.toInt = g7.toInt + 1 ∧ gP N 43 44 25 (fun j => (j : Int) < g7.toInt + 1 ∧ (j : Int) ≠ p1.toInt) H) := by
  refine Met.ofW (cc := cX11_opens) (maxL := 3) (ret := none) (by decide) rfl ?_
  intro p e s m args below meth c s₁ B hml hv
  obtain ⟨rfl, ⟨hK, hW, hT, hnn⟩, hB⟩ := hv
  obtain ⟨hV, hB⟩ := hB
  have hGL := hB.2
  have nh0_7 := hB.1
  have rg7 : ir g7 0 24 := gi_r (cpin_P hW (cg11 k0) rfl (by decide) nh0_7)
  have hx := B.exec
  have hb := B.bytes
  have hr := B.returns
  have hts : ∀ w ∈ lw_g, w.before _ s = true := fun w h => atoms_spec (ws := wc_ws yX11_opens cX11_opens 3 none) B.pre w (List.mem_cons_of_mem _ h)
  have hown : s.vm.findClass RX11 = some m.cls := findClass_of_methodNamed B.named
  have hlocks := B.notSynchronized
  have hS : va_S (cE N [11, 42, 43, 44]) s.heap s.heap [] := va_S.rf
  have hl := lv_entry ([.ref h0, .int p1]) (n := 3) (Nat.le_of_ble_eq_true rfl)
  rw [lg_entry_eq]
  generalize (lg_sl ([.ref h0, .int p1]) ++ List.replicate (3 - (lg_sl ([.ref h0, .int p1])).length) Slot.unset).toArray = ls at hl ⊢
  have hl : lv_has ls 3 [(0, .ref h0), (1, .int p1)] := hl
  refine wq_all ?_
  intro WW w1 w2
  have L5 : ∀ (n : Nat) (H : Heap) (locs : List Loc) (ls : Array Slot) (v5_2 : Int32), cW N H → kp N h0 [7] V H → gP N 43 44 25 (fun j => (j : Int) < g7.toInt ∨ (v5_2.toInt < (j : Int) ∧ (j : Int) ≤ g7.toInt)) H → va_S (cE N [11, 42, 43, 44]) s.heap H locs → lv_has ls 3 [(0, .ref h0), (1, .int p1), (2, .int v5_2)] → ir p1 0 23 → ir v5_2 0 23 → ir g7 0 23 → wt_pin N.1 vwCl h0 11 7 (.int g7) H → v5_2.toInt ≤ g7.toInt → v5_2.toInt - (0) < (n : Int) → WW H locs (F0 m 5 ls []) := by
    intro n
    induction n with
    | zero =>
      intro H locs ls v5_2 hW hV hGL hS hl rv5_1 rv5_2 ru5_0 nh0_7 rw5_0 mu5
      exfalso
      omega
    | succ n ih5 =>
      intro H locs ls v5_2 hW hV hGL hS hl rv5_1 rv5_2 ru5_0 nh0_7 rw5_0 mu5
      refine w1 _ _ _ ?_
      refine lv_iload_n hx hb dX11_opens_5 rfl (lv_at hl 2 rfl) ?_
      refine lv_iload_n hx hb dX11_opens_6 rfl (lv_at hl 1 rfl) ?_
      refine lv_icmp_le (tgt := 24) hx hb dX11_opens_7 (by decide) (fun c7 => ?_) (fun c7 => ?_)
      · have d7 := Int32.le_iff_toInt_le.mp c7
        have rlim : ir g7 0 23 := ⟨rg7.1, hi.2⟩
        refine lv_aload_n hx hb dX11_opens_24 rfl (lv_at hl 0 rfl) ?_
        refine lv_dup hx hb dX11_opens_25 rfl ?_
        refine wt_rel hx hb hts cfX11 hown hK nh0_7 rfl (by decide) (Or.inl (hts _ q879)) dX11_opens_26 ?_
        refine lv_iconst (v := 1) hx hb dX11_opens_29 (by decide) ?_
        refine lv_iadd hx hb dX11_opens_30 ?_
        refine lv_topi (fun x30 e30 => ?_)
        have t30 : x30.toInt = g7.toInt + (1) := it_add e30 rlim (ir_c (1) (by decide) : ir (1 : Int32) (1) (1)) (by decide) (by decide)
        have r30 : ir x30 1 24 := ir_w (ir_add e30 rlim (ir_c (1) (by decide) : ir (1 : Int32) (1) (1)) (by decide) (by decide)) (by decide) (by decide)
        refine wt_putp hx hb hts cfX11 tyX11 tyX11_ok nmX11 hown hK hW hS (cg11 k0) (ce k0 (by decide)) rfl 7 (by decide) (Or.inl (hts _ q879)) rfl rfl rfl (gi_mk (ir_w (lo' := 0) (hi' := 24) r30 (by decide) (by decide))) dX11_opens_31 (fun H locs hW hS oq o2 np => ?_)
        have nh0_7 : wt_pin N.1 vwCl h0 11 7 (.int x30) H := np
        have hV := hV.put (by decide) o2
        have hGL := hGL.put k0 oq (by decide) (by decide)
        exact W.vret hx hb hr (fun t ht _ => ⟨⟨(), rfl, trivial, cW_at ht hW, ⟨kp_at ht hV, ⟨_, pin_at ht nh0_7, by omega, gP_at ht (hGL.sub (fun j hj h => by have h : (j : Int) < g7.toInt + 1 ∧ (j : Int) ≠ p1.toInt := h; show (j : Int) < g7.toInt ∨ (v5_2.toInt < (j : Int) ∧ (j : Int) ≤ g7.toInt); have h30 := rlim; have h31 := rv5_1; have h32 := rv5_2; omega))⟩⟩⟩, hS.F ht⟩) hS.2.2 dX11_opens_34
      · have rp1_7 : ir p1 0 22 := ⟨(rv5_1).1, Int.le_trans (rf_lt (rf_nle c7) rv5_1 rv5_2).1 (by decide)⟩
        have rv5_2_7 : ir v5_2 1 23 := ⟨Int.le_trans (by decide) (rf_lt (rf_nle c7) rv5_1 rv5_2).2, (rv5_2).2⟩
        have d7 := Int32.lt_iff_toInt_lt.mp (rf_nle c7)
        refine lv_aload_n hx hb dX11_opens_10 rfl (lv_at hl 0 rfl) ?_
        refine lv_iload_n hx hb dX11_opens_11 rfl (lv_at hl 2 rfl) ?_
        refine lv_iload_n hx hb dX11_opens_12 rfl (lv_at hl 2 rfl) ?_
        refine lv_iconst (v := 1) hx hb dX11_opens_13 (by decide) ?_
        refine lv_isub hx hb dX11_opens_14 ?_
        refine lv_topi (fun x14 e14 => ?_)
        have t14 : x14.toInt = v5_2.toInt - (1) := it_sub e14 rv5_2_7 (ir_c (1) (by decide) : ir (1 : Int32) (1) (1)) (by decide) (by decide)
        have r14 : ir x14 0 22 := ir_w (ir_sub e14 rv5_2_7 (ir_c (1) (by decide) : ir (1 : Int32) (1) (1)) (by decide) (by decide)) (by decide) (by decide)
        obtain ⟨V1, hV1⟩ := kp_all hW k0
        have hWo := hW
        refine cc_v (B2 := fun H => kp N h0 [] V1 H ∧ gP N 43 44 25 (fun j => ((j : Int) < g7.toInt ∨ (v5_2.toInt < (j : Int) ∧ (j : Int) ≤ g7.toInt)) ∨ (j : Int) = v5_2.toInt) H) (wt_runV (As := [.int v5_2, .int x14]) (rest := []) ⟨hx, hb, hml, hown, hts⟩ (m_X11_moves l N h0 k0 hO V1 v5_2 (ir_w (lo' := 0) (hi' := 24) rv5_2_7 (by decide) (by decide)) x14 (ir_w (lo' := 0) (hi' := 24) r14 (by decide) (by decide)) (fun j => (j : Int) < g7.toInt ∨ (v5_2.toInt < (j : Int) ∧ (j : Int) ≤ g7.toInt)) (fun j h => by show (j : Int) < g7.toInt ∨ (v5_2.toInt < (j : Int) ∧ (j : Int) ≤ g7.toInt); have h30 := ru5_0; have h31 := rv5_2_7; have h32 := r14; omega) (by have h30 := ru5_0; have h31 := rv5_2_7; have h32 := r14; omega)) wm_X11_moves q1092 ⟨rfl, rfl⟩ ⟨Nat.le_of_ble_eq_true rfl, Nat.le_of_ble_eq_true rfl⟩ (cS_preV (B := fun H => kp N h0 [] V1 H ∧ gP N 43 44 25 (fun j => (j : Int) < g7.toInt ∨ (v5_2.toInt < (j : Int) ∧ (j : Int) ≤ g7.toInt)) H) hK hW hT hnn hS (cg11 k0) rfl rfl (And.intro (kp_of (F := []) hV1) hGL)) rfl hl.1 rfl (Nat.le_of_ble_eq_true rfl) dX11_opens_15 ⟨Nat.zero_le _, Nat.zero_le _⟩) hS (by decide) (fun H locs hW hS oq hB2 => ?_)
        obtain ⟨hV2, hB2⟩ := hB2
        have hV := kp_call hV hV1 hV2 (by decide)
        have hGL : gP N 43 44 25 (fun j => ((j : Int) < g7.toInt ∨ (v5_2.toInt < (j : Int) ∧ (j : Int) ≤ g7.toInt)) ∨ (j : Int) = v5_2.toInt) H := hB2
        have nh0_7 := kp_use hV1 hV2 (by decide) (by decide) nh0_7
        obtain ⟨x18, e18⟩ : ∃ y : Int32, y = v5_2 + (-1) := ⟨_, rfl⟩
        have r18 : ir x18 0 22 := ir_w (ir_add e18 rv5_2_7 (ir_c (-1) (by decide) : ir (-1 : Int32) (-1) (-1)) (by decide) (by decide)) (by decide) (by decide)
        have t18 : x18.toInt = v5_2.toInt + (-1) := it_add e18 rv5_2_7 (ir_c (-1) (by decide) : ir (-1 : Int32) (-1) (-1)) (by decide) (by decide)
        refine lv_iinc (v := x18) (lv' := [(2, .int x18), (0, .ref h0), (1, .int p1)]) hx hb dX11_opens_18 hl (k := 2) rfl (by rw [e18]; rfl) (by decide) rfl (fun ls hl => ?_)
        refine lv_goto (tgt := 5) hx hb dX11_opens_21 (by decide) ?_
        exact w2 _ _ _ (ih5 _ _ _ x18 hW hV (hGL.sub (fun j hj h => by have h : (j : Int) < g7.toInt ∨ (x18.toInt < (j : Int) ∧ (j : Int) ≤ g7.toInt) := h; show ((j : Int) < g7.toInt ∨ (v5_2.toInt < (j : Int) ∧ (j : Int) ≤ g7.toInt)) ∨ (j : Int) = v5_2.toInt; have h30 := ru5_0; have h31 := rv5_2_7; have h32 := r18; omega)) hS (lv_sub hl [1, 2, 0] rfl) (ir_w (lo' := 0) (hi' := 23) rp1_7 (by decide) (by decide)) (ir_w (lo' := 0) (hi' := 23) r18 (by decide) (by decide)) ru5_0 nh0_7 (by have h20 := r18; omega) (by have h9 := r18; omega))
  have rlim : ir g7 0 23 := ⟨rg7.1, hi.2⟩
  refine lv_aload_n hx hb dX11_opens_0 rfl (lv_at hl 0 rfl) ?_
  refine wt_rel hx hb hts cfX11 hown hK nh0_7 rfl (by decide) (Or.inl (hts _ q879)) dX11_opens_1 ?_
  refine lv_istore_n (lv' := [(2, .int g7), (0, .ref h0), (1, .int p1)]) hx hb dX11_opens_4 rfl hl (by decide) rfl (fun ls hl => ?_)
  exact w2 _ _ _ (L5 24 _ _ _ g7 hW hV (hGL.sub (fun j hj h => by have h : (j : Int) < g7.toInt ∨ (g7.toInt < (j : Int) ∧ (j : Int) ≤ g7.toInt) := h; show (j : Int) < g7.toInt; have h30 := rlim; omega)) hS (lv_sub hl [1, 2, 0] rfl) rp1 rlim rlim nh0_7 (by have h20 := rlim; omega) (by have h9 := rlim; omega))
set_option maxHeartbeats 4000000 in
set_option maxRecDepth 100000 in
theorem m_X11_closes (l : Launch) (N : c_N) (h0 : Nat) (k0 : N.2.2.1 h0 = some 11) (hO : mOK N) (V : Nat → Value) (p1 : Int32) (rp1 : ir p1 0 23) (g7 : Int32) (hi : p1.toInt < g7.toInt) : cMv l yX11_closes cX11_closes 3 { frames := 1, cells := 0, slots := 0, locals := 22 } [.ref h0, .int p1] N [11, 42, 43, 44] (fun H => kp N h0 [7] V H ∧ wt_pin N.1 vwCl h0 11 7 (.int g7) H ∧ gP N 43 44 25 (fun j => (j : Int) < g7.toInt) H) (fun H => kp N h0 [7] V H ∧ ∃ x : Int32, pI N h0 7 x H ∧ x.toInt = g7.toInt - 1 ∧ gP N 43 44 25 (fun j => (j : Int) < g7.toInt - 1) H) := by
  refine Met.ofW (cc := cX11_closes) (maxL := 3) (ret := none) (by decide) rfl ?_
  intro p e s m args below meth c s₁ B hml hv
  obtain ⟨rfl, ⟨hK, hW, hT, hnn⟩, hB⟩ := hv
  obtain ⟨hV, hB⟩ := hB
  have hGL := hB.2
  have nh0_7 := hB.1
  have rg7 : ir g7 0 24 := gi_r (cpin_P hW (cg11 k0) rfl (by decide) nh0_7)
  have hx := B.exec
  have hb := B.bytes
  have hr := B.returns
  have hts : ∀ w ∈ lw_g, w.before _ s = true := fun w h => atoms_spec (ws := wc_ws yX11_closes cX11_closes 3 none) B.pre w (List.mem_cons_of_mem _ h)
  have hown : s.vm.findClass RX11 = some m.cls := findClass_of_methodNamed B.named
  have hlocks := B.notSynchronized
  have hS : va_S (cE N [11, 42, 43, 44]) s.heap s.heap [] := va_S.rf
  have hl := lv_entry ([.ref h0, .int p1]) (n := 3) (Nat.le_of_ble_eq_true rfl)
  rw [lg_entry_eq]
  generalize (lg_sl ([.ref h0, .int p1]) ++ List.replicate (3 - (lg_sl ([.ref h0, .int p1])).length) Slot.unset).toArray = ls at hl ⊢
  have hl : lv_has ls 3 [(0, .ref h0), (1, .int p1)] := hl
  refine wq_all ?_
  intro WW w1 w2
  have L12 : ∀ (n : Nat) (H : Heap) (locs : List Loc) (ls : Array Slot) (v12_2 : Int32) (u12_0 : Int32), cW N H → kp N h0 [7] V H → gP N 43 44 25 (fun j => (j : Int) < g7.toInt) H → va_S (cE N [11, 42, 43, 44]) s.heap H locs → lv_has ls 3 [(0, .ref h0), (2, .int v12_2)] → ir v12_2 0 23 → ir u12_0 0 23 → wt_pin N.1 vwCl h0 11 7 (.int u12_0) H → u12_0.toInt = g7.toInt - 1 → 23 - v12_2.toInt < (n : Int) → WW H locs (F0 m 12 ls []) := by
    intro n
    induction n with
    | zero =>
      intro H locs ls v12_2 u12_0 hW hV hGL hS hl rv12_2 ru12_0 nh0_7 rw12_0 mu12
      exfalso
      omega
    | succ n ih12 =>
      intro H locs ls v12_2 u12_0 hW hV hGL hS hl rv12_2 ru12_0 nh0_7 rw12_0 mu12
      refine w1 _ _ _ ?_
      refine lv_iload_n hx hb dX11_closes_12 rfl (lv_at hl 1 rfl) ?_
      refine lv_aload_n hx hb dX11_closes_13 rfl (lv_at hl 0 rfl) ?_
      refine wt_rel hx hb hts cfX11 hown hK nh0_7 rfl (by decide) (Or.inl (hts _ q879)) dX11_closes_14 ?_
      refine lv_icmp_ge (tgt := 34) hx hb dX11_closes_17 (by decide) (fun c17 => ?_) (fun c17 => ?_)
      · have d17 := Int32.le_iff_toInt_le.mp c17
        exact W.vret hx hb hr (fun t ht _ => ⟨⟨(), rfl, trivial, cW_at ht hW, ⟨kp_at ht hV, ⟨_, pin_at ht nh0_7, by omega, gP_at ht (hGL.sub (fun j hj h => by have h : (j : Int) < g7.toInt - 1 := h; show (j : Int) < g7.toInt; have h30 := rg7; omega))⟩⟩⟩, hS.F ht⟩) hS.2.2 dX11_closes_34
      · have rv12_2_17 : ir v12_2 0 22 := ⟨(rv12_2).1, Int.le_trans (rf_lt (rf_nle c17) rv12_2 ru12_0).1 (by decide)⟩
        have ru12_0_17 : ir u12_0 1 23 := ⟨Int.le_trans (by decide) (rf_lt (rf_nle c17) rv12_2 ru12_0).2, (ru12_0).2⟩
        have d17 := Int32.lt_iff_toInt_lt.mp (rf_nle c17)
        refine lv_aload_n hx hb dX11_closes_20 rfl (lv_at hl 0 rfl) ?_
        refine lv_iload_n hx hb dX11_closes_21 rfl (lv_at hl 1 rfl) ?_
        refine lv_iload_n hx hb dX11_closes_22 rfl (lv_at hl 1 rfl) ?_
        refine lv_iconst (v := 1) hx hb dX11_closes_23 (by decide) ?_
        refine lv_iadd hx hb dX11_closes_24 ?_
        refine lv_topi (fun x24 e24 => ?_)
        have t24 : x24.toInt = v12_2.toInt + (1) := it_add e24 rv12_2_17 (ir_c (1) (by decide) : ir (1 : Int32) (1) (1)) (by decide) (by decide)
        have r24 : ir x24 1 23 := ir_w (ir_add e24 rv12_2_17 (ir_c (1) (by decide) : ir (1 : Int32) (1) (1)) (by decide) (by decide)) (by decide) (by decide)
        obtain ⟨V1, hV1⟩ := kp_all hW k0
        have hWo := hW
        refine cc_v (B2 := fun H => kp N h0 [] V1 H ∧ gP N 43 44 25 (fun j => ((j : Int) < g7.toInt) ∨ (j : Int) = v12_2.toInt) H) (wt_runV (As := [.int v12_2, .int x24]) (rest := []) ⟨hx, hb, hml, hown, hts⟩ (m_X11_moves l N h0 k0 hO V1 v12_2 (ir_w (lo' := 0) (hi' := 24) rv12_2_17 (by decide) (by decide)) x24 (ir_w (lo' := 0) (hi' := 24) r24 (by decide) (by decide)) (fun j => (j : Int) < g7.toInt) (fun j h => by show (j : Int) < g7.toInt; have h30 := rg7; have h31 := rv12_2_17; have h32 := r24; omega) (by have h30 := rg7; have h31 := rv12_2_17; have h32 := r24; omega)) wm_X11_moves q1092 ⟨rfl, rfl⟩ ⟨Nat.le_of_ble_eq_true rfl, Nat.le_of_ble_eq_true rfl⟩ (cS_preV (B := fun H => kp N h0 [] V1 H ∧ gP N 43 44 25 (fun j => (j : Int) < g7.toInt) H) hK hW hT hnn hS (cg11 k0) rfl rfl (And.intro (kp_of (F := []) hV1) hGL)) rfl hl.1 rfl (Nat.le_of_ble_eq_true rfl) dX11_closes_25 ⟨Nat.zero_le _, Nat.zero_le _⟩) hS (by decide) (fun H locs hW hS oq hB2 => ?_)
        obtain ⟨hV2, hB2⟩ := hB2
        have hV := kp_call hV hV1 hV2 (by decide)
        have hGL : gP N 43 44 25 (fun j => ((j : Int) < g7.toInt) ∨ (j : Int) = v12_2.toInt) H := hB2
        have nh0_7 := kp_use hV1 hV2 (by decide) (by decide) nh0_7
        obtain ⟨x28, e28⟩ : ∃ y : Int32, y = v12_2 + 1 := ⟨_, rfl⟩
        have r28 : ir x28 1 23 := ir_w (ir_add e28 rv12_2_17 (ir_c (1) (by decide) : ir (1 : Int32) (1) (1)) (by decide) (by decide)) (by decide) (by decide)
        have t28 : x28.toInt = v12_2.toInt + (1) := it_add e28 rv12_2_17 (ir_c (1) (by decide) : ir (1 : Int32) (1) (1)) (by decide) (by decide)
        refine lv_iinc (v := x28) (lv' := [(2, .int x28), (0, .ref h0)]) hx hb dX11_closes_28 hl (k := 1) rfl (by rw [e28]; rfl) (by decide) rfl (fun ls hl => ?_)
        refine lv_goto (tgt := 12) hx hb dX11_closes_31 (by decide) ?_
        exact w2 _ _ _ (ih12 _ _ _ x28 u12_0 hW hV (hGL.sub (fun j hj h => by have h : (j : Int) < g7.toInt := h; show ((j : Int) < g7.toInt) ∨ (j : Int) = v12_2.toInt; have h30 := rg7; have h31 := rv12_2_17; omega)) hS (lv_sub hl [1, 0] rfl) (ir_w (lo' := 0) (hi' := 23) r28 (by decide) (by decide)) (ir_w (lo' := 0) (hi' := 23) ru12_0_17 (by decide) (by decide)) nh0_7 (by have h20 := ru12_0_17; omega) (by have h9 := r28; omega))
  have rlim : ir g7 1 24 := ⟨by have := rp1.1; omega, rg7.2⟩
  refine lv_aload_n hx hb dX11_closes_0 rfl (lv_at hl 0 rfl) ?_
  refine lv_dup hx hb dX11_closes_1 rfl ?_
  refine wt_rel hx hb hts cfX11 hown hK nh0_7 rfl (by decide) (Or.inl (hts _ q879)) dX11_closes_2 ?_
  refine lv_iconst (v := 1) hx hb dX11_closes_5 (by decide) ?_
  refine lv_isub hx hb dX11_closes_6 ?_
  refine lv_topi (fun x6 e6 => ?_)
  have t6 : x6.toInt = g7.toInt - (1) := it_sub e6 rlim (ir_c (1) (by decide) : ir (1 : Int32) (1) (1)) (by decide) (by decide)
  have r6 : ir x6 0 23 := ir_w (ir_sub e6 rlim (ir_c (1) (by decide) : ir (1 : Int32) (1) (1)) (by decide) (by decide)) (by decide) (by decide)
  refine wt_putp hx hb hts cfX11 tyX11 tyX11_ok nmX11 hown hK hW hS (cg11 k0) (ce k0 (by decide)) rfl 7 (by decide) (Or.inl (hts _ q879)) rfl rfl rfl (gi_mk (ir_w (lo' := 0) (hi' := 24) r6 (by decide) (by decide))) dX11_closes_7 (fun H locs hW hS oq o2 np => ?_)
  have nh0_7 : wt_pin N.1 vwCl h0 11 7 (.int x6) H := np
  have hV := hV.put (by decide) o2
  have hGL := hGL.put k0 oq (by decide) (by decide)
  refine lv_iload_n hx hb dX11_closes_10 rfl (lv_at hl 1 rfl) ?_
  refine lv_istore_n (lv' := [(2, .int p1), (0, .ref h0), (1, .int p1)]) hx hb dX11_closes_11 rfl hl (by decide) rfl (fun ls hl => ?_)
  exact w2 _ _ _ (L12 24 _ _ _ p1 x6 hW hV hGL hS (lv_sub hl [1, 0] rfl) rp1 r6 nh0_7 (by have h20 := r6; omega) (by have h9 := rp1; omega))
