set_option maxHeartbeats 4000000 in
set_option maxRecDepth 100000 in
theorem m_X11_begins (l : Launch) (N : c_N) (h0 : Nat) (k0 : N.2.2.1 h0 = some 11) (hO : mOK N) (V : Nat → Value) : cMv l yX11_begins cX11_begins 1 { frames := 0, cells := 0, slots := 0, locals := 0 } [.ref h0] N [11] (fun H => mI N h0 H ∧ kp N h0 [34, 35, 36, 37, 38] V H) (fun H => mI N h0 H ∧ kp N h0 [34, 35, 36, 37, 38] V H ∧ pL N h0 34 1 H ∧ pL N h0 35 0 H ∧ pL N h0 36 0 H ∧ pL N h0 37 1 H ∧ pI N h0 38 1 H) := by
  refine Met.ofW (cc := cX11_begins) (maxL := 1) (ret := none) (by decide) rfl ?_
  intro p e s m args below meth c s₁ B hml hv
  obtain ⟨rfl, ⟨hK, hW, hT, hnn⟩, hB⟩ := hv
  obtain ⟨hI, hV⟩ := hB
  have hx := B.exec
  have hb := B.bytes
  have hr := B.returns
  have hts : ∀ w ∈ lw_g, w.before _ s = true := fun w h => atoms_spec (ws := wc_ws yX11_begins cX11_begins 1 none) B.pre w (List.mem_cons_of_mem _ h)
  have hown : s.vm.findClass RX11 = some m.cls := findClass_of_methodNamed B.named
  have hlocks := B.notSynchronized
  have hS : va_S (cE N [11]) s.heap s.heap [] := va_S.rf
  have hl := lv_entry ([.ref h0]) (n := 1) (Nat.le_of_ble_eq_true rfl)
  rw [lg_entry_eq]
  generalize (lg_sl ([.ref h0]) ++ List.replicate (1 - (lg_sl ([.ref h0])).length) Slot.unset).toArray = ls at hl ⊢
  have hl : lv_has ls 1 [(0, .ref h0)] := hl
  refine wq_all ?_
  intro WW w1 w2
  refine lv_aload_n hx hb dX11_begins_0 rfl (lv_at hl 0 rfl) ?_
  refine lv_lconst (v := 1) hx hb dX11_begins_1 (by decide) ?_
  refine wt_putp hx hb hts cfX11 tyX11 tyX11_ok nmX11 hown hK hW hS (cg11 k0) (ce k0 (by decide)) rfl 34 (by decide) (Or.inl (hts _ q906)) rfl rfl rfl gl_mk dX11_begins_2 (fun H locs hW hS oq o2 np => ?_)
  have nh0_34 : wt_pin N.1 vwCl h0 11 34 (.long (1 : Int64)) H := np
  have hV := hV.put (by decide) o2
  obtain ⟨iL, iP, iR, iB, iM⟩ := hI
  have iL := QL.fr.put iL k0 oq o2 (by decide) (by decide)
  have iP := QP.fr.put iP k0 oq o2 (by decide) (by decide)
  have iR := QR.fr.put iR k0 oq o2 (by decide) (by decide)
  have iB := QB.fr.put iB k0 oq o2 (by decide) (by decide)
  refine lv_aload_n hx hb dX11_begins_5 rfl (lv_at hl 0 rfl) ?_
  refine lv_lconst (v := 0) hx hb dX11_begins_6 (by decide) ?_
  refine wt_putp hx hb hts cfX11 tyX11 tyX11_ok nmX11 hown hK hW hS (cg11 k0) (ce k0 (by decide)) rfl 35 (by decide) (Or.inl (hts _ q907)) rfl rfl rfl gl_mk dX11_begins_7 (fun H locs hW hS oq o2 np => ?_)
  have nh0_34 := o2 34 _ (by decide) (by decide) nh0_34
  have nh0_35 : wt_pin N.1 vwCl h0 11 35 (.long (0 : Int64)) H := np
  have hV := hV.put (by decide) o2
  have iL := QL.fr.put iL k0 oq o2 (by decide) (by decide)
  have iP := QP.fr.put iP k0 oq o2 (by decide) (by decide)
  have iR := QR.fr.put iR k0 oq o2 (by decide) (by decide)
  have iB := QB.fr.put iB k0 oq o2 (by decide) (by decide)
  refine lv_aload_n hx hb dX11_begins_10 rfl (lv_at hl 0 rfl) ?_
  refine lv_lconst (v := 0) hx hb dX11_begins_11 (by decide) ?_
  refine wt_putp hx hb hts cfX11 tyX11 tyX11_ok nmX11 hown hK hW hS (cg11 k0) (ce k0 (by decide)) rfl 36 (by decide) (Or.inl (hts _ q908)) rfl rfl rfl gl_mk dX11_begins_12 (fun H locs hW hS oq o2 np => ?_)
  have nh0_34 := o2 34 _ (by decide) (by decide) nh0_34
  have nh0_35 := o2 35 _ (by decide) (by decide) nh0_35
  have nh0_36 : wt_pin N.1 vwCl h0 11 36 (.long (0 : Int64)) H := np
  have hV := hV.put (by decide) o2
  have iL := QL.fr.put iL k0 oq o2 (by decide) (by decide)
  have iP := QP.fr.put iP k0 oq o2 (by decide) (by decide)
  have iR := QR.fr.put iR k0 oq o2 (by decide) (by decide)
  have iB := QB.fr.put iB k0 oq o2 (by decide) (by decide)
  refine lv_aload_n hx hb dX11_begins_15 rfl (lv_at hl 0 rfl) ?_
  refine lv_lconst (v := 1) hx hb dX11_begins_16 (by decide) ?_
  refine wt_putp hx hb hts cfX11 tyX11 tyX11_ok nmX11 hown hK hW hS (cg11 k0) (ce k0 (by decide)) rfl 37 (by decide) (Or.inl (hts _ q909)) rfl rfl rfl gl_mk dX11_begins_17 (fun H locs hW hS oq o2 np => ?_)
  have nh0_34 := o2 34 _ (by decide) (by decide) nh0_34
  have nh0_35 := o2 35 _ (by decide) (by decide) nh0_35
  have nh0_36 := o2 36 _ (by decide) (by decide) nh0_36
  have nh0_37 : wt_pin N.1 vwCl h0 11 37 (.long (1 : Int64)) H := np
  have hV := hV.put (by decide) o2
  have iL := QL.fr.put iL k0 oq o2 (by decide) (by decide)
  have iP := QP.fr.put iP k0 oq o2 (by decide) (by decide)
  have iR := QR.fr.put iR k0 oq o2 (by decide) (by decide)
  have iB := QB.fr.put iB k0 oq o2 (by decide) (by decide)
  refine lv_aload_n hx hb dX11_begins_20 rfl (lv_at hl 0 rfl) ?_
  refine lv_iconst (v := 1) hx hb dX11_begins_21 (by decide) ?_
  refine wt_putp hx hb hts cfX11 tyX11 tyX11_ok nmX11 hown hK hW hS (cg11 k0) (ce k0 (by decide)) rfl 38 (by decide) (Or.inl (hts _ q910)) rfl rfl rfl (gi_mk (ir_w (lo' := 0) (hi' := 1) (ir_c (1) (by decide) : ir (1 : Int32) (1) (1)) (by decide) (by decide))) dX11_begins_22 (fun H locs hW hS oq o2 np => ?_)
  have nh0_34 := o2 34 _ (by decide) (by decide) nh0_34
  have nh0_35 := o2 35 _ (by decide) (by decide) nh0_35
  have nh0_36 := o2 36 _ (by decide) (by decide) nh0_36
  have nh0_37 := o2 37 _ (by decide) (by decide) nh0_37
  have nh0_38 : wt_pin N.1 vwCl h0 11 38 (.int (1 : Int32)) H := np
  have hV := hV.put (by decide) o2
  have iL := QL.fr.put iL k0 oq o2 (by decide) (by decide)
  have iP := QP.fr.put iP k0 oq o2 (by decide) (by decide)
  have iR := QR.fr.put iR k0 oq o2 (by decide) (by decide)
  have iB := QB.fr.put iB k0 oq o2 (by decide) (by decide)
  have iM : QM N h0 H := ⟨_, _, _, _, _, nh0_34, nh0_35, nh0_36, nh0_37, nh0_38, fun _ => det_unit⟩
  have hI : mI N h0 H := ⟨iL, iP, iR, iB, iM⟩
  exact W.vret hx hb hr (fun t ht _ => ⟨⟨(), rfl, trivial, cW_at ht hW, ⟨mI_at ht hI, kp_at ht hV, ⟨pin_at ht nh0_34, pin_at ht nh0_35, pin_at ht nh0_36, pin_at ht nh0_37, pin_at ht nh0_38⟩⟩⟩, hS.F ht⟩) hS.2.2 dX11_begins_25
