set_option maxHeartbeats 4000000 in
set_option maxRecDepth 100000 in
theorem m_X11_takes (l : Launch) (N : c_N) (h0 : Nat) (k0 : N.2.2.1 h0 = some 11) (hO : mOK N) (V : Nat → Value) (p1 : Int32) (rp1 : ir p1 0 3) (p2 : Int32) (rp2 : ir p2 1 4) (J : Nat → Prop) (hj : J (sl p1 p2)) : cMv l yX11_takes cX11_takes 4 { frames := 0, cells := 0, slots := 0, locals := 0 } [.ref h0, .int p1, .int p2] N [11] (fun H => mI N h0 H ∧ kp N h0 [34, 35, 36, 37, 38] V H ∧ tJ N J H) (fun H => mI N h0 H ∧ kp N h0 [34, 35, 36, 37, 38] V H ∧ tJ N J H) := by
  refine Met.ofW (cc := cX11_takes) (maxL := 4) (ret := none) (by decide) rfl ?_
  intro p e s m args below meth c s₁ B hml hv
  obtain ⟨rfl, ⟨hK, hW, hT, hnn⟩, hB⟩ := hv
  obtain ⟨hI, hV, hB⟩ := hB
  have hQ : tJ N J s.heap := hB
  have hx := B.exec
  have hb := B.bytes
  have hr := B.returns
  have hts : ∀ w ∈ lw_g, w.before _ s = true := fun w h => atoms_spec (ws := wc_ws yX11_takes cX11_takes 4 none) B.pre w (List.mem_cons_of_mem _ h)
  have hown : s.vm.findClass RX11 = some m.cls := findClass_of_methodNamed B.named
  have hlocks := B.notSynchronized
  have hS : va_S (cE N [11]) s.heap s.heap [] := va_S.rf
  have hl := lv_entry ([.ref h0, .int p1, .int p2]) (n := 4) (Nat.le_of_ble_eq_true rfl)
  rw [lg_entry_eq]
  generalize (lg_sl ([.ref h0, .int p1, .int p2]) ++ List.replicate (4 - (lg_sl ([.ref h0, .int p1, .int p2])).length) Slot.unset).toArray = ls at hl ⊢
  have hl : lv_has ls 4 [(0, .ref h0), (1, .int p1), (2, .int p2)] := hl
  refine wq_all ?_
  intro WW w1 w2
  refine lv_bipush (v := 16) hx hb dX11_takes_0 (by decide) ?_
  refine lv_iload_n hx hb dX11_takes_2 rfl (lv_at hl 1 rfl) ?_
  refine lv_imul hx hb dX11_takes_3 ?_
  refine lv_topi (fun x3 e3 => ?_)
  have t3 : x3.toInt = (16) * p1.toInt := (it_mul e3 (ir_c (16) (by decide) : ir (16 : Int32) (16) (16)) rp1 (by decide) (by decide) (by decide)).1
  have r3 : ir x3 0 48 := ir_w (it_mul e3 (ir_c (16) (by decide) : ir (16 : Int32) (16) (16)) rp1 (by decide) (by decide) (by decide)).2 (by decide) (by decide)
  refine lv_iconst (v := 4) hx hb dX11_takes_4 (by decide) ?_
  refine lv_iload_n hx hb dX11_takes_5 rfl (lv_at hl 2 rfl) ?_
  refine lv_iconst (v := 1) hx hb dX11_takes_6 (by decide) ?_
  refine lv_isub hx hb dX11_takes_7 ?_
  refine lv_topi (fun x7 e7 => ?_)
  have t7 : x7.toInt = p2.toInt - (1) := it_sub e7 rp2 (ir_c (1) (by decide) : ir (1 : Int32) (1) (1)) (by decide) (by decide)
  have r7 : ir x7 0 3 := ir_w (ir_sub e7 rp2 (ir_c (1) (by decide) : ir (1 : Int32) (1) (1)) (by decide) (by decide)) (by decide) (by decide)
  refine lv_imul hx hb dX11_takes_8 ?_
  refine lv_topi (fun x8 e8 => ?_)
  have t8 : x8.toInt = (4) * x7.toInt := (it_mul e8 (ir_c (4) (by decide) : ir (4 : Int32) (4) (4)) r7 (by decide) (by decide) (by decide)).1
  have r8 : ir x8 0 12 := ir_w (it_mul e8 (ir_c (4) (by decide) : ir (4 : Int32) (4) (4)) r7 (by decide) (by decide) (by decide)).2 (by decide) (by decide)
  refine lv_iadd hx hb dX11_takes_9 ?_
  refine lv_topi (fun x9 e9 => ?_)
  have t9 : x9.toInt = x3.toInt + x8.toInt := it_add e9 r3 r8 (by decide) (by decide)
  have r9 : ir x9 0 60 := ir_w (ir_add e9 r3 r8 (by decide) (by decide)) (by decide) (by decide)
  refine lv_istore_n (lv' := [(3, .int x9), (0, .ref h0), (1, .int p1), (2, .int p2)]) hx hb dX11_takes_10 rfl hl (by decide) rfl (fun ls hl => ?_)
  refine lv_aload_n hx hb dX11_takes_11 rfl (lv_at hl 1 rfl) ?_
  refine lv_aload_n hx hb dX11_takes_12 rfl (lv_at hl 1 rfl) ?_
  refine wt_getp hx hb hts cfX11 hown hK hW (cg11 k0) rfl 43 (by decide) (Or.inl (hts _ q915)) dX11_takes_13 (fun v hv nh0_43 => ?_)
  obtain ⟨x13, rfl, k13⟩ : gr N 56 v := hv
  refine lv_iload_n hx hb dX11_takes_16 rfl (lv_at hl 0 rfl) ?_
  refine wt_laldx hx hb hK hW 1 (cg56 k13) rfl (ir_in (ir_w (lo' := 0) (hi' := 63) r9 (by decide) (by decide)) (by decide) (by decide)) dX11_takes_17 (fun v hv ap17 => ?_)
  obtain ⟨x17, rfl⟩ : gl v := hv
  refine wt_putp hx hb hts cfX11 tyX11 tyX11_ok nmX11 hown hK hW hS (cg11 k0) (ce k0 (by decide)) rfl 34 (by decide) (Or.inl (hts _ q906)) rfl rfl rfl gl_mk dX11_takes_18 (fun H locs hW hS oq o2 np => ?_)
  have nh0_43 := o2 43 _ (by decide) (by decide) nh0_43
  have ap17 := ap17.kept (oq _ (ne_kind k13 k0 (by decide)))
  have nh0_34 : wt_pin N.1 vwCl h0 11 34 (.long x17) H := np
  have hV := hV.put (by decide) o2
  have hQ := hQ.fr (fun a ka => oq a (ne_kind ka k0 (by decide)))
  obtain ⟨iL, iP, iR, iB, iM⟩ := hI
  have iL := QL.fr.put iL k0 oq o2 (by decide) (by decide)
  have iP := QP.fr.put iP k0 oq o2 (by decide) (by decide)
  have iR := QR.fr.put iR k0 oq o2 (by decide) (by decide)
  have iB := QB.fr.put iB k0 oq o2 (by decide) (by decide)
  refine lv_aload_n hx hb dX11_takes_21 rfl (lv_at hl 1 rfl) ?_
  refine lv_aload_n hx hb dX11_takes_22 rfl (lv_at hl 1 rfl) ?_
  refine wt_rel hx hb hts cfX11 hown hK nh0_43 rfl (by decide) (Or.inl (hts _ q915)) dX11_takes_23 ?_
  refine lv_iload_n hx hb dX11_takes_26 rfl (lv_at hl 0 rfl) ?_
  refine lv_iconst (v := 1) hx hb dX11_takes_27 (by decide) ?_
  refine lv_iadd hx hb dX11_takes_28 ?_
  refine lv_topi (fun x28 e28 => ?_)
  have t28 : x28.toInt = x9.toInt + (1) := it_add e28 r9 (ir_c (1) (by decide) : ir (1 : Int32) (1) (1)) (by decide) (by decide)
  have r28 : ir x28 1 61 := ir_w (ir_add e28 r9 (ir_c (1) (by decide) : ir (1 : Int32) (1) (1)) (by decide) (by decide)) (by decide) (by decide)
  refine wt_laldx hx hb hK hW 1 (cg56 k13) rfl (ir_in (ir_w (lo' := 0) (hi' := 63) r28 (by decide) (by decide)) (by decide) (by decide)) dX11_takes_29 (fun v hv ap29 => ?_)
  obtain ⟨x29, rfl⟩ : gl v := hv
  refine wt_putp hx hb hts cfX11 tyX11 tyX11_ok nmX11 hown hK hW hS (cg11 k0) (ce k0 (by decide)) rfl 35 (by decide) (Or.inl (hts _ q907)) rfl rfl rfl gl_mk dX11_takes_30 (fun H locs hW hS oq o2 np => ?_)
  have nh0_43 := o2 43 _ (by decide) (by decide) nh0_43
  have nh0_34 := o2 34 _ (by decide) (by decide) nh0_34
  have ap17 := ap17.kept (oq _ (ne_kind k13 k0 (by decide)))
  have ap29 := ap29.kept (oq _ (ne_kind k13 k0 (by decide)))
  have nh0_35 : wt_pin N.1 vwCl h0 11 35 (.long x29) H := np
  have hV := hV.put (by decide) o2
  have hQ := hQ.fr (fun a ka => oq a (ne_kind ka k0 (by decide)))
  have iL := QL.fr.put iL k0 oq o2 (by decide) (by decide)
  have iP := QP.fr.put iP k0 oq o2 (by decide) (by decide)
  have iR := QR.fr.put iR k0 oq o2 (by decide) (by decide)
  have iB := QB.fr.put iB k0 oq o2 (by decide) (by decide)
  refine lv_aload_n hx hb dX11_takes_33 rfl (lv_at hl 1 rfl) ?_
  refine lv_aload_n hx hb dX11_takes_34 rfl (lv_at hl 1 rfl) ?_
  refine wt_rel hx hb hts cfX11 hown hK nh0_43 rfl (by decide) (Or.inl (hts _ q915)) dX11_takes_35 ?_
  refine lv_iload_n hx hb dX11_takes_38 rfl (lv_at hl 0 rfl) ?_
  refine lv_iconst (v := 2) hx hb dX11_takes_39 (by decide) ?_
  refine lv_iadd hx hb dX11_takes_40 ?_
  refine lv_topi (fun x40 e40 => ?_)
  have t40 : x40.toInt = x9.toInt + (2) := it_add e40 r9 (ir_c (2) (by decide) : ir (2 : Int32) (2) (2)) (by decide) (by decide)
  have r40 : ir x40 2 62 := ir_w (ir_add e40 r9 (ir_c (2) (by decide) : ir (2 : Int32) (2) (2)) (by decide) (by decide)) (by decide) (by decide)
  refine wt_laldx hx hb hK hW 1 (cg56 k13) rfl (ir_in (ir_w (lo' := 0) (hi' := 63) r40 (by decide) (by decide)) (by decide) (by decide)) dX11_takes_41 (fun v hv ap41 => ?_)
  obtain ⟨x41, rfl⟩ : gl v := hv
  refine wt_putp hx hb hts cfX11 tyX11 tyX11_ok nmX11 hown hK hW hS (cg11 k0) (ce k0 (by decide)) rfl 36 (by decide) (Or.inl (hts _ q908)) rfl rfl rfl gl_mk dX11_takes_42 (fun H locs hW hS oq o2 np => ?_)
  have nh0_43 := o2 43 _ (by decide) (by decide) nh0_43
  have nh0_34 := o2 34 _ (by decide) (by decide) nh0_34
  have nh0_35 := o2 35 _ (by decide) (by decide) nh0_35
  have ap17 := ap17.kept (oq _ (ne_kind k13 k0 (by decide)))
  have ap29 := ap29.kept (oq _ (ne_kind k13 k0 (by decide)))
  have ap41 := ap41.kept (oq _ (ne_kind k13 k0 (by decide)))
  have nh0_36 : wt_pin N.1 vwCl h0 11 36 (.long x41) H := np
  have hV := hV.put (by decide) o2
  have hQ := hQ.fr (fun a ka => oq a (ne_kind ka k0 (by decide)))
  have iL := QL.fr.put iL k0 oq o2 (by decide) (by decide)
  have iP := QP.fr.put iP k0 oq o2 (by decide) (by decide)
  have iR := QR.fr.put iR k0 oq o2 (by decide) (by decide)
  have iB := QB.fr.put iB k0 oq o2 (by decide) (by decide)
  refine lv_aload_n hx hb dX11_takes_45 rfl (lv_at hl 1 rfl) ?_
  refine lv_aload_n hx hb dX11_takes_46 rfl (lv_at hl 1 rfl) ?_
  refine wt_rel hx hb hts cfX11 hown hK nh0_43 rfl (by decide) (Or.inl (hts _ q915)) dX11_takes_47 ?_
  refine lv_iload_n hx hb dX11_takes_50 rfl (lv_at hl 0 rfl) ?_
  refine lv_iconst (v := 3) hx hb dX11_takes_51 (by decide) ?_
  refine lv_iadd hx hb dX11_takes_52 ?_
  refine lv_topi (fun x52 e52 => ?_)
  have t52 : x52.toInt = x9.toInt + (3) := it_add e52 r9 (ir_c (3) (by decide) : ir (3 : Int32) (3) (3)) (by decide) (by decide)
  have r52 : ir x52 3 63 := ir_w (ir_add e52 r9 (ir_c (3) (by decide) : ir (3 : Int32) (3) (3)) (by decide) (by decide)) (by decide) (by decide)
  refine wt_laldx hx hb hK hW 1 (cg56 k13) rfl (ir_in (ir_w (lo' := 0) (hi' := 63) r52 (by decide) (by decide)) (by decide) (by decide)) dX11_takes_53 (fun v hv ap53 => ?_)
  obtain ⟨x53, rfl⟩ : gl v := hv
  refine wt_putp hx hb hts cfX11 tyX11 tyX11_ok nmX11 hown hK hW hS (cg11 k0) (ce k0 (by decide)) rfl 37 (by decide) (Or.inl (hts _ q909)) rfl rfl rfl gl_mk dX11_takes_54 (fun H locs hW hS oq o2 np => ?_)
  have nh0_43 := o2 43 _ (by decide) (by decide) nh0_43
  have nh0_34 := o2 34 _ (by decide) (by decide) nh0_34
  have nh0_35 := o2 35 _ (by decide) (by decide) nh0_35
  have nh0_36 := o2 36 _ (by decide) (by decide) nh0_36
  have ap17 := ap17.kept (oq _ (ne_kind k13 k0 (by decide)))
  have ap29 := ap29.kept (oq _ (ne_kind k13 k0 (by decide)))
  have ap41 := ap41.kept (oq _ (ne_kind k13 k0 (by decide)))
  have ap53 := ap53.kept (oq _ (ne_kind k13 k0 (by decide)))
  have nh0_37 : wt_pin N.1 vwCl h0 11 37 (.long x53) H := np
  have hV := hV.put (by decide) o2
  have hQ := hQ.fr (fun a ka => oq a (ne_kind ka k0 (by decide)))
  have iL := QL.fr.put iL k0 oq o2 (by decide) (by decide)
  have iP := QP.fr.put iP k0 oq o2 (by decide) (by decide)
  have iR := QR.fr.put iR k0 oq o2 (by decide) (by decide)
  have iB := QB.fr.put iB k0 oq o2 (by decide) (by decide)
  refine lv_aload_n hx hb dX11_takes_57 rfl (lv_at hl 1 rfl) ?_
  refine lv_iconst (v := 1) hx hb dX11_takes_58 (by decide) ?_
  refine wt_putp hx hb hts cfX11 tyX11 tyX11_ok nmX11 hown hK hW hS (cg11 k0) (ce k0 (by decide)) rfl 38 (by decide) (Or.inl (hts _ q910)) rfl rfl rfl (gi_mk (ir_w (lo' := 0) (hi' := 1) (ir_c (1) (by decide) : ir (1 : Int32) (1) (1)) (by decide) (by decide))) dX11_takes_59 (fun H locs hW hS oq o2 np => ?_)
  have nh0_43 := o2 43 _ (by decide) (by decide) nh0_43
  have nh0_34 := o2 34 _ (by decide) (by decide) nh0_34
  have nh0_35 := o2 35 _ (by decide) (by decide) nh0_35
  have nh0_36 := o2 36 _ (by decide) (by decide) nh0_36
  have nh0_37 := o2 37 _ (by decide) (by decide) nh0_37
  have ap17 := ap17.kept (oq _ (ne_kind k13 k0 (by decide)))
  have ap29 := ap29.kept (oq _ (ne_kind k13 k0 (by decide)))
  have ap41 := ap41.kept (oq _ (ne_kind k13 k0 (by decide)))
  have ap53 := ap53.kept (oq _ (ne_kind k13 k0 (by decide)))
  have nh0_38 : wt_pin N.1 vwCl h0 11 38 (.int (1 : Int32)) H := np
  have hV := hV.put (by decide) o2
  have hQ := hQ.fr (fun a ka => oq a (ne_kind ka k0 (by decide)))
  have iL := QL.fr.put iL k0 oq o2 (by decide) (by decide)
  have iP := QP.fr.put iP k0 oq o2 (by decide) (by decide)
  have iR := QR.fr.put iR k0 oq o2 (by decide) (by decide)
  have iB := QB.fr.put iB k0 oq o2 (by decide) (by decide)
  have es : x9.toNatClampNeg = sl p1 p2 := sl_at r9 (by decide) (by omega)
  have i1 : x28.toNatClampNeg = x9.toNatClampNeg + 1 := by have h6 := (ir_clamp r28 (by decide)).1; have h7 := (ir_clamp r9 (by decide)).1; omega
  have i2 : x40.toNatClampNeg = x9.toNatClampNeg + 2 := by have h6 := (ir_clamp r40 (by decide)).1; have h7 := (ir_clamp r9 (by decide)).1; omega
  have i3 : x52.toNatClampNeg = x9.toNatClampNeg + 3 := by have h6 := (ir_clamp r52 (by decide)).1; have h7 := (ir_clamp r9 (by decide)).1; omega
  have iM : QM N h0 H := ⟨_, _, _, _, _, nh0_34, nh0_35, nh0_36, nh0_37, nh0_38, fun _ => tJ_get hQ (by rw [es]; exact hj) k13 ap17 ap29 ap41 ap53 i1 i2 i3⟩
  have hI : mI N h0 H := ⟨iL, iP, iR, iB, iM⟩
  exact W.vret hx hb hr (fun t ht _ => ⟨⟨(), rfl, trivial, cW_at ht hW, ⟨mI_at ht hI, kp_at ht hV, tJ_at ht hQ⟩⟩, hS.F ht⟩) hS.2.2 dX11_takes_62
set_option maxHeartbeats 4000000 in
set_option maxRecDepth 100000 in
theorem m_X11_notes (l : Launch) (N : c_N) (h0 : Nat) (k0 : N.2.2.1 h0 = some 11) (hO : mOK N) (V : Nat → Value) (p1 : Int32) (rp1 : ir p1 0 3) (p2 : Int32) (rp2 : ir p2 1 4) (g38 : Int32) (hf : ¬ g38 = 0) (J : Nat → Prop) : cMv l yX11_notes cX11_notes 4 { frames := 0, cells := 0, slots := 0, locals := 0 } [.ref h0, .int p1, .int p2] N [56] (fun H => mI N h0 H ∧ kp N h0 [] V H ∧ wt_pin N.1 vwCl h0 11 38 (.int g38) H ∧ tJ N J H) (fun H => mI N h0 H ∧ kp N h0 [] V H ∧ tJ N (fun i => J i ∨ i = sl p1 p2) H) := by
  refine Met.ofW (cc := cX11_notes) (maxL := 4) (ret := none) (by decide) rfl ?_
  intro p e s m args below meth c s₁ B hml hv
  obtain ⟨rfl, ⟨hK, hW, hT, hnn⟩, hB⟩ := hv
  obtain ⟨hI, hV, hB⟩ := hB
  have hQ : tJ N J s.heap := hB.2
  have nh0_38 := hB.1
  have rg38 : ir g38 0 1 := gi_r (cpin_P hW (cg11 k0) rfl (by decide) nh0_38)
  have hx := B.exec
  have hb := B.bytes
  have hr := B.returns
  have hts : ∀ w ∈ lw_g, w.before _ s = true := fun w h => atoms_spec (ws := wc_ws yX11_notes cX11_notes 4 none) B.pre w (List.mem_cons_of_mem _ h)
  have hown : s.vm.findClass RX11 = some m.cls := findClass_of_methodNamed B.named
  have hlocks := B.notSynchronized
  have hS : va_S (cE N [56]) s.heap s.heap [] := va_S.rf
  have hl := lv_entry ([.ref h0, .int p1, .int p2]) (n := 4) (Nat.le_of_ble_eq_true rfl)
  rw [lg_entry_eq]
  generalize (lg_sl ([.ref h0, .int p1, .int p2]) ++ List.replicate (4 - (lg_sl ([.ref h0, .int p1, .int p2])).length) Slot.unset).toArray = ls at hl ⊢
  have hl : lv_has ls 4 [(0, .ref h0), (1, .int p1), (2, .int p2)] := hl
  refine wq_all ?_
  intro WW w1 w2
  obtain ⟨a0, b0, c0, d0, f0, nh0_34, nh0_35, nh0_36, nh0_37, q38, hdet⟩ := hI.2.2.2.2
  have qf : Value.int f0 = .int g38 := pin_inj (by decide) q38 nh0_38
  have hdet : detOK a0 b0 c0 d0 := hdet (by intro h; cases qf; exact hf h)
  refine lv_bipush (v := 16) hx hb dX11_notes_0 (by decide) ?_
  refine lv_iload_n hx hb dX11_notes_2 rfl (lv_at hl 1 rfl) ?_
  refine lv_imul hx hb dX11_notes_3 ?_
  refine lv_topi (fun x3 e3 => ?_)
  have t3 : x3.toInt = (16) * p1.toInt := (it_mul e3 (ir_c (16) (by decide) : ir (16 : Int32) (16) (16)) rp1 (by decide) (by decide) (by decide)).1
  have r3 : ir x3 0 48 := ir_w (it_mul e3 (ir_c (16) (by decide) : ir (16 : Int32) (16) (16)) rp1 (by decide) (by decide) (by decide)).2 (by decide) (by decide)
  refine lv_iconst (v := 4) hx hb dX11_notes_4 (by decide) ?_
  refine lv_iload_n hx hb dX11_notes_5 rfl (lv_at hl 2 rfl) ?_
  refine lv_iconst (v := 1) hx hb dX11_notes_6 (by decide) ?_
  refine lv_isub hx hb dX11_notes_7 ?_
  refine lv_topi (fun x7 e7 => ?_)
  have t7 : x7.toInt = p2.toInt - (1) := it_sub e7 rp2 (ir_c (1) (by decide) : ir (1 : Int32) (1) (1)) (by decide) (by decide)
  have r7 : ir x7 0 3 := ir_w (ir_sub e7 rp2 (ir_c (1) (by decide) : ir (1 : Int32) (1) (1)) (by decide) (by decide)) (by decide) (by decide)
  refine lv_imul hx hb dX11_notes_8 ?_
  refine lv_topi (fun x8 e8 => ?_)
  have t8 : x8.toInt = (4) * x7.toInt := (it_mul e8 (ir_c (4) (by decide) : ir (4 : Int32) (4) (4)) r7 (by decide) (by decide) (by decide)).1
  have r8 : ir x8 0 12 := ir_w (it_mul e8 (ir_c (4) (by decide) : ir (4 : Int32) (4) (4)) r7 (by decide) (by decide) (by decide)).2 (by decide) (by decide)
  refine lv_iadd hx hb dX11_notes_9 ?_
  refine lv_topi (fun x9 e9 => ?_)
  have t9 : x9.toInt = x3.toInt + x8.toInt := it_add e9 r3 r8 (by decide) (by decide)
  have r9 : ir x9 0 60 := ir_w (ir_add e9 r3 r8 (by decide) (by decide)) (by decide) (by decide)
  refine lv_istore_n (lv' := [(3, .int x9), (0, .ref h0), (1, .int p1), (2, .int p2)]) hx hb dX11_notes_10 rfl hl (by decide) rfl (fun ls hl => ?_)
  refine lv_aload_n hx hb dX11_notes_11 rfl (lv_at hl 1 rfl) ?_
  refine wt_getp hx hb hts cfX11 hown hK hW (cg11 k0) rfl 43 (by decide) (Or.inl (hts _ q915)) dX11_notes_12 (fun v hv nh0_43 => ?_)
  obtain ⟨x12, rfl, k12⟩ : gr N 56 v := hv
  have hQ0 := hQ
  obtain ⟨f0, hf0⟩ := row_ex hW k12
  refine lv_iload_n hx hb dX11_notes_15 rfl (lv_at hl 0 rfl) ?_
  refine lv_aload_n hx hb dX11_notes_16 rfl (lv_at hl 1 rfl) ?_
  refine wt_rel hx hb hts cfX11 hown hK nh0_34 rfl (by decide) (Or.inl (hts _ q906)) dX11_notes_17 ?_
  refine wt_lastx hx hb hK hW hS 1 (cg56 k12) (ce k12 (by decide)) rfl (ir_in (ir_w (lo' := 0) (hi' := 63) r9 (by decide) (by decide)) (by decide) (by decide)) gl_mk dX11_notes_20 (fun H locs hW hS oq hat => ?_)
  have nh0_38 := nh0_38.kept (oq _ (ne_kind k0 k12 (by decide)))
  have nh0_34 := nh0_34.kept (oq _ (ne_kind k0 k12 (by decide)))
  have nh0_35 := nh0_35.kept (oq _ (ne_kind k0 k12 (by decide)))
  have nh0_36 := nh0_36.kept (oq _ (ne_kind k0 k12 (by decide)))
  have nh0_37 := nh0_37.kept (oq _ (ne_kind k0 k12 (by decide)))
  have nh0_43 := nh0_43.kept (oq _ (ne_kind k0 k12 (by decide)))
  have hV := hV.keep (oq _ (ne_kind k0 k12 (by decide)))
  have hI := mI.fr.arr hI k0 k12 oq (by decide) (by decide)
  have hf20 := hat _ hf0
  refine lv_aload_n hx hb dX11_notes_21 rfl (lv_at hl 1 rfl) ?_
  refine wt_rel hx hb hts cfX11 hown hK nh0_43 rfl (by decide) (Or.inl (hts _ q915)) dX11_notes_22 ?_
  refine lv_iload_n hx hb dX11_notes_25 rfl (lv_at hl 0 rfl) ?_
  refine lv_iconst (v := 1) hx hb dX11_notes_26 (by decide) ?_
  refine lv_iadd hx hb dX11_notes_27 ?_
  refine lv_topi (fun x27 e27 => ?_)
  have t27 : x27.toInt = x9.toInt + (1) := it_add e27 r9 (ir_c (1) (by decide) : ir (1 : Int32) (1) (1)) (by decide) (by decide)
  have r27 : ir x27 1 61 := ir_w (ir_add e27 r9 (ir_c (1) (by decide) : ir (1 : Int32) (1) (1)) (by decide) (by decide)) (by decide) (by decide)
  refine lv_aload_n hx hb dX11_notes_28 rfl (lv_at hl 1 rfl) ?_
  refine wt_rel hx hb hts cfX11 hown hK nh0_35 rfl (by decide) (Or.inl (hts _ q907)) dX11_notes_29 ?_
  refine wt_lastx hx hb hK hW hS 1 (cg56 k12) (ce k12 (by decide)) rfl (ir_in (ir_w (lo' := 0) (hi' := 63) r27 (by decide) (by decide)) (by decide) (by decide)) gl_mk dX11_notes_32 (fun H locs hW hS oq hat => ?_)
  have nh0_38 := nh0_38.kept (oq _ (ne_kind k0 k12 (by decide)))
  have nh0_34 := nh0_34.kept (oq _ (ne_kind k0 k12 (by decide)))
  have nh0_35 := nh0_35.kept (oq _ (ne_kind k0 k12 (by decide)))
  have nh0_36 := nh0_36.kept (oq _ (ne_kind k0 k12 (by decide)))
  have nh0_37 := nh0_37.kept (oq _ (ne_kind k0 k12 (by decide)))
  have nh0_43 := nh0_43.kept (oq _ (ne_kind k0 k12 (by decide)))
  have hV := hV.keep (oq _ (ne_kind k0 k12 (by decide)))
  have hI := mI.fr.arr hI k0 k12 oq (by decide) (by decide)
  have hf32 := hat _ hf20
  refine lv_aload_n hx hb dX11_notes_33 rfl (lv_at hl 1 rfl) ?_
  refine wt_rel hx hb hts cfX11 hown hK nh0_43 rfl (by decide) (Or.inl (hts _ q915)) dX11_notes_34 ?_
  refine lv_iload_n hx hb dX11_notes_37 rfl (lv_at hl 0 rfl) ?_
  refine lv_iconst (v := 2) hx hb dX11_notes_38 (by decide) ?_
  refine lv_iadd hx hb dX11_notes_39 ?_
  refine lv_topi (fun x39 e39 => ?_)
  have t39 : x39.toInt = x9.toInt + (2) := it_add e39 r9 (ir_c (2) (by decide) : ir (2 : Int32) (2) (2)) (by decide) (by decide)
  have r39 : ir x39 2 62 := ir_w (ir_add e39 r9 (ir_c (2) (by decide) : ir (2 : Int32) (2) (2)) (by decide) (by decide)) (by decide) (by decide)
  refine lv_aload_n hx hb dX11_notes_40 rfl (lv_at hl 1 rfl) ?_
  refine wt_rel hx hb hts cfX11 hown hK nh0_36 rfl (by decide) (Or.inl (hts _ q908)) dX11_notes_41 ?_
  refine wt_lastx hx hb hK hW hS 1 (cg56 k12) (ce k12 (by decide)) rfl (ir_in (ir_w (lo' := 0) (hi' := 63) r39 (by decide) (by decide)) (by decide) (by decide)) gl_mk dX11_notes_44 (fun H locs hW hS oq hat => ?_)
  have nh0_38 := nh0_38.kept (oq _ (ne_kind k0 k12 (by decide)))
  have nh0_34 := nh0_34.kept (oq _ (ne_kind k0 k12 (by decide)))
  have nh0_35 := nh0_35.kept (oq _ (ne_kind k0 k12 (by decide)))
  have nh0_36 := nh0_36.kept (oq _ (ne_kind k0 k12 (by decide)))
  have nh0_37 := nh0_37.kept (oq _ (ne_kind k0 k12 (by decide)))
  have nh0_43 := nh0_43.kept (oq _ (ne_kind k0 k12 (by decide)))
  have hV := hV.keep (oq _ (ne_kind k0 k12 (by decide)))
  have hI := mI.fr.arr hI k0 k12 oq (by decide) (by decide)
  have hf44 := hat _ hf32
  refine lv_aload_n hx hb dX11_notes_45 rfl (lv_at hl 1 rfl) ?_
  refine wt_rel hx hb hts cfX11 hown hK nh0_43 rfl (by decide) (Or.inl (hts _ q915)) dX11_notes_46 ?_
  refine lv_iload_n hx hb dX11_notes_49 rfl (lv_at hl 0 rfl) ?_
  refine lv_iconst (v := 3) hx hb dX11_notes_50 (by decide) ?_
  refine lv_iadd hx hb dX11_notes_51 ?_
  refine lv_topi (fun x51 e51 => ?_)
  have t51 : x51.toInt = x9.toInt + (3) := it_add e51 r9 (ir_c (3) (by decide) : ir (3 : Int32) (3) (3)) (by decide) (by decide)
  have r51 : ir x51 3 63 := ir_w (ir_add e51 r9 (ir_c (3) (by decide) : ir (3 : Int32) (3) (3)) (by decide) (by decide)) (by decide) (by decide)
  refine lv_aload_n hx hb dX11_notes_52 rfl (lv_at hl 1 rfl) ?_
  refine wt_rel hx hb hts cfX11 hown hK nh0_37 rfl (by decide) (Or.inl (hts _ q909)) dX11_notes_53 ?_
  refine wt_lastx hx hb hK hW hS 1 (cg56 k12) (ce k12 (by decide)) rfl (ir_in (ir_w (lo' := 0) (hi' := 63) r51 (by decide) (by decide)) (by decide) (by decide)) gl_mk dX11_notes_56 (fun H locs hW hS oq hat => ?_)
  have nh0_38 := nh0_38.kept (oq _ (ne_kind k0 k12 (by decide)))
  have nh0_34 := nh0_34.kept (oq _ (ne_kind k0 k12 (by decide)))
  have nh0_35 := nh0_35.kept (oq _ (ne_kind k0 k12 (by decide)))
  have nh0_36 := nh0_36.kept (oq _ (ne_kind k0 k12 (by decide)))
  have nh0_37 := nh0_37.kept (oq _ (ne_kind k0 k12 (by decide)))
  have nh0_43 := nh0_43.kept (oq _ (ne_kind k0 k12 (by decide)))
  have hV := hV.keep (oq _ (ne_kind k0 k12 (by decide)))
  have hI := mI.fr.arr hI k0 k12 oq (by decide) (by decide)
  have hf56 := hat _ hf44
  have es : x9.toNatClampNeg = sl p1 p2 := sl_at r9 (by decide) (by omega)
  have i1 : x27.toNatClampNeg = x9.toNatClampNeg + 1 := by have h6 := (ir_clamp r27 (by decide)).1; have h7 := (ir_clamp r9 (by decide)).1; omega
  have i2 : x39.toNatClampNeg = x9.toNatClampNeg + 2 := by have h6 := (ir_clamp r39 (by decide)).1; have h7 := (ir_clamp r9 (by decide)).1; omega
  have i3 : x51.toNatClampNeg = x9.toNatClampNeg + 3 := by have h6 := (ir_clamp r51 (by decide)).1; have h7 := (ir_clamp r9 (by decide)).1; omega
  have so := sl_ok rp1 rp2
  have hQn := tJ_put hO hQ0 k12 hf0 hf56 i1 i2 i3 (by rw [es]; exact so.1) (by rw [es]; exact so.2) hdet
  rw [es] at hQn
  exact W.vret hx hb hr (fun t ht _ => ⟨⟨(), rfl, trivial, cW_at ht hW, ⟨mI_at ht hI, kp_at ht hV, tJ_at ht hQn⟩⟩, hS.F ht⟩) hS.2.2 dX11_notes_57
