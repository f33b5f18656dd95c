set_option maxHeartbeats 4000000 in
set_option maxRecDepth 100000 in
theorem m_X11_marksAt_4 (l : Launch) (N : c_N) (h0 : Nat) (k0 : N.2.2.1 h0 = some 11) (hO : mOK N) (V : Nat → Value) (p1 : Int64) (rp1 : lr p1 0 78) (p2 : Int64) (rp2 : lr p2 0 78) (p3 : Int32) (rp3 : ir p3 4 4) (hz : p1.toInt ≠ 0 ∨ p2.toInt ≠ 0) : cMv l yX11_marksAt cX11_marksAt 9 { frames := 1, cells := 0, slots := 0, locals := 29 } [.ref h0, .long p1, .long p2, .int p3] N [11] (fun H => mI N h0 H ∧ kp N h0 [32, 33] V H) (fun H => mI N h0 H ∧ kp N h0 [32, 33] V H ∧ ∃ re tu : Int64, pL N h0 32 re H ∧ pL N h0 33 tu H ∧ mkOK re tu) := by
  refine Met.ofW (cc := cX11_marksAt) (maxL := 9) (ret := none) (by decide) rfl ?_
  intro p e s m args below meth c s₁ B hml hv
  obtain ⟨rfl, ⟨hK, hW, hT, hnn⟩, hB⟩ := hv
  obtain ⟨hI, hV⟩ := hB
  have hx := B.exec
  have hb := B.bytes
  have hr := B.returns
  have hts : ∀ w ∈ lw_g, w.before _ s = true := fun w h => atoms_spec (ws := wc_ws yX11_marksAt cX11_marksAt 9 none) B.pre w (List.mem_cons_of_mem _ h)
  have hown : s.vm.findClass RX11 = some m.cls := findClass_of_methodNamed B.named
  have hlocks := B.notSynchronized
  have hS : va_S (cE N [11]) s.heap s.heap [] := va_S.rf
  have hl := lv_entry ([.ref h0, .long p1, .long p2, .int p3]) (n := 9) (Nat.le_of_ble_eq_true rfl)
  rw [lg_entry_eq]
  generalize (lg_sl ([.ref h0, .long p1, .long p2, .int p3]) ++ List.replicate (9 - (lg_sl ([.ref h0, .long p1, .long p2, .int p3])).length) Slot.unset).toArray = ls at hl ⊢
  have hl : lv_has ls 9 [(0, .ref h0), (1, .long p1), (3, .long p2), (5, .int p3)] := hl
  refine wq_all ?_
  intro WW w1 w2
  refine lv_aload_n hx hb dX11_marksAt_0 rfl (lv_at hl 0 rfl) ?_
  refine lv_lload_n hx hb dX11_marksAt_1 rfl (lv_at hl 2 rfl) ?_
  refine wt_putp hx hb hts cfX11 tyX11 tyX11_ok nmX11 hown hK hW hS (cg11 k0) (ce k0 (by decide)) rfl 32 (by decide) (Or.inl (hts _ q904)) rfl rfl rfl gl_mk dX11_marksAt_2 (fun H locs hW hS oq o2 np => ?_)
  have nh0_32 : wt_pin N.1 vwCl h0 11 32 (.long p2) H := np
  have hV := hV.put (by decide) o2
  have hI := mI.fr.put hI k0 oq o2 (by decide) (by decide)
  refine lv_aload_n hx hb dX11_marksAt_5 rfl (lv_at hl 0 rfl) ?_
  refine lv_lload_n hx hb dX11_marksAt_6 rfl (lv_at hl 1 rfl) ?_
  refine wt_putp hx hb hts cfX11 tyX11 tyX11_ok nmX11 hown hK hW hS (cg11 k0) (ce k0 (by decide)) rfl 33 (by decide) (Or.inl (hts _ q905)) rfl rfl rfl gl_mk dX11_marksAt_7 (fun H locs hW hS oq o2 np => ?_)
  have nh0_32 := o2 32 _ (by decide) (by decide) nh0_32
  have nh0_33 : wt_pin N.1 vwCl h0 11 33 (.long p1) H := np
  have hV := hV.put (by decide) o2
  have hI := mI.fr.put hI k0 oq o2 (by decide) (by decide)
  refine lv_iconst (v := 1) hx hb dX11_marksAt_10 (by decide) ?_
  refine lv_istore (lv' := [(6, .int (1 : Int32)), (0, .ref h0), (1, .long p1), (3, .long p2), (5, .int p3)]) hx hb dX11_marksAt_11 hl (by decide) rfl (fun ls hl => ?_)
  refine lv_iload hx hb dX11_marksAt_13 (lv_at hl 0 rfl) ?_
  refine lv_iload hx hb dX11_marksAt_15 (lv_at hl 4 rfl) ?_
  refine lv_icmp_ge (tgt := 64) hx hb dX11_marksAt_17 (by decide) (fun c17 => ?_) (fun c17 => ?_)
  · exact absurd (rf_le c17 rp3 (ir_c (1) (by decide) : ir (1 : Int32) (1) (1))) (by have h8 := rp3; have h9 := (ir_c (1) (by decide) : ir (1 : Int32) (1) (1)); omega)
  · refine lv_aload_n hx hb dX11_marksAt_20 rfl (lv_at hl 1 rfl) ?_
    refine wt_rel hx hb hts cfX11 hown hK nh0_32 rfl (by decide) (Or.inl (hts _ q904)) dX11_marksAt_21 ?_
    refine lv_lload_n hx hb dX11_marksAt_24 rfl (lv_at hl 3 rfl) ?_
    refine lv_lmul hx hb dX11_marksAt_25 ?_
    refine lv_topl (fun x25 e25 => ?_)
    have u25 := lt_mulp e25 rp2 rp2 (by decide) (by decide) (by decide)
    have t25 := u25.1
    have r25 : lr x25 0 6084 := lr_w u25.2 (by decide) (by decide)
    refine lv_aload_n hx hb dX11_marksAt_26 rfl (lv_at hl 1 rfl) ?_
    refine wt_rel hx hb hts cfX11 hown hK nh0_33 rfl (by decide) (Or.inl (hts _ q905)) dX11_marksAt_27 ?_
    refine lv_lload_n hx hb dX11_marksAt_30 rfl (lv_at hl 2 rfl) ?_
    refine lv_lmul hx hb dX11_marksAt_31 ?_
    refine lv_topl (fun x31 e31 => ?_)
    have u31 := lt_mulp e31 rp1 rp1 (by decide) (by decide) (by decide)
    have t31 := u31.1
    have r31 : lr x31 0 6084 := lr_w u31.2 (by decide) (by decide)
    refine lv_lsub hx hb dX11_marksAt_32 ?_
    refine lv_topl (fun x32 e32 => ?_)
    have t32 := lt_sub e32 r25 r31 (by decide) (by decide)
    have r32 : lr x32 (-6084) 6084 := lr_sub e32 r25 r31 (by decide) (by decide) (by decide) (by decide)
    refine lv_lstore (lv' := [(7, .long x32), (6, .int (1 : Int32)), (0, .ref h0), (1, .long p1), (3, .long p2), (5, .int p3)]) hx hb dX11_marksAt_33 hl (by decide) rfl (fun ls hl => ?_)
    refine lv_aload_n hx hb dX11_marksAt_35 rfl (lv_at hl 2 rfl) ?_
    refine lv_aload_n hx hb dX11_marksAt_36 rfl (lv_at hl 2 rfl) ?_
    refine wt_rel hx hb hts cfX11 hown hK nh0_32 rfl (by decide) (Or.inl (hts _ q904)) dX11_marksAt_37 ?_
    refine lv_lload_n hx hb dX11_marksAt_40 rfl (lv_at hl 3 rfl) ?_
    refine lv_lmul hx hb dX11_marksAt_41 ?_
    refine lv_topl (fun x41 e41 => ?_)
    have u41 := lt_mulp e41 rp2 rp1 (by decide) (by decide) (by decide)
    have t41 := u41.1
    have r41 : lr x41 0 6084 := lr_w u41.2 (by decide) (by decide)
    refine lv_aload_n hx hb dX11_marksAt_42 rfl (lv_at hl 2 rfl) ?_
    refine wt_rel hx hb hts cfX11 hown hK nh0_33 rfl (by decide) (Or.inl (hts _ q905)) dX11_marksAt_43 ?_
    refine lv_lload_n hx hb dX11_marksAt_46 rfl (lv_at hl 4 rfl) ?_
    refine lv_lmul hx hb dX11_marksAt_47 ?_
    refine lv_topl (fun x47 e47 => ?_)
    have u47 := lt_mulp e47 rp1 rp2 (by decide) (by decide) (by decide)
    have t47 := u47.1
    have r47 : lr x47 0 6084 := lr_w u47.2 (by decide) (by decide)
    refine lv_ladd hx hb dX11_marksAt_48 ?_
    refine lv_topl (fun x48 e48 => ?_)
    have t48 := lt_add e48 r41 r47 (by decide) (by decide)
    have r48 : lr x48 0 12168 := lr_add e48 r41 r47 (by decide) (by decide) (by decide) (by decide)
    refine wt_putp hx hb hts cfX11 tyX11 tyX11_ok nmX11 hown hK hW hS (cg11 k0) (ce k0 (by decide)) rfl 33 (by decide) (Or.inl (hts _ q905)) rfl rfl rfl gl_mk dX11_marksAt_49 (fun H locs hW hS oq o2 np => ?_)
    have nh0_32 := o2 32 _ (by decide) (by decide) nh0_32
    have nh0_33 : wt_pin N.1 vwCl h0 11 33 (.long x48) H := np
    have hV := hV.put (by decide) o2
    have hI := mI.fr.put hI k0 oq o2 (by decide) (by decide)
    refine lv_aload_n hx hb dX11_marksAt_52 rfl (lv_at hl 2 rfl) ?_
    refine lv_lload hx hb dX11_marksAt_53 (lv_at hl 0 rfl) ?_
    refine wt_putp hx hb hts cfX11 tyX11 tyX11_ok nmX11 hown hK hW hS (cg11 k0) (ce k0 (by decide)) rfl 32 (by decide) (Or.inl (hts _ q904)) rfl rfl rfl gl_mk dX11_marksAt_55 (fun H locs hW hS oq o2 np => ?_)
    have nh0_33 := o2 33 _ (by decide) (by decide) nh0_33
    have nh0_32 : wt_pin N.1 vwCl h0 11 32 (.long x32) H := np
    have hV := hV.put (by decide) o2
    have hI := mI.fr.put hI k0 oq o2 (by decide) (by decide)
    obtain ⟨x58, e58⟩ : ∃ y : Int32, y = (1 : Int32) + 1 := ⟨_, rfl⟩
    have r58 : ir x58 2 2 := ir_w (ir_add e58 (ir_c (1) (by decide) : ir (1 : Int32) (1) (1)) (ir_c (1) (by decide) : ir (1 : Int32) (1) (1)) (by decide) (by decide)) (by decide) (by decide)
    have t58 : x58.toInt = (1 : Int32).toInt + (1) := it_add e58 (ir_c (1) (by decide) : ir (1 : Int32) (1) (1)) (ir_c (1) (by decide) : ir (1 : Int32) (1) (1)) (by decide) (by decide)
    refine lv_iinc (v := x58) (lv' := [(6, .int x58), (7, .long x32), (0, .ref h0), (1, .long p1), (3, .long p2), (5, .int p3)]) hx hb dX11_marksAt_58 hl (k := 1) rfl (by rw [e58]; rfl) (by decide) rfl (fun ls hl => ?_)
    refine lv_goto (tgt := 13) hx hb dX11_marksAt_61 (by decide) ?_
    refine lv_iload hx hb dX11_marksAt_13 (lv_at hl 0 rfl) ?_
    refine lv_iload hx hb dX11_marksAt_15 (lv_at hl 5 rfl) ?_
    refine lv_icmp_ge (tgt := 64) hx hb dX11_marksAt_17 (by decide) (fun c10017 => ?_) (fun c10017 => ?_)
    · exact absurd (rf_le c10017 rp3 r58) (by have h8 := rp3; have h9 := r58; omega)
    · refine lv_aload_n hx hb dX11_marksAt_20 rfl (lv_at hl 2 rfl) ?_
      refine wt_rel hx hb hts cfX11 hown hK nh0_32 rfl (by decide) (Or.inl (hts _ q904)) dX11_marksAt_21 ?_
      refine lv_lload_n hx hb dX11_marksAt_24 rfl (lv_at hl 4 rfl) ?_
      refine lv_lmul hx hb dX11_marksAt_25 ?_
      refine lv_topl (fun x10025 e10025 => ?_)
      have u10025 := lt_mul e10025 r32 rp2 6084 78 (by decide) (by decide) (by decide) (by decide) (by decide)
      have t10025 := u10025.1
      have r10025 : lr x10025 (-474552) 474552 := lr_w u10025.2 (by decide) (by decide)
      refine lv_aload_n hx hb dX11_marksAt_26 rfl (lv_at hl 2 rfl) ?_
      refine wt_rel hx hb hts cfX11 hown hK nh0_33 rfl (by decide) (Or.inl (hts _ q905)) dX11_marksAt_27 ?_
      refine lv_lload_n hx hb dX11_marksAt_30 rfl (lv_at hl 3 rfl) ?_
      refine lv_lmul hx hb dX11_marksAt_31 ?_
      refine lv_topl (fun x10031 e10031 => ?_)
      have u10031 := lt_mulp e10031 r48 rp1 (by decide) (by decide) (by decide)
      have t10031 := u10031.1
      have r10031 : lr x10031 0 949104 := lr_w u10031.2 (by decide) (by decide)
      refine lv_lsub hx hb dX11_marksAt_32 ?_
      refine lv_topl (fun x10032 e10032 => ?_)
      have t10032 := lt_sub e10032 r10025 r10031 (by decide) (by decide)
      have r10032 : lr x10032 (-1423656) 474552 := lr_sub e10032 r10025 r10031 (by decide) (by decide) (by decide) (by decide)
      refine lv_lstore (lv' := [(7, .long x10032), (6, .int x58), (0, .ref h0), (1, .long p1), (3, .long p2), (5, .int p3)]) hx hb dX11_marksAt_33 hl (by decide) rfl (fun ls hl => ?_)
      refine lv_aload_n hx hb dX11_marksAt_35 rfl (lv_at hl 2 rfl) ?_
      refine lv_aload_n hx hb dX11_marksAt_36 rfl (lv_at hl 2 rfl) ?_
      refine wt_rel hx hb hts cfX11 hown hK nh0_32 rfl (by decide) (Or.inl (hts _ q904)) dX11_marksAt_37 ?_
      refine lv_lload_n hx hb dX11_marksAt_40 rfl (lv_at hl 3 rfl) ?_
      refine lv_lmul hx hb dX11_marksAt_41 ?_
      refine lv_topl (fun x10041 e10041 => ?_)
      have u10041 := lt_mul e10041 r32 rp1 6084 78 (by decide) (by decide) (by decide) (by decide) (by decide)
      have t10041 := u10041.1
      have r10041 : lr x10041 (-474552) 474552 := lr_w u10041.2 (by decide) (by decide)
      refine lv_aload_n hx hb dX11_marksAt_42 rfl (lv_at hl 2 rfl) ?_
      refine wt_rel hx hb hts cfX11 hown hK nh0_33 rfl (by decide) (Or.inl (hts _ q905)) dX11_marksAt_43 ?_
      refine lv_lload_n hx hb dX11_marksAt_46 rfl (lv_at hl 4 rfl) ?_
      refine lv_lmul hx hb dX11_marksAt_47 ?_
      refine lv_topl (fun x10047 e10047 => ?_)
      have u10047 := lt_mulp e10047 r48 rp2 (by decide) (by decide) (by decide)
      have t10047 := u10047.1
      have r10047 : lr x10047 0 949104 := lr_w u10047.2 (by decide) (by decide)
      refine lv_ladd hx hb dX11_marksAt_48 ?_
      refine lv_topl (fun x10048 e10048 => ?_)
      have t10048 := lt_add e10048 r10041 r10047 (by decide) (by decide)
      have r10048 : lr x10048 (-474552) 1423656 := lr_add e10048 r10041 r10047 (by decide) (by decide) (by decide) (by decide)
      refine wt_putp hx hb hts cfX11 tyX11 tyX11_ok nmX11 hown hK hW hS (cg11 k0) (ce k0 (by decide)) rfl 33 (by decide) (Or.inl (hts _ q905)) rfl rfl rfl gl_mk dX11_marksAt_49 (fun H locs hW hS oq o2 np => ?_)
      have nh0_32 := o2 32 _ (by decide) (by decide) nh0_32
      have nh0_33 : wt_pin N.1 vwCl h0 11 33 (.long x10048) H := np
      have hV := hV.put (by decide) o2
      have hI := mI.fr.put hI k0 oq o2 (by decide) (by decide)
      refine lv_aload_n hx hb dX11_marksAt_52 rfl (lv_at hl 2 rfl) ?_
      refine lv_lload hx hb dX11_marksAt_53 (lv_at hl 0 rfl) ?_
      refine wt_putp hx hb hts cfX11 tyX11 tyX11_ok nmX11 hown hK hW hS (cg11 k0) (ce k0 (by decide)) rfl 32 (by decide) (Or.inl (hts _ q904)) rfl rfl rfl gl_mk dX11_marksAt_55 (fun H locs hW hS oq o2 np => ?_)
      have nh0_33 := o2 33 _ (by decide) (by decide) nh0_33
      have nh0_32 : wt_pin N.1 vwCl h0 11 32 (.long x10032) H := np
      have hV := hV.put (by decide) o2
      have hI := mI.fr.put hI k0 oq o2 (by decide) (by decide)
      obtain ⟨x10058, e10058⟩ : ∃ y : Int32, y = x58 + 1 := ⟨_, rfl⟩
      have r10058 : ir x10058 3 3 := ir_w (ir_add e10058 r58 (ir_c (1) (by decide) : ir (1 : Int32) (1) (1)) (by decide) (by decide)) (by decide) (by decide)
      have t10058 : x10058.toInt = x58.toInt + (1) := it_add e10058 r58 (ir_c (1) (by decide) : ir (1 : Int32) (1) (1)) (by decide) (by decide)
      refine lv_iinc (v := x10058) (lv' := [(6, .int x10058), (7, .long x10032), (0, .ref h0), (1, .long p1), (3, .long p2), (5, .int p3)]) hx hb dX11_marksAt_58 hl (k := 1) rfl (by rw [e10058]; rfl) (by decide) rfl (fun ls hl => ?_)
      refine lv_goto (tgt := 13) hx hb dX11_marksAt_61 (by decide) ?_
      refine lv_iload hx hb dX11_marksAt_13 (lv_at hl 0 rfl) ?_
      refine lv_iload hx hb dX11_marksAt_15 (lv_at hl 5 rfl) ?_
      refine lv_icmp_ge (tgt := 64) hx hb dX11_marksAt_17 (by decide) (fun c20017 => ?_) (fun c20017 => ?_)
      · exact absurd (rf_le c20017 rp3 r10058) (by have h8 := rp3; have h9 := r10058; omega)
      · refine lv_aload_n hx hb dX11_marksAt_20 rfl (lv_at hl 2 rfl) ?_
        refine wt_rel hx hb hts cfX11 hown hK nh0_32 rfl (by decide) (Or.inl (hts _ q904)) dX11_marksAt_21 ?_
        refine lv_lload_n hx hb dX11_marksAt_24 rfl (lv_at hl 4 rfl) ?_
        refine lv_lmul hx hb dX11_marksAt_25 ?_
        refine lv_topl (fun x20025 e20025 => ?_)
        have u20025 := lt_mul e20025 r10032 rp2 1423656 78 (by decide) (by decide) (by decide) (by decide) (by decide)
        have t20025 := u20025.1
        have r20025 : lr x20025 (-111045168) 111045168 := lr_w u20025.2 (by decide) (by decide)
        refine lv_aload_n hx hb dX11_marksAt_26 rfl (lv_at hl 2 rfl) ?_
        refine wt_rel hx hb hts cfX11 hown hK nh0_33 rfl (by decide) (Or.inl (hts _ q905)) dX11_marksAt_27 ?_
        refine lv_lload_n hx hb dX11_marksAt_30 rfl (lv_at hl 3 rfl) ?_
        refine lv_lmul hx hb dX11_marksAt_31 ?_
        refine lv_topl (fun x20031 e20031 => ?_)
        have u20031 := lt_mul e20031 r10048 rp1 1423656 78 (by decide) (by decide) (by decide) (by decide) (by decide)
        have t20031 := u20031.1
        have r20031 : lr x20031 (-111045168) 111045168 := lr_w u20031.2 (by decide) (by decide)
        refine lv_lsub hx hb dX11_marksAt_32 ?_
        refine lv_topl (fun x20032 e20032 => ?_)
        have t20032 := lt_sub e20032 r20025 r20031 (by decide) (by decide)
        have r20032 : lr x20032 (-222090336) 222090336 := lr_sub e20032 r20025 r20031 (by decide) (by decide) (by decide) (by decide)
        refine lv_lstore (lv' := [(7, .long x20032), (6, .int x10058), (0, .ref h0), (1, .long p1), (3, .long p2), (5, .int p3)]) hx hb dX11_marksAt_33 hl (by decide) rfl (fun ls hl => ?_)
        refine lv_aload_n hx hb dX11_marksAt_35 rfl (lv_at hl 2 rfl) ?_
        refine lv_aload_n hx hb dX11_marksAt_36 rfl (lv_at hl 2 rfl) ?_
        refine wt_rel hx hb hts cfX11 hown hK nh0_32 rfl (by decide) (Or.inl (hts _ q904)) dX11_marksAt_37 ?_
        refine lv_lload_n hx hb dX11_marksAt_40 rfl (lv_at hl 3 rfl) ?_
        refine lv_lmul hx hb dX11_marksAt_41 ?_
        refine lv_topl (fun x20041 e20041 => ?_)
        have u20041 := lt_mul e20041 r10032 rp1 1423656 78 (by decide) (by decide) (by decide) (by decide) (by decide)
        have t20041 := u20041.1
        have r20041 : lr x20041 (-111045168) 111045168 := lr_w u20041.2 (by decide) (by decide)
        refine lv_aload_n hx hb dX11_marksAt_42 rfl (lv_at hl 2 rfl) ?_
        refine wt_rel hx hb hts cfX11 hown hK nh0_33 rfl (by decide) (Or.inl (hts _ q905)) dX11_marksAt_43 ?_
        refine lv_lload_n hx hb dX11_marksAt_46 rfl (lv_at hl 4 rfl) ?_
        refine lv_lmul hx hb dX11_marksAt_47 ?_
        refine lv_topl (fun x20047 e20047 => ?_)
        have u20047 := lt_mul e20047 r10048 rp2 1423656 78 (by decide) (by decide) (by decide) (by decide) (by decide)
        have t20047 := u20047.1
        have r20047 : lr x20047 (-111045168) 111045168 := lr_w u20047.2 (by decide) (by decide)
        refine lv_ladd hx hb dX11_marksAt_48 ?_
        refine lv_topl (fun x20048 e20048 => ?_)
        have t20048 := lt_add e20048 r20041 r20047 (by decide) (by decide)
        have r20048 : lr x20048 (-222090336) 222090336 := lr_add e20048 r20041 r20047 (by decide) (by decide) (by decide) (by decide)
        refine wt_putp hx hb hts cfX11 tyX11 tyX11_ok nmX11 hown hK hW hS (cg11 k0) (ce k0 (by decide)) rfl 33 (by decide) (Or.inl (hts _ q905)) rfl rfl rfl gl_mk dX11_marksAt_49 (fun H locs hW hS oq o2 np => ?_)
        have nh0_32 := o2 32 _ (by decide) (by decide) nh0_32
        have nh0_33 : wt_pin N.1 vwCl h0 11 33 (.long x20048) H := np
        have hV := hV.put (by decide) o2
        have hI := mI.fr.put hI k0 oq o2 (by decide) (by decide)
        refine lv_aload_n hx hb dX11_marksAt_52 rfl (lv_at hl 2 rfl) ?_
        refine lv_lload hx hb dX11_marksAt_53 (lv_at hl 0 rfl) ?_
        refine wt_putp hx hb hts cfX11 tyX11 tyX11_ok nmX11 hown hK hW hS (cg11 k0) (ce k0 (by decide)) rfl 32 (by decide) (Or.inl (hts _ q904)) rfl rfl rfl gl_mk dX11_marksAt_55 (fun H locs hW hS oq o2 np => ?_)
        have nh0_33 := o2 33 _ (by decide) (by decide) nh0_33
        have nh0_32 : wt_pin N.1 vwCl h0 11 32 (.long x20032) H := np
        have hV := hV.put (by decide) o2
        have hI := mI.fr.put hI k0 oq o2 (by decide) (by decide)
        obtain ⟨x20058, e20058⟩ : ∃ y : Int32, y = x10058 + 1 := ⟨_, rfl⟩
        have r20058 : ir x20058 4 4 := ir_w (ir_add e20058 r10058 (ir_c (1) (by decide) : ir (1 : Int32) (1) (1)) (by decide) (by decide)) (by decide) (by decide)
        have t20058 : x20058.toInt = x10058.toInt + (1) := it_add e20058 r10058 (ir_c (1) (by decide) : ir (1 : Int32) (1) (1)) (by decide) (by decide)
        refine lv_iinc (v := x20058) (lv' := [(6, .int x20058), (7, .long x20032), (0, .ref h0), (1, .long p1), (3, .long p2), (5, .int p3)]) hx hb dX11_marksAt_58 hl (k := 1) rfl (by rw [e20058]; rfl) (by decide) rfl (fun ls hl => ?_)
        refine lv_goto (tgt := 13) hx hb dX11_marksAt_61 (by decide) ?_
        refine lv_iload hx hb dX11_marksAt_13 (lv_at hl 0 rfl) ?_
        refine lv_iload hx hb dX11_marksAt_15 (lv_at hl 5 rfl) ?_
        refine lv_icmp_ge (tgt := 64) hx hb dX11_marksAt_17 (by decide) (fun c30017 => ?_) (fun c30017 => ?_)
        · refine lv_aload_n hx hb dX11_marksAt_64 rfl (lv_at hl 2 rfl) ?_
          refine wt_rel hx hb hts cfX11 hown hK nh0_32 rfl (by decide) (Or.inl (hts _ q904)) dX11_marksAt_65 ?_
          refine lv_aload_n hx hb dX11_marksAt_68 rfl (lv_at hl 2 rfl) ?_
          refine wt_rel hx hb hts cfX11 hown hK nh0_33 rfl (by decide) (Or.inl (hts _ q905)) dX11_marksAt_69 ?_
          refine cp_l (wt_runS (As := [.long x20032, .long x20048]) (rest := []) ⟨hx, hb, hml, hown, hts⟩ (m_X11_gcd l x20032 (lr_w (lo' := -9223372036854775807) (hi' := 9223372036854775807) r20032 (by decide) (by decide)) x20048 (lr_w (lo' := -9223372036854775807) (hi' := 9223372036854775807) r20048 (by decide) (by decide))) wm_X11_gcd q1054 ⟨rfl, rfl⟩ ⟨Nat.le_of_ble_eq_true rfl, Nat.le_of_ble_eq_true rfl⟩ pS_pre rfl hl.1 rfl (Nat.le_of_ble_eq_true rfl) dX11_marksAt_72 ⟨Nat.zero_le _, Nat.zero_le _⟩) hW hS (fun x72 H locs hp hW1 hS oq => ?_)
          have hV := hV.same hW k0 oq
          have hI := mI.fr.same hI hW oq
          have hW := hW1
          have nh0_33 := nh0_33.kept (oq _ nh0_33.lt (cE_not k0 (by decide)))
          have nh0_32 := nh0_32.kept (oq _ nh0_32.lt (cE_not k0 (by decide)))
          have y72 : x72.toInt = ((Int.gcd x20032.toInt x20048.toInt : Nat) : Int) := hp
          have r72 : lr x72 0 9223372036854775807 := ⟨gcd_bd y72, (lr_any x72).2⟩
          have z72 : x72.toInt ≠ 0 := by
            have hn := n_pos rp1.1 rp1.2 rp2.1 rp2.2 hz
            have m1 : p2.toInt * p2.toInt + p1.toInt * p1.toInt = (p2.toInt * p2.toInt + p1.toInt * p1.toInt) := rfl
            have b1 := hn
            have m2 : x32.toInt * x32.toInt + x48.toInt * x48.toInt = (p2.toInt * p2.toInt + p1.toInt * p1.toInt) * (p2.toInt * p2.toInt + p1.toInt * p1.toInt) := by rw [t32, t48, t25, t31, t41, t47, ← m1]; exact nrm_step p2.toInt p1.toInt p1.toInt p2.toInt
            have b2 := M_step b1.1 b1.2 hn.1 hn.2
            have m3 : x10032.toInt * x10032.toInt + x10048.toInt * x10048.toInt = (p2.toInt * p2.toInt + p1.toInt * p1.toInt) * (p2.toInt * p2.toInt + p1.toInt * p1.toInt) * (p2.toInt * p2.toInt + p1.toInt * p1.toInt) := by rw [t10032, t10048, t10025, t10031, t10041, t10047, ← m2]; exact nrm_step x32.toInt x48.toInt p1.toInt p2.toInt
            have b3 := M_step b2.1 b2.2 hn.1 hn.2
            have m4 : x20032.toInt * x20032.toInt + x20048.toInt * x20048.toInt = (p2.toInt * p2.toInt + p1.toInt * p1.toInt) * (p2.toInt * p2.toInt + p1.toInt * p1.toInt) * (p2.toInt * p2.toInt + p1.toInt * p1.toInt) * (p2.toInt * p2.toInt + p1.toInt * p1.toInt) := by rw [t20032, t20048, t20025, t20031, t20041, t20047, ← m3]; exact nrm_step x10032.toInt x10048.toInt p1.toInt p2.toInt
            have b4 := M_step b3.1 b3.2 hn.1 hn.2
            refine gcd_ne y72 ?_
            exact nz_of m4 b4.1
          refine lv_lstore (lv' := [(6, .long x72), (0, .ref h0), (1, .long p1), (3, .long p2), (5, .int p3)]) hx hb dX11_marksAt_75 hl (by decide) rfl (fun ls hl => ?_)
          refine lv_aload_n hx hb dX11_marksAt_77 rfl (lv_at hl 1 rfl) ?_
          refine wt_rel hx hb hts cfX11 hown hK nh0_32 rfl (by decide) (Or.inl (hts _ q904)) dX11_marksAt_78 ?_
          refine lv_lconst (v := 0) hx hb dX11_marksAt_81 (by decide) ?_
          refine wl_lt (tgt := 104) hx hb dX11_marksAt_82 dX11_marksAt_83 (by decide) (fun c82 => ?_) (fun c82 => ?_)
          · have c82 : x20032.toInt < (0 : Int) := c82
            have rx20032_82 : lr x20032 (-222090336) (-1) := by have h8 := r20032; have h9 := (lr_c (0) (by decide) : lr (0 : Int64) (0) (0)); constructor <;> omega
            refine lv_lload hx hb dX11_marksAt_104 (lv_at hl 0 rfl) ?_
            refine lv_lneg hx hb dX11_marksAt_106 ?_
            refine lv_topl (fun x106 e106 => ?_)
            have r106 : lr x106 (-9223372036854775807) 0 := lr_neg e106 r72 (by decide) (by decide) (by decide)
            have t106 := lt_neg e106 r72 (by decide)
            have z106 : x106.toInt ≠ 0 := by omega
            refine lv_lstore (lv' := [(6, .long x106), (0, .ref h0), (1, .long p1), (3, .long p2), (5, .int p3)]) hx hb dX11_marksAt_107 hl (by decide) rfl (fun ls hl => ?_)
            refine lv_aload_n hx hb dX11_marksAt_109 rfl (lv_at hl 1 rfl) ?_
            refine lv_dup hx hb dX11_marksAt_110 rfl ?_
            refine wt_rel hx hb hts cfX11 hown hK nh0_32 rfl (by decide) (Or.inl (hts _ q904)) dX11_marksAt_111 ?_
            refine lv_lload hx hb dX11_marksAt_114 (lv_at hl 0 rfl) ?_
            refine lv_ldiv hx hb dX11_marksAt_116 (l_ne0 z106) ?_
            refine lv_topl (fun x116 e116 => ?_)
            have t116 := lt_div e116 (l_ne0 z106) rx20032_82 (by decide)
            have r116 : lr x116 (-222090336) 222090336 := lr_div e116 (l_ne0 z106) rx20032_82 (by decide) 222090336 (by decide) (by decide)
            refine wt_putp hx hb hts cfX11 tyX11 tyX11_ok nmX11 hown hK hW hS (cg11 k0) (ce k0 (by decide)) rfl 32 (by decide) (Or.inl (hts _ q904)) rfl rfl rfl gl_mk dX11_marksAt_117 (fun H locs hW hS oq o2 np => ?_)
            have nh0_33 := o2 33 _ (by decide) (by decide) nh0_33
            have nh0_32 : wt_pin N.1 vwCl h0 11 32 (.long x116) H := np
            have hV := hV.put (by decide) o2
            have hI := mI.fr.put hI k0 oq o2 (by decide) (by decide)
            refine lv_aload_n hx hb dX11_marksAt_120 rfl (lv_at hl 1 rfl) ?_
            refine lv_dup hx hb dX11_marksAt_121 rfl ?_
            refine wt_rel hx hb hts cfX11 hown hK nh0_33 rfl (by decide) (Or.inl (hts _ q905)) dX11_marksAt_122 ?_
            refine lv_lload hx hb dX11_marksAt_125 (lv_at hl 0 rfl) ?_
            refine lv_ldiv hx hb dX11_marksAt_127 (l_ne0 z106) ?_
            refine lv_topl (fun x127 e127 => ?_)
            have t127 := lt_div e127 (l_ne0 z106) r20048 (by decide)
            have r127 : lr x127 (-222090336) 222090336 := lr_div e127 (l_ne0 z106) r20048 (by decide) 222090336 (by decide) (by decide)
            refine wt_putp hx hb hts cfX11 tyX11 tyX11_ok nmX11 hown hK hW hS (cg11 k0) (ce k0 (by decide)) rfl 33 (by decide) (Or.inl (hts _ q905)) rfl rfl rfl gl_mk dX11_marksAt_128 (fun H locs hW hS oq o2 np => ?_)
            have nh0_32 := o2 32 _ (by decide) (by decide) nh0_32
            have nh0_33 : wt_pin N.1 vwCl h0 11 33 (.long x127) H := np
            have hV := hV.put (by decide) o2
            have hI := mI.fr.put hI k0 oq o2 (by decide) (by decide)
            have hn := n_pos rp1.1 rp1.2 rp2.1 rp2.2 hz
            have m1 : p2.toInt * p2.toInt + p1.toInt * p1.toInt = (p2.toInt * p2.toInt + p1.toInt * p1.toInt) := rfl
            have b1 := hn
            have m2 : x32.toInt * x32.toInt + x48.toInt * x48.toInt = (p2.toInt * p2.toInt + p1.toInt * p1.toInt) * (p2.toInt * p2.toInt + p1.toInt * p1.toInt) := by rw [t32, t48, t25, t31, t41, t47, ← m1]; exact nrm_step p2.toInt p1.toInt p1.toInt p2.toInt
            have b2 := M_step b1.1 b1.2 hn.1 hn.2
            have m3 : x10032.toInt * x10032.toInt + x10048.toInt * x10048.toInt = (p2.toInt * p2.toInt + p1.toInt * p1.toInt) * (p2.toInt * p2.toInt + p1.toInt * p1.toInt) * (p2.toInt * p2.toInt + p1.toInt * p1.toInt) := by rw [t10032, t10048, t10025, t10031, t10041, t10047, ← m2]; exact nrm_step x32.toInt x48.toInt p1.toInt p2.toInt
            have b3 := M_step b2.1 b2.2 hn.1 hn.2
            have m4 : x20032.toInt * x20032.toInt + x20048.toInt * x20048.toInt = (p2.toInt * p2.toInt + p1.toInt * p1.toInt) * (p2.toInt * p2.toInt + p1.toInt * p1.toInt) * (p2.toInt * p2.toInt + p1.toInt * p1.toInt) * (p2.toInt * p2.toInt + p1.toInt * p1.toInt) := by rw [t20032, t20048, t20025, t20031, t20041, t20047, ← m3]; exact nrm_step x10032.toInt x10048.toInt p1.toInt p2.toInt
            have b4 := M_step b3.1 b3.2 hn.1 hn.2
            exact W.vret hx hb hr (fun t ht _ => ⟨⟨(), rfl, trivial, cW_at ht hW, ⟨mI_at ht hI, kp_at ht hV, ⟨_, _, pin_at ht nh0_32, pin_at ht nh0_33, mk_fin m4 b4.1 (Int.le_trans b4.2 (by decide)) t116 t127 (by rw [t106]; exact Int.neg_dvd.mpr (gcd_dl y72)) (by rw [t106]; exact Int.neg_dvd.mpr (gcd_dr y72))⟩⟩⟩, hS.F ht⟩) hS.2.2 dX11_marksAt_131
          · have c82 : (0 : Int) ≤ x20032.toInt := c82
            have rx20032_82 : lr x20032 0 222090336 := by have h8 := r20032; have h9 := (lr_c (0) (by decide) : lr (0 : Int64) (0) (0)); constructor <;> omega
            refine lv_aload_n hx hb dX11_marksAt_86 rfl (lv_at hl 1 rfl) ?_
            refine wt_rel hx hb hts cfX11 hown hK nh0_32 rfl (by decide) (Or.inl (hts _ q904)) dX11_marksAt_87 ?_
            refine lv_lconst (v := 0) hx hb dX11_marksAt_90 (by decide) ?_
            refine wl_ne (tgt := 109) hx hb dX11_marksAt_91 dX11_marksAt_92 (by decide) (fun c91 => ?_) (fun c91 => ?_)
            · have c91 : x20032.toInt ≠ (0 : Int) := c91
              have rx20032_91 : lr x20032 1 222090336 := by have h8 := rx20032_82; have h9 := (lr_c (0) (by decide) : lr (0 : Int64) (0) (0)); constructor <;> omega
              refine lv_aload_n hx hb dX11_marksAt_109 rfl (lv_at hl 1 rfl) ?_
              refine lv_dup hx hb dX11_marksAt_110 rfl ?_
              refine wt_rel hx hb hts cfX11 hown hK nh0_32 rfl (by decide) (Or.inl (hts _ q904)) dX11_marksAt_111 ?_
              refine lv_lload hx hb dX11_marksAt_114 (lv_at hl 0 rfl) ?_
              refine lv_ldiv hx hb dX11_marksAt_116 (l_ne0 z72) ?_
              refine lv_topl (fun x116 e116 => ?_)
              have t116 := lt_div e116 (l_ne0 z72) rx20032_91 (by decide)
              have r116 : lr x116 (-222090336) 222090336 := lr_div e116 (l_ne0 z72) rx20032_91 (by decide) 222090336 (by decide) (by decide)
              refine wt_putp hx hb hts cfX11 tyX11 tyX11_ok nmX11 hown hK hW hS (cg11 k0) (ce k0 (by decide)) rfl 32 (by decide) (Or.inl (hts _ q904)) rfl rfl rfl gl_mk dX11_marksAt_117 (fun H locs hW hS oq o2 np => ?_)
              have nh0_33 := o2 33 _ (by decide) (by decide) nh0_33
              have nh0_32 : wt_pin N.1 vwCl h0 11 32 (.long x116) H := np
              have hV := hV.put (by decide) o2
              have hI := mI.fr.put hI k0 oq o2 (by decide) (by decide)
              refine lv_aload_n hx hb dX11_marksAt_120 rfl (lv_at hl 1 rfl) ?_
              refine lv_dup hx hb dX11_marksAt_121 rfl ?_
              refine wt_rel hx hb hts cfX11 hown hK nh0_33 rfl (by decide) (Or.inl (hts _ q905)) dX11_marksAt_122 ?_
              refine lv_lload hx hb dX11_marksAt_125 (lv_at hl 0 rfl) ?_
              refine lv_ldiv hx hb dX11_marksAt_127 (l_ne0 z72) ?_
              refine lv_topl (fun x127 e127 => ?_)
              have t127 := lt_div e127 (l_ne0 z72) r20048 (by decide)
              have r127 : lr x127 (-222090336) 222090336 := lr_div e127 (l_ne0 z72) r20048 (by decide) 222090336 (by decide) (by decide)
              refine wt_putp hx hb hts cfX11 tyX11 tyX11_ok nmX11 hown hK hW hS (cg11 k0) (ce k0 (by decide)) rfl 33 (by decide) (Or.inl (hts _ q905)) rfl rfl rfl gl_mk dX11_marksAt_128 (fun H locs hW hS oq o2 np => ?_)
              have nh0_32 := o2 32 _ (by decide) (by decide) nh0_32
              have nh0_33 : wt_pin N.1 vwCl h0 11 33 (.long x127) H := np
              have hV := hV.put (by decide) o2
              have hI := mI.fr.put hI k0 oq o2 (by decide) (by decide)
              have hn := n_pos rp1.1 rp1.2 rp2.1 rp2.2 hz
              have m1 : p2.toInt * p2.toInt + p1.toInt * p1.toInt = (p2.toInt * p2.toInt + p1.toInt * p1.toInt) := rfl
              have b1 := hn
              have m2 : x32.toInt * x32.toInt + x48.toInt * x48.toInt = (p2.toInt * p2.toInt + p1.toInt * p1.toInt) * (p2.toInt * p2.toInt + p1.toInt * p1.toInt) := by rw [t32, t48, t25, t31, t41, t47, ← m1]; exact nrm_step p2.toInt p1.toInt p1.toInt p2.toInt
              have b2 := M_step b1.1 b1.2 hn.1 hn.2
              have m3 : x10032.toInt * x10032.toInt + x10048.toInt * x10048.toInt = (p2.toInt * p2.toInt + p1.toInt * p1.toInt) * (p2.toInt * p2.toInt + p1.toInt * p1.toInt) * (p2.toInt * p2.toInt + p1.toInt * p1.toInt) := by rw [t10032, t10048, t10025, t10031, t10041, t10047, ← m2]; exact nrm_step x32.toInt x48.toInt p1.toInt p2.toInt
              have b3 := M_step b2.1 b2.2 hn.1 hn.2
              have m4 : x20032.toInt * x20032.toInt + x20048.toInt * x20048.toInt = (p2.toInt * p2.toInt + p1.toInt * p1.toInt) * (p2.toInt * p2.toInt + p1.toInt * p1.toInt) * (p2.toInt * p2.toInt + p1.toInt * p1.toInt) * (p2.toInt * p2.toInt + p1.toInt * p1.toInt) := by rw [t20032, t20048, t20025, t20031, t20041, t20047, ← m3]; exact nrm_step x10032.toInt x10048.toInt p1.toInt p2.toInt
              have b4 := M_step b3.1 b3.2 hn.1 hn.2
              exact W.vret hx hb hr (fun t ht _ => ⟨⟨(), rfl, trivial, cW_at ht hW, ⟨mI_at ht hI, kp_at ht hV, ⟨_, _, pin_at ht nh0_32, pin_at ht nh0_33, mk_fin m4 b4.1 (Int.le_trans b4.2 (by decide)) t116 t127 (gcd_dl y72) (gcd_dr y72)⟩⟩⟩, hS.F ht⟩) hS.2.2 dX11_marksAt_131
            · have c91 : x20032.toInt = (0 : Int) := c91
              have rx20032_91 : lr x20032 0 0 := by have h8 := rx20032_82; have h9 := (lr_c (0) (by decide) : lr (0 : Int64) (0) (0)); constructor <;> omega
              refine lv_aload_n hx hb dX11_marksAt_95 rfl (lv_at hl 1 rfl) ?_
              refine wt_rel hx hb hts cfX11 hown hK nh0_33 rfl (by decide) (Or.inl (hts _ q905)) dX11_marksAt_96 ?_
              refine lv_lconst (v := 0) hx hb dX11_marksAt_99 (by decide) ?_
              refine wl_ge (tgt := 109) hx hb dX11_marksAt_100 dX11_marksAt_101 (by decide) (fun c100 => ?_) (fun c100 => ?_)
              · have c100 : (0 : Int) ≤ x20048.toInt := c100
                have rx20048_100 : lr x20048 0 222090336 := by have h8 := r20048; have h9 := (lr_c (0) (by decide) : lr (0 : Int64) (0) (0)); constructor <;> omega
                refine lv_aload_n hx hb dX11_marksAt_109 rfl (lv_at hl 1 rfl) ?_
                refine lv_dup hx hb dX11_marksAt_110 rfl ?_
                refine wt_rel hx hb hts cfX11 hown hK nh0_32 rfl (by decide) (Or.inl (hts _ q904)) dX11_marksAt_111 ?_
                refine lv_lload hx hb dX11_marksAt_114 (lv_at hl 0 rfl) ?_
                refine lv_ldiv hx hb dX11_marksAt_116 (l_ne0 z72) ?_
                refine lv_topl (fun x116 e116 => ?_)
                have t116 := lt_div e116 (l_ne0 z72) rx20032_91 (by decide)
                have r116 : lr x116 0 0 := lr_div e116 (l_ne0 z72) rx20032_91 (by decide) 0 (by decide) (by decide)
                refine wt_putp hx hb hts cfX11 tyX11 tyX11_ok nmX11 hown hK hW hS (cg11 k0) (ce k0 (by decide)) rfl 32 (by decide) (Or.inl (hts _ q904)) rfl rfl rfl gl_mk dX11_marksAt_117 (fun H locs hW hS oq o2 np => ?_)
                have nh0_33 := o2 33 _ (by decide) (by decide) nh0_33
                have nh0_32 : wt_pin N.1 vwCl h0 11 32 (.long x116) H := np
                have hV := hV.put (by decide) o2
                have hI := mI.fr.put hI k0 oq o2 (by decide) (by decide)
                refine lv_aload_n hx hb dX11_marksAt_120 rfl (lv_at hl 1 rfl) ?_
                refine lv_dup hx hb dX11_marksAt_121 rfl ?_
                refine wt_rel hx hb hts cfX11 hown hK nh0_33 rfl (by decide) (Or.inl (hts _ q905)) dX11_marksAt_122 ?_
                refine lv_lload hx hb dX11_marksAt_125 (lv_at hl 0 rfl) ?_
                refine lv_ldiv hx hb dX11_marksAt_127 (l_ne0 z72) ?_
                refine lv_topl (fun x127 e127 => ?_)
                have t127 := lt_div e127 (l_ne0 z72) rx20048_100 (by decide)
                have r127 : lr x127 (-222090336) 222090336 := lr_div e127 (l_ne0 z72) rx20048_100 (by decide) 222090336 (by decide) (by decide)
                refine wt_putp hx hb hts cfX11 tyX11 tyX11_ok nmX11 hown hK hW hS (cg11 k0) (ce k0 (by decide)) rfl 33 (by decide) (Or.inl (hts _ q905)) rfl rfl rfl gl_mk dX11_marksAt_128 (fun H locs hW hS oq o2 np => ?_)
                have nh0_32 := o2 32 _ (by decide) (by decide) nh0_32
                have nh0_33 : wt_pin N.1 vwCl h0 11 33 (.long x127) H := np
                have hV := hV.put (by decide) o2
                have hI := mI.fr.put hI k0 oq o2 (by decide) (by decide)
                have hn := n_pos rp1.1 rp1.2 rp2.1 rp2.2 hz
                have m1 : p2.toInt * p2.toInt + p1.toInt * p1.toInt = (p2.toInt * p2.toInt + p1.toInt * p1.toInt) := rfl
                have b1 := hn
                have m2 : x32.toInt * x32.toInt + x48.toInt * x48.toInt = (p2.toInt * p2.toInt + p1.toInt * p1.toInt) * (p2.toInt * p2.toInt + p1.toInt * p1.toInt) := by rw [t32, t48, t25, t31, t41, t47, ← m1]; exact nrm_step p2.toInt p1.toInt p1.toInt p2.toInt
                have b2 := M_step b1.1 b1.2 hn.1 hn.2
                have m3 : x10032.toInt * x10032.toInt + x10048.toInt * x10048.toInt = (p2.toInt * p2.toInt + p1.toInt * p1.toInt) * (p2.toInt * p2.toInt + p1.toInt * p1.toInt) * (p2.toInt * p2.toInt + p1.toInt * p1.toInt) := by rw [t10032, t10048, t10025, t10031, t10041, t10047, ← m2]; exact nrm_step x32.toInt x48.toInt p1.toInt p2.toInt
                have b3 := M_step b2.1 b2.2 hn.1 hn.2
                have m4 : x20032.toInt * x20032.toInt + x20048.toInt * x20048.toInt = (p2.toInt * p2.toInt + p1.toInt * p1.toInt) * (p2.toInt * p2.toInt + p1.toInt * p1.toInt) * (p2.toInt * p2.toInt + p1.toInt * p1.toInt) * (p2.toInt * p2.toInt + p1.toInt * p1.toInt) := by rw [t20032, t20048, t20025, t20031, t20041, t20047, ← m3]; exact nrm_step x10032.toInt x10048.toInt p1.toInt p2.toInt
                have b4 := M_step b3.1 b3.2 hn.1 hn.2
                exact W.vret hx hb hr (fun t ht _ => ⟨⟨(), rfl, trivial, cW_at ht hW, ⟨mI_at ht hI, kp_at ht hV, ⟨_, _, pin_at ht nh0_32, pin_at ht nh0_33, mk_fin m4 b4.1 (Int.le_trans b4.2 (by decide)) t116 t127 (gcd_dl y72) (gcd_dr y72)⟩⟩⟩, hS.F ht⟩) hS.2.2 dX11_marksAt_131
              · have c100 : x20048.toInt < (0 : Int) := c100
                have rx20048_100 : lr x20048 (-222090336) (-1) := by have h8 := r20048; have h9 := (lr_c (0) (by decide) : lr (0 : Int64) (0) (0)); constructor <;> omega
                refine lv_lload hx hb dX11_marksAt_104 (lv_at hl 0 rfl) ?_
                refine lv_lneg hx hb dX11_marksAt_106 ?_
                refine lv_topl (fun x106 e106 => ?_)
                have r106 : lr x106 (-9223372036854775807) 0 := lr_neg e106 r72 (by decide) (by decide) (by decide)
                have t106 := lt_neg e106 r72 (by decide)
                have z106 : x106.toInt ≠ 0 := by omega
                refine lv_lstore (lv' := [(6, .long x106), (0, .ref h0), (1, .long p1), (3, .long p2), (5, .int p3)]) hx hb dX11_marksAt_107 hl (by decide) rfl (fun ls hl => ?_)
                refine lv_aload_n hx hb dX11_marksAt_109 rfl (lv_at hl 1 rfl) ?_
                refine lv_dup hx hb dX11_marksAt_110 rfl ?_
                refine wt_rel hx hb hts cfX11 hown hK nh0_32 rfl (by decide) (Or.inl (hts _ q904)) dX11_marksAt_111 ?_
                refine lv_lload hx hb dX11_marksAt_114 (lv_at hl 0 rfl) ?_
                refine lv_ldiv hx hb dX11_marksAt_116 (l_ne0 z106) ?_
                refine lv_topl (fun x116 e116 => ?_)
                have t116 := lt_div e116 (l_ne0 z106) rx20032_91 (by decide)
                have r116 : lr x116 0 0 := lr_div e116 (l_ne0 z106) rx20032_91 (by decide) 0 (by decide) (by decide)
                refine wt_putp hx hb hts cfX11 tyX11 tyX11_ok nmX11 hown hK hW hS (cg11 k0) (ce k0 (by decide)) rfl 32 (by decide) (Or.inl (hts _ q904)) rfl rfl rfl gl_mk dX11_marksAt_117 (fun H locs hW hS oq o2 np => ?_)
                have nh0_33 := o2 33 _ (by decide) (by decide) nh0_33
                have nh0_32 : wt_pin N.1 vwCl h0 11 32 (.long x116) H := np
                have hV := hV.put (by decide) o2
                have hI := mI.fr.put hI k0 oq o2 (by decide) (by decide)
                refine lv_aload_n hx hb dX11_marksAt_120 rfl (lv_at hl 1 rfl) ?_
                refine lv_dup hx hb dX11_marksAt_121 rfl ?_
                refine wt_rel hx hb hts cfX11 hown hK nh0_33 rfl (by decide) (Or.inl (hts _ q905)) dX11_marksAt_122 ?_
                refine lv_lload hx hb dX11_marksAt_125 (lv_at hl 0 rfl) ?_
                refine lv_ldiv hx hb dX11_marksAt_127 (l_ne0 z106) ?_
                refine lv_topl (fun x127 e127 => ?_)
                have t127 := lt_div e127 (l_ne0 z106) rx20048_100 (by decide)
                have r127 : lr x127 (-222090336) 222090336 := lr_div e127 (l_ne0 z106) rx20048_100 (by decide) 222090336 (by decide) (by decide)
                refine wt_putp hx hb hts cfX11 tyX11 tyX11_ok nmX11 hown hK hW hS (cg11 k0) (ce k0 (by decide)) rfl 33 (by decide) (Or.inl (hts _ q905)) rfl rfl rfl gl_mk dX11_marksAt_128 (fun H locs hW hS oq o2 np => ?_)
                have nh0_32 := o2 32 _ (by decide) (by decide) nh0_32
                have nh0_33 : wt_pin N.1 vwCl h0 11 33 (.long x127) H := np
                have hV := hV.put (by decide) o2
                have hI := mI.fr.put hI k0 oq o2 (by decide) (by decide)
                have hn := n_pos rp1.1 rp1.2 rp2.1 rp2.2 hz
                have m1 : p2.toInt * p2.toInt + p1.toInt * p1.toInt = (p2.toInt * p2.toInt + p1.toInt * p1.toInt) := rfl
                have b1 := hn
                have m2 : x32.toInt * x32.toInt + x48.toInt * x48.toInt = (p2.toInt * p2.toInt + p1.toInt * p1.toInt) * (p2.toInt * p2.toInt + p1.toInt * p1.toInt) := by rw [t32, t48, t25, t31, t41, t47, ← m1]; exact nrm_step p2.toInt p1.toInt p1.toInt p2.toInt
                have b2 := M_step b1.1 b1.2 hn.1 hn.2
                have m3 : x10032.toInt * x10032.toInt + x10048.toInt * x10048.toInt = (p2.toInt * p2.toInt + p1.toInt * p1.toInt) * (p2.toInt * p2.toInt + p1.toInt * p1.toInt) * (p2.toInt * p2.toInt + p1.toInt * p1.toInt) := by rw [t10032, t10048, t10025, t10031, t10041, t10047, ← m2]; exact nrm_step x32.toInt x48.toInt p1.toInt p2.toInt
                have b3 := M_step b2.1 b2.2 hn.1 hn.2
                have m4 : x20032.toInt * x20032.toInt + x20048.toInt * x20048.toInt = (p2.toInt * p2.toInt + p1.toInt * p1.toInt) * (p2.toInt * p2.toInt + p1.toInt * p1.toInt) * (p2.toInt * p2.toInt + p1.toInt * p1.toInt) * (p2.toInt * p2.toInt + p1.toInt * p1.toInt) := by rw [t20032, t20048, t20025, t20031, t20041, t20047, ← m3]; exact nrm_step x10032.toInt x10048.toInt p1.toInt p2.toInt
                have b4 := M_step b3.1 b3.2 hn.1 hn.2
                exact W.vret hx hb hr (fun t ht _ => ⟨⟨(), rfl, trivial, cW_at ht hW, ⟨mI_at ht hI, kp_at ht hV, ⟨_, _, pin_at ht nh0_32, pin_at ht nh0_33, mk_fin m4 b4.1 (Int.le_trans b4.2 (by decide)) t116 t127 (by rw [t106]; exact Int.neg_dvd.mpr (gcd_dl y72)) (by rw [t106]; exact Int.neg_dvd.mpr (gcd_dr y72))⟩⟩⟩, hS.F ht⟩) hS.2.2 dX11_marksAt_131
        · exact absurd (rf_lt (rf_nle c30017) r20058 rp3) (by have h8 := r20058; have h9 := rp3; omega)
set_option maxHeartbeats 4000000 in
set_option maxRecDepth 100000 in
theorem m_X11_marksAt_3 (l : Launch) (N : c_N) (h0 : Nat) (k0 : N.2.2.1 h0 = some 11) (hO : mOK N) (V : Nat → Value) (p1 : Int64) (rp1 : lr p1 0 78) (p2 : Int64) (rp2 : lr p2 0 78) (p3 : Int32) (rp3 : ir p3 3 3) (hz : p1.toInt ≠ 0 ∨ p2.toInt ≠ 0) : cMv l yX11_marksAt cX11_marksAt 9 { frames := 1, cells := 0, slots := 0, locals := 29 } [.ref h0, .long p1, .long p2, .int p3] N [11] (fun H => mI N h0 H ∧ kp N h0 [32, 33] V H) (fun H => mI N h0 H ∧ kp N h0 [32, 33] V H ∧ ∃ re tu : Int64, pL N h0 32 re H ∧ pL N h0 33 tu H ∧ mkOK re tu) := by
  refine Met.ofW (cc := cX11_marksAt) (maxL := 9) (ret := none) (by decide) rfl ?_
  intro p e s m args below meth c s₁ B hml hv
  obtain ⟨rfl, ⟨hK, hW, hT, hnn⟩, hB⟩ := hv
  obtain ⟨hI, hV⟩ := hB
  have hx := B.exec
  have hb := B.bytes
  have hr := B.returns
  have hts : ∀ w ∈ lw_g, w.before _ s = true := fun w h => atoms_spec (ws := wc_ws yX11_marksAt cX11_marksAt 9 none) B.pre w (List.mem_cons_of_mem _ h)
  have hown : s.vm.findClass RX11 = some m.cls := findClass_of_methodNamed B.named
  have hlocks := B.notSynchronized
  have hS : va_S (cE N [11]) s.heap s.heap [] := va_S.rf
  have hl := lv_entry ([.ref h0, .long p1, .long p2, .int p3]) (n := 9) (Nat.le_of_ble_eq_true rfl)
  rw [lg_entry_eq]
  generalize (lg_sl ([.ref h0, .long p1, .long p2, .int p3]) ++ List.replicate (9 - (lg_sl ([.ref h0, .long p1, .long p2, .int p3])).length) Slot.unset).toArray = ls at hl ⊢
  have hl : lv_has ls 9 [(0, .ref h0), (1, .long p1), (3, .long p2), (5, .int p3)] := hl
  refine wq_all ?_
  intro WW w1 w2
  refine lv_aload_n hx hb dX11_marksAt_0 rfl (lv_at hl 0 rfl) ?_
  refine lv_lload_n hx hb dX11_marksAt_1 rfl (lv_at hl 2 rfl) ?_
  refine wt_putp hx hb hts cfX11 tyX11 tyX11_ok nmX11 hown hK hW hS (cg11 k0) (ce k0 (by decide)) rfl 32 (by decide) (Or.inl (hts _ q904)) rfl rfl rfl gl_mk dX11_marksAt_2 (fun H locs hW hS oq o2 np => ?_)
  have nh0_32 : wt_pin N.1 vwCl h0 11 32 (.long p2) H := np
  have hV := hV.put (by decide) o2
  have hI := mI.fr.put hI k0 oq o2 (by decide) (by decide)
  refine lv_aload_n hx hb dX11_marksAt_5 rfl (lv_at hl 0 rfl) ?_
  refine lv_lload_n hx hb dX11_marksAt_6 rfl (lv_at hl 1 rfl) ?_
  refine wt_putp hx hb hts cfX11 tyX11 tyX11_ok nmX11 hown hK hW hS (cg11 k0) (ce k0 (by decide)) rfl 33 (by decide) (Or.inl (hts _ q905)) rfl rfl rfl gl_mk dX11_marksAt_7 (fun H locs hW hS oq o2 np => ?_)
  have nh0_32 := o2 32 _ (by decide) (by decide) nh0_32
  have nh0_33 : wt_pin N.1 vwCl h0 11 33 (.long p1) H := np
  have hV := hV.put (by decide) o2
  have hI := mI.fr.put hI k0 oq o2 (by decide) (by decide)
  refine lv_iconst (v := 1) hx hb dX11_marksAt_10 (by decide) ?_
  refine lv_istore (lv' := [(6, .int (1 : Int32)), (0, .ref h0), (1, .long p1), (3, .long p2), (5, .int p3)]) hx hb dX11_marksAt_11 hl (by decide) rfl (fun ls hl => ?_)
  refine lv_iload hx hb dX11_marksAt_13 (lv_at hl 0 rfl) ?_
  refine lv_iload hx hb dX11_marksAt_15 (lv_at hl 4 rfl) ?_
  refine lv_icmp_ge (tgt := 64) hx hb dX11_marksAt_17 (by decide) (fun c17 => ?_) (fun c17 => ?_)
  · exact absurd (rf_le c17 rp3 (ir_c (1) (by decide) : ir (1 : Int32) (1) (1))) (by have h8 := rp3; have h9 := (ir_c (1) (by decide) : ir (1 : Int32) (1) (1)); omega)
  · refine lv_aload_n hx hb dX11_marksAt_20 rfl (lv_at hl 1 rfl) ?_
    refine wt_rel hx hb hts cfX11 hown hK nh0_32 rfl (by decide) (Or.inl (hts _ q904)) dX11_marksAt_21 ?_
    refine lv_lload_n hx hb dX11_marksAt_24 rfl (lv_at hl 3 rfl) ?_
    refine lv_lmul hx hb dX11_marksAt_25 ?_
    refine lv_topl (fun x25 e25 => ?_)
    have u25 := lt_mulp e25 rp2 rp2 (by decide) (by decide) (by decide)
    have t25 := u25.1
    have r25 : lr x25 0 6084 := lr_w u25.2 (by decide) (by decide)
    refine lv_aload_n hx hb dX11_marksAt_26 rfl (lv_at hl 1 rfl) ?_
    refine wt_rel hx hb hts cfX11 hown hK nh0_33 rfl (by decide) (Or.inl (hts _ q905)) dX11_marksAt_27 ?_
    refine lv_lload_n hx hb dX11_marksAt_30 rfl (lv_at hl 2 rfl) ?_
    refine lv_lmul hx hb dX11_marksAt_31 ?_
    refine lv_topl (fun x31 e31 => ?_)
    have u31 := lt_mulp e31 rp1 rp1 (by decide) (by decide) (by decide)
    have t31 := u31.1
    have r31 : lr x31 0 6084 := lr_w u31.2 (by decide) (by decide)
    refine lv_lsub hx hb dX11_marksAt_32 ?_
    refine lv_topl (fun x32 e32 => ?_)
    have t32 := lt_sub e32 r25 r31 (by decide) (by decide)
    have r32 : lr x32 (-6084) 6084 := lr_sub e32 r25 r31 (by decide) (by decide) (by decide) (by decide)
    refine lv_lstore (lv' := [(7, .long x32), (6, .int (1 : Int32)), (0, .ref h0), (1, .long p1), (3, .long p2), (5, .int p3)]) hx hb dX11_marksAt_33 hl (by decide) rfl (fun ls hl => ?_)
    refine lv_aload_n hx hb dX11_marksAt_35 rfl (lv_at hl 2 rfl) ?_
    refine lv_aload_n hx hb dX11_marksAt_36 rfl (lv_at hl 2 rfl) ?_
    refine wt_rel hx hb hts cfX11 hown hK nh0_32 rfl (by decide) (Or.inl (hts _ q904)) dX11_marksAt_37 ?_
    refine lv_lload_n hx hb dX11_marksAt_40 rfl (lv_at hl 3 rfl) ?_
    refine lv_lmul hx hb dX11_marksAt_41 ?_
    refine lv_topl (fun x41 e41 => ?_)
    have u41 := lt_mulp e41 rp2 rp1 (by decide) (by decide) (by decide)
    have t41 := u41.1
    have r41 : lr x41 0 6084 := lr_w u41.2 (by decide) (by decide)
    refine lv_aload_n hx hb dX11_marksAt_42 rfl (lv_at hl 2 rfl) ?_
    refine wt_rel hx hb hts cfX11 hown hK nh0_33 rfl (by decide) (Or.inl (hts _ q905)) dX11_marksAt_43 ?_
    refine lv_lload_n hx hb dX11_marksAt_46 rfl (lv_at hl 4 rfl) ?_
    refine lv_lmul hx hb dX11_marksAt_47 ?_
    refine lv_topl (fun x47 e47 => ?_)
    have u47 := lt_mulp e47 rp1 rp2 (by decide) (by decide) (by decide)
    have t47 := u47.1
    have r47 : lr x47 0 6084 := lr_w u47.2 (by decide) (by decide)
    refine lv_ladd hx hb dX11_marksAt_48 ?_
    refine lv_topl (fun x48 e48 => ?_)
    have t48 := lt_add e48 r41 r47 (by decide) (by decide)
    have r48 : lr x48 0 12168 := lr_add e48 r41 r47 (by decide) (by decide) (by decide) (by decide)
    refine wt_putp hx hb hts cfX11 tyX11 tyX11_ok nmX11 hown hK hW hS (cg11 k0) (ce k0 (by decide)) rfl 33 (by decide) (Or.inl (hts _ q905)) rfl rfl rfl gl_mk dX11_marksAt_49 (fun H locs hW hS oq o2 np => ?_)
    have nh0_32 := o2 32 _ (by decide) (by decide) nh0_32
    have nh0_33 : wt_pin N.1 vwCl h0 11 33 (.long x48) H := np
    have hV := hV.put (by decide) o2
    have hI := mI.fr.put hI k0 oq o2 (by decide) (by decide)
    refine lv_aload_n hx hb dX11_marksAt_52 rfl (lv_at hl 2 rfl) ?_
    refine lv_lload hx hb dX11_marksAt_53 (lv_at hl 0 rfl) ?_
    refine wt_putp hx hb hts cfX11 tyX11 tyX11_ok nmX11 hown hK hW hS (cg11 k0) (ce k0 (by decide)) rfl 32 (by decide) (Or.inl (hts _ q904)) rfl rfl rfl gl_mk dX11_marksAt_55 (fun H locs hW hS oq o2 np => ?_)
    have nh0_33 := o2 33 _ (by decide) (by decide) nh0_33
    have nh0_32 : wt_pin N.1 vwCl h0 11 32 (.long x32) H := np
    have hV := hV.put (by decide) o2
    have hI := mI.fr.put hI k0 oq o2 (by decide) (by decide)
    obtain ⟨x58, e58⟩ : ∃ y : Int32, y = (1 : Int32) + 1 := ⟨_, rfl⟩
    have r58 : ir x58 2 2 := ir_w (ir_add e58 (ir_c (1) (by decide) : ir (1 : Int32) (1) (1)) (ir_c (1) (by decide) : ir (1 : Int32) (1) (1)) (by decide) (by decide)) (by decide) (by decide)
    have t58 : x58.toInt = (1 : Int32).toInt + (1) := it_add e58 (ir_c (1) (by decide) : ir (1 : Int32) (1) (1)) (ir_c (1) (by decide) : ir (1 : Int32) (1) (1)) (by decide) (by decide)
    refine lv_iinc (v := x58) (lv' := [(6, .int x58), (7, .long x32), (0, .ref h0), (1, .long p1), (3, .long p2), (5, .int p3)]) hx hb dX11_marksAt_58 hl (k := 1) rfl (by rw [e58]; rfl) (by decide) rfl (fun ls hl => ?_)
    refine lv_goto (tgt := 13) hx hb dX11_marksAt_61 (by decide) ?_
    refine lv_iload hx hb dX11_marksAt_13 (lv_at hl 0 rfl) ?_
    refine lv_iload hx hb dX11_marksAt_15 (lv_at hl 5 rfl) ?_
    refine lv_icmp_ge (tgt := 64) hx hb dX11_marksAt_17 (by decide) (fun c10017 => ?_) (fun c10017 => ?_)
    · exact absurd (rf_le c10017 rp3 r58) (by have h8 := rp3; have h9 := r58; omega)
    · refine lv_aload_n hx hb dX11_marksAt_20 rfl (lv_at hl 2 rfl) ?_
      refine wt_rel hx hb hts cfX11 hown hK nh0_32 rfl (by decide) (Or.inl (hts _ q904)) dX11_marksAt_21 ?_
      refine lv_lload_n hx hb dX11_marksAt_24 rfl (lv_at hl 4 rfl) ?_
      refine lv_lmul hx hb dX11_marksAt_25 ?_
      refine lv_topl (fun x10025 e10025 => ?_)
      have u10025 := lt_mul e10025 r32 rp2 6084 78 (by decide) (by decide) (by decide) (by decide) (by decide)
      have t10025 := u10025.1
      have r10025 : lr x10025 (-474552) 474552 := lr_w u10025.2 (by decide) (by decide)
      refine lv_aload_n hx hb dX11_marksAt_26 rfl (lv_at hl 2 rfl) ?_
      refine wt_rel hx hb hts cfX11 hown hK nh0_33 rfl (by decide) (Or.inl (hts _ q905)) dX11_marksAt_27 ?_
      refine lv_lload_n hx hb dX11_marksAt_30 rfl (lv_at hl 3 rfl) ?_
      refine lv_lmul hx hb dX11_marksAt_31 ?_
      refine lv_topl (fun x10031 e10031 => ?_)
      have u10031 := lt_mulp e10031 r48 rp1 (by decide) (by decide) (by decide)
      have t10031 := u10031.1
      have r10031 : lr x10031 0 949104 := lr_w u10031.2 (by decide) (by decide)
      refine lv_lsub hx hb dX11_marksAt_32 ?_
      refine lv_topl (fun x10032 e10032 => ?_)
      have t10032 := lt_sub e10032 r10025 r10031 (by decide) (by decide)
      have r10032 : lr x10032 (-1423656) 474552 := lr_sub e10032 r10025 r10031 (by decide) (by decide) (by decide) (by decide)
      refine lv_lstore (lv' := [(7, .long x10032), (6, .int x58), (0, .ref h0), (1, .long p1), (3, .long p2), (5, .int p3)]) hx hb dX11_marksAt_33 hl (by decide) rfl (fun ls hl => ?_)
      refine lv_aload_n hx hb dX11_marksAt_35 rfl (lv_at hl 2 rfl) ?_
      refine lv_aload_n hx hb dX11_marksAt_36 rfl (lv_at hl 2 rfl) ?_
      refine wt_rel hx hb hts cfX11 hown hK nh0_32 rfl (by decide) (Or.inl (hts _ q904)) dX11_marksAt_37 ?_
      refine lv_lload_n hx hb dX11_marksAt_40 rfl (lv_at hl 3 rfl) ?_
      refine lv_lmul hx hb dX11_marksAt_41 ?_
      refine lv_topl (fun x10041 e10041 => ?_)
      have u10041 := lt_mul e10041 r32 rp1 6084 78 (by decide) (by decide) (by decide) (by decide) (by decide)
      have t10041 := u10041.1
      have r10041 : lr x10041 (-474552) 474552 := lr_w u10041.2 (by decide) (by decide)
      refine lv_aload_n hx hb dX11_marksAt_42 rfl (lv_at hl 2 rfl) ?_
      refine wt_rel hx hb hts cfX11 hown hK nh0_33 rfl (by decide) (Or.inl (hts _ q905)) dX11_marksAt_43 ?_
      refine lv_lload_n hx hb dX11_marksAt_46 rfl (lv_at hl 4 rfl) ?_
      refine lv_lmul hx hb dX11_marksAt_47 ?_
      refine lv_topl (fun x10047 e10047 => ?_)
      have u10047 := lt_mulp e10047 r48 rp2 (by decide) (by decide) (by decide)
      have t10047 := u10047.1
      have r10047 : lr x10047 0 949104 := lr_w u10047.2 (by decide) (by decide)
      refine lv_ladd hx hb dX11_marksAt_48 ?_
      refine lv_topl (fun x10048 e10048 => ?_)
      have t10048 := lt_add e10048 r10041 r10047 (by decide) (by decide)
      have r10048 : lr x10048 (-474552) 1423656 := lr_add e10048 r10041 r10047 (by decide) (by decide) (by decide) (by decide)
      refine wt_putp hx hb hts cfX11 tyX11 tyX11_ok nmX11 hown hK hW hS (cg11 k0) (ce k0 (by decide)) rfl 33 (by decide) (Or.inl (hts _ q905)) rfl rfl rfl gl_mk dX11_marksAt_49 (fun H locs hW hS oq o2 np => ?_)
      have nh0_32 := o2 32 _ (by decide) (by decide) nh0_32
      have nh0_33 : wt_pin N.1 vwCl h0 11 33 (.long x10048) H := np
      have hV := hV.put (by decide) o2
      have hI := mI.fr.put hI k0 oq o2 (by decide) (by decide)
      refine lv_aload_n hx hb dX11_marksAt_52 rfl (lv_at hl 2 rfl) ?_
      refine lv_lload hx hb dX11_marksAt_53 (lv_at hl 0 rfl) ?_
      refine wt_putp hx hb hts cfX11 tyX11 tyX11_ok nmX11 hown hK hW hS (cg11 k0) (ce k0 (by decide)) rfl 32 (by decide) (Or.inl (hts _ q904)) rfl rfl rfl gl_mk dX11_marksAt_55 (fun H locs hW hS oq o2 np => ?_)
      have nh0_33 := o2 33 _ (by decide) (by decide) nh0_33
      have nh0_32 : wt_pin N.1 vwCl h0 11 32 (.long x10032) H := np
      have hV := hV.put (by decide) o2
      have hI := mI.fr.put hI k0 oq o2 (by decide) (by decide)
      obtain ⟨x10058, e10058⟩ : ∃ y : Int32, y = x58 + 1 := ⟨_, rfl⟩
      have r10058 : ir x10058 3 3 := ir_w (ir_add e10058 r58 (ir_c (1) (by decide) : ir (1 : Int32) (1) (1)) (by decide) (by decide)) (by decide) (by decide)
      have t10058 : x10058.toInt = x58.toInt + (1) := it_add e10058 r58 (ir_c (1) (by decide) : ir (1 : Int32) (1) (1)) (by decide) (by decide)
      refine lv_iinc (v := x10058) (lv' := [(6, .int x10058), (7, .long x10032), (0, .ref h0), (1, .long p1), (3, .long p2), (5, .int p3)]) hx hb dX11_marksAt_58 hl (k := 1) rfl (by rw [e10058]; rfl) (by decide) rfl (fun ls hl => ?_)
      refine lv_goto (tgt := 13) hx hb dX11_marksAt_61 (by decide) ?_
      refine lv_iload hx hb dX11_marksAt_13 (lv_at hl 0 rfl) ?_
      refine lv_iload hx hb dX11_marksAt_15 (lv_at hl 5 rfl) ?_
      refine lv_icmp_ge (tgt := 64) hx hb dX11_marksAt_17 (by decide) (fun c20017 => ?_) (fun c20017 => ?_)
      · refine lv_aload_n hx hb dX11_marksAt_64 rfl (lv_at hl 2 rfl) ?_
        refine wt_rel hx hb hts cfX11 hown hK nh0_32 rfl (by decide) (Or.inl (hts _ q904)) dX11_marksAt_65 ?_
        refine lv_aload_n hx hb dX11_marksAt_68 rfl (lv_at hl 2 rfl) ?_
        refine wt_rel hx hb hts cfX11 hown hK nh0_33 rfl (by decide) (Or.inl (hts _ q905)) dX11_marksAt_69 ?_
        refine cp_l (wt_runS (As := [.long x10032, .long x10048]) (rest := []) ⟨hx, hb, hml, hown, hts⟩ (m_X11_gcd l x10032 (lr_w (lo' := -9223372036854775807) (hi' := 9223372036854775807) r10032 (by decide) (by decide)) x10048 (lr_w (lo' := -9223372036854775807) (hi' := 9223372036854775807) r10048 (by decide) (by decide))) wm_X11_gcd q1054 ⟨rfl, rfl⟩ ⟨Nat.le_of_ble_eq_true rfl, Nat.le_of_ble_eq_true rfl⟩ pS_pre rfl hl.1 rfl (Nat.le_of_ble_eq_true rfl) dX11_marksAt_72 ⟨Nat.zero_le _, Nat.zero_le _⟩) hW hS (fun x72 H locs hp hW1 hS oq => ?_)
        have hV := hV.same hW k0 oq
        have hI := mI.fr.same hI hW oq
        have hW := hW1
        have nh0_33 := nh0_33.kept (oq _ nh0_33.lt (cE_not k0 (by decide)))
        have nh0_32 := nh0_32.kept (oq _ nh0_32.lt (cE_not k0 (by decide)))
        have y72 : x72.toInt = ((Int.gcd x10032.toInt x10048.toInt : Nat) : Int) := hp
        have r72 : lr x72 0 9223372036854775807 := ⟨gcd_bd y72, (lr_any x72).2⟩
        have z72 : x72.toInt ≠ 0 := by
          have hn := n_pos rp1.1 rp1.2 rp2.1 rp2.2 hz
          have m1 : p2.toInt * p2.toInt + p1.toInt * p1.toInt = (p2.toInt * p2.toInt + p1.toInt * p1.toInt) := rfl
          have b1 := hn
          have m2 : x32.toInt * x32.toInt + x48.toInt * x48.toInt = (p2.toInt * p2.toInt + p1.toInt * p1.toInt) * (p2.toInt * p2.toInt + p1.toInt * p1.toInt) := by rw [t32, t48, t25, t31, t41, t47, ← m1]; exact nrm_step p2.toInt p1.toInt p1.toInt p2.toInt
          have b2 := M_step b1.1 b1.2 hn.1 hn.2
          have m3 : x10032.toInt * x10032.toInt + x10048.toInt * x10048.toInt = (p2.toInt * p2.toInt + p1.toInt * p1.toInt) * (p2.toInt * p2.toInt + p1.toInt * p1.toInt) * (p2.toInt * p2.toInt + p1.toInt * p1.toInt) := by rw [t10032, t10048, t10025, t10031, t10041, t10047, ← m2]; exact nrm_step x32.toInt x48.toInt p1.toInt p2.toInt
          have b3 := M_step b2.1 b2.2 hn.1 hn.2
          refine gcd_ne y72 ?_
          exact nz_of m3 b3.1
        refine lv_lstore (lv' := [(6, .long x72), (0, .ref h0), (1, .long p1), (3, .long p2), (5, .int p3)]) hx hb dX11_marksAt_75 hl (by decide) rfl (fun ls hl => ?_)
        refine lv_aload_n hx hb dX11_marksAt_77 rfl (lv_at hl 1 rfl) ?_
        refine wt_rel hx hb hts cfX11 hown hK nh0_32 rfl (by decide) (Or.inl (hts _ q904)) dX11_marksAt_78 ?_
        refine lv_lconst (v := 0) hx hb dX11_marksAt_81 (by decide) ?_
        refine wl_lt (tgt := 104) hx hb dX11_marksAt_82 dX11_marksAt_83 (by decide) (fun c82 => ?_) (fun c82 => ?_)
        · have c82 : x10032.toInt < (0 : Int) := c82
          have rx10032_82 : lr x10032 (-1423656) (-1) := by have h8 := r10032; have h9 := (lr_c (0) (by decide) : lr (0 : Int64) (0) (0)); constructor <;> omega
          refine lv_lload hx hb dX11_marksAt_104 (lv_at hl 0 rfl) ?_
          refine lv_lneg hx hb dX11_marksAt_106 ?_
          refine lv_topl (fun x106 e106 => ?_)
          have r106 : lr x106 (-9223372036854775807) 0 := lr_neg e106 r72 (by decide) (by decide) (by decide)
          have t106 := lt_neg e106 r72 (by decide)
          have z106 : x106.toInt ≠ 0 := by omega
          refine lv_lstore (lv' := [(6, .long x106), (0, .ref h0), (1, .long p1), (3, .long p2), (5, .int p3)]) hx hb dX11_marksAt_107 hl (by decide) rfl (fun ls hl => ?_)
          refine lv_aload_n hx hb dX11_marksAt_109 rfl (lv_at hl 1 rfl) ?_
          refine lv_dup hx hb dX11_marksAt_110 rfl ?_
          refine wt_rel hx hb hts cfX11 hown hK nh0_32 rfl (by decide) (Or.inl (hts _ q904)) dX11_marksAt_111 ?_
          refine lv_lload hx hb dX11_marksAt_114 (lv_at hl 0 rfl) ?_
          refine lv_ldiv hx hb dX11_marksAt_116 (l_ne0 z106) ?_
          refine lv_topl (fun x116 e116 => ?_)
          have t116 := lt_div e116 (l_ne0 z106) rx10032_82 (by decide)
          have r116 : lr x116 (-1423656) 1423656 := lr_div e116 (l_ne0 z106) rx10032_82 (by decide) 1423656 (by decide) (by decide)
          refine wt_putp hx hb hts cfX11 tyX11 tyX11_ok nmX11 hown hK hW hS (cg11 k0) (ce k0 (by decide)) rfl 32 (by decide) (Or.inl (hts _ q904)) rfl rfl rfl gl_mk dX11_marksAt_117 (fun H locs hW hS oq o2 np => ?_)
          have nh0_33 := o2 33 _ (by decide) (by decide) nh0_33
          have nh0_32 : wt_pin N.1 vwCl h0 11 32 (.long x116) H := np
          have hV := hV.put (by decide) o2
          have hI := mI.fr.put hI k0 oq o2 (by decide) (by decide)
          refine lv_aload_n hx hb dX11_marksAt_120 rfl (lv_at hl 1 rfl) ?_
          refine lv_dup hx hb dX11_marksAt_121 rfl ?_
          refine wt_rel hx hb hts cfX11 hown hK nh0_33 rfl (by decide) (Or.inl (hts _ q905)) dX11_marksAt_122 ?_
          refine lv_lload hx hb dX11_marksAt_125 (lv_at hl 0 rfl) ?_
          refine lv_ldiv hx hb dX11_marksAt_127 (l_ne0 z106) ?_
          refine lv_topl (fun x127 e127 => ?_)
          have t127 := lt_div e127 (l_ne0 z106) r10048 (by decide)
          have r127 : lr x127 (-1423656) 1423656 := lr_div e127 (l_ne0 z106) r10048 (by decide) 1423656 (by decide) (by decide)
          refine wt_putp hx hb hts cfX11 tyX11 tyX11_ok nmX11 hown hK hW hS (cg11 k0) (ce k0 (by decide)) rfl 33 (by decide) (Or.inl (hts _ q905)) rfl rfl rfl gl_mk dX11_marksAt_128 (fun H locs hW hS oq o2 np => ?_)
          have nh0_32 := o2 32 _ (by decide) (by decide) nh0_32
          have nh0_33 : wt_pin N.1 vwCl h0 11 33 (.long x127) H := np
          have hV := hV.put (by decide) o2
          have hI := mI.fr.put hI k0 oq o2 (by decide) (by decide)
          have hn := n_pos rp1.1 rp1.2 rp2.1 rp2.2 hz
          have m1 : p2.toInt * p2.toInt + p1.toInt * p1.toInt = (p2.toInt * p2.toInt + p1.toInt * p1.toInt) := rfl
          have b1 := hn
          have m2 : x32.toInt * x32.toInt + x48.toInt * x48.toInt = (p2.toInt * p2.toInt + p1.toInt * p1.toInt) * (p2.toInt * p2.toInt + p1.toInt * p1.toInt) := by rw [t32, t48, t25, t31, t41, t47, ← m1]; exact nrm_step p2.toInt p1.toInt p1.toInt p2.toInt
          have b2 := M_step b1.1 b1.2 hn.1 hn.2
          have m3 : x10032.toInt * x10032.toInt + x10048.toInt * x10048.toInt = (p2.toInt * p2.toInt + p1.toInt * p1.toInt) * (p2.toInt * p2.toInt + p1.toInt * p1.toInt) * (p2.toInt * p2.toInt + p1.toInt * p1.toInt) := by rw [t10032, t10048, t10025, t10031, t10041, t10047, ← m2]; exact nrm_step x32.toInt x48.toInt p1.toInt p2.toInt
          have b3 := M_step b2.1 b2.2 hn.1 hn.2
          exact W.vret hx hb hr (fun t ht _ => ⟨⟨(), rfl, trivial, cW_at ht hW, ⟨mI_at ht hI, kp_at ht hV, ⟨_, _, pin_at ht nh0_32, pin_at ht nh0_33, mk_fin m3 b3.1 (Int.le_trans b3.2 (by decide)) t116 t127 (by rw [t106]; exact Int.neg_dvd.mpr (gcd_dl y72)) (by rw [t106]; exact Int.neg_dvd.mpr (gcd_dr y72))⟩⟩⟩, hS.F ht⟩) hS.2.2 dX11_marksAt_131
        · have c82 : (0 : Int) ≤ x10032.toInt := c82
          have rx10032_82 : lr x10032 0 474552 := by have h8 := r10032; have h9 := (lr_c (0) (by decide) : lr (0 : Int64) (0) (0)); constructor <;> omega
          refine lv_aload_n hx hb dX11_marksAt_86 rfl (lv_at hl 1 rfl) ?_
          refine wt_rel hx hb hts cfX11 hown hK nh0_32 rfl (by decide) (Or.inl (hts _ q904)) dX11_marksAt_87 ?_
          refine lv_lconst (v := 0) hx hb dX11_marksAt_90 (by decide) ?_
          refine wl_ne (tgt := 109) hx hb dX11_marksAt_91 dX11_marksAt_92 (by decide) (fun c91 => ?_) (fun c91 => ?_)
          · have c91 : x10032.toInt ≠ (0 : Int) := c91
            have rx10032_91 : lr x10032 1 474552 := by have h8 := rx10032_82; have h9 := (lr_c (0) (by decide) : lr (0 : Int64) (0) (0)); constructor <;> omega
            refine lv_aload_n hx hb dX11_marksAt_109 rfl (lv_at hl 1 rfl) ?_
            refine lv_dup hx hb dX11_marksAt_110 rfl ?_
            refine wt_rel hx hb hts cfX11 hown hK nh0_32 rfl (by decide) (Or.inl (hts _ q904)) dX11_marksAt_111 ?_
            refine lv_lload hx hb dX11_marksAt_114 (lv_at hl 0 rfl) ?_
            refine lv_ldiv hx hb dX11_marksAt_116 (l_ne0 z72) ?_
            refine lv_topl (fun x116 e116 => ?_)
            have t116 := lt_div e116 (l_ne0 z72) rx10032_91 (by decide)
            have r116 : lr x116 (-474552) 474552 := lr_div e116 (l_ne0 z72) rx10032_91 (by decide) 474552 (by decide) (by decide)
            refine wt_putp hx hb hts cfX11 tyX11 tyX11_ok nmX11 hown hK hW hS (cg11 k0) (ce k0 (by decide)) rfl 32 (by decide) (Or.inl (hts _ q904)) rfl rfl rfl gl_mk dX11_marksAt_117 (fun H locs hW hS oq o2 np => ?_)
            have nh0_33 := o2 33 _ (by decide) (by decide) nh0_33
            have nh0_32 : wt_pin N.1 vwCl h0 11 32 (.long x116) H := np
            have hV := hV.put (by decide) o2
            have hI := mI.fr.put hI k0 oq o2 (by decide) (by decide)
            refine lv_aload_n hx hb dX11_marksAt_120 rfl (lv_at hl 1 rfl) ?_
            refine lv_dup hx hb dX11_marksAt_121 rfl ?_
            refine wt_rel hx hb hts cfX11 hown hK nh0_33 rfl (by decide) (Or.inl (hts _ q905)) dX11_marksAt_122 ?_
            refine lv_lload hx hb dX11_marksAt_125 (lv_at hl 0 rfl) ?_
            refine lv_ldiv hx hb dX11_marksAt_127 (l_ne0 z72) ?_
            refine lv_topl (fun x127 e127 => ?_)
            have t127 := lt_div e127 (l_ne0 z72) r10048 (by decide)
            have r127 : lr x127 (-1423656) 1423656 := lr_div e127 (l_ne0 z72) r10048 (by decide) 1423656 (by decide) (by decide)
            refine wt_putp hx hb hts cfX11 tyX11 tyX11_ok nmX11 hown hK hW hS (cg11 k0) (ce k0 (by decide)) rfl 33 (by decide) (Or.inl (hts _ q905)) rfl rfl rfl gl_mk dX11_marksAt_128 (fun H locs hW hS oq o2 np => ?_)
            have nh0_32 := o2 32 _ (by decide) (by decide) nh0_32
            have nh0_33 : wt_pin N.1 vwCl h0 11 33 (.long x127) H := np
            have hV := hV.put (by decide) o2
            have hI := mI.fr.put hI k0 oq o2 (by decide) (by decide)
            have hn := n_pos rp1.1 rp1.2 rp2.1 rp2.2 hz
            have m1 : p2.toInt * p2.toInt + p1.toInt * p1.toInt = (p2.toInt * p2.toInt + p1.toInt * p1.toInt) := rfl
            have b1 := hn
            have m2 : x32.toInt * x32.toInt + x48.toInt * x48.toInt = (p2.toInt * p2.toInt + p1.toInt * p1.toInt) * (p2.toInt * p2.toInt + p1.toInt * p1.toInt) := by rw [t32, t48, t25, t31, t41, t47, ← m1]; exact nrm_step p2.toInt p1.toInt p1.toInt p2.toInt
            have b2 := M_step b1.1 b1.2 hn.1 hn.2
            have m3 : x10032.toInt * x10032.toInt + x10048.toInt * x10048.toInt = (p2.toInt * p2.toInt + p1.toInt * p1.toInt) * (p2.toInt * p2.toInt + p1.toInt * p1.toInt) * (p2.toInt * p2.toInt + p1.toInt * p1.toInt) := by rw [t10032, t10048, t10025, t10031, t10041, t10047, ← m2]; exact nrm_step x32.toInt x48.toInt p1.toInt p2.toInt
            have b3 := M_step b2.1 b2.2 hn.1 hn.2
            exact W.vret hx hb hr (fun t ht _ => ⟨⟨(), rfl, trivial, cW_at ht hW, ⟨mI_at ht hI, kp_at ht hV, ⟨_, _, pin_at ht nh0_32, pin_at ht nh0_33, mk_fin m3 b3.1 (Int.le_trans b3.2 (by decide)) t116 t127 (gcd_dl y72) (gcd_dr y72)⟩⟩⟩, hS.F ht⟩) hS.2.2 dX11_marksAt_131
          · have c91 : x10032.toInt = (0 : Int) := c91
            have rx10032_91 : lr x10032 0 0 := by have h8 := rx10032_82; have h9 := (lr_c (0) (by decide) : lr (0 : Int64) (0) (0)); constructor <;> omega
            refine lv_aload_n hx hb dX11_marksAt_95 rfl (lv_at hl 1 rfl) ?_
            refine wt_rel hx hb hts cfX11 hown hK nh0_33 rfl (by decide) (Or.inl (hts _ q905)) dX11_marksAt_96 ?_
            refine lv_lconst (v := 0) hx hb dX11_marksAt_99 (by decide) ?_
            refine wl_ge (tgt := 109) hx hb dX11_marksAt_100 dX11_marksAt_101 (by decide) (fun c100 => ?_) (fun c100 => ?_)
            · have c100 : (0 : Int) ≤ x10048.toInt := c100
              have rx10048_100 : lr x10048 0 1423656 := by have h8 := r10048; have h9 := (lr_c (0) (by decide) : lr (0 : Int64) (0) (0)); constructor <;> omega
              refine lv_aload_n hx hb dX11_marksAt_109 rfl (lv_at hl 1 rfl) ?_
              refine lv_dup hx hb dX11_marksAt_110 rfl ?_
              refine wt_rel hx hb hts cfX11 hown hK nh0_32 rfl (by decide) (Or.inl (hts _ q904)) dX11_marksAt_111 ?_
              refine lv_lload hx hb dX11_marksAt_114 (lv_at hl 0 rfl) ?_
              refine lv_ldiv hx hb dX11_marksAt_116 (l_ne0 z72) ?_
              refine lv_topl (fun x116 e116 => ?_)
              have t116 := lt_div e116 (l_ne0 z72) rx10032_91 (by decide)
              have r116 : lr x116 0 0 := lr_div e116 (l_ne0 z72) rx10032_91 (by decide) 0 (by decide) (by decide)
              refine wt_putp hx hb hts cfX11 tyX11 tyX11_ok nmX11 hown hK hW hS (cg11 k0) (ce k0 (by decide)) rfl 32 (by decide) (Or.inl (hts _ q904)) rfl rfl rfl gl_mk dX11_marksAt_117 (fun H locs hW hS oq o2 np => ?_)
              have nh0_33 := o2 33 _ (by decide) (by decide) nh0_33
              have nh0_32 : wt_pin N.1 vwCl h0 11 32 (.long x116) H := np
              have hV := hV.put (by decide) o2
              have hI := mI.fr.put hI k0 oq o2 (by decide) (by decide)
              refine lv_aload_n hx hb dX11_marksAt_120 rfl (lv_at hl 1 rfl) ?_
              refine lv_dup hx hb dX11_marksAt_121 rfl ?_
              refine wt_rel hx hb hts cfX11 hown hK nh0_33 rfl (by decide) (Or.inl (hts _ q905)) dX11_marksAt_122 ?_
              refine lv_lload hx hb dX11_marksAt_125 (lv_at hl 0 rfl) ?_
              refine lv_ldiv hx hb dX11_marksAt_127 (l_ne0 z72) ?_
              refine lv_topl (fun x127 e127 => ?_)
              have t127 := lt_div e127 (l_ne0 z72) rx10048_100 (by decide)
              have r127 : lr x127 (-1423656) 1423656 := lr_div e127 (l_ne0 z72) rx10048_100 (by decide) 1423656 (by decide) (by decide)
              refine wt_putp hx hb hts cfX11 tyX11 tyX11_ok nmX11 hown hK hW hS (cg11 k0) (ce k0 (by decide)) rfl 33 (by decide) (Or.inl (hts _ q905)) rfl rfl rfl gl_mk dX11_marksAt_128 (fun H locs hW hS oq o2 np => ?_)
              have nh0_32 := o2 32 _ (by decide) (by decide) nh0_32
              have nh0_33 : wt_pin N.1 vwCl h0 11 33 (.long x127) H := np
              have hV := hV.put (by decide) o2
              have hI := mI.fr.put hI k0 oq o2 (by decide) (by decide)
              have hn := n_pos rp1.1 rp1.2 rp2.1 rp2.2 hz
              have m1 : p2.toInt * p2.toInt + p1.toInt * p1.toInt = (p2.toInt * p2.toInt + p1.toInt * p1.toInt) := rfl
              have b1 := hn
              have m2 : x32.toInt * x32.toInt + x48.toInt * x48.toInt = (p2.toInt * p2.toInt + p1.toInt * p1.toInt) * (p2.toInt * p2.toInt + p1.toInt * p1.toInt) := by rw [t32, t48, t25, t31, t41, t47, ← m1]; exact nrm_step p2.toInt p1.toInt p1.toInt p2.toInt
              have b2 := M_step b1.1 b1.2 hn.1 hn.2
              have m3 : x10032.toInt * x10032.toInt + x10048.toInt * x10048.toInt = (p2.toInt * p2.toInt + p1.toInt * p1.toInt) * (p2.toInt * p2.toInt + p1.toInt * p1.toInt) * (p2.toInt * p2.toInt + p1.toInt * p1.toInt) := by rw [t10032, t10048, t10025, t10031, t10041, t10047, ← m2]; exact nrm_step x32.toInt x48.toInt p1.toInt p2.toInt
              have b3 := M_step b2.1 b2.2 hn.1 hn.2
              exact W.vret hx hb hr (fun t ht _ => ⟨⟨(), rfl, trivial, cW_at ht hW, ⟨mI_at ht hI, kp_at ht hV, ⟨_, _, pin_at ht nh0_32, pin_at ht nh0_33, mk_fin m3 b3.1 (Int.le_trans b3.2 (by decide)) t116 t127 (gcd_dl y72) (gcd_dr y72)⟩⟩⟩, hS.F ht⟩) hS.2.2 dX11_marksAt_131
            · have c100 : x10048.toInt < (0 : Int) := c100
              have rx10048_100 : lr x10048 (-474552) (-1) := by have h8 := r10048; have h9 := (lr_c (0) (by decide) : lr (0 : Int64) (0) (0)); constructor <;> omega
              refine lv_lload hx hb dX11_marksAt_104 (lv_at hl 0 rfl) ?_
              refine lv_lneg hx hb dX11_marksAt_106 ?_
              refine lv_topl (fun x106 e106 => ?_)
              have r106 : lr x106 (-9223372036854775807) 0 := lr_neg e106 r72 (by decide) (by decide) (by decide)
              have t106 := lt_neg e106 r72 (by decide)
              have z106 : x106.toInt ≠ 0 := by omega
              refine lv_lstore (lv' := [(6, .long x106), (0, .ref h0), (1, .long p1), (3, .long p2), (5, .int p3)]) hx hb dX11_marksAt_107 hl (by decide) rfl (fun ls hl => ?_)
              refine lv_aload_n hx hb dX11_marksAt_109 rfl (lv_at hl 1 rfl) ?_
              refine lv_dup hx hb dX11_marksAt_110 rfl ?_
              refine wt_rel hx hb hts cfX11 hown hK nh0_32 rfl (by decide) (Or.inl (hts _ q904)) dX11_marksAt_111 ?_
              refine lv_lload hx hb dX11_marksAt_114 (lv_at hl 0 rfl) ?_
              refine lv_ldiv hx hb dX11_marksAt_116 (l_ne0 z106) ?_
              refine lv_topl (fun x116 e116 => ?_)
              have t116 := lt_div e116 (l_ne0 z106) rx10032_91 (by decide)
              have r116 : lr x116 0 0 := lr_div e116 (l_ne0 z106) rx10032_91 (by decide) 0 (by decide) (by decide)
              refine wt_putp hx hb hts cfX11 tyX11 tyX11_ok nmX11 hown hK hW hS (cg11 k0) (ce k0 (by decide)) rfl 32 (by decide) (Or.inl (hts _ q904)) rfl rfl rfl gl_mk dX11_marksAt_117 (fun H locs hW hS oq o2 np => ?_)
              have nh0_33 := o2 33 _ (by decide) (by decide) nh0_33
              have nh0_32 : wt_pin N.1 vwCl h0 11 32 (.long x116) H := np
              have hV := hV.put (by decide) o2
              have hI := mI.fr.put hI k0 oq o2 (by decide) (by decide)
              refine lv_aload_n hx hb dX11_marksAt_120 rfl (lv_at hl 1 rfl) ?_
              refine lv_dup hx hb dX11_marksAt_121 rfl ?_
              refine wt_rel hx hb hts cfX11 hown hK nh0_33 rfl (by decide) (Or.inl (hts _ q905)) dX11_marksAt_122 ?_
              refine lv_lload hx hb dX11_marksAt_125 (lv_at hl 0 rfl) ?_
              refine lv_ldiv hx hb dX11_marksAt_127 (l_ne0 z106) ?_
              refine lv_topl (fun x127 e127 => ?_)
              have t127 := lt_div e127 (l_ne0 z106) rx10048_100 (by decide)
              have r127 : lr x127 (-474552) 474552 := lr_div e127 (l_ne0 z106) rx10048_100 (by decide) 474552 (by decide) (by decide)
              refine wt_putp hx hb hts cfX11 tyX11 tyX11_ok nmX11 hown hK hW hS (cg11 k0) (ce k0 (by decide)) rfl 33 (by decide) (Or.inl (hts _ q905)) rfl rfl rfl gl_mk dX11_marksAt_128 (fun H locs hW hS oq o2 np => ?_)
              have nh0_32 := o2 32 _ (by decide) (by decide) nh0_32
              have nh0_33 : wt_pin N.1 vwCl h0 11 33 (.long x127) H := np
              have hV := hV.put (by decide) o2
              have hI := mI.fr.put hI k0 oq o2 (by decide) (by decide)
              have hn := n_pos rp1.1 rp1.2 rp2.1 rp2.2 hz
              have m1 : p2.toInt * p2.toInt + p1.toInt * p1.toInt = (p2.toInt * p2.toInt + p1.toInt * p1.toInt) := rfl
              have b1 := hn
              have m2 : x32.toInt * x32.toInt + x48.toInt * x48.toInt = (p2.toInt * p2.toInt + p1.toInt * p1.toInt) * (p2.toInt * p2.toInt + p1.toInt * p1.toInt) := by rw [t32, t48, t25, t31, t41, t47, ← m1]; exact nrm_step p2.toInt p1.toInt p1.toInt p2.toInt
              have b2 := M_step b1.1 b1.2 hn.1 hn.2
              have m3 : x10032.toInt * x10032.toInt + x10048.toInt * x10048.toInt = (p2.toInt * p2.toInt + p1.toInt * p1.toInt) * (p2.toInt * p2.toInt + p1.toInt * p1.toInt) * (p2.toInt * p2.toInt + p1.toInt * p1.toInt) := by rw [t10032, t10048, t10025, t10031, t10041, t10047, ← m2]; exact nrm_step x32.toInt x48.toInt p1.toInt p2.toInt
              have b3 := M_step b2.1 b2.2 hn.1 hn.2
              exact W.vret hx hb hr (fun t ht _ => ⟨⟨(), rfl, trivial, cW_at ht hW, ⟨mI_at ht hI, kp_at ht hV, ⟨_, _, pin_at ht nh0_32, pin_at ht nh0_33, mk_fin m3 b3.1 (Int.le_trans b3.2 (by decide)) t116 t127 (by rw [t106]; exact Int.neg_dvd.mpr (gcd_dl y72)) (by rw [t106]; exact Int.neg_dvd.mpr (gcd_dr y72))⟩⟩⟩, hS.F ht⟩) hS.2.2 dX11_marksAt_131
      · exact absurd (rf_lt (rf_nle c20017) r10058 rp3) (by have h8 := r10058; have h9 := rp3; omega)
set_option maxHeartbeats 4000000 in
set_option maxRecDepth 100000 in
theorem m_X11_marksAt_2 (l : Launch) (N : c_N) (h0 : Nat) (k0 : N.2.2.1 h0 = some 11) (hO : mOK N) (V : Nat → Value) (p1 : Int64) (rp1 : lr p1 0 78) (p2 : Int64) (rp2 : lr p2 0 78) (p3 : Int32) (rp3 : ir p3 2 2) (hz : p1.toInt ≠ 0 ∨ p2.toInt ≠ 0) : cMv l yX11_marksAt cX11_marksAt 9 { frames := 1, cells := 0, slots := 0, locals := 29 } [.ref h0, .long p1, .long p2, .int p3] N [11] (fun H => mI N h0 H ∧ kp N h0 [32, 33] V H) (fun H => mI N h0 H ∧ kp N h0 [32, 33] V H ∧ ∃ re tu : Int64, pL N h0 32 re H ∧ pL N h0 33 tu H ∧ mkOK re tu) := by
  refine Met.ofW (cc := cX11_marksAt) (maxL := 9) (ret := none) (by decide) rfl ?_
  intro p e s m args below meth c s₁ B hml hv
  obtain ⟨rfl, ⟨hK, hW, hT, hnn⟩, hB⟩ := hv
  obtain ⟨hI, hV⟩ := hB
  have hx := B.exec
  have hb := B.bytes
  have hr := B.returns
  have hts : ∀ w ∈ lw_g, w.before _ s = true := fun w h => atoms_spec (ws := wc_ws yX11_marksAt cX11_marksAt 9 none) B.pre w (List.mem_cons_of_mem _ h)
  have hown : s.vm.findClass RX11 = some m.cls := findClass_of_methodNamed B.named
  have hlocks := B.notSynchronized
  have hS : va_S (cE N [11]) s.heap s.heap [] := va_S.rf
  have hl := lv_entry ([.ref h0, .long p1, .long p2, .int p3]) (n := 9) (Nat.le_of_ble_eq_true rfl)
  rw [lg_entry_eq]
  generalize (lg_sl ([.ref h0, .long p1, .long p2, .int p3]) ++ List.replicate (9 - (lg_sl ([.ref h0, .long p1, .long p2, .int p3])).length) Slot.unset).toArray = ls at hl ⊢
  have hl : lv_has ls 9 [(0, .ref h0), (1, .long p1), (3, .long p2), (5, .int p3)] := hl
  refine wq_all ?_
  intro WW w1 w2
  refine lv_aload_n hx hb dX11_marksAt_0 rfl (lv_at hl 0 rfl) ?_
  refine lv_lload_n hx hb dX11_marksAt_1 rfl (lv_at hl 2 rfl) ?_
  refine wt_putp hx hb hts cfX11 tyX11 tyX11_ok nmX11 hown hK hW hS (cg11 k0) (ce k0 (by decide)) rfl 32 (by decide) (Or.inl (hts _ q904)) rfl rfl rfl gl_mk dX11_marksAt_2 (fun H locs hW hS oq o2 np => ?_)
  have nh0_32 : wt_pin N.1 vwCl h0 11 32 (.long p2) H := np
  have hV := hV.put (by decide) o2
  have hI := mI.fr.put hI k0 oq o2 (by decide) (by decide)
  refine lv_aload_n hx hb dX11_marksAt_5 rfl (lv_at hl 0 rfl) ?_
  refine lv_lload_n hx hb dX11_marksAt_6 rfl (lv_at hl 1 rfl) ?_
  refine wt_putp hx hb hts cfX11 tyX11 tyX11_ok nmX11 hown hK hW hS (cg11 k0) (ce k0 (by decide)) rfl 33 (by decide) (Or.inl (hts _ q905)) rfl rfl rfl gl_mk dX11_marksAt_7 (fun H locs hW hS oq o2 np => ?_)
  have nh0_32 := o2 32 _ (by decide) (by decide) nh0_32
  have nh0_33 : wt_pin N.1 vwCl h0 11 33 (.long p1) H := np
  have hV := hV.put (by decide) o2
  have hI := mI.fr.put hI k0 oq o2 (by decide) (by decide)
  refine lv_iconst (v := 1) hx hb dX11_marksAt_10 (by decide) ?_
  refine lv_istore (lv' := [(6, .int (1 : Int32)), (0, .ref h0), (1, .long p1), (3, .long p2), (5, .int p3)]) hx hb dX11_marksAt_11 hl (by decide) rfl (fun ls hl => ?_)
  refine lv_iload hx hb dX11_marksAt_13 (lv_at hl 0 rfl) ?_
  refine lv_iload hx hb dX11_marksAt_15 (lv_at hl 4 rfl) ?_
  refine lv_icmp_ge (tgt := 64) hx hb dX11_marksAt_17 (by decide) (fun c17 => ?_) (fun c17 => ?_)
  · exact absurd (rf_le c17 rp3 (ir_c (1) (by decide) : ir (1 : Int32) (1) (1))) (by have h8 := rp3; have h9 := (ir_c (1) (by decide) : ir (1 : Int32) (1) (1)); omega)
  · refine lv_aload_n hx hb dX11_marksAt_20 rfl (lv_at hl 1 rfl) ?_
    refine wt_rel hx hb hts cfX11 hown hK nh0_32 rfl (by decide) (Or.inl (hts _ q904)) dX11_marksAt_21 ?_
    refine lv_lload_n hx hb dX11_marksAt_24 rfl (lv_at hl 3 rfl) ?_
    refine lv_lmul hx hb dX11_marksAt_25 ?_
    refine lv_topl (fun x25 e25 => ?_)
    have u25 := lt_mulp e25 rp2 rp2 (by decide) (by decide) (by decide)
    have t25 := u25.1
    have r25 : lr x25 0 6084 := lr_w u25.2 (by decide) (by decide)
    refine lv_aload_n hx hb dX11_marksAt_26 rfl (lv_at hl 1 rfl) ?_
    refine wt_rel hx hb hts cfX11 hown hK nh0_33 rfl (by decide) (Or.inl (hts _ q905)) dX11_marksAt_27 ?_
    refine lv_lload_n hx hb dX11_marksAt_30 rfl (lv_at hl 2 rfl) ?_
    refine lv_lmul hx hb dX11_marksAt_31 ?_
    refine lv_topl (fun x31 e31 => ?_)
    have u31 := lt_mulp e31 rp1 rp1 (by decide) (by decide) (by decide)
    have t31 := u31.1
    have r31 : lr x31 0 6084 := lr_w u31.2 (by decide) (by decide)
    refine lv_lsub hx hb dX11_marksAt_32 ?_
    refine lv_topl (fun x32 e32 => ?_)
    have t32 := lt_sub e32 r25 r31 (by decide) (by decide)
    have r32 : lr x32 (-6084) 6084 := lr_sub e32 r25 r31 (by decide) (by decide) (by decide) (by decide)
    refine lv_lstore (lv' := [(7, .long x32), (6, .int (1 : Int32)), (0, .ref h0), (1, .long p1), (3, .long p2), (5, .int p3)]) hx hb dX11_marksAt_33 hl (by decide) rfl (fun ls hl => ?_)
    refine lv_aload_n hx hb dX11_marksAt_35 rfl (lv_at hl 2 rfl) ?_
    refine lv_aload_n hx hb dX11_marksAt_36 rfl (lv_at hl 2 rfl) ?_
    refine wt_rel hx hb hts cfX11 hown hK nh0_32 rfl (by decide) (Or.inl (hts _ q904)) dX11_marksAt_37 ?_
    refine lv_lload_n hx hb dX11_marksAt_40 rfl (lv_at hl 3 rfl) ?_
    refine lv_lmul hx hb dX11_marksAt_41 ?_
    refine lv_topl (fun x41 e41 => ?_)
    have u41 := lt_mulp e41 rp2 rp1 (by decide) (by decide) (by decide)
    have t41 := u41.1
    have r41 : lr x41 0 6084 := lr_w u41.2 (by decide) (by decide)
    refine lv_aload_n hx hb dX11_marksAt_42 rfl (lv_at hl 2 rfl) ?_
    refine wt_rel hx hb hts cfX11 hown hK nh0_33 rfl (by decide) (Or.inl (hts _ q905)) dX11_marksAt_43 ?_
    refine lv_lload_n hx hb dX11_marksAt_46 rfl (lv_at hl 4 rfl) ?_
    refine lv_lmul hx hb dX11_marksAt_47 ?_
    refine lv_topl (fun x47 e47 => ?_)
    have u47 := lt_mulp e47 rp1 rp2 (by decide) (by decide) (by decide)
    have t47 := u47.1
    have r47 : lr x47 0 6084 := lr_w u47.2 (by decide) (by decide)
    refine lv_ladd hx hb dX11_marksAt_48 ?_
    refine lv_topl (fun x48 e48 => ?_)
    have t48 := lt_add e48 r41 r47 (by decide) (by decide)
    have r48 : lr x48 0 12168 := lr_add e48 r41 r47 (by decide) (by decide) (by decide) (by decide)
    refine wt_putp hx hb hts cfX11 tyX11 tyX11_ok nmX11 hown hK hW hS (cg11 k0) (ce k0 (by decide)) rfl 33 (by decide) (Or.inl (hts _ q905)) rfl rfl rfl gl_mk dX11_marksAt_49 (fun H locs hW hS oq o2 np => ?_)
    have nh0_32 := o2 32 _ (by decide) (by decide) nh0_32
    have nh0_33 : wt_pin N.1 vwCl h0 11 33 (.long x48) H := np
    have hV := hV.put (by decide) o2
    have hI := mI.fr.put hI k0 oq o2 (by decide) (by decide)
    refine lv_aload_n hx hb dX11_marksAt_52 rfl (lv_at hl 2 rfl) ?_
    refine lv_lload hx hb dX11_marksAt_53 (lv_at hl 0 rfl) ?_
    refine wt_putp hx hb hts cfX11 tyX11 tyX11_ok nmX11 hown hK hW hS (cg11 k0) (ce k0 (by decide)) rfl 32 (by decide) (Or.inl (hts _ q904)) rfl rfl rfl gl_mk dX11_marksAt_55 (fun H locs hW hS oq o2 np => ?_)
    have nh0_33 := o2 33 _ (by decide) (by decide) nh0_33
    have nh0_32 : wt_pin N.1 vwCl h0 11 32 (.long x32) H := np
    have hV := hV.put (by decide) o2
    have hI := mI.fr.put hI k0 oq o2 (by decide) (by decide)
    obtain ⟨x58, e58⟩ : ∃ y : Int32, y = (1 : Int32) + 1 := ⟨_, rfl⟩
    have r58 : ir x58 2 2 := ir_w (ir_add e58 (ir_c (1) (by decide) : ir (1 : Int32) (1) (1)) (ir_c (1) (by decide) : ir (1 : Int32) (1) (1)) (by decide) (by decide)) (by decide) (by decide)
    have t58 : x58.toInt = (1 : Int32).toInt + (1) := it_add e58 (ir_c (1) (by decide) : ir (1 : Int32) (1) (1)) (ir_c (1) (by decide) : ir (1 : Int32) (1) (1)) (by decide) (by decide)
    refine lv_iinc (v := x58) (lv' := [(6, .int x58), (7, .long x32), (0, .ref h0), (1, .long p1), (3, .long p2), (5, .int p3)]) hx hb dX11_marksAt_58 hl (k := 1) rfl (by rw [e58]; rfl) (by decide) rfl (fun ls hl => ?_)
    refine lv_goto (tgt := 13) hx hb dX11_marksAt_61 (by decide) ?_
    refine lv_iload hx hb dX11_marksAt_13 (lv_at hl 0 rfl) ?_
    refine lv_iload hx hb dX11_marksAt_15 (lv_at hl 5 rfl) ?_
    refine lv_icmp_ge (tgt := 64) hx hb dX11_marksAt_17 (by decide) (fun c10017 => ?_) (fun c10017 => ?_)
    · refine lv_aload_n hx hb dX11_marksAt_64 rfl (lv_at hl 2 rfl) ?_
      refine wt_rel hx hb hts cfX11 hown hK nh0_32 rfl (by decide) (Or.inl (hts _ q904)) dX11_marksAt_65 ?_
      refine lv_aload_n hx hb dX11_marksAt_68 rfl (lv_at hl 2 rfl) ?_
      refine wt_rel hx hb hts cfX11 hown hK nh0_33 rfl (by decide) (Or.inl (hts _ q905)) dX11_marksAt_69 ?_
      refine cp_l (wt_runS (As := [.long x32, .long x48]) (rest := []) ⟨hx, hb, hml, hown, hts⟩ (m_X11_gcd l x32 (lr_w (lo' := -9223372036854775807) (hi' := 9223372036854775807) r32 (by decide) (by decide)) x48 (lr_w (lo' := -9223372036854775807) (hi' := 9223372036854775807) r48 (by decide) (by decide))) wm_X11_gcd q1054 ⟨rfl, rfl⟩ ⟨Nat.le_of_ble_eq_true rfl, Nat.le_of_ble_eq_true rfl⟩ pS_pre rfl hl.1 rfl (Nat.le_of_ble_eq_true rfl) dX11_marksAt_72 ⟨Nat.zero_le _, Nat.zero_le _⟩) hW hS (fun x72 H locs hp hW1 hS oq => ?_)
      have hV := hV.same hW k0 oq
      have hI := mI.fr.same hI hW oq
      have hW := hW1
      have nh0_33 := nh0_33.kept (oq _ nh0_33.lt (cE_not k0 (by decide)))
      have nh0_32 := nh0_32.kept (oq _ nh0_32.lt (cE_not k0 (by decide)))
      have y72 : x72.toInt = ((Int.gcd x32.toInt x48.toInt : Nat) : Int) := hp
      have r72 : lr x72 0 9223372036854775807 := ⟨gcd_bd y72, (lr_any x72).2⟩
      have z72 : x72.toInt ≠ 0 := by
        have hn := n_pos rp1.1 rp1.2 rp2.1 rp2.2 hz
        have m1 : p2.toInt * p2.toInt + p1.toInt * p1.toInt = (p2.toInt * p2.toInt + p1.toInt * p1.toInt) := rfl
        have b1 := hn
        have m2 : x32.toInt * x32.toInt + x48.toInt * x48.toInt = (p2.toInt * p2.toInt + p1.toInt * p1.toInt) * (p2.toInt * p2.toInt + p1.toInt * p1.toInt) := by rw [t32, t48, t25, t31, t41, t47, ← m1]; exact nrm_step p2.toInt p1.toInt p1.toInt p2.toInt
        have b2 := M_step b1.1 b1.2 hn.1 hn.2
        refine gcd_ne y72 ?_
        exact nz_of m2 b2.1
      refine lv_lstore (lv' := [(6, .long x72), (0, .ref h0), (1, .long p1), (3, .long p2), (5, .int p3)]) hx hb dX11_marksAt_75 hl (by decide) rfl (fun ls hl => ?_)
      refine lv_aload_n hx hb dX11_marksAt_77 rfl (lv_at hl 1 rfl) ?_
      refine wt_rel hx hb hts cfX11 hown hK nh0_32 rfl (by decide) (Or.inl (hts _ q904)) dX11_marksAt_78 ?_
      refine lv_lconst (v := 0) hx hb dX11_marksAt_81 (by decide) ?_
      refine wl_lt (tgt := 104) hx hb dX11_marksAt_82 dX11_marksAt_83 (by decide) (fun c82 => ?_) (fun c82 => ?_)
      · have c82 : x32.toInt < (0 : Int) := c82
        have rx32_82 : lr x32 (-6084) (-1) := by have h8 := r32; have h9 := (lr_c (0) (by decide) : lr (0 : Int64) (0) (0)); constructor <;> omega
        refine lv_lload hx hb dX11_marksAt_104 (lv_at hl 0 rfl) ?_
        refine lv_lneg hx hb dX11_marksAt_106 ?_
        refine lv_topl (fun x106 e106 => ?_)
        have r106 : lr x106 (-9223372036854775807) 0 := lr_neg e106 r72 (by decide) (by decide) (by decide)
        have t106 := lt_neg e106 r72 (by decide)
        have z106 : x106.toInt ≠ 0 := by omega
        refine lv_lstore (lv' := [(6, .long x106), (0, .ref h0), (1, .long p1), (3, .long p2), (5, .int p3)]) hx hb dX11_marksAt_107 hl (by decide) rfl (fun ls hl => ?_)
        refine lv_aload_n hx hb dX11_marksAt_109 rfl (lv_at hl 1 rfl) ?_
        refine lv_dup hx hb dX11_marksAt_110 rfl ?_
        refine wt_rel hx hb hts cfX11 hown hK nh0_32 rfl (by decide) (Or.inl (hts _ q904)) dX11_marksAt_111 ?_
        refine lv_lload hx hb dX11_marksAt_114 (lv_at hl 0 rfl) ?_
        refine lv_ldiv hx hb dX11_marksAt_116 (l_ne0 z106) ?_
        refine lv_topl (fun x116 e116 => ?_)
        have t116 := lt_div e116 (l_ne0 z106) rx32_82 (by decide)
        have r116 : lr x116 (-6084) 6084 := lr_div e116 (l_ne0 z106) rx32_82 (by decide) 6084 (by decide) (by decide)
        refine wt_putp hx hb hts cfX11 tyX11 tyX11_ok nmX11 hown hK hW hS (cg11 k0) (ce k0 (by decide)) rfl 32 (by decide) (Or.inl (hts _ q904)) rfl rfl rfl gl_mk dX11_marksAt_117 (fun H locs hW hS oq o2 np => ?_)
        have nh0_33 := o2 33 _ (by decide) (by decide) nh0_33
        have nh0_32 : wt_pin N.1 vwCl h0 11 32 (.long x116) H := np
        have hV := hV.put (by decide) o2
        have hI := mI.fr.put hI k0 oq o2 (by decide) (by decide)
        refine lv_aload_n hx hb dX11_marksAt_120 rfl (lv_at hl 1 rfl) ?_
        refine lv_dup hx hb dX11_marksAt_121 rfl ?_
        refine wt_rel hx hb hts cfX11 hown hK nh0_33 rfl (by decide) (Or.inl (hts _ q905)) dX11_marksAt_122 ?_
        refine lv_lload hx hb dX11_marksAt_125 (lv_at hl 0 rfl) ?_
        refine lv_ldiv hx hb dX11_marksAt_127 (l_ne0 z106) ?_
        refine lv_topl (fun x127 e127 => ?_)
        have t127 := lt_div e127 (l_ne0 z106) r48 (by decide)
        have r127 : lr x127 (-12168) 12168 := lr_div e127 (l_ne0 z106) r48 (by decide) 12168 (by decide) (by decide)
        refine wt_putp hx hb hts cfX11 tyX11 tyX11_ok nmX11 hown hK hW hS (cg11 k0) (ce k0 (by decide)) rfl 33 (by decide) (Or.inl (hts _ q905)) rfl rfl rfl gl_mk dX11_marksAt_128 (fun H locs hW hS oq o2 np => ?_)
        have nh0_32 := o2 32 _ (by decide) (by decide) nh0_32
        have nh0_33 : wt_pin N.1 vwCl h0 11 33 (.long x127) H := np
        have hV := hV.put (by decide) o2
        have hI := mI.fr.put hI k0 oq o2 (by decide) (by decide)
        have hn := n_pos rp1.1 rp1.2 rp2.1 rp2.2 hz
        have m1 : p2.toInt * p2.toInt + p1.toInt * p1.toInt = (p2.toInt * p2.toInt + p1.toInt * p1.toInt) := rfl
        have b1 := hn
        have m2 : x32.toInt * x32.toInt + x48.toInt * x48.toInt = (p2.toInt * p2.toInt + p1.toInt * p1.toInt) * (p2.toInt * p2.toInt + p1.toInt * p1.toInt) := by rw [t32, t48, t25, t31, t41, t47, ← m1]; exact nrm_step p2.toInt p1.toInt p1.toInt p2.toInt
        have b2 := M_step b1.1 b1.2 hn.1 hn.2
        exact W.vret hx hb hr (fun t ht _ => ⟨⟨(), rfl, trivial, cW_at ht hW, ⟨mI_at ht hI, kp_at ht hV, ⟨_, _, pin_at ht nh0_32, pin_at ht nh0_33, mk_fin m2 b2.1 (Int.le_trans b2.2 (by decide)) t116 t127 (by rw [t106]; exact Int.neg_dvd.mpr (gcd_dl y72)) (by rw [t106]; exact Int.neg_dvd.mpr (gcd_dr y72))⟩⟩⟩, hS.F ht⟩) hS.2.2 dX11_marksAt_131
      · have c82 : (0 : Int) ≤ x32.toInt := c82
        have rx32_82 : lr x32 0 6084 := by have h8 := r32; have h9 := (lr_c (0) (by decide) : lr (0 : Int64) (0) (0)); constructor <;> omega
        refine lv_aload_n hx hb dX11_marksAt_86 rfl (lv_at hl 1 rfl) ?_
        refine wt_rel hx hb hts cfX11 hown hK nh0_32 rfl (by decide) (Or.inl (hts _ q904)) dX11_marksAt_87 ?_
        refine lv_lconst (v := 0) hx hb dX11_marksAt_90 (by decide) ?_
        refine wl_ne (tgt := 109) hx hb dX11_marksAt_91 dX11_marksAt_92 (by decide) (fun c91 => ?_) (fun c91 => ?_)
        · have c91 : x32.toInt ≠ (0 : Int) := c91
          have rx32_91 : lr x32 1 6084 := by have h8 := rx32_82; have h9 := (lr_c (0) (by decide) : lr (0 : Int64) (0) (0)); constructor <;> omega
          refine lv_aload_n hx hb dX11_marksAt_109 rfl (lv_at hl 1 rfl) ?_
          refine lv_dup hx hb dX11_marksAt_110 rfl ?_
          refine wt_rel hx hb hts cfX11 hown hK nh0_32 rfl (by decide) (Or.inl (hts _ q904)) dX11_marksAt_111 ?_
          refine lv_lload hx hb dX11_marksAt_114 (lv_at hl 0 rfl) ?_
          refine lv_ldiv hx hb dX11_marksAt_116 (l_ne0 z72) ?_
          refine lv_topl (fun x116 e116 => ?_)
          have t116 := lt_div e116 (l_ne0 z72) rx32_91 (by decide)
          have r116 : lr x116 (-6084) 6084 := lr_div e116 (l_ne0 z72) rx32_91 (by decide) 6084 (by decide) (by decide)
          refine wt_putp hx hb hts cfX11 tyX11 tyX11_ok nmX11 hown hK hW hS (cg11 k0) (ce k0 (by decide)) rfl 32 (by decide) (Or.inl (hts _ q904)) rfl rfl rfl gl_mk dX11_marksAt_117 (fun H locs hW hS oq o2 np => ?_)
          have nh0_33 := o2 33 _ (by decide) (by decide) nh0_33
          have nh0_32 : wt_pin N.1 vwCl h0 11 32 (.long x116) H := np
          have hV := hV.put (by decide) o2
          have hI := mI.fr.put hI k0 oq o2 (by decide) (by decide)
          refine lv_aload_n hx hb dX11_marksAt_120 rfl (lv_at hl 1 rfl) ?_
          refine lv_dup hx hb dX11_marksAt_121 rfl ?_
          refine wt_rel hx hb hts cfX11 hown hK nh0_33 rfl (by decide) (Or.inl (hts _ q905)) dX11_marksAt_122 ?_
          refine lv_lload hx hb dX11_marksAt_125 (lv_at hl 0 rfl) ?_
          refine lv_ldiv hx hb dX11_marksAt_127 (l_ne0 z72) ?_
          refine lv_topl (fun x127 e127 => ?_)
          have t127 := lt_div e127 (l_ne0 z72) r48 (by decide)
          have r127 : lr x127 (-12168) 12168 := lr_div e127 (l_ne0 z72) r48 (by decide) 12168 (by decide) (by decide)
          refine wt_putp hx hb hts cfX11 tyX11 tyX11_ok nmX11 hown hK hW hS (cg11 k0) (ce k0 (by decide)) rfl 33 (by decide) (Or.inl (hts _ q905)) rfl rfl rfl gl_mk dX11_marksAt_128 (fun H locs hW hS oq o2 np => ?_)
          have nh0_32 := o2 32 _ (by decide) (by decide) nh0_32
          have nh0_33 : wt_pin N.1 vwCl h0 11 33 (.long x127) H := np
          have hV := hV.put (by decide) o2
          have hI := mI.fr.put hI k0 oq o2 (by decide) (by decide)
          have hn := n_pos rp1.1 rp1.2 rp2.1 rp2.2 hz
          have m1 : p2.toInt * p2.toInt + p1.toInt * p1.toInt = (p2.toInt * p2.toInt + p1.toInt * p1.toInt) := rfl
          have b1 := hn
          have m2 : x32.toInt * x32.toInt + x48.toInt * x48.toInt = (p2.toInt * p2.toInt + p1.toInt * p1.toInt) * (p2.toInt * p2.toInt + p1.toInt * p1.toInt) := by rw [t32, t48, t25, t31, t41, t47, ← m1]; exact nrm_step p2.toInt p1.toInt p1.toInt p2.toInt
          have b2 := M_step b1.1 b1.2 hn.1 hn.2
          exact W.vret hx hb hr (fun t ht _ => ⟨⟨(), rfl, trivial, cW_at ht hW, ⟨mI_at ht hI, kp_at ht hV, ⟨_, _, pin_at ht nh0_32, pin_at ht nh0_33, mk_fin m2 b2.1 (Int.le_trans b2.2 (by decide)) t116 t127 (gcd_dl y72) (gcd_dr y72)⟩⟩⟩, hS.F ht⟩) hS.2.2 dX11_marksAt_131
        · have c91 : x32.toInt = (0 : Int) := c91
          have rx32_91 : lr x32 0 0 := by have h8 := rx32_82; have h9 := (lr_c (0) (by decide) : lr (0 : Int64) (0) (0)); constructor <;> omega
          refine lv_aload_n hx hb dX11_marksAt_95 rfl (lv_at hl 1 rfl) ?_
          refine wt_rel hx hb hts cfX11 hown hK nh0_33 rfl (by decide) (Or.inl (hts _ q905)) dX11_marksAt_96 ?_
          refine lv_lconst (v := 0) hx hb dX11_marksAt_99 (by decide) ?_
          refine wl_ge (tgt := 109) hx hb dX11_marksAt_100 dX11_marksAt_101 (by decide) (fun c100 => ?_) (fun c100 => ?_)
          · have c100 : (0 : Int) ≤ x48.toInt := c100
            refine lv_aload_n hx hb dX11_marksAt_109 rfl (lv_at hl 1 rfl) ?_
            refine lv_dup hx hb dX11_marksAt_110 rfl ?_
            refine wt_rel hx hb hts cfX11 hown hK nh0_32 rfl (by decide) (Or.inl (hts _ q904)) dX11_marksAt_111 ?_
            refine lv_lload hx hb dX11_marksAt_114 (lv_at hl 0 rfl) ?_
            refine lv_ldiv hx hb dX11_marksAt_116 (l_ne0 z72) ?_
            refine lv_topl (fun x116 e116 => ?_)
            have t116 := lt_div e116 (l_ne0 z72) rx32_91 (by decide)
            have r116 : lr x116 0 0 := lr_div e116 (l_ne0 z72) rx32_91 (by decide) 0 (by decide) (by decide)
            refine wt_putp hx hb hts cfX11 tyX11 tyX11_ok nmX11 hown hK hW hS (cg11 k0) (ce k0 (by decide)) rfl 32 (by decide) (Or.inl (hts _ q904)) rfl rfl rfl gl_mk dX11_marksAt_117 (fun H locs hW hS oq o2 np => ?_)
            have nh0_33 := o2 33 _ (by decide) (by decide) nh0_33
            have nh0_32 : wt_pin N.1 vwCl h0 11 32 (.long x116) H := np
            have hV := hV.put (by decide) o2
            have hI := mI.fr.put hI k0 oq o2 (by decide) (by decide)
            refine lv_aload_n hx hb dX11_marksAt_120 rfl (lv_at hl 1 rfl) ?_
            refine lv_dup hx hb dX11_marksAt_121 rfl ?_
            refine wt_rel hx hb hts cfX11 hown hK nh0_33 rfl (by decide) (Or.inl (hts _ q905)) dX11_marksAt_122 ?_
            refine lv_lload hx hb dX11_marksAt_125 (lv_at hl 0 rfl) ?_
            refine lv_ldiv hx hb dX11_marksAt_127 (l_ne0 z72) ?_
            refine lv_topl (fun x127 e127 => ?_)
            have t127 := lt_div e127 (l_ne0 z72) r48 (by decide)
            have r127 : lr x127 (-12168) 12168 := lr_div e127 (l_ne0 z72) r48 (by decide) 12168 (by decide) (by decide)
            refine wt_putp hx hb hts cfX11 tyX11 tyX11_ok nmX11 hown hK hW hS (cg11 k0) (ce k0 (by decide)) rfl 33 (by decide) (Or.inl (hts _ q905)) rfl rfl rfl gl_mk dX11_marksAt_128 (fun H locs hW hS oq o2 np => ?_)
            have nh0_32 := o2 32 _ (by decide) (by decide) nh0_32
            have nh0_33 : wt_pin N.1 vwCl h0 11 33 (.long x127) H := np
            have hV := hV.put (by decide) o2
            have hI := mI.fr.put hI k0 oq o2 (by decide) (by decide)
            have hn := n_pos rp1.1 rp1.2 rp2.1 rp2.2 hz
            have m1 : p2.toInt * p2.toInt + p1.toInt * p1.toInt = (p2.toInt * p2.toInt + p1.toInt * p1.toInt) := rfl
            have b1 := hn
            have m2 : x32.toInt * x32.toInt + x48.toInt * x48.toInt = (p2.toInt * p2.toInt + p1.toInt * p1.toInt) * (p2.toInt * p2.toInt + p1.toInt * p1.toInt) := by rw [t32, t48, t25, t31, t41, t47, ← m1]; exact nrm_step p2.toInt p1.toInt p1.toInt p2.toInt
            have b2 := M_step b1.1 b1.2 hn.1 hn.2
            exact W.vret hx hb hr (fun t ht _ => ⟨⟨(), rfl, trivial, cW_at ht hW, ⟨mI_at ht hI, kp_at ht hV, ⟨_, _, pin_at ht nh0_32, pin_at ht nh0_33, mk_fin m2 b2.1 (Int.le_trans b2.2 (by decide)) t116 t127 (gcd_dl y72) (gcd_dr y72)⟩⟩⟩, hS.F ht⟩) hS.2.2 dX11_marksAt_131
          · have c100 : x48.toInt < (0 : Int) := c100
            exact absurd c100 (by have h8 := r48; have h9 := (lr_c (0) (by decide) : lr (0 : Int64) (0) (0)); omega)
    · exact absurd (rf_lt (rf_nle c10017) r58 rp3) (by have h8 := r58; have h9 := rp3; omega)
set_option maxHeartbeats 4000000 in
set_option maxRecDepth 100000 in
theorem m_X11_marksAt_1 (l : Launch) (N : c_N) (h0 : Nat) (k0 : N.2.2.1 h0 = some 11) (hO : mOK N) (V : Nat → Value) (p1 : Int64) (rp1 : lr p1 0 78) (p2 : Int64) (rp2 : lr p2 0 78) (p3 : Int32) (rp3 : ir p3 1 1) (hz : p1.toInt ≠ 0 ∨ p2.toInt ≠ 0) : cMv l yX11_marksAt cX11_marksAt 9 { frames := 1, cells := 0, slots := 0, locals := 29 } [.ref h0, .long p1, .long p2, .int p3] N [11] (fun H => mI N h0 H ∧ kp N h0 [32, 33] V H) (fun H => mI N h0 H ∧ kp N h0 [32, 33] V H ∧ ∃ re tu : Int64, pL N h0 32 re H ∧ pL N h0 33 tu H ∧ mkOK re tu) := by
  refine Met.ofW (cc := cX11_marksAt) (maxL := 9) (ret := none) (by decide) rfl ?_
  intro p e s m args below meth c s₁ B hml hv
  obtain ⟨rfl, ⟨hK, hW, hT, hnn⟩, hB⟩ := hv
  obtain ⟨hI, hV⟩ := hB
  have hx := B.exec
  have hb := B.bytes
  have hr := B.returns
  have hts : ∀ w ∈ lw_g, w.before _ s = true := fun w h => atoms_spec (ws := wc_ws yX11_marksAt cX11_marksAt 9 none) B.pre w (List.mem_cons_of_mem _ h)
  have hown : s.vm.findClass RX11 = some m.cls := findClass_of_methodNamed B.named
  have hlocks := B.notSynchronized
  have hS : va_S (cE N [11]) s.heap s.heap [] := va_S.rf
  have hl := lv_entry ([.ref h0, .long p1, .long p2, .int p3]) (n := 9) (Nat.le_of_ble_eq_true rfl)
  rw [lg_entry_eq]
  generalize (lg_sl ([.ref h0, .long p1, .long p2, .int p3]) ++ List.replicate (9 - (lg_sl ([.ref h0, .long p1, .long p2, .int p3])).length) Slot.unset).toArray = ls at hl ⊢
  have hl : lv_has ls 9 [(0, .ref h0), (1, .long p1), (3, .long p2), (5, .int p3)] := hl
  refine wq_all ?_
  intro WW w1 w2
  refine lv_aload_n hx hb dX11_marksAt_0 rfl (lv_at hl 0 rfl) ?_
  refine lv_lload_n hx hb dX11_marksAt_1 rfl (lv_at hl 2 rfl) ?_
  refine wt_putp hx hb hts cfX11 tyX11 tyX11_ok nmX11 hown hK hW hS (cg11 k0) (ce k0 (by decide)) rfl 32 (by decide) (Or.inl (hts _ q904)) rfl rfl rfl gl_mk dX11_marksAt_2 (fun H locs hW hS oq o2 np => ?_)
  have nh0_32 : wt_pin N.1 vwCl h0 11 32 (.long p2) H := np
  have hV := hV.put (by decide) o2
  have hI := mI.fr.put hI k0 oq o2 (by decide) (by decide)
  refine lv_aload_n hx hb dX11_marksAt_5 rfl (lv_at hl 0 rfl) ?_
  refine lv_lload_n hx hb dX11_marksAt_6 rfl (lv_at hl 1 rfl) ?_
  refine wt_putp hx hb hts cfX11 tyX11 tyX11_ok nmX11 hown hK hW hS (cg11 k0) (ce k0 (by decide)) rfl 33 (by decide) (Or.inl (hts _ q905)) rfl rfl rfl gl_mk dX11_marksAt_7 (fun H locs hW hS oq o2 np => ?_)
  have nh0_32 := o2 32 _ (by decide) (by decide) nh0_32
  have nh0_33 : wt_pin N.1 vwCl h0 11 33 (.long p1) H := np
  have hV := hV.put (by decide) o2
  have hI := mI.fr.put hI k0 oq o2 (by decide) (by decide)
  refine lv_iconst (v := 1) hx hb dX11_marksAt_10 (by decide) ?_
  refine lv_istore (lv' := [(6, .int (1 : Int32)), (0, .ref h0), (1, .long p1), (3, .long p2), (5, .int p3)]) hx hb dX11_marksAt_11 hl (by decide) rfl (fun ls hl => ?_)
  refine lv_iload hx hb dX11_marksAt_13 (lv_at hl 0 rfl) ?_
  refine lv_iload hx hb dX11_marksAt_15 (lv_at hl 4 rfl) ?_
  refine lv_icmp_ge (tgt := 64) hx hb dX11_marksAt_17 (by decide) (fun c17 => ?_) (fun c17 => ?_)
  · refine lv_aload_n hx hb dX11_marksAt_64 rfl (lv_at hl 1 rfl) ?_
    refine wt_rel hx hb hts cfX11 hown hK nh0_32 rfl (by decide) (Or.inl (hts _ q904)) dX11_marksAt_65 ?_
    refine lv_aload_n hx hb dX11_marksAt_68 rfl (lv_at hl 1 rfl) ?_
    refine wt_rel hx hb hts cfX11 hown hK nh0_33 rfl (by decide) (Or.inl (hts _ q905)) dX11_marksAt_69 ?_
    refine cp_l (wt_runS (As := [.long p2, .long p1]) (rest := []) ⟨hx, hb, hml, hown, hts⟩ (m_X11_gcd l p2 (lr_w (lo' := -9223372036854775807) (hi' := 9223372036854775807) rp2 (by decide) (by decide)) p1 (lr_w (lo' := -9223372036854775807) (hi' := 9223372036854775807) rp1 (by decide) (by decide))) wm_X11_gcd q1054 ⟨rfl, rfl⟩ ⟨Nat.le_of_ble_eq_true rfl, Nat.le_of_ble_eq_true rfl⟩ pS_pre rfl hl.1 rfl (Nat.le_of_ble_eq_true rfl) dX11_marksAt_72 ⟨Nat.zero_le _, Nat.zero_le _⟩) hW hS (fun x72 H locs hp hW1 hS oq => ?_)
    have hV := hV.same hW k0 oq
    have hI := mI.fr.same hI hW oq
    have hW := hW1
    have nh0_32 := nh0_32.kept (oq _ nh0_32.lt (cE_not k0 (by decide)))
    have nh0_33 := nh0_33.kept (oq _ nh0_33.lt (cE_not k0 (by decide)))
    have y72 : x72.toInt = ((Int.gcd p2.toInt p1.toInt : Nat) : Int) := hp
    have r72 : lr x72 0 9223372036854775807 := ⟨gcd_bd y72, (lr_any x72).2⟩
    have z72 : x72.toInt ≠ 0 := by
      have hn := n_pos rp1.1 rp1.2 rp2.1 rp2.2 hz
      have m1 : p2.toInt * p2.toInt + p1.toInt * p1.toInt = (p2.toInt * p2.toInt + p1.toInt * p1.toInt) := rfl
      have b1 := hn
      refine gcd_ne y72 ?_
      exact nz_of m1 b1.1
    refine lv_lstore (lv' := [(6, .long x72), (0, .ref h0), (1, .long p1), (3, .long p2), (5, .int p3)]) hx hb dX11_marksAt_75 hl (by decide) rfl (fun ls hl => ?_)
    refine lv_aload_n hx hb dX11_marksAt_77 rfl (lv_at hl 1 rfl) ?_
    refine wt_rel hx hb hts cfX11 hown hK nh0_32 rfl (by decide) (Or.inl (hts _ q904)) dX11_marksAt_78 ?_
    refine lv_lconst (v := 0) hx hb dX11_marksAt_81 (by decide) ?_
    refine wl_lt (tgt := 104) hx hb dX11_marksAt_82 dX11_marksAt_83 (by decide) (fun c82 => ?_) (fun c82 => ?_)
    · have c82 : p2.toInt < (0 : Int) := c82
      exact absurd c82 (by have h8 := rp2; have h9 := (lr_c (0) (by decide) : lr (0 : Int64) (0) (0)); omega)
    · have c82 : (0 : Int) ≤ p2.toInt := c82
      refine lv_aload_n hx hb dX11_marksAt_86 rfl (lv_at hl 1 rfl) ?_
      refine wt_rel hx hb hts cfX11 hown hK nh0_32 rfl (by decide) (Or.inl (hts _ q904)) dX11_marksAt_87 ?_
      refine lv_lconst (v := 0) hx hb dX11_marksAt_90 (by decide) ?_
      refine wl_ne (tgt := 109) hx hb dX11_marksAt_91 dX11_marksAt_92 (by decide) (fun c91 => ?_) (fun c91 => ?_)
      · have c91 : p2.toInt ≠ (0 : Int) := c91
        have rp2_91 : lr p2 1 78 := by have h8 := rp2; have h9 := (lr_c (0) (by decide) : lr (0 : Int64) (0) (0)); constructor <;> omega
        refine lv_aload_n hx hb dX11_marksAt_109 rfl (lv_at hl 1 rfl) ?_
        refine lv_dup hx hb dX11_marksAt_110 rfl ?_
        refine wt_rel hx hb hts cfX11 hown hK nh0_32 rfl (by decide) (Or.inl (hts _ q904)) dX11_marksAt_111 ?_
        refine lv_lload hx hb dX11_marksAt_114 (lv_at hl 0 rfl) ?_
        refine lv_ldiv hx hb dX11_marksAt_116 (l_ne0 z72) ?_
        refine lv_topl (fun x116 e116 => ?_)
        have t116 := lt_div e116 (l_ne0 z72) rp2_91 (by decide)
        have r116 : lr x116 (-78) 78 := lr_div e116 (l_ne0 z72) rp2_91 (by decide) 78 (by decide) (by decide)
        refine wt_putp hx hb hts cfX11 tyX11 tyX11_ok nmX11 hown hK hW hS (cg11 k0) (ce k0 (by decide)) rfl 32 (by decide) (Or.inl (hts _ q904)) rfl rfl rfl gl_mk dX11_marksAt_117 (fun H locs hW hS oq o2 np => ?_)
        have nh0_33 := o2 33 _ (by decide) (by decide) nh0_33
        have nh0_32 : wt_pin N.1 vwCl h0 11 32 (.long x116) H := np
        have hV := hV.put (by decide) o2
        have hI := mI.fr.put hI k0 oq o2 (by decide) (by decide)
        refine lv_aload_n hx hb dX11_marksAt_120 rfl (lv_at hl 1 rfl) ?_
        refine lv_dup hx hb dX11_marksAt_121 rfl ?_
        refine wt_rel hx hb hts cfX11 hown hK nh0_33 rfl (by decide) (Or.inl (hts _ q905)) dX11_marksAt_122 ?_
        refine lv_lload hx hb dX11_marksAt_125 (lv_at hl 0 rfl) ?_
        refine lv_ldiv hx hb dX11_marksAt_127 (l_ne0 z72) ?_
        refine lv_topl (fun x127 e127 => ?_)
        have t127 := lt_div e127 (l_ne0 z72) rp1 (by decide)
        have r127 : lr x127 (-78) 78 := lr_div e127 (l_ne0 z72) rp1 (by decide) 78 (by decide) (by decide)
        refine wt_putp hx hb hts cfX11 tyX11 tyX11_ok nmX11 hown hK hW hS (cg11 k0) (ce k0 (by decide)) rfl 33 (by decide) (Or.inl (hts _ q905)) rfl rfl rfl gl_mk dX11_marksAt_128 (fun H locs hW hS oq o2 np => ?_)
        have nh0_32 := o2 32 _ (by decide) (by decide) nh0_32
        have nh0_33 : wt_pin N.1 vwCl h0 11 33 (.long x127) H := np
        have hV := hV.put (by decide) o2
        have hI := mI.fr.put hI k0 oq o2 (by decide) (by decide)
        have hn := n_pos rp1.1 rp1.2 rp2.1 rp2.2 hz
        have m1 : p2.toInt * p2.toInt + p1.toInt * p1.toInt = (p2.toInt * p2.toInt + p1.toInt * p1.toInt) := rfl
        have b1 := hn
        exact W.vret hx hb hr (fun t ht _ => ⟨⟨(), rfl, trivial, cW_at ht hW, ⟨mI_at ht hI, kp_at ht hV, ⟨_, _, pin_at ht nh0_32, pin_at ht nh0_33, mk_fin m1 b1.1 (Int.le_trans b1.2 (by decide)) t116 t127 (gcd_dl y72) (gcd_dr y72)⟩⟩⟩, hS.F ht⟩) hS.2.2 dX11_marksAt_131
      · have c91 : p2.toInt = (0 : Int) := c91
        have rp2_91 : lr p2 0 0 := by have h8 := rp2; have h9 := (lr_c (0) (by decide) : lr (0 : Int64) (0) (0)); constructor <;> omega
        refine lv_aload_n hx hb dX11_marksAt_95 rfl (lv_at hl 1 rfl) ?_
        refine wt_rel hx hb hts cfX11 hown hK nh0_33 rfl (by decide) (Or.inl (hts _ q905)) dX11_marksAt_96 ?_
        refine lv_lconst (v := 0) hx hb dX11_marksAt_99 (by decide) ?_
        refine wl_ge (tgt := 109) hx hb dX11_marksAt_100 dX11_marksAt_101 (by decide) (fun c100 => ?_) (fun c100 => ?_)
        · have c100 : (0 : Int) ≤ p1.toInt := c100
          refine lv_aload_n hx hb dX11_marksAt_109 rfl (lv_at hl 1 rfl) ?_
          refine lv_dup hx hb dX11_marksAt_110 rfl ?_
          refine wt_rel hx hb hts cfX11 hown hK nh0_32 rfl (by decide) (Or.inl (hts _ q904)) dX11_marksAt_111 ?_
          refine lv_lload hx hb dX11_marksAt_114 (lv_at hl 0 rfl) ?_
          refine lv_ldiv hx hb dX11_marksAt_116 (l_ne0 z72) ?_
          refine lv_topl (fun x116 e116 => ?_)
          have t116 := lt_div e116 (l_ne0 z72) rp2_91 (by decide)
          have r116 : lr x116 0 0 := lr_div e116 (l_ne0 z72) rp2_91 (by decide) 0 (by decide) (by decide)
          refine wt_putp hx hb hts cfX11 tyX11 tyX11_ok nmX11 hown hK hW hS (cg11 k0) (ce k0 (by decide)) rfl 32 (by decide) (Or.inl (hts _ q904)) rfl rfl rfl gl_mk dX11_marksAt_117 (fun H locs hW hS oq o2 np => ?_)
          have nh0_33 := o2 33 _ (by decide) (by decide) nh0_33
          have nh0_32 : wt_pin N.1 vwCl h0 11 32 (.long x116) H := np
          have hV := hV.put (by decide) o2
          have hI := mI.fr.put hI k0 oq o2 (by decide) (by decide)
          refine lv_aload_n hx hb dX11_marksAt_120 rfl (lv_at hl 1 rfl) ?_
          refine lv_dup hx hb dX11_marksAt_121 rfl ?_
          refine wt_rel hx hb hts cfX11 hown hK nh0_33 rfl (by decide) (Or.inl (hts _ q905)) dX11_marksAt_122 ?_
          refine lv_lload hx hb dX11_marksAt_125 (lv_at hl 0 rfl) ?_
          refine lv_ldiv hx hb dX11_marksAt_127 (l_ne0 z72) ?_
          refine lv_topl (fun x127 e127 => ?_)
          have t127 := lt_div e127 (l_ne0 z72) rp1 (by decide)
          have r127 : lr x127 (-78) 78 := lr_div e127 (l_ne0 z72) rp1 (by decide) 78 (by decide) (by decide)
          refine wt_putp hx hb hts cfX11 tyX11 tyX11_ok nmX11 hown hK hW hS (cg11 k0) (ce k0 (by decide)) rfl 33 (by decide) (Or.inl (hts _ q905)) rfl rfl rfl gl_mk dX11_marksAt_128 (fun H locs hW hS oq o2 np => ?_)
          have nh0_32 := o2 32 _ (by decide) (by decide) nh0_32
          have nh0_33 : wt_pin N.1 vwCl h0 11 33 (.long x127) H := np
          have hV := hV.put (by decide) o2
          have hI := mI.fr.put hI k0 oq o2 (by decide) (by decide)
          have hn := n_pos rp1.1 rp1.2 rp2.1 rp2.2 hz
          have m1 : p2.toInt * p2.toInt + p1.toInt * p1.toInt = (p2.toInt * p2.toInt + p1.toInt * p1.toInt) := rfl
          have b1 := hn
          exact W.vret hx hb hr (fun t ht _ => ⟨⟨(), rfl, trivial, cW_at ht hW, ⟨mI_at ht hI, kp_at ht hV, ⟨_, _, pin_at ht nh0_32, pin_at ht nh0_33, mk_fin m1 b1.1 (Int.le_trans b1.2 (by decide)) t116 t127 (gcd_dl y72) (gcd_dr y72)⟩⟩⟩, hS.F ht⟩) hS.2.2 dX11_marksAt_131
        · have c100 : p1.toInt < (0 : Int) := c100
          exact absurd c100 (by have h8 := rp1; have h9 := (lr_c (0) (by decide) : lr (0 : Int64) (0) (0)); omega)
  · exact absurd (rf_lt (rf_nle c17) (ir_c (1) (by decide) : ir (1 : Int32) (1) (1)) rp3) (by have h8 := (ir_c (1) (by decide) : ir (1 : Int32) (1) (1)); have h9 := rp3; omega)
theorem m_X11_marksAt (l : Launch) (N : c_N) (h0 : Nat) (k0 : N.2.2.1 h0 = some 11) (hO : mOK N) (V : Nat → Value) (p1 : Int64) (rp1 : lr p1 0 78) (p2 : Int64) (rp2 : lr p2 0 78) (p3 : Int32) (rp3 : ir p3 1 4) (hz : p1.toInt ≠ 0 ∨ p2.toInt ≠ 0) : cMv l yX11_marksAt cX11_marksAt 9 { frames := 1, cells := 0, slots := 0, locals := 29 } [.ref h0, .long p1, .long p2, .int p3] N [11] (fun H => mI N h0 H ∧ kp N h0 [32, 33] V H) (fun H => mI N h0 H ∧ kp N h0 [32, 33] V H ∧ ∃ re tu : Int64, pL N h0 32 re H ∧ pL N h0 33 tu H ∧ mkOK re tu) := by
  rcases (show p3.toInt = 1 ∨ p3.toInt = 2 ∨ p3.toInt = 3 ∨ p3.toInt = 4 by omega) with h | h | h | h
  · exact m_X11_marksAt_1 l N h0 k0 hO V p1 rp1 p2 rp2 p3 (ir_c 1 h) hz
  · exact m_X11_marksAt_2 l N h0 k0 hO V p1 rp1 p2 rp2 p3 (ir_c 2 h) hz
  · exact m_X11_marksAt_3 l N h0 k0 hO V p1 rp1 p2 rp2 p3 (ir_c 3 h) hz
  · exact m_X11_marksAt_4 l N h0 k0 hO V p1 rp1 p2 rp2 p3 (ir_c 4 h) hz
