set_option maxHeartbeats 4000000 in
set_option maxRecDepth 100000 in
theorem m_X11_adds (l : Launch) (N : c_N) (h0 : Nat) (k0 : N.2.2.1 h0 = some 11) (hO : mOK N) (V : Nat → Value) (p1 : Int32) (rp1 : ir p1 0 5) (p2 : Int64) (rp2 : lr p2 0 78) (p3 : Int64) (rp3 : lr p3 0 78) (p4 : Int32) (rp4 : ir p4 1 4) (hz : p2.toInt ≠ 0 ∨ p3.toInt ≠ 0) : cMv l yX11_adds cX11_adds 27 { frames := 2, cells := 0, slots := 0, locals := 57 } [.ref h0, .int p1, .long p2, .long p3, .int p4] N [11] (fun H => mI N h0 H ∧ kp N h0 [32, 33, 34, 35, 36, 37, 38] V H) (fun H => mI N h0 H ∧ kp N h0 [32, 33, 34, 35, 36, 37, 38] V H) := by
  refine Met.ofW (cc := cX11_adds) (maxL := 27) (ret := none) (by decide) rfl ?_
  intro p e s m args below meth c s₁ B hml hv
  obtain ⟨rfl, ⟨hK, hW, hT, hnn⟩, hB⟩ := hv
  obtain ⟨hI, hV⟩ := hB
  have hx := B.exec
  have hb := B.bytes
  have hr := B.returns
  have hts : ∀ w ∈ lw_g, w.before _ s = true := fun w h => atoms_spec (ws := wc_ws yX11_adds cX11_adds 27 none) B.pre w (List.mem_cons_of_mem _ h)
  have hown : s.vm.findClass RX11 = some m.cls := findClass_of_methodNamed B.named
  have hlocks := B.notSynchronized
  have hS : va_S (cE N [11]) s.heap s.heap [] := va_S.rf
  have hl := lv_entry ([.ref h0, .int p1, .long p2, .long p3, .int p4]) (n := 27) (Nat.le_of_ble_eq_true rfl)
  rw [lg_entry_eq]
  generalize (lg_sl ([.ref h0, .int p1, .long p2, .long p3, .int p4]) ++ List.replicate (27 - (lg_sl ([.ref h0, .int p1, .long p2, .long p3, .int p4])).length) Slot.unset).toArray = ls at hl ⊢
  have hl : lv_has ls 27 [(0, .ref h0), (1, .int p1), (2, .long p2), (4, .long p3), (6, .int p4)] := hl
  refine wq_all ?_
  intro WW w1 w2
  refine lv_aload_n hx hb dX11_adds_0 rfl (lv_at hl 0 rfl) ?_
  refine wt_getp hx hb hts cfX11 hown hK hW (cg11 k0) rfl 38 (by decide) (Or.inl (hts _ q910)) dX11_adds_1 (fun v hv nh0_38 => ?_)
  obtain ⟨x1, rfl, r1⟩ : gi 0 1 v := hv
  refine lv_if_ne (tgt := 8) hx hb dX11_adds_4 (by decide) (fun c4 => ?_) (fun c4 => ?_)
  · have rx1_4 : ir x1 1 1 := rf_ne0 c4 r1
    refine lv_aload_n hx hb dX11_adds_8 rfl (lv_at hl 0 rfl) ?_
    refine lv_lload_n hx hb dX11_adds_9 rfl (lv_at hl 2 rfl) ?_
    refine lv_lload hx hb dX11_adds_10 (lv_at hl 3 rfl) ?_
    refine lv_iload hx hb dX11_adds_12 (lv_at hl 4 rfl) ?_
    obtain ⟨V1, hV1⟩ := kp_all hW k0
    refine cc_v (B2 := fun H => mI N h0 H ∧ kp N h0 [32, 33] V1 H ∧ ∃ re tu : Int64, pL N h0 32 re H ∧ pL N h0 33 tu H ∧ mkOK re tu) (wt_runV (As := [.long p2, .long p3, .int p4]) (rest := []) ⟨hx, hb, hml, hown, hts⟩ (m_X11_marksAt l N h0 k0 hO V1 p2 rp2 p3 rp3 p4 rp4 hz) wm_X11_marksAt q1195 ⟨rfl, rfl⟩ ⟨Nat.le_of_ble_eq_true rfl, Nat.le_of_ble_eq_true rfl⟩ (cS_preV (B := fun H => mI N h0 H ∧ kp N h0 [32, 33] V1 H) hK hW hT hnn hS (cg11 k0) rfl rfl (And.intro hI (kp_of (F := [32, 33]) hV1))) rfl hl.1 rfl (Nat.le_of_ble_eq_true rfl) dX11_adds_14 ⟨Nat.zero_le _, Nat.zero_le _⟩) hS (by decide) (fun H locs hW hS oq hB2 => ?_)
    obtain ⟨hI, hV2, hB2⟩ := hB2
    have hV := kp_call hV hV1 hV2 (by decide)
    obtain ⟨re14, tu14, nh0_32, nh0_33, o14⟩ := hB2
    have nh0_38 := kp_use hV1 hV2 (by decide) (by decide) nh0_38
    obtain ⟨a0, b0, c0, d0, f0, nh0_34, nh0_35, nh0_36, nh0_37, q38, hdet⟩ := hI.2.2.2.2
    have qf : Value.int f0 = .int x1 := pin_inj (by decide) q38 nh0_38
    have hdet : detOK a0 b0 c0 d0 := hdet (by intro h; cases qf; exact c4 h)
    refine lv_aload_n hx hb dX11_adds_17 rfl (lv_at hl 0 rfl) ?_
    refine wt_get hx hb hts cfX11 hown hK hW (cg11 k0) rfl 0 (by decide) q872 dX11_adds_18 (fun v hv => ?_)
    obtain ⟨x18, rfl, k18⟩ : gr N 40 v := hv
    refine lv_iload_n hx hb dX11_adds_21 rfl (lv_at hl 1 rfl) ?_
    refine wt_iald hx hb hK hW 0 (cg40 k18) rfl (ir_in rp1 (by decide) (by decide)) dX11_adds_22 (fun v hv => ?_)
    have hv : v = .int _ := hv
    subst hv
    refine lv_topi (fun x22 e22 => ?_)
    have r22 : ir x22 1 9 := mOK_r hO (Or.inl k18) (ir_in rp1 (by decide) (by decide)) e22
    refine lv_i2l hx hb dX11_adds_23 rfl ?_
    refine lv_topl (fun x23 e23 => ?_)
    have r23 : lr x23 1 9 := by rw [e23]; exact i2l_r r22
    refine lv_lstore (lv' := [(7, .long x23), (0, .ref h0), (1, .int p1), (2, .long p2), (4, .long p3), (6, .int p4)]) hx hb dX11_adds_24 hl (by decide) rfl (fun ls hl => ?_)
    refine lv_aload_n hx hb dX11_adds_26 rfl (lv_at hl 1 rfl) ?_
    refine wt_get hx hb hts cfX11 hown hK hW (cg11 k0) rfl 1 (by decide) q873 dX11_adds_27 (fun v hv => ?_)
    obtain ⟨x27, rfl, k27⟩ : gr N 41 v := hv
    refine lv_iload_n hx hb dX11_adds_30 rfl (lv_at hl 2 rfl) ?_
    refine wt_iald hx hb hK hW 0 (cg41 k27) rfl (ir_in rp1 (by decide) (by decide)) dX11_adds_31 (fun v hv => ?_)
    have hv : v = .int _ := hv
    subst hv
    refine lv_topi (fun x31 e31 => ?_)
    have r31 : ir x31 1 9 := mOK_r hO (Or.inr k27) (ir_in rp1 (by decide) (by decide)) e31
    refine lv_i2l hx hb dX11_adds_32 rfl ?_
    refine lv_topl (fun x32 e32 => ?_)
    have r32 : lr x32 1 9 := by rw [e32]; exact i2l_r r31
    refine lv_lstore (lv' := [(9, .long x32), (7, .long x23), (0, .ref h0), (1, .int p1), (2, .long p2), (4, .long p3), (6, .int p4)]) hx hb dX11_adds_33 hl (by decide) rfl (fun ls hl => ?_)
    refine lv_lload hx hb dX11_adds_35 (lv_at hl 1 rfl) ?_
    refine lv_lload hx hb dX11_adds_37 (lv_at hl 0 rfl) ?_
    refine lv_lmul hx hb dX11_adds_39 ?_
    refine lv_topl (fun x39 e39 => ?_)
    have u39 := lt_mulp e39 r23 r32 (by decide) (by decide) (by decide)
    have t39 := u39.1
    have r39 : lr x39 1 81 := lr_w u39.2 (by decide) (by decide)
    refine lv_aload_n hx hb dX11_adds_40 rfl (lv_at hl 2 rfl) ?_
    refine wt_rel hx hb hts cfX11 hown hK nh0_32 rfl (by decide) (Or.inl (hts _ q904)) dX11_adds_41 ?_
    refine lv_aload_n hx hb dX11_adds_44 rfl (lv_at hl 2 rfl) ?_
    refine wt_rel hx hb hts cfX11 hown hK nh0_32 rfl (by decide) (Or.inl (hts _ q904)) dX11_adds_45 ?_
    refine lv_lmul hx hb dX11_adds_48 ?_
    refine lv_topl (fun x48 e48 => ?_)
    have u48 := lt_mul e48 o14.1 o14.1 148060224 148060224 (by decide) (by decide) (by decide) (by decide) (by decide)
    have t48 := u48.1
    have r48 : lr x48 (-21921829930930176) 21921829930930176 := lr_w u48.2 (by decide) (by decide)
    refine lv_aload_n hx hb dX11_adds_49 rfl (lv_at hl 2 rfl) ?_
    refine wt_rel hx hb hts cfX11 hown hK nh0_33 rfl (by decide) (Or.inl (hts _ q905)) dX11_adds_50 ?_
    refine lv_aload_n hx hb dX11_adds_53 rfl (lv_at hl 2 rfl) ?_
    refine wt_rel hx hb hts cfX11 hown hK nh0_33 rfl (by decide) (Or.inl (hts _ q905)) dX11_adds_54 ?_
    refine lv_lmul hx hb dX11_adds_57 ?_
    refine lv_topl (fun x57 e57 => ?_)
    have u57 := lt_mul e57 o14.2.1 o14.2.1 148060224 148060224 (by decide) (by decide) (by decide) (by decide) (by decide)
    have t57 := u57.1
    have r57 : lr x57 (-21921829930930176) 21921829930930176 := lr_w u57.2 (by decide) (by decide)
    refine lv_lsub hx hb dX11_adds_58 ?_
    refine lv_topl (fun x58 e58 => ?_)
    have t58 := lt_sub e58 r48 r57 (by decide) (by decide)
    have r58 : lr x58 (-43843659861860352) 43843659861860352 := lr_sub e58 r48 r57 (by decide) (by decide) (by decide) (by decide)
    refine lv_lmul hx hb dX11_adds_59 ?_
    refine lv_topl (fun x59 e59 => ?_)
    have u59 := lt_mul e59 r39 r58 81 43843659861860352 (by decide) (by decide) (by decide) (by decide) (by decide)
    have t59 := u59.1
    have r59 : lr x59 (-3551336448810688512) 3551336448810688512 := lr_w u59.2 (by decide) (by decide)
    refine lv_lstore (lv' := [(11, .long x59), (9, .long x32), (7, .long x23), (0, .ref h0), (1, .int p1), (2, .long p2), (4, .long p3), (6, .int p4)]) hx hb dX11_adds_60 hl (by decide) rfl (fun ls hl => ?_)
    refine lv_ldc2 hx hb hown (hts _ q1227) dX11_adds_62 ?_
    refine lv_lload hx hb dX11_adds_65 (lv_at hl 1 rfl) ?_
    refine lv_lmul hx hb dX11_adds_67 ?_
    refine lv_topl (fun x67 e67 => ?_)
    have u67 := lt_mulp e67 (lr_c (2) (by decide) : lr (2 : Int64) (2) (2)) r32 (by decide) (by decide) (by decide)
    have t67 := u67.1
    have r67 : lr x67 2 18 := lr_w u67.2 (by decide) (by decide)
    refine lv_lload hx hb dX11_adds_68 (lv_at hl 1 rfl) ?_
    refine lv_lmul hx hb dX11_adds_70 ?_
    refine lv_topl (fun x70 e70 => ?_)
    have u70 := lt_mulp e70 r67 r32 (by decide) (by decide) (by decide)
    have t70 := u70.1
    have r70 : lr x70 2 162 := lr_w u70.2 (by decide) (by decide)
    refine lv_aload_n hx hb dX11_adds_71 rfl (lv_at hl 3 rfl) ?_
    refine wt_rel hx hb hts cfX11 hown hK nh0_33 rfl (by decide) (Or.inl (hts _ q905)) dX11_adds_72 ?_
    refine lv_lmul hx hb dX11_adds_75 ?_
    refine lv_topl (fun x75 e75 => ?_)
    have u75 := lt_mul e75 r70 o14.2.1 162 148060224 (by decide) (by decide) (by decide) (by decide) (by decide)
    have t75 := u75.1
    have r75 : lr x75 (-23985756288) 23985756288 := lr_w u75.2 (by decide) (by decide)
    refine lv_aload_n hx hb dX11_adds_76 rfl (lv_at hl 3 rfl) ?_
    refine wt_rel hx hb hts cfX11 hown hK nh0_32 rfl (by decide) (Or.inl (hts _ q904)) dX11_adds_77 ?_
    refine lv_lmul hx hb dX11_adds_80 ?_
    refine lv_topl (fun x80 e80 => ?_)
    have u80 := lt_mul e80 r75 o14.1 23985756288 148060224 (by decide) (by decide) (by decide) (by decide) (by decide)
    have t80 := u80.1
    have r80 : lr x80 (-3551336448810688512) 3551336448810688512 := lr_w u80.2 (by decide) (by decide)
    refine lv_lstore (lv' := [(13, .long x80), (11, .long x59), (9, .long x32), (7, .long x23), (0, .ref h0), (1, .int p1), (2, .long p2), (4, .long p3), (6, .int p4)]) hx hb dX11_adds_81 hl (by decide) rfl (fun ls hl => ?_)
    refine lv_ldc2 hx hb hown (hts _ q1227) dX11_adds_83 ?_
    refine lv_lload hx hb dX11_adds_86 (lv_at hl 3 rfl) ?_
    refine lv_lmul hx hb dX11_adds_88 ?_
    refine lv_topl (fun x88 e88 => ?_)
    have u88 := lt_mulp e88 (lr_c (2) (by decide) : lr (2 : Int64) (2) (2)) r23 (by decide) (by decide) (by decide)
    have t88 := u88.1
    have r88 : lr x88 2 18 := lr_w u88.2 (by decide) (by decide)
    refine lv_lload hx hb dX11_adds_89 (lv_at hl 3 rfl) ?_
    refine lv_lmul hx hb dX11_adds_91 ?_
    refine lv_topl (fun x91 e91 => ?_)
    have u91 := lt_mulp e91 r88 r23 (by decide) (by decide) (by decide)
    have t91 := u91.1
    have r91 : lr x91 2 162 := lr_w u91.2 (by decide) (by decide)
    refine lv_aload_n hx hb dX11_adds_92 rfl (lv_at hl 4 rfl) ?_
    refine wt_rel hx hb hts cfX11 hown hK nh0_33 rfl (by decide) (Or.inl (hts _ q905)) dX11_adds_93 ?_
    refine lv_lmul hx hb dX11_adds_96 ?_
    refine lv_topl (fun x96 e96 => ?_)
    have u96 := lt_mul e96 r91 o14.2.1 162 148060224 (by decide) (by decide) (by decide) (by decide) (by decide)
    have t96 := u96.1
    have r96 : lr x96 (-23985756288) 23985756288 := lr_w u96.2 (by decide) (by decide)
    refine lv_aload_n hx hb dX11_adds_97 rfl (lv_at hl 4 rfl) ?_
    refine wt_rel hx hb hts cfX11 hown hK nh0_32 rfl (by decide) (Or.inl (hts _ q904)) dX11_adds_98 ?_
    refine lv_lmul hx hb dX11_adds_101 ?_
    refine lv_topl (fun x101 e101 => ?_)
    have u101 := lt_mul e101 r96 o14.1 23985756288 148060224 (by decide) (by decide) (by decide) (by decide) (by decide)
    have t101 := u101.1
    have r101 : lr x101 (-3551336448810688512) 3551336448810688512 := lr_w u101.2 (by decide) (by decide)
    refine lv_lstore (lv' := [(15, .long x101), (13, .long x80), (11, .long x59), (9, .long x32), (7, .long x23), (0, .ref h0), (1, .int p1), (2, .long p2), (4, .long p3), (6, .int p4)]) hx hb dX11_adds_102 hl (by decide) rfl (fun ls hl => ?_)
    refine lv_lload hx hb dX11_adds_104 (lv_at hl 2 rfl) ?_
    refine lv_lload hx hb dX11_adds_106 (lv_at hl 1 rfl) ?_
    refine lv_lload hx hb dX11_adds_108 (lv_at hl 0 rfl) ?_
    refine cp_l (wt_runS (As := [.long x80, .long x101]) (rest := [.long x59]) ⟨hx, hb, hml, hown, hts⟩ (m_X11_gcd l x80 (lr_w (lo' := -9223372036854775807) (hi' := 9223372036854775807) r80 (by decide) (by decide)) x101 (lr_w (lo' := -9223372036854775807) (hi' := 9223372036854775807) r101 (by decide) (by decide))) wm_X11_gcd q1054 ⟨rfl, rfl⟩ ⟨Nat.le_of_ble_eq_true rfl, Nat.le_of_ble_eq_true rfl⟩ pS_pre rfl hl.1 rfl (Nat.le_of_ble_eq_true rfl) dX11_adds_110 ⟨Nat.zero_le _, Nat.zero_le _⟩) hW hS (fun x110 H locs hp hW1 hS oq => ?_)
    have hV := hV.same hW k0 oq
    have hI := mI.fr.same hI hW oq
    have hW := hW1
    have nh0_38 := nh0_38.kept (oq _ nh0_38.lt (cE_not k0 (by decide)))
    have nh0_32 := nh0_32.kept (oq _ nh0_32.lt (cE_not k0 (by decide)))
    have nh0_33 := nh0_33.kept (oq _ nh0_33.lt (cE_not k0 (by decide)))
    have nh0_34 := nh0_34.kept (oq _ nh0_34.lt (cE_not k0 (by decide)))
    have nh0_35 := nh0_35.kept (oq _ nh0_35.lt (cE_not k0 (by decide)))
    have nh0_36 := nh0_36.kept (oq _ nh0_36.lt (cE_not k0 (by decide)))
    have nh0_37 := nh0_37.kept (oq _ nh0_37.lt (cE_not k0 (by decide)))
    have y110 : x110.toInt = ((Int.gcd x80.toInt x101.toInt : Nat) : Int) := hp
    have s110 : lr x110 0 9223372036854775807 := ⟨gcd_bd y110, (lr_any x110).2⟩
    refine cp_l (wt_runS (As := [.long x59, .long x110]) (rest := []) ⟨hx, hb, hml, hown, hts⟩ (m_X11_gcd l x59 (lr_w (lo' := -9223372036854775807) (hi' := 9223372036854775807) r59 (by decide) (by decide)) x110 (lr_w (lo' := -9223372036854775807) (hi' := 9223372036854775807) s110 (by decide) (by decide))) wm_X11_gcd q1054 ⟨rfl, rfl⟩ ⟨Nat.le_of_ble_eq_true rfl, Nat.le_of_ble_eq_true rfl⟩ pS_pre rfl hl.1 rfl (Nat.le_of_ble_eq_true rfl) dX11_adds_113 ⟨Nat.zero_le _, Nat.zero_le _⟩) hW hS (fun x113 H locs hp hW1 hS oq => ?_)
    have hV := hV.same hW k0 oq
    have hI := mI.fr.same hI hW oq
    have hW := hW1
    have nh0_38 := nh0_38.kept (oq _ nh0_38.lt (cE_not k0 (by decide)))
    have nh0_32 := nh0_32.kept (oq _ nh0_32.lt (cE_not k0 (by decide)))
    have nh0_33 := nh0_33.kept (oq _ nh0_33.lt (cE_not k0 (by decide)))
    have nh0_34 := nh0_34.kept (oq _ nh0_34.lt (cE_not k0 (by decide)))
    have nh0_35 := nh0_35.kept (oq _ nh0_35.lt (cE_not k0 (by decide)))
    have nh0_36 := nh0_36.kept (oq _ nh0_36.lt (cE_not k0 (by decide)))
    have nh0_37 := nh0_37.kept (oq _ nh0_37.lt (cE_not k0 (by decide)))
    have y113 : x113.toInt = ((Int.gcd x59.toInt x110.toInt : Nat) : Int) := hp
    have s113 : lr x113 0 9223372036854775807 := ⟨gcd_bd y113, (lr_any x113).2⟩
    have ex : x59.toInt = x23.toInt * x32.toInt * (re14.toInt * re14.toInt - tu14.toInt * tu14.toInt) := by rw [t59, t39, t58, t48, t57]
    have ey : x80.toInt = 2 * x32.toInt * x32.toInt * tu14.toInt * re14.toInt := by rw [t80, t75, t70, t67]; rfl
    have ez : x101.toInt = 2 * x23.toInt * x23.toInt * tu14.toInt * re14.toInt := by rw [t101, t96, t91, t88]; rfl
    have z113 : x113.toInt ≠ 0 := by
      refine gcd_ne y113 ?_
      rcases layer_nz r23.1 r32.1 o14.2.2 with h | h
      · exact Or.inl (by rw [ex]; exact h)
      · exact Or.inr (gcd_ne y110 (Or.inl (by rw [ey]; exact h)))
    refine lv_lstore (lv' := [(17, .long x113), (15, .long x101), (13, .long x80), (11, .long x59), (9, .long x32), (7, .long x23), (0, .ref h0), (1, .int p1), (2, .long p2), (4, .long p3), (6, .int p4)]) hx hb dX11_adds_116 hl (by decide) rfl (fun ls hl => ?_)
    refine lv_lload hx hb dX11_adds_118 (lv_at hl 3 rfl) ?_
    refine lv_lload hx hb dX11_adds_120 (lv_at hl 0 rfl) ?_
    refine lv_ldiv hx hb dX11_adds_122 (l_ne0 z113) ?_
    refine lv_topl (fun x122 e122 => ?_)
    have t122 := lt_div e122 (l_ne0 z113) r59 (by decide)
    have r122 : lr x122 (-3551336448810688512) 3551336448810688512 := lr_div e122 (l_ne0 z113) r59 (by decide) 3551336448810688512 (by decide) (by decide)
    refine lv_lstore (lv' := [(11, .long x122), (17, .long x113), (15, .long x101), (13, .long x80), (9, .long x32), (7, .long x23), (0, .ref h0), (1, .int p1), (2, .long p2), (4, .long p3), (6, .int p4)]) hx hb dX11_adds_123 hl (by decide) rfl (fun ls hl => ?_)
    refine lv_lload hx hb dX11_adds_125 (lv_at hl 3 rfl) ?_
    refine lv_lload hx hb dX11_adds_127 (lv_at hl 1 rfl) ?_
    refine lv_ldiv hx hb dX11_adds_129 (l_ne0 z113) ?_
    refine lv_topl (fun x129 e129 => ?_)
    have t129 := lt_div e129 (l_ne0 z113) r80 (by decide)
    have r129 : lr x129 (-3551336448810688512) 3551336448810688512 := lr_div e129 (l_ne0 z113) r80 (by decide) 3551336448810688512 (by decide) (by decide)
    refine lv_lstore (lv' := [(13, .long x129), (11, .long x122), (17, .long x113), (15, .long x101), (9, .long x32), (7, .long x23), (0, .ref h0), (1, .int p1), (2, .long p2), (4, .long p3), (6, .int p4)]) hx hb dX11_adds_130 hl (by decide) rfl (fun ls hl => ?_)
    refine lv_lload hx hb dX11_adds_132 (lv_at hl 3 rfl) ?_
    refine lv_lload hx hb dX11_adds_134 (lv_at hl 2 rfl) ?_
    refine lv_ldiv hx hb dX11_adds_136 (l_ne0 z113) ?_
    refine lv_topl (fun x136 e136 => ?_)
    have t136 := lt_div e136 (l_ne0 z113) r101 (by decide)
    have r136 : lr x136 (-3551336448810688512) 3551336448810688512 := lr_div e136 (l_ne0 z113) r101 (by decide) 3551336448810688512 (by decide) (by decide)
    refine lv_lstore (lv' := [(15, .long x136), (13, .long x129), (11, .long x122), (17, .long x113), (9, .long x32), (7, .long x23), (0, .ref h0), (1, .int p1), (2, .long p2), (4, .long p3), (6, .int p4)]) hx hb dX11_adds_137 hl (by decide) rfl (fun ls hl => ?_)
    have dx := qdiv t122 (gcd_dl y113)
    have dy := qdiv t129 (Int.dvd_trans (gcd_dr y113) (gcd_dl y110))
    have dz := qdiv t136 (Int.dvd_trans (gcd_dr y113) (gcd_dr y110))
    have hl0 : 0 < x59.toInt * x59.toInt + x80.toInt * x101.toInt := by rw [ex, ey, ez]; exact layer_det r23.1 r32.1 o14.2.2
    have hl1 : 0 < x122.toInt * x122.toInt + x129.toInt * x136.toInt := pos_scaled dx dy dz dx hl0
    refine lv_lload hx hb dX11_adds_139 (lv_at hl 2 rfl) ?_
    refine lv_lload hx hb dX11_adds_141 (lv_at hl 1 rfl) ?_
    refine lv_lload hx hb dX11_adds_143 (lv_at hl 0 rfl) ?_
    refine lv_lload hx hb dX11_adds_145 (lv_at hl 2 rfl) ?_
    refine cp_i (wt_runS (As := [.long x122, .long x129, .long x136, .long x122]) (rest := []) ⟨hx, hb, hml, hown, hts⟩ (m_X11_isTooFine l x122 x129 x136 x122) wm_X11_isTooFine q1228 ⟨rfl, rfl⟩ ⟨Nat.le_of_ble_eq_true rfl, Nat.le_of_ble_eq_true rfl⟩ pS_pre rfl hl.1 rfl (Nat.le_of_ble_eq_true rfl) dX11_adds_147 ⟨Nat.zero_le _, Nat.zero_le _⟩) hW hS (fun x147 H locs hp hW1 hS oq => ?_)
    have hV := hV.same hW k0 oq
    have hI := mI.fr.same hI hW oq
    have hW := hW1
    have nh0_38 := nh0_38.kept (oq _ nh0_38.lt (cE_not k0 (by decide)))
    have nh0_32 := nh0_32.kept (oq _ nh0_32.lt (cE_not k0 (by decide)))
    have nh0_33 := nh0_33.kept (oq _ nh0_33.lt (cE_not k0 (by decide)))
    have nh0_34 := nh0_34.kept (oq _ nh0_34.lt (cE_not k0 (by decide)))
    have nh0_35 := nh0_35.kept (oq _ nh0_35.lt (cE_not k0 (by decide)))
    have nh0_36 := nh0_36.kept (oq _ nh0_36.lt (cE_not k0 (by decide)))
    have nh0_37 := nh0_37.kept (oq _ nh0_37.lt (cE_not k0 (by decide)))
    obtain ⟨r147, b147⟩ := hp
    refine lv_if_eq (tgt := 159) hx hb dX11_adds_150 (by decide) (fun c150 => ?_) (fun c150 => ?_)
    · have rx147_150 : ir x147 0 0 := rf_eq c150 (ir_c (0) (by decide) : ir (0 : Int32) (0) (0))
      have zx147_150 := b147 c150
      refine lv_aload_n hx hb dX11_adds_159 rfl (lv_at hl 6 rfl) ?_
      refine wt_rel hx hb hts cfX11 hown hK nh0_34 rfl (by decide) (Or.inl (hts _ q906)) dX11_adds_160 ?_
      refine lv_lload hx hb dX11_adds_163 (lv_at hl 2 rfl) ?_
      refine lv_lmul hx hb dX11_adds_165 ?_
      refine lv_topl (fun x165 e165 => ?_)
      have u165 := lt_mul e165 hdet.1 zx147_150.2.2.2 10000000 10000000 (by decide) (by decide) (by decide) (by decide) (by decide)
      have t165 := u165.1
      have r165 : lr x165 (-100000000000000) 100000000000000 := lr_w u165.2 (by decide) (by decide)
      refine lv_aload_n hx hb dX11_adds_166 rfl (lv_at hl 6 rfl) ?_
      refine wt_rel hx hb hts cfX11 hown hK nh0_35 rfl (by decide) (Or.inl (hts _ q907)) dX11_adds_167 ?_
      refine lv_lload hx hb dX11_adds_170 (lv_at hl 0 rfl) ?_
      refine lv_lmul hx hb dX11_adds_172 ?_
      refine lv_topl (fun x172 e172 => ?_)
      have u172 := lt_mul e172 hdet.2.1 zx147_150.2.2.1 10000000 10000000 (by decide) (by decide) (by decide) (by decide) (by decide)
      have t172 := u172.1
      have r172 : lr x172 (-100000000000000) 100000000000000 := lr_w u172.2 (by decide) (by decide)
      refine lv_lsub hx hb dX11_adds_173 ?_
      refine lv_topl (fun x173 e173 => ?_)
      have t173 := lt_sub e173 r165 r172 (by decide) (by decide)
      have r173 : lr x173 (-200000000000000) 200000000000000 := lr_sub e173 r165 r172 (by decide) (by decide) (by decide) (by decide)
      refine lv_lstore (lv' := [(19, .long x173), (15, .long x136), (13, .long x129), (11, .long x122), (17, .long x113), (9, .long x32), (7, .long x23), (0, .ref h0), (1, .int p1), (2, .long p2), (4, .long p3), (6, .int p4)]) hx hb dX11_adds_174 hl (by decide) rfl (fun ls hl => ?_)
      refine lv_aload_n hx hb dX11_adds_176 rfl (lv_at hl 7 rfl) ?_
      refine wt_rel hx hb hts cfX11 hown hK nh0_34 rfl (by decide) (Or.inl (hts _ q906)) dX11_adds_177 ?_
      refine lv_lload hx hb dX11_adds_180 (lv_at hl 2 rfl) ?_
      refine lv_lmul hx hb dX11_adds_182 ?_
      refine lv_topl (fun x182 e182 => ?_)
      have u182 := lt_mul e182 hdet.1 zx147_150.2.1 10000000 10000000 (by decide) (by decide) (by decide) (by decide) (by decide)
      have t182 := u182.1
      have r182 : lr x182 (-100000000000000) 100000000000000 := lr_w u182.2 (by decide) (by decide)
      refine lv_aload_n hx hb dX11_adds_183 rfl (lv_at hl 7 rfl) ?_
      refine wt_rel hx hb hts cfX11 hown hK nh0_35 rfl (by decide) (Or.inl (hts _ q907)) dX11_adds_184 ?_
      refine lv_lload hx hb dX11_adds_187 (lv_at hl 3 rfl) ?_
      refine lv_lmul hx hb dX11_adds_189 ?_
      refine lv_topl (fun x189 e189 => ?_)
      have u189 := lt_mul e189 hdet.2.1 zx147_150.2.2.2 10000000 10000000 (by decide) (by decide) (by decide) (by decide) (by decide)
      have t189 := u189.1
      have r189 : lr x189 (-100000000000000) 100000000000000 := lr_w u189.2 (by decide) (by decide)
      refine lv_ladd hx hb dX11_adds_190 ?_
      refine lv_topl (fun x190 e190 => ?_)
      have t190 := lt_add e190 r182 r189 (by decide) (by decide)
      have r190 : lr x190 (-200000000000000) 200000000000000 := lr_add e190 r182 r189 (by decide) (by decide) (by decide) (by decide)
      refine lv_lstore (lv' := [(21, .long x190), (19, .long x173), (15, .long x136), (13, .long x129), (11, .long x122), (17, .long x113), (9, .long x32), (7, .long x23), (0, .ref h0), (1, .int p1), (2, .long p2), (4, .long p3), (6, .int p4)]) hx hb dX11_adds_191 hl (by decide) rfl (fun ls hl => ?_)
      refine lv_aload_n hx hb dX11_adds_193 rfl (lv_at hl 8 rfl) ?_
      refine wt_rel hx hb hts cfX11 hown hK nh0_36 rfl (by decide) (Or.inl (hts _ q908)) dX11_adds_194 ?_
      refine lv_lload hx hb dX11_adds_197 (lv_at hl 4 rfl) ?_
      refine lv_lmul hx hb dX11_adds_199 ?_
      refine lv_topl (fun x199 e199 => ?_)
      have u199 := lt_mul e199 hdet.2.2.1 zx147_150.2.2.2 10000000 10000000 (by decide) (by decide) (by decide) (by decide) (by decide)
      have t199 := u199.1
      have r199 : lr x199 (-100000000000000) 100000000000000 := lr_w u199.2 (by decide) (by decide)
      refine lv_aload_n hx hb dX11_adds_200 rfl (lv_at hl 8 rfl) ?_
      refine wt_rel hx hb hts cfX11 hown hK nh0_37 rfl (by decide) (Or.inl (hts _ q909)) dX11_adds_201 ?_
      refine lv_lload hx hb dX11_adds_204 (lv_at hl 2 rfl) ?_
      refine lv_lmul hx hb dX11_adds_206 ?_
      refine lv_topl (fun x206 e206 => ?_)
      have u206 := lt_mul e206 hdet.2.2.2.1 zx147_150.2.2.1 10000000 10000000 (by decide) (by decide) (by decide) (by decide) (by decide)
      have t206 := u206.1
      have r206 : lr x206 (-100000000000000) 100000000000000 := lr_w u206.2 (by decide) (by decide)
      refine lv_ladd hx hb dX11_adds_207 ?_
      refine lv_topl (fun x207 e207 => ?_)
      have t207 := lt_add e207 r199 r206 (by decide) (by decide)
      have r207 : lr x207 (-200000000000000) 200000000000000 := lr_add e207 r199 r206 (by decide) (by decide) (by decide) (by decide)
      refine lv_lstore (lv' := [(23, .long x207), (21, .long x190), (19, .long x173), (15, .long x136), (13, .long x129), (11, .long x122), (17, .long x113), (9, .long x32), (7, .long x23), (0, .ref h0), (1, .int p1), (2, .long p2), (4, .long p3), (6, .int p4)]) hx hb dX11_adds_208 hl (by decide) rfl (fun ls hl => ?_)
      refine lv_aload_n hx hb dX11_adds_210 rfl (lv_at hl 9 rfl) ?_
      refine wt_rel hx hb hts cfX11 hown hK nh0_37 rfl (by decide) (Or.inl (hts _ q909)) dX11_adds_211 ?_
      refine lv_lload hx hb dX11_adds_214 (lv_at hl 5 rfl) ?_
      refine lv_lmul hx hb dX11_adds_216 ?_
      refine lv_topl (fun x216 e216 => ?_)
      have u216 := lt_mul e216 hdet.2.2.2.1 zx147_150.2.2.2 10000000 10000000 (by decide) (by decide) (by decide) (by decide) (by decide)
      have t216 := u216.1
      have r216 : lr x216 (-100000000000000) 100000000000000 := lr_w u216.2 (by decide) (by decide)
      refine lv_aload_n hx hb dX11_adds_217 rfl (lv_at hl 9 rfl) ?_
      refine wt_rel hx hb hts cfX11 hown hK nh0_36 rfl (by decide) (Or.inl (hts _ q908)) dX11_adds_218 ?_
      refine lv_lload hx hb dX11_adds_221 (lv_at hl 4 rfl) ?_
      refine lv_lmul hx hb dX11_adds_223 ?_
      refine lv_topl (fun x223 e223 => ?_)
      have u223 := lt_mul e223 hdet.2.2.1 zx147_150.2.1 10000000 10000000 (by decide) (by decide) (by decide) (by decide) (by decide)
      have t223 := u223.1
      have r223 : lr x223 (-100000000000000) 100000000000000 := lr_w u223.2 (by decide) (by decide)
      refine lv_lsub hx hb dX11_adds_224 ?_
      refine lv_topl (fun x224 e224 => ?_)
      have t224 := lt_sub e224 r216 r223 (by decide) (by decide)
      have r224 : lr x224 (-200000000000000) 200000000000000 := lr_sub e224 r216 r223 (by decide) (by decide) (by decide) (by decide)
      refine lv_lstore (lv' := [(25, .long x224), (23, .long x207), (21, .long x190), (19, .long x173), (15, .long x136), (13, .long x129), (11, .long x122), (17, .long x113), (9, .long x32), (7, .long x23), (0, .ref h0), (1, .int p1), (2, .long p2), (4, .long p3), (6, .int p4)]) hx hb dX11_adds_225 hl (by decide) rfl (fun ls hl => ?_)
      have ea : x173.toInt = a0.toInt * x122.toInt - b0.toInt * x136.toInt := by rw [t173, t165, t172]
      have eb : x190.toInt = a0.toInt * x129.toInt + b0.toInt * x122.toInt := by rw [t190, t182, t189]
      have ec : x207.toInt = c0.toInt * x122.toInt + d0.toInt * x136.toInt := by rw [t207, t199, t206]
      have ed : x224.toInt = d0.toInt * x122.toInt - c0.toInt * x129.toInt := by rw [t224, t216, t223]
      have hd2 : 0 < x173.toInt * x224.toInt + x190.toInt * x207.toInt := by rw [ea, eb, ec, ed]; exact det_mul hdet.2.2.2.2 hl1
      refine lv_lload hx hb dX11_adds_227 (lv_at hl 3 rfl) ?_
      refine lv_lload hx hb dX11_adds_229 (lv_at hl 2 rfl) ?_
      refine cp_l (wt_runS (As := [.long x173, .long x190]) (rest := []) ⟨hx, hb, hml, hown, hts⟩ (m_X11_gcd l x173 (lr_w (lo' := -9223372036854775807) (hi' := 9223372036854775807) r173 (by decide) (by decide)) x190 (lr_w (lo' := -9223372036854775807) (hi' := 9223372036854775807) r190 (by decide) (by decide))) wm_X11_gcd q1054 ⟨rfl, rfl⟩ ⟨Nat.le_of_ble_eq_true rfl, Nat.le_of_ble_eq_true rfl⟩ pS_pre rfl hl.1 rfl (Nat.le_of_ble_eq_true rfl) dX11_adds_231 ⟨Nat.zero_le _, Nat.zero_le _⟩) hW hS (fun x231 H locs hp hW1 hS oq => ?_)
      have hV := hV.same hW k0 oq
      have hI := mI.fr.same hI hW oq
      have hW := hW1
      have nh0_38 := nh0_38.kept (oq _ nh0_38.lt (cE_not k0 (by decide)))
      have nh0_32 := nh0_32.kept (oq _ nh0_32.lt (cE_not k0 (by decide)))
      have nh0_33 := nh0_33.kept (oq _ nh0_33.lt (cE_not k0 (by decide)))
      have nh0_34 := nh0_34.kept (oq _ nh0_34.lt (cE_not k0 (by decide)))
      have nh0_35 := nh0_35.kept (oq _ nh0_35.lt (cE_not k0 (by decide)))
      have nh0_36 := nh0_36.kept (oq _ nh0_36.lt (cE_not k0 (by decide)))
      have nh0_37 := nh0_37.kept (oq _ nh0_37.lt (cE_not k0 (by decide)))
      have y231 : x231.toInt = ((Int.gcd x173.toInt x190.toInt : Nat) : Int) := hp
      have s231 : lr x231 0 9223372036854775807 := ⟨gcd_bd y231, (lr_any x231).2⟩
      refine lv_lload hx hb dX11_adds_234 (lv_at hl 1 rfl) ?_
      refine lv_lload hx hb dX11_adds_236 (lv_at hl 0 rfl) ?_
      refine cp_l (wt_runS (As := [.long x207, .long x224]) (rest := [.long x231]) ⟨hx, hb, hml, hown, hts⟩ (m_X11_gcd l x207 (lr_w (lo' := -9223372036854775807) (hi' := 9223372036854775807) r207 (by decide) (by decide)) x224 (lr_w (lo' := -9223372036854775807) (hi' := 9223372036854775807) r224 (by decide) (by decide))) wm_X11_gcd q1054 ⟨rfl, rfl⟩ ⟨Nat.le_of_ble_eq_true rfl, Nat.le_of_ble_eq_true rfl⟩ pS_pre rfl hl.1 rfl (Nat.le_of_ble_eq_true rfl) dX11_adds_238 ⟨Nat.zero_le _, Nat.zero_le _⟩) hW hS (fun x238 H locs hp hW1 hS oq => ?_)
      have hV := hV.same hW k0 oq
      have hI := mI.fr.same hI hW oq
      have hW := hW1
      have nh0_38 := nh0_38.kept (oq _ nh0_38.lt (cE_not k0 (by decide)))
      have nh0_32 := nh0_32.kept (oq _ nh0_32.lt (cE_not k0 (by decide)))
      have nh0_33 := nh0_33.kept (oq _ nh0_33.lt (cE_not k0 (by decide)))
      have nh0_34 := nh0_34.kept (oq _ nh0_34.lt (cE_not k0 (by decide)))
      have nh0_35 := nh0_35.kept (oq _ nh0_35.lt (cE_not k0 (by decide)))
      have nh0_36 := nh0_36.kept (oq _ nh0_36.lt (cE_not k0 (by decide)))
      have nh0_37 := nh0_37.kept (oq _ nh0_37.lt (cE_not k0 (by decide)))
      have y238 : x238.toInt = ((Int.gcd x207.toInt x224.toInt : Nat) : Int) := hp
      have s238 : lr x238 0 9223372036854775807 := ⟨gcd_bd y238, (lr_any x238).2⟩
      refine cp_l (wt_runS (As := [.long x231, .long x238]) (rest := []) ⟨hx, hb, hml, hown, hts⟩ (m_X11_gcd l x231 (lr_w (lo' := -9223372036854775807) (hi' := 9223372036854775807) s231 (by decide) (by decide)) x238 (lr_w (lo' := -9223372036854775807) (hi' := 9223372036854775807) s238 (by decide) (by decide))) wm_X11_gcd q1054 ⟨rfl, rfl⟩ ⟨Nat.le_of_ble_eq_true rfl, Nat.le_of_ble_eq_true rfl⟩ pS_pre rfl hl.1 rfl (Nat.le_of_ble_eq_true rfl) dX11_adds_241 ⟨Nat.zero_le _, Nat.zero_le _⟩) hW hS (fun x241 H locs hp hW1 hS oq => ?_)
      have hV := hV.same hW k0 oq
      have hI := mI.fr.same hI hW oq
      have hW := hW1
      have nh0_38 := nh0_38.kept (oq _ nh0_38.lt (cE_not k0 (by decide)))
      have nh0_32 := nh0_32.kept (oq _ nh0_32.lt (cE_not k0 (by decide)))
      have nh0_33 := nh0_33.kept (oq _ nh0_33.lt (cE_not k0 (by decide)))
      have nh0_34 := nh0_34.kept (oq _ nh0_34.lt (cE_not k0 (by decide)))
      have nh0_35 := nh0_35.kept (oq _ nh0_35.lt (cE_not k0 (by decide)))
      have nh0_36 := nh0_36.kept (oq _ nh0_36.lt (cE_not k0 (by decide)))
      have nh0_37 := nh0_37.kept (oq _ nh0_37.lt (cE_not k0 (by decide)))
      have y241 : x241.toInt = ((Int.gcd x231.toInt x238.toInt : Nat) : Int) := hp
      have s241 : lr x241 0 9223372036854775807 := ⟨gcd_bd y241, (lr_any x241).2⟩
      have z241 : x241.toInt ≠ 0 := by
        refine gcd_ne y241 ?_
        rcases nz4 hd2 with h | h
        · exact Or.inl (gcd_ne y231 h)
        · exact Or.inr (gcd_ne y238 h)
      refine lv_lstore (lv' := [(17, .long x241), (25, .long x224), (23, .long x207), (21, .long x190), (19, .long x173), (15, .long x136), (13, .long x129), (11, .long x122), (9, .long x32), (7, .long x23), (0, .ref h0), (1, .int p1), (2, .long p2), (4, .long p3), (6, .int p4)]) hx hb dX11_adds_244 hl (by decide) rfl (fun ls hl => ?_)
      refine lv_aload_n hx hb dX11_adds_246 rfl (lv_at hl 10 rfl) ?_
      refine lv_lload hx hb dX11_adds_247 (lv_at hl 4 rfl) ?_
      refine lv_lload hx hb dX11_adds_249 (lv_at hl 0 rfl) ?_
      refine lv_ldiv hx hb dX11_adds_251 (l_ne0 z241) ?_
      refine lv_topl (fun x251 e251 => ?_)
      have t251 := lt_div e251 (l_ne0 z241) r173 (by decide)
      have r251 : lr x251 (-200000000000000) 200000000000000 := lr_div e251 (l_ne0 z241) r173 (by decide) 200000000000000 (by decide) (by decide)
      refine wt_putp hx hb hts cfX11 tyX11 tyX11_ok nmX11 hown hK hW hS (cg11 k0) (ce k0 (by decide)) rfl 34 (by decide) (Or.inl (hts _ q906)) rfl rfl rfl gl_mk dX11_adds_252 (fun H locs hW hS oq o2 np => ?_)
      have nh0_38 := o2 38 _ (by decide) (by decide) nh0_38
      have nh0_32 := o2 32 _ (by decide) (by decide) nh0_32
      have nh0_33 := o2 33 _ (by decide) (by decide) nh0_33
      have nh0_35 := o2 35 _ (by decide) (by decide) nh0_35
      have nh0_36 := o2 36 _ (by decide) (by decide) nh0_36
      have nh0_37 := o2 37 _ (by decide) (by decide) nh0_37
      have nh0_34 : wt_pin N.1 vwCl h0 11 34 (.long x251) H := np
      have hV := hV.put (by decide) o2
      obtain ⟨iL, iP, iR, iB, iM⟩ := hI
      have iL := QL.fr.put iL k0 oq o2 (by decide) (by decide)
      have iP := QP.fr.put iP k0 oq o2 (by decide) (by decide)
      have iR := QR.fr.put iR k0 oq o2 (by decide) (by decide)
      have iB := QB.fr.put iB k0 oq o2 (by decide) (by decide)
      refine lv_aload_n hx hb dX11_adds_255 rfl (lv_at hl 10 rfl) ?_
      refine lv_lload hx hb dX11_adds_256 (lv_at hl 3 rfl) ?_
      refine lv_lload hx hb dX11_adds_258 (lv_at hl 0 rfl) ?_
      refine lv_ldiv hx hb dX11_adds_260 (l_ne0 z241) ?_
      refine lv_topl (fun x260 e260 => ?_)
      have t260 := lt_div e260 (l_ne0 z241) r190 (by decide)
      have r260 : lr x260 (-200000000000000) 200000000000000 := lr_div e260 (l_ne0 z241) r190 (by decide) 200000000000000 (by decide) (by decide)
      refine wt_putp hx hb hts cfX11 tyX11 tyX11_ok nmX11 hown hK hW hS (cg11 k0) (ce k0 (by decide)) rfl 35 (by decide) (Or.inl (hts _ q907)) rfl rfl rfl gl_mk dX11_adds_261 (fun H locs hW hS oq o2 np => ?_)
      have nh0_38 := o2 38 _ (by decide) (by decide) nh0_38
      have nh0_32 := o2 32 _ (by decide) (by decide) nh0_32
      have nh0_33 := o2 33 _ (by decide) (by decide) nh0_33
      have nh0_36 := o2 36 _ (by decide) (by decide) nh0_36
      have nh0_37 := o2 37 _ (by decide) (by decide) nh0_37
      have nh0_34 := o2 34 _ (by decide) (by decide) nh0_34
      have nh0_35 : wt_pin N.1 vwCl h0 11 35 (.long x260) H := np
      have hV := hV.put (by decide) o2
      have iL := QL.fr.put iL k0 oq o2 (by decide) (by decide)
      have iP := QP.fr.put iP k0 oq o2 (by decide) (by decide)
      have iR := QR.fr.put iR k0 oq o2 (by decide) (by decide)
      have iB := QB.fr.put iB k0 oq o2 (by decide) (by decide)
      refine lv_aload_n hx hb dX11_adds_264 rfl (lv_at hl 10 rfl) ?_
      refine lv_lload hx hb dX11_adds_265 (lv_at hl 2 rfl) ?_
      refine lv_lload hx hb dX11_adds_267 (lv_at hl 0 rfl) ?_
      refine lv_ldiv hx hb dX11_adds_269 (l_ne0 z241) ?_
      refine lv_topl (fun x269 e269 => ?_)
      have t269 := lt_div e269 (l_ne0 z241) r207 (by decide)
      have r269 : lr x269 (-200000000000000) 200000000000000 := lr_div e269 (l_ne0 z241) r207 (by decide) 200000000000000 (by decide) (by decide)
      refine wt_putp hx hb hts cfX11 tyX11 tyX11_ok nmX11 hown hK hW hS (cg11 k0) (ce k0 (by decide)) rfl 36 (by decide) (Or.inl (hts _ q908)) rfl rfl rfl gl_mk dX11_adds_270 (fun H locs hW hS oq o2 np => ?_)
      have nh0_38 := o2 38 _ (by decide) (by decide) nh0_38
      have nh0_32 := o2 32 _ (by decide) (by decide) nh0_32
      have nh0_33 := o2 33 _ (by decide) (by decide) nh0_33
      have nh0_37 := o2 37 _ (by decide) (by decide) nh0_37
      have nh0_34 := o2 34 _ (by decide) (by decide) nh0_34
      have nh0_35 := o2 35 _ (by decide) (by decide) nh0_35
      have nh0_36 : wt_pin N.1 vwCl h0 11 36 (.long x269) H := np
      have hV := hV.put (by decide) o2
      have iL := QL.fr.put iL k0 oq o2 (by decide) (by decide)
      have iP := QP.fr.put iP k0 oq o2 (by decide) (by decide)
      have iR := QR.fr.put iR k0 oq o2 (by decide) (by decide)
      have iB := QB.fr.put iB k0 oq o2 (by decide) (by decide)
      refine lv_aload_n hx hb dX11_adds_273 rfl (lv_at hl 10 rfl) ?_
      refine lv_lload hx hb dX11_adds_274 (lv_at hl 1 rfl) ?_
      refine lv_lload hx hb dX11_adds_276 (lv_at hl 0 rfl) ?_
      refine lv_ldiv hx hb dX11_adds_278 (l_ne0 z241) ?_
      refine lv_topl (fun x278 e278 => ?_)
      have t278 := lt_div e278 (l_ne0 z241) r224 (by decide)
      have r278 : lr x278 (-200000000000000) 200000000000000 := lr_div e278 (l_ne0 z241) r224 (by decide) 200000000000000 (by decide) (by decide)
      refine wt_putp hx hb hts cfX11 tyX11 tyX11_ok nmX11 hown hK hW hS (cg11 k0) (ce k0 (by decide)) rfl 37 (by decide) (Or.inl (hts _ q909)) rfl rfl rfl gl_mk dX11_adds_279 (fun H locs hW hS oq o2 np => ?_)
      have nh0_38 := o2 38 _ (by decide) (by decide) nh0_38
      have nh0_32 := o2 32 _ (by decide) (by decide) nh0_32
      have nh0_33 := o2 33 _ (by decide) (by decide) nh0_33
      have nh0_34 := o2 34 _ (by decide) (by decide) nh0_34
      have nh0_35 := o2 35 _ (by decide) (by decide) nh0_35
      have nh0_36 := o2 36 _ (by decide) (by decide) nh0_36
      have nh0_37 : wt_pin N.1 vwCl h0 11 37 (.long x278) H := np
      have hV := hV.put (by decide) o2
      have iL := QL.fr.put iL k0 oq o2 (by decide) (by decide)
      have iP := QP.fr.put iP k0 oq o2 (by decide) (by decide)
      have iR := QR.fr.put iR k0 oq o2 (by decide) (by decide)
      have iB := QB.fr.put iB k0 oq o2 (by decide) (by decide)
      refine lv_aload_n hx hb dX11_adds_282 rfl (lv_at hl 10 rfl) ?_
      refine lv_aload_n hx hb dX11_adds_283 rfl (lv_at hl 10 rfl) ?_
      refine wt_rel hx hb hts cfX11 hown hK nh0_34 rfl (by decide) (Or.inl (hts _ q906)) dX11_adds_284 ?_
      refine lv_aload_n hx hb dX11_adds_287 rfl (lv_at hl 10 rfl) ?_
      refine wt_rel hx hb hts cfX11 hown hK nh0_35 rfl (by decide) (Or.inl (hts _ q907)) dX11_adds_288 ?_
      refine lv_aload_n hx hb dX11_adds_291 rfl (lv_at hl 10 rfl) ?_
      refine wt_rel hx hb hts cfX11 hown hK nh0_36 rfl (by decide) (Or.inl (hts _ q908)) dX11_adds_292 ?_
      refine lv_aload_n hx hb dX11_adds_295 rfl (lv_at hl 10 rfl) ?_
      refine wt_rel hx hb hts cfX11 hown hK nh0_37 rfl (by decide) (Or.inl (hts _ q909)) dX11_adds_296 ?_
      refine cp_i (wt_runS (As := [.long x251, .long x260, .long x269, .long x278]) (rest := [.ref h0]) ⟨hx, hb, hml, hown, hts⟩ (m_X11_isTooFine l x251 x260 x269 x278) wm_X11_isTooFine q1228 ⟨rfl, rfl⟩ ⟨Nat.le_of_ble_eq_true rfl, Nat.le_of_ble_eq_true rfl⟩ pS_pre rfl hl.1 rfl (Nat.le_of_ble_eq_true rfl) dX11_adds_299 ⟨Nat.zero_le _, Nat.zero_le _⟩) hW hS (fun x299 H locs hp hW1 hS oq => ?_)
      have hV := hV.same hW k0 oq
      have iL := QL.fr.same iL hW oq
      have iP := QP.fr.same iP hW oq
      have iR := QR.fr.same iR hW oq
      have iB := QB.fr.same iB hW oq
      have hW := hW1
      have nh0_38 := nh0_38.kept (oq _ nh0_38.lt (cE_not k0 (by decide)))
      have nh0_32 := nh0_32.kept (oq _ nh0_32.lt (cE_not k0 (by decide)))
      have nh0_33 := nh0_33.kept (oq _ nh0_33.lt (cE_not k0 (by decide)))
      have nh0_34 := nh0_34.kept (oq _ nh0_34.lt (cE_not k0 (by decide)))
      have nh0_35 := nh0_35.kept (oq _ nh0_35.lt (cE_not k0 (by decide)))
      have nh0_36 := nh0_36.kept (oq _ nh0_36.lt (cE_not k0 (by decide)))
      have nh0_37 := nh0_37.kept (oq _ nh0_37.lt (cE_not k0 (by decide)))
      obtain ⟨r299, b299⟩ := hp
      refine lv_if_ne (tgt := 309) hx hb dX11_adds_302 (by decide) (fun c302 => ?_) (fun c302 => ?_)
      · have rx299_302 : ir x299 1 1 := rf_ne0 c302 r299
        refine lv_iconst (v := 0) hx hb dX11_adds_309 (by decide) ?_
        refine wt_putp hx hb hts cfX11 tyX11 tyX11_ok nmX11 hown hK hW hS (cg11 k0) (ce k0 (by decide)) rfl 38 (by decide) (Or.inl (hts _ q910)) rfl rfl rfl (gi_mk (ir_w (lo' := 0) (hi' := 1) (ir_c (0) (by decide) : ir (0 : Int32) (0) (0)) (by decide) (by decide))) dX11_adds_310 (fun H locs hW hS oq o2 np => ?_)
        have nh0_32 := o2 32 _ (by decide) (by decide) nh0_32
        have nh0_33 := o2 33 _ (by decide) (by decide) nh0_33
        have nh0_34 := o2 34 _ (by decide) (by decide) nh0_34
        have nh0_35 := o2 35 _ (by decide) (by decide) nh0_35
        have nh0_36 := o2 36 _ (by decide) (by decide) nh0_36
        have nh0_37 := o2 37 _ (by decide) (by decide) nh0_37
        have nh0_38 : wt_pin N.1 vwCl h0 11 38 (.int (0 : Int32)) H := np
        have hV := hV.put (by decide) o2
        have iL := QL.fr.put iL k0 oq o2 (by decide) (by decide)
        have iP := QP.fr.put iP k0 oq o2 (by decide) (by decide)
        have iR := QR.fr.put iR k0 oq o2 (by decide) (by decide)
        have iB := QB.fr.put iB k0 oq o2 (by decide) (by decide)
        have iM : QM N h0 H := ⟨_, _, _, _, _, nh0_34, nh0_35, nh0_36, nh0_37, nh0_38, fun h => absurd rfl h⟩
        have hI : mI N h0 H := ⟨iL, iP, iR, iB, iM⟩
        exact W.vret hx hb hr (fun t ht _ => ⟨⟨(), rfl, trivial, cW_at ht hW, ⟨mI_at ht hI, kp_at ht hV⟩⟩, hS.F ht⟩) hS.2.2 dX11_adds_313
      · have rx299_302 : ir x299 0 0 := rf_eq c302 (ir_c (0) (by decide) : ir (0 : Int32) (0) (0))
        have zx299_302 := b299 c302
        refine lv_iconst (v := 1) hx hb dX11_adds_305 (by decide) ?_
        refine lv_goto (tgt := 310) hx hb dX11_adds_306 (by decide) ?_
        refine wt_putp hx hb hts cfX11 tyX11 tyX11_ok nmX11 hown hK hW hS (cg11 k0) (ce k0 (by decide)) rfl 38 (by decide) (Or.inl (hts _ q910)) rfl rfl rfl (gi_mk (ir_w (lo' := 0) (hi' := 1) (ir_c (1) (by decide) : ir (1 : Int32) (1) (1)) (by decide) (by decide))) dX11_adds_310 (fun H locs hW hS oq o2 np => ?_)
        have nh0_32 := o2 32 _ (by decide) (by decide) nh0_32
        have nh0_33 := o2 33 _ (by decide) (by decide) nh0_33
        have nh0_34 := o2 34 _ (by decide) (by decide) nh0_34
        have nh0_35 := o2 35 _ (by decide) (by decide) nh0_35
        have nh0_36 := o2 36 _ (by decide) (by decide) nh0_36
        have nh0_37 := o2 37 _ (by decide) (by decide) nh0_37
        have nh0_38 : wt_pin N.1 vwCl h0 11 38 (.int (1 : Int32)) H := np
        have hV := hV.put (by decide) o2
        have iL := QL.fr.put iL k0 oq o2 (by decide) (by decide)
        have iP := QP.fr.put iP k0 oq o2 (by decide) (by decide)
        have iR := QR.fr.put iR k0 oq o2 (by decide) (by decide)
        have iB := QB.fr.put iB k0 oq o2 (by decide) (by decide)
        have qa := qdiv t251 (Int.dvd_trans (gcd_dl y241) (gcd_dl y231))
        have qb := qdiv t260 (Int.dvd_trans (gcd_dl y241) (gcd_dr y231))
        have qc := qdiv t269 (Int.dvd_trans (gcd_dr y241) (gcd_dl y238))
        have qd := qdiv t278 (Int.dvd_trans (gcd_dr y241) (gcd_dr y238))
        have iM : QM N h0 H := ⟨_, _, _, _, _, nh0_34, nh0_35, nh0_36, nh0_37, nh0_38, fun _ => ⟨zx299_302.1, zx299_302.2.1, zx299_302.2.2.1, zx299_302.2.2.2, pos_scaled qa qb qc qd hd2⟩⟩
        have hI : mI N h0 H := ⟨iL, iP, iR, iB, iM⟩
        exact W.vret hx hb hr (fun t ht _ => ⟨⟨(), rfl, trivial, cW_at ht hW, ⟨mI_at ht hI, kp_at ht hV⟩⟩, hS.F ht⟩) hS.2.2 dX11_adds_313
    · have rx147_150 : ir x147 1 1 := rf_ne0 c150 r147
      refine lv_aload_n hx hb dX11_adds_153 rfl (lv_at hl 6 rfl) ?_
      refine lv_iconst (v := 0) hx hb dX11_adds_154 (by decide) ?_
      refine wt_putp hx hb hts cfX11 tyX11 tyX11_ok nmX11 hown hK hW hS (cg11 k0) (ce k0 (by decide)) rfl 38 (by decide) (Or.inl (hts _ q910)) rfl rfl rfl (gi_mk (ir_w (lo' := 0) (hi' := 1) (ir_c (0) (by decide) : ir (0 : Int32) (0) (0)) (by decide) (by decide))) dX11_adds_155 (fun H locs hW hS oq o2 np => ?_)
      have nh0_32 := o2 32 _ (by decide) (by decide) nh0_32
      have nh0_33 := o2 33 _ (by decide) (by decide) nh0_33
      have nh0_34 := o2 34 _ (by decide) (by decide) nh0_34
      have nh0_35 := o2 35 _ (by decide) (by decide) nh0_35
      have nh0_36 := o2 36 _ (by decide) (by decide) nh0_36
      have nh0_37 := o2 37 _ (by decide) (by decide) nh0_37
      have nh0_38 : wt_pin N.1 vwCl h0 11 38 (.int (0 : Int32)) H := np
      have hV := hV.put (by decide) o2
      obtain ⟨iL, iP, iR, iB, iM⟩ := hI
      have iL := QL.fr.put iL k0 oq o2 (by decide) (by decide)
      have iP := QP.fr.put iP k0 oq o2 (by decide) (by decide)
      have iR := QR.fr.put iR k0 oq o2 (by decide) (by decide)
      have iB := QB.fr.put iB k0 oq o2 (by decide) (by decide)
      have iM : QM N h0 H := ⟨_, _, _, _, _, nh0_34, nh0_35, nh0_36, nh0_37, nh0_38, fun h => absurd rfl h⟩
      have hI : mI N h0 H := ⟨iL, iP, iR, iB, iM⟩
      exact W.vret hx hb hr (fun t ht _ => ⟨⟨(), rfl, trivial, cW_at ht hW, ⟨mI_at ht hI, kp_at ht hV⟩⟩, hS.F ht⟩) hS.2.2 dX11_adds_158
  · have rx1_4 : ir x1 0 0 := rf_eq c4 (ir_c (0) (by decide) : ir (0 : Int32) (0) (0))
    exact W.vret hx hb hr (fun t ht _ => ⟨⟨(), rfl, trivial, cW_at ht hW, ⟨mI_at ht hI, kp_at ht hV⟩⟩, hS.F ht⟩) hS.2.2 dX11_adds_7
set_option maxHeartbeats 4000000 in
set_option maxRecDepth 100000 in
theorem m_X11_lights (l : Launch) (N : c_N) (h0 : Nat) (k0 : N.2.2.1 h0 = some 11) (hO : mOK N) (V : Nat → Value) (g38 : Int32) (hf : ¬ g38 = 0) : cMv l yX11_lights cX11_lights 25 { frames := 1, cells := 0, slots := 0, locals := 29 } [.ref h0] N [11] (fun H => mI N h0 H ∧ kp N h0 [39, 40, 41, 42] V H ∧ wt_pin N.1 vwCl h0 11 38 (.int g38) H) (fun H => mI N h0 H ∧ kp N h0 [39, 40, 41, 42] V H ∧ ∃ bu bb : Int64, pL N h0 39 bu H ∧ pL N h0 40 bb H ∧ 0 ≤ bu.toInt ∧ 1 ≤ bb.toInt) := by
  refine Met.ofW (cc := cX11_lights) (maxL := 25) (ret := none) (by decide) rfl ?_
  intro p e s m args below meth c s₁ B hml hv
  obtain ⟨rfl, ⟨hK, hW, hT, hnn⟩, hB⟩ := hv
  obtain ⟨hI, hV, hB⟩ := hB
  have nh0_38 := hB
  have rg38 : ir g38 0 1 := gi_r (cpin_P hW (cg11 k0) rfl (by decide) nh0_38)
  have hx := B.exec
  have hb := B.bytes
  have hr := B.returns
  have hts : ∀ w ∈ lw_g, w.before _ s = true := fun w h => atoms_spec (ws := wc_ws yX11_lights cX11_lights 25 none) B.pre w (List.mem_cons_of_mem _ h)
  have hown : s.vm.findClass RX11 = some m.cls := findClass_of_methodNamed B.named
  have hlocks := B.notSynchronized
  have hS : va_S (cE N [11]) s.heap s.heap [] := va_S.rf
  have hl := lv_entry ([.ref h0]) (n := 25) (Nat.le_of_ble_eq_true rfl)
  rw [lg_entry_eq]
  generalize (lg_sl ([.ref h0]) ++ List.replicate (25 - (lg_sl ([.ref h0])).length) Slot.unset).toArray = ls at hl ⊢
  have hl : lv_has ls 25 [(0, .ref h0)] := hl
  refine wq_all ?_
  intro WW w1 w2
  obtain ⟨a0, b0, c0, d0, f0, nh0_34, nh0_35, nh0_36, nh0_37, q38, hdet⟩ := hI.2.2.2.2
  have qf : Value.int f0 = .int g38 := pin_inj (by decide) q38 nh0_38
  have hdet : detOK a0 b0 c0 d0 := hdet (by intro h; cases qf; exact hf h)
  refine lv_aload_n hx hb dX11_lights_0 rfl (lv_at hl 0 rfl) ?_
  refine wt_get hx hb hts cfX11 hown hK hW (cg11 k0) rfl 0 (by decide) q872 dX11_lights_1 (fun v hv => ?_)
  obtain ⟨x1, rfl, k1⟩ : gr N 40 v := hv
  refine lv_aload_n hx hb dX11_lights_4 rfl (lv_at hl 0 rfl) ?_
  refine wt_getp hx hb hts cfX11 hown hK hW (cg11 k0) rfl 2 (by decide) (Or.inl (hts _ q874)) dX11_lights_5 (fun v hv nh0_2 => ?_)
  obtain ⟨x5, rfl, r5⟩ : gi 0 5 v := hv
  refine wt_iald hx hb hK hW 0 (cg40 k1) rfl (ir_in r5 (by decide) (by decide)) dX11_lights_8 (fun v hv => ?_)
  have hv : v = .int _ := hv
  subst hv
  refine lv_topi (fun x8 e8 => ?_)
  have r8 : ir x8 1 9 := mOK_r hO (Or.inl k1) (ir_in r5 (by decide) (by decide)) e8
  refine lv_i2l hx hb dX11_lights_9 rfl ?_
  refine lv_topl (fun x9 e9 => ?_)
  have r9 : lr x9 1 9 := by rw [e9]; exact i2l_r r8
  refine lv_lstore_n (lv' := [(1, .long x9), (0, .ref h0)]) hx hb dX11_lights_10 rfl hl (by decide) rfl (fun ls hl => ?_)
  refine lv_aload_n hx hb dX11_lights_11 rfl (lv_at hl 1 rfl) ?_
  refine wt_get hx hb hts cfX11 hown hK hW (cg11 k0) rfl 1 (by decide) q873 dX11_lights_12 (fun v hv => ?_)
  obtain ⟨x12, rfl, k12⟩ : gr N 41 v := hv
  refine lv_aload_n hx hb dX11_lights_15 rfl (lv_at hl 1 rfl) ?_
  refine wt_rel hx hb hts cfX11 hown hK nh0_2 rfl (by decide) (Or.inl (hts _ q874)) dX11_lights_16 ?_
  refine wt_iald hx hb hK hW 0 (cg41 k12) rfl (ir_in r5 (by decide) (by decide)) dX11_lights_19 (fun v hv => ?_)
  have hv : v = .int _ := hv
  subst hv
  refine lv_topi (fun x19 e19 => ?_)
  have r19 : ir x19 1 9 := mOK_r hO (Or.inr k12) (ir_in r5 (by decide) (by decide)) e19
  refine lv_i2l hx hb dX11_lights_20 rfl ?_
  refine lv_topl (fun x20 e20 => ?_)
  have r20 : lr x20 1 9 := by rw [e20]; exact i2l_r r19
  refine lv_lstore_n (lv' := [(3, .long x20), (1, .long x9), (0, .ref h0)]) hx hb dX11_lights_21 rfl hl (by decide) rfl (fun ls hl => ?_)
  refine lv_aload_n hx hb dX11_lights_22 rfl (lv_at hl 2 rfl) ?_
  refine wt_get hx hb hts cfX11 hown hK hW (cg11 k0) rfl 0 (by decide) q872 dX11_lights_23 (fun v hv => ?_)
  obtain ⟨x23, rfl, k23⟩ : gr N 40 v := hv
  refine lv_aload_n hx hb dX11_lights_26 rfl (lv_at hl 2 rfl) ?_
  refine wt_getp hx hb hts cfX11 hown hK hW (cg11 k0) rfl 3 (by decide) (Or.inl (hts _ q875)) dX11_lights_27 (fun v hv nh0_3 => ?_)
  obtain ⟨x27, rfl, r27⟩ : gi 0 5 v := hv
  refine wt_iald hx hb hK hW 0 (cg40 k23) rfl (ir_in r27 (by decide) (by decide)) dX11_lights_30 (fun v hv => ?_)
  have hv : v = .int _ := hv
  subst hv
  refine lv_topi (fun x30 e30 => ?_)
  have r30 : ir x30 1 9 := mOK_r hO (Or.inl k23) (ir_in r27 (by decide) (by decide)) e30
  refine lv_i2l hx hb dX11_lights_31 rfl ?_
  refine lv_topl (fun x31 e31 => ?_)
  have r31 : lr x31 1 9 := by rw [e31]; exact i2l_r r30
  refine lv_lstore (lv' := [(5, .long x31), (3, .long x20), (1, .long x9), (0, .ref h0)]) hx hb dX11_lights_32 hl (by decide) rfl (fun ls hl => ?_)
  refine lv_aload_n hx hb dX11_lights_34 rfl (lv_at hl 3 rfl) ?_
  refine wt_get hx hb hts cfX11 hown hK hW (cg11 k0) rfl 1 (by decide) q873 dX11_lights_35 (fun v hv => ?_)
  obtain ⟨x35, rfl, k35⟩ : gr N 41 v := hv
  refine lv_aload_n hx hb dX11_lights_38 rfl (lv_at hl 3 rfl) ?_
  refine wt_rel hx hb hts cfX11 hown hK nh0_3 rfl (by decide) (Or.inl (hts _ q875)) dX11_lights_39 ?_
  refine wt_iald hx hb hK hW 0 (cg41 k35) rfl (ir_in r27 (by decide) (by decide)) dX11_lights_42 (fun v hv => ?_)
  have hv : v = .int _ := hv
  subst hv
  refine lv_topi (fun x42 e42 => ?_)
  have r42 : ir x42 1 9 := mOK_r hO (Or.inr k35) (ir_in r27 (by decide) (by decide)) e42
  refine lv_i2l hx hb dX11_lights_43 rfl ?_
  refine lv_topl (fun x43 e43 => ?_)
  have r43 : lr x43 1 9 := by rw [e43]; exact i2l_r r42
  refine lv_lstore (lv' := [(7, .long x43), (5, .long x31), (3, .long x20), (1, .long x9), (0, .ref h0)]) hx hb dX11_lights_44 hl (by decide) rfl (fun ls hl => ?_)
  refine lv_lload_n hx hb dX11_lights_46 rfl (lv_at hl 3 rfl) ?_
  refine lv_lload hx hb dX11_lights_47 (lv_at hl 0 rfl) ?_
  refine lv_lmul hx hb dX11_lights_49 ?_
  refine lv_topl (fun x49 e49 => ?_)
  have u49 := lt_mulp e49 r9 r43 (by decide) (by decide) (by decide)
  have t49 := u49.1
  have r49 : lr x49 1 81 := lr_w u49.2 (by decide) (by decide)
  refine lv_aload_n hx hb dX11_lights_50 rfl (lv_at hl 4 rfl) ?_
  refine wt_rel hx hb hts cfX11 hown hK nh0_34 rfl (by decide) (Or.inl (hts _ q906)) dX11_lights_51 ?_
  refine lv_lmul hx hb dX11_lights_54 ?_
  refine lv_topl (fun x54 e54 => ?_)
  have u54 := lt_mul e54 r49 hdet.1 81 10000000 (by decide) (by decide) (by decide) (by decide) (by decide)
  have t54 := u54.1
  have r54 : lr x54 (-810000000) 810000000 := lr_w u54.2 (by decide) (by decide)
  refine lv_lload_n hx hb dX11_lights_55 rfl (lv_at hl 2 rfl) ?_
  refine lv_lload hx hb dX11_lights_56 (lv_at hl 1 rfl) ?_
  refine lv_lmul hx hb dX11_lights_58 ?_
  refine lv_topl (fun x58 e58 => ?_)
  have u58 := lt_mulp e58 r20 r31 (by decide) (by decide) (by decide)
  have t58 := u58.1
  have r58 : lr x58 1 81 := lr_w u58.2 (by decide) (by decide)
  refine lv_aload_n hx hb dX11_lights_59 rfl (lv_at hl 4 rfl) ?_
  refine wt_rel hx hb hts cfX11 hown hK nh0_37 rfl (by decide) (Or.inl (hts _ q909)) dX11_lights_60 ?_
  refine lv_lmul hx hb dX11_lights_63 ?_
  refine lv_topl (fun x63 e63 => ?_)
  have u63 := lt_mul e63 r58 hdet.2.2.2.1 81 10000000 (by decide) (by decide) (by decide) (by decide) (by decide)
  have t63 := u63.1
  have r63 : lr x63 (-810000000) 810000000 := lr_w u63.2 (by decide) (by decide)
  refine lv_lsub hx hb dX11_lights_64 ?_
  refine lv_topl (fun x64 e64 => ?_)
  have t64 := lt_sub e64 r54 r63 (by decide) (by decide)
  have r64 : lr x64 (-1620000000) 1620000000 := lr_sub e64 r54 r63 (by decide) (by decide) (by decide) (by decide)
  refine lv_lstore (lv' := [(9, .long x64), (7, .long x43), (5, .long x31), (3, .long x20), (1, .long x9), (0, .ref h0)]) hx hb dX11_lights_65 hl (by decide) rfl (fun ls hl => ?_)
  refine lv_lload_n hx hb dX11_lights_67 rfl (lv_at hl 4 rfl) ?_
  refine lv_lload hx hb dX11_lights_68 (lv_at hl 2 rfl) ?_
  refine lv_lmul hx hb dX11_lights_70 ?_
  refine lv_topl (fun x70 e70 => ?_)
  have u70 := lt_mulp e70 r9 r31 (by decide) (by decide) (by decide)
  have t70 := u70.1
  have r70 : lr x70 1 81 := lr_w u70.2 (by decide) (by decide)
  refine lv_aload_n hx hb dX11_lights_71 rfl (lv_at hl 5 rfl) ?_
  refine wt_rel hx hb hts cfX11 hown hK nh0_35 rfl (by decide) (Or.inl (hts _ q907)) dX11_lights_72 ?_
  refine lv_lmul hx hb dX11_lights_75 ?_
  refine lv_topl (fun x75 e75 => ?_)
  have u75 := lt_mul e75 r70 hdet.2.1 81 10000000 (by decide) (by decide) (by decide) (by decide) (by decide)
  have t75 := u75.1
  have r75 : lr x75 (-810000000) 810000000 := lr_w u75.2 (by decide) (by decide)
  refine lv_lload_n hx hb dX11_lights_76 rfl (lv_at hl 3 rfl) ?_
  refine lv_lload hx hb dX11_lights_77 (lv_at hl 1 rfl) ?_
  refine lv_lmul hx hb dX11_lights_79 ?_
  refine lv_topl (fun x79 e79 => ?_)
  have u79 := lt_mulp e79 r20 r43 (by decide) (by decide) (by decide)
  have t79 := u79.1
  have r79 : lr x79 1 81 := lr_w u79.2 (by decide) (by decide)
  refine lv_aload_n hx hb dX11_lights_80 rfl (lv_at hl 5 rfl) ?_
  refine wt_rel hx hb hts cfX11 hown hK nh0_36 rfl (by decide) (Or.inl (hts _ q908)) dX11_lights_81 ?_
  refine lv_lmul hx hb dX11_lights_84 ?_
  refine lv_topl (fun x84 e84 => ?_)
  have u84 := lt_mul e84 r79 hdet.2.2.1 81 10000000 (by decide) (by decide) (by decide) (by decide) (by decide)
  have t84 := u84.1
  have r84 : lr x84 (-810000000) 810000000 := lr_w u84.2 (by decide) (by decide)
  refine lv_lsub hx hb dX11_lights_85 ?_
  refine lv_topl (fun x85 e85 => ?_)
  have t85 := lt_sub e85 r75 r84 (by decide) (by decide)
  have r85 : lr x85 (-1620000000) 1620000000 := lr_sub e85 r75 r84 (by decide) (by decide) (by decide) (by decide)
  refine lv_lstore (lv' := [(11, .long x85), (9, .long x64), (7, .long x43), (5, .long x31), (3, .long x20), (1, .long x9), (0, .ref h0)]) hx hb dX11_lights_86 hl (by decide) rfl (fun ls hl => ?_)
  refine lv_lload_n hx hb dX11_lights_88 rfl (lv_at hl 5 rfl) ?_
  refine lv_lload hx hb dX11_lights_89 (lv_at hl 2 rfl) ?_
  refine lv_lmul hx hb dX11_lights_91 ?_
  refine lv_topl (fun x91 e91 => ?_)
  have u91 := lt_mulp e91 r9 r43 (by decide) (by decide) (by decide)
  have t91 := u91.1
  have r91 : lr x91 1 81 := lr_w u91.2 (by decide) (by decide)
  refine lv_aload_n hx hb dX11_lights_92 rfl (lv_at hl 6 rfl) ?_
  refine wt_rel hx hb hts cfX11 hown hK nh0_34 rfl (by decide) (Or.inl (hts _ q906)) dX11_lights_93 ?_
  refine lv_lmul hx hb dX11_lights_96 ?_
  refine lv_topl (fun x96 e96 => ?_)
  have u96 := lt_mul e96 r91 hdet.1 81 10000000 (by decide) (by decide) (by decide) (by decide) (by decide)
  have t96 := u96.1
  have r96 : lr x96 (-810000000) 810000000 := lr_w u96.2 (by decide) (by decide)
  refine lv_lload_n hx hb dX11_lights_97 rfl (lv_at hl 4 rfl) ?_
  refine lv_lload hx hb dX11_lights_98 (lv_at hl 3 rfl) ?_
  refine lv_lmul hx hb dX11_lights_100 ?_
  refine lv_topl (fun x100 e100 => ?_)
  have u100 := lt_mulp e100 r20 r31 (by decide) (by decide) (by decide)
  have t100 := u100.1
  have r100 : lr x100 1 81 := lr_w u100.2 (by decide) (by decide)
  refine lv_aload_n hx hb dX11_lights_101 rfl (lv_at hl 6 rfl) ?_
  refine wt_rel hx hb hts cfX11 hown hK nh0_37 rfl (by decide) (Or.inl (hts _ q909)) dX11_lights_102 ?_
  refine lv_lmul hx hb dX11_lights_105 ?_
  refine lv_topl (fun x105 e105 => ?_)
  have u105 := lt_mul e105 r100 hdet.2.2.2.1 81 10000000 (by decide) (by decide) (by decide) (by decide) (by decide)
  have t105 := u105.1
  have r105 : lr x105 (-810000000) 810000000 := lr_w u105.2 (by decide) (by decide)
  refine lv_ladd hx hb dX11_lights_106 ?_
  refine lv_topl (fun x106 e106 => ?_)
  have t106 := lt_add e106 r96 r105 (by decide) (by decide)
  have r106 : lr x106 (-1620000000) 1620000000 := lr_add e106 r96 r105 (by decide) (by decide) (by decide) (by decide)
  refine lv_lstore (lv' := [(13, .long x106), (11, .long x85), (9, .long x64), (7, .long x43), (5, .long x31), (3, .long x20), (1, .long x9), (0, .ref h0)]) hx hb dX11_lights_107 hl (by decide) rfl (fun ls hl => ?_)
  refine lv_lload_n hx hb dX11_lights_109 rfl (lv_at hl 6 rfl) ?_
  refine lv_lload hx hb dX11_lights_110 (lv_at hl 4 rfl) ?_
  refine lv_lmul hx hb dX11_lights_112 ?_
  refine lv_topl (fun x112 e112 => ?_)
  have u112 := lt_mulp e112 r9 r31 (by decide) (by decide) (by decide)
  have t112 := u112.1
  have r112 : lr x112 1 81 := lr_w u112.2 (by decide) (by decide)
  refine lv_aload_n hx hb dX11_lights_113 rfl (lv_at hl 7 rfl) ?_
  refine wt_rel hx hb hts cfX11 hown hK nh0_35 rfl (by decide) (Or.inl (hts _ q907)) dX11_lights_114 ?_
  refine lv_lmul hx hb dX11_lights_117 ?_
  refine lv_topl (fun x117 e117 => ?_)
  have u117 := lt_mul e117 r112 hdet.2.1 81 10000000 (by decide) (by decide) (by decide) (by decide) (by decide)
  have t117 := u117.1
  have r117 : lr x117 (-810000000) 810000000 := lr_w u117.2 (by decide) (by decide)
  refine lv_lload_n hx hb dX11_lights_118 rfl (lv_at hl 5 rfl) ?_
  refine lv_lload hx hb dX11_lights_119 (lv_at hl 3 rfl) ?_
  refine lv_lmul hx hb dX11_lights_121 ?_
  refine lv_topl (fun x121 e121 => ?_)
  have u121 := lt_mulp e121 r20 r43 (by decide) (by decide) (by decide)
  have t121 := u121.1
  have r121 : lr x121 1 81 := lr_w u121.2 (by decide) (by decide)
  refine lv_aload_n hx hb dX11_lights_122 rfl (lv_at hl 7 rfl) ?_
  refine wt_rel hx hb hts cfX11 hown hK nh0_36 rfl (by decide) (Or.inl (hts _ q908)) dX11_lights_123 ?_
  refine lv_lmul hx hb dX11_lights_126 ?_
  refine lv_topl (fun x126 e126 => ?_)
  have u126 := lt_mul e126 r121 hdet.2.2.1 81 10000000 (by decide) (by decide) (by decide) (by decide) (by decide)
  have t126 := u126.1
  have r126 : lr x126 (-810000000) 810000000 := lr_w u126.2 (by decide) (by decide)
  refine lv_ladd hx hb dX11_lights_127 ?_
  refine lv_topl (fun x127 e127 => ?_)
  have t127 := lt_add e127 r117 r126 (by decide) (by decide)
  have r127 : lr x127 (-1620000000) 1620000000 := lr_add e127 r117 r126 (by decide) (by decide) (by decide) (by decide)
  refine lv_lstore (lv' := [(15, .long x127), (13, .long x106), (11, .long x85), (9, .long x64), (7, .long x43), (5, .long x31), (3, .long x20), (1, .long x9), (0, .ref h0)]) hx hb dX11_lights_128 hl (by decide) rfl (fun ls hl => ?_)
  refine lv_lload hx hb dX11_lights_130 (lv_at hl 3 rfl) ?_
  refine lv_lload hx hb dX11_lights_132 (lv_at hl 3 rfl) ?_
  refine lv_lmul hx hb dX11_lights_134 ?_
  refine lv_topl (fun x134 e134 => ?_)
  have u134 := lt_mul e134 r64 r64 1620000000 1620000000 (by decide) (by decide) (by decide) (by decide) (by decide)
  have t134 := u134.1
  have r134 : lr x134 (-2624400000000000000) 2624400000000000000 := lr_w u134.2 (by decide) (by decide)
  refine lv_lload hx hb dX11_lights_135 (lv_at hl 2 rfl) ?_
  refine lv_lload hx hb dX11_lights_137 (lv_at hl 2 rfl) ?_
  refine lv_lmul hx hb dX11_lights_139 ?_
  refine lv_topl (fun x139 e139 => ?_)
  have u139 := lt_mul e139 r85 r85 1620000000 1620000000 (by decide) (by decide) (by decide) (by decide) (by decide)
  have t139 := u139.1
  have r139 : lr x139 (-2624400000000000000) 2624400000000000000 := lr_w u139.2 (by decide) (by decide)
  refine lv_ladd hx hb dX11_lights_140 ?_
  refine lv_topl (fun x140 e140 => ?_)
  have t140 := lt_add e140 r134 r139 (by decide) (by decide)
  have r140 : lr x140 (-5248800000000000000) 5248800000000000000 := lr_add e140 r134 r139 (by decide) (by decide) (by decide) (by decide)
  refine lv_lstore (lv' := [(17, .long x140), (15, .long x127), (13, .long x106), (11, .long x85), (9, .long x64), (7, .long x43), (5, .long x31), (3, .long x20), (1, .long x9), (0, .ref h0)]) hx hb dX11_lights_141 hl (by decide) rfl (fun ls hl => ?_)
  refine lv_lload hx hb dX11_lights_143 (lv_at hl 2 rfl) ?_
  refine lv_lload hx hb dX11_lights_145 (lv_at hl 2 rfl) ?_
  refine lv_lmul hx hb dX11_lights_147 ?_
  refine lv_topl (fun x147 e147 => ?_)
  have u147 := lt_mul e147 r106 r106 1620000000 1620000000 (by decide) (by decide) (by decide) (by decide) (by decide)
  have t147 := u147.1
  have r147 : lr x147 (-2624400000000000000) 2624400000000000000 := lr_w u147.2 (by decide) (by decide)
  refine lv_lload hx hb dX11_lights_148 (lv_at hl 1 rfl) ?_
  refine lv_lload hx hb dX11_lights_150 (lv_at hl 1 rfl) ?_
  refine lv_lmul hx hb dX11_lights_152 ?_
  refine lv_topl (fun x152 e152 => ?_)
  have u152 := lt_mul e152 r127 r127 1620000000 1620000000 (by decide) (by decide) (by decide) (by decide) (by decide)
  have t152 := u152.1
  have r152 : lr x152 (-2624400000000000000) 2624400000000000000 := lr_w u152.2 (by decide) (by decide)
  refine lv_ladd hx hb dX11_lights_153 ?_
  refine lv_topl (fun x153 e153 => ?_)
  have t153 := lt_add e153 r147 r152 (by decide) (by decide)
  have r153 : lr x153 (-5248800000000000000) 5248800000000000000 := lr_add e153 r147 r152 (by decide) (by decide) (by decide) (by decide)
  refine lv_lstore (lv' := [(19, .long x153), (17, .long x140), (15, .long x127), (13, .long x106), (11, .long x85), (9, .long x64), (7, .long x43), (5, .long x31), (3, .long x20), (1, .long x9), (0, .ref h0)]) hx hb dX11_lights_154 hl (by decide) rfl (fun ls hl => ?_)
  refine lv_ldc2 hx hb hown (hts _ q1208) dX11_lights_156 ?_
  refine lv_lload_n hx hb dX11_lights_159 rfl (lv_at hl 9 rfl) ?_
  refine lv_lmul hx hb dX11_lights_160 ?_
  refine lv_topl (fun x160 e160 => ?_)
  have u160 := lt_mulp e160 (lr_c (4) (by decide) : lr (4 : Int64) (4) (4)) r9 (by decide) (by decide) (by decide)
  have t160 := u160.1
  have r160 : lr x160 4 36 := lr_w u160.2 (by decide) (by decide)
  refine lv_lload_n hx hb dX11_lights_161 rfl (lv_at hl 8 rfl) ?_
  refine lv_lmul hx hb dX11_lights_162 ?_
  refine lv_topl (fun x162 e162 => ?_)
  have u162 := lt_mulp e162 r160 r20 (by decide) (by decide) (by decide)
  have t162 := u162.1
  have r162 : lr x162 4 324 := lr_w u162.2 (by decide) (by decide)
  refine lv_lload hx hb dX11_lights_163 (lv_at hl 7 rfl) ?_
  refine lv_lmul hx hb dX11_lights_165 ?_
  refine lv_topl (fun x165 e165 => ?_)
  have u165 := lt_mulp e165 r162 r31 (by decide) (by decide) (by decide)
  have t165 := u165.1
  have r165 : lr x165 4 2916 := lr_w u165.2 (by decide) (by decide)
  refine lv_lload hx hb dX11_lights_166 (lv_at hl 6 rfl) ?_
  refine lv_lmul hx hb dX11_lights_168 ?_
  refine lv_topl (fun x168 e168 => ?_)
  have u168 := lt_mulp e168 r165 r43 (by decide) (by decide) (by decide)
  have t168 := u168.1
  have r168 : lr x168 4 26244 := lr_w u168.2 (by decide) (by decide)
  refine lv_aload_n hx hb dX11_lights_169 rfl (lv_at hl 10 rfl) ?_
  refine wt_rel hx hb hts cfX11 hown hK nh0_34 rfl (by decide) (Or.inl (hts _ q906)) dX11_lights_170 ?_
  refine lv_aload_n hx hb dX11_lights_173 rfl (lv_at hl 10 rfl) ?_
  refine wt_rel hx hb hts cfX11 hown hK nh0_37 rfl (by decide) (Or.inl (hts _ q909)) dX11_lights_174 ?_
  refine lv_lmul hx hb dX11_lights_177 ?_
  refine lv_topl (fun x177 e177 => ?_)
  have u177 := lt_mul e177 hdet.1 hdet.2.2.2.1 10000000 10000000 (by decide) (by decide) (by decide) (by decide) (by decide)
  have t177 := u177.1
  have r177 : lr x177 (-100000000000000) 100000000000000 := lr_w u177.2 (by decide) (by decide)
  refine lv_aload_n hx hb dX11_lights_178 rfl (lv_at hl 10 rfl) ?_
  refine wt_rel hx hb hts cfX11 hown hK nh0_35 rfl (by decide) (Or.inl (hts _ q907)) dX11_lights_179 ?_
  refine lv_aload_n hx hb dX11_lights_182 rfl (lv_at hl 10 rfl) ?_
  refine wt_rel hx hb hts cfX11 hown hK nh0_36 rfl (by decide) (Or.inl (hts _ q908)) dX11_lights_183 ?_
  refine lv_lmul hx hb dX11_lights_186 ?_
  refine lv_topl (fun x186 e186 => ?_)
  have u186 := lt_mul e186 hdet.2.1 hdet.2.2.1 10000000 10000000 (by decide) (by decide) (by decide) (by decide) (by decide)
  have t186 := u186.1
  have r186 : lr x186 (-100000000000000) 100000000000000 := lr_w u186.2 (by decide) (by decide)
  refine lv_ladd hx hb dX11_lights_187 ?_
  refine lv_topl (fun x187 e187 => ?_)
  have t187 := lt_add e187 r177 r186 (by decide) (by decide)
  have r187 : lr x187 (-200000000000000) 200000000000000 := lr_add e187 r177 r186 (by decide) (by decide) (by decide) (by decide)
  refine lv_lmul hx hb dX11_lights_188 ?_
  refine lv_topl (fun x188 e188 => ?_)
  have u188 := lt_mul e188 r168 r187 26244 200000000000000 (by decide) (by decide) (by decide) (by decide) (by decide)
  have t188 := u188.1
  have r188 : lr x188 (-5248800000000000000) 5248800000000000000 := lr_w u188.2 (by decide) (by decide)
  refine lv_lstore (lv' := [(21, .long x188), (19, .long x153), (17, .long x140), (15, .long x127), (13, .long x106), (11, .long x85), (9, .long x64), (7, .long x43), (5, .long x31), (3, .long x20), (1, .long x9), (0, .ref h0)]) hx hb dX11_lights_189 hl (by decide) rfl (fun ls hl => ?_)
  refine lv_lload hx hb dX11_lights_191 (lv_at hl 2 rfl) ?_
  refine lv_lload hx hb dX11_lights_193 (lv_at hl 1 rfl) ?_
  refine cp_l (wt_runS (As := [.long x140, .long x153]) (rest := []) ⟨hx, hb, hml, hown, hts⟩ (m_X11_gcd l x140 (lr_w (lo' := -9223372036854775807) (hi' := 9223372036854775807) r140 (by decide) (by decide)) x153 (lr_w (lo' := -9223372036854775807) (hi' := 9223372036854775807) r153 (by decide) (by decide))) wm_X11_gcd q1054 ⟨rfl, rfl⟩ ⟨Nat.le_of_ble_eq_true rfl, Nat.le_of_ble_eq_true rfl⟩ pS_pre rfl hl.1 rfl (Nat.le_of_ble_eq_true rfl) dX11_lights_195 ⟨Nat.zero_le _, Nat.zero_le _⟩) hW hS (fun x195 H locs hp hW1 hS oq => ?_)
  have hV := hV.same hW k0 oq
  have hI := mI.fr.same hI hW oq
  have hW := hW1
  have nh0_38 := nh0_38.kept (oq _ nh0_38.lt (cE_not k0 (by decide)))
  have nh0_34 := nh0_34.kept (oq _ nh0_34.lt (cE_not k0 (by decide)))
  have nh0_35 := nh0_35.kept (oq _ nh0_35.lt (cE_not k0 (by decide)))
  have nh0_36 := nh0_36.kept (oq _ nh0_36.lt (cE_not k0 (by decide)))
  have nh0_37 := nh0_37.kept (oq _ nh0_37.lt (cE_not k0 (by decide)))
  have nh0_2 := nh0_2.kept (oq _ nh0_2.lt (cE_not k0 (by decide)))
  have nh0_3 := nh0_3.kept (oq _ nh0_3.lt (cE_not k0 (by decide)))
  have y195 : x195.toInt = ((Int.gcd x140.toInt x153.toInt : Nat) : Int) := hp
  have s195 : lr x195 0 9223372036854775807 := ⟨gcd_bd y195, (lr_any x195).2⟩
  have eall : x153.toInt = (x9.toInt * x43.toInt * a0.toInt + x20.toInt * x31.toInt * d0.toInt) * (x9.toInt * x43.toInt * a0.toInt + x20.toInt * x31.toInt * d0.toInt) + (x9.toInt * x31.toInt * b0.toInt + x20.toInt * x43.toInt * c0.toInt) * (x9.toInt * x31.toInt * b0.toInt + x20.toInt * x43.toInt * c0.toInt) := by rw [t153, t147, t152, t106, t127, t96, t91, t105, t100, t117, t112, t126, t121]
  have hall : 0 < x153.toInt := by rw [eall]; exact all_pos r9.1 r20.1 r31.1 r43.1 hdet.2.2.2.2
  have htop : 0 ≤ x140.toInt := by rw [t140, t134, t139]; have h1 := sq_nonneg x64.toInt; have h2 := sq_nonneg x85.toInt; omega
  have z195 : x195.toInt ≠ 0 := gcd_ne y195 (Or.inr (by omega))
  have hg : 0 < x195.toInt := by have := s195.1; omega
  refine lv_lstore (lv' := [(23, .long x195), (21, .long x188), (19, .long x153), (17, .long x140), (15, .long x127), (13, .long x106), (11, .long x85), (9, .long x64), (7, .long x43), (5, .long x31), (3, .long x20), (1, .long x9), (0, .ref h0)]) hx hb dX11_lights_198 hl (by decide) rfl (fun ls hl => ?_)
  refine lv_aload_n hx hb dX11_lights_200 rfl (lv_at hl 12 rfl) ?_
  refine lv_lload hx hb dX11_lights_201 (lv_at hl 3 rfl) ?_
  refine lv_lload hx hb dX11_lights_203 (lv_at hl 0 rfl) ?_
  refine lv_ldiv hx hb dX11_lights_205 (l_ne0 z195) ?_
  refine lv_topl (fun x205 e205 => ?_)
  have t205 := lt_div e205 (l_ne0 z195) r140 (by decide)
  have r205 : lr x205 (-5248800000000000000) 5248800000000000000 := lr_div e205 (l_ne0 z195) r140 (by decide) 5248800000000000000 (by decide) (by decide)
  refine wt_putp hx hb hts cfX11 tyX11 tyX11_ok nmX11 hown hK hW hS (cg11 k0) (ce k0 (by decide)) rfl 39 (by decide) (Or.inl (hts _ q911)) rfl rfl rfl gl_mk dX11_lights_206 (fun H locs hW hS oq o2 np => ?_)
  have nh0_38 := o2 38 _ (by decide) (by decide) nh0_38
  have nh0_34 := o2 34 _ (by decide) (by decide) nh0_34
  have nh0_35 := o2 35 _ (by decide) (by decide) nh0_35
  have nh0_36 := o2 36 _ (by decide) (by decide) nh0_36
  have nh0_37 := o2 37 _ (by decide) (by decide) nh0_37
  have nh0_2 := o2 2 _ (by decide) (by decide) nh0_2
  have nh0_3 := o2 3 _ (by decide) (by decide) nh0_3
  have nh0_39 : wt_pin N.1 vwCl h0 11 39 (.long x205) H := np
  have hV := hV.put (by decide) o2
  have hI := mI.fr.put hI k0 oq o2 (by decide) (by decide)
  refine lv_aload_n hx hb dX11_lights_209 rfl (lv_at hl 12 rfl) ?_
  refine lv_lload hx hb dX11_lights_210 (lv_at hl 2 rfl) ?_
  refine lv_lload hx hb dX11_lights_212 (lv_at hl 0 rfl) ?_
  refine lv_ldiv hx hb dX11_lights_214 (l_ne0 z195) ?_
  refine lv_topl (fun x214 e214 => ?_)
  have t214 := lt_div e214 (l_ne0 z195) r153 (by decide)
  have r214 : lr x214 (-5248800000000000000) 5248800000000000000 := lr_div e214 (l_ne0 z195) r153 (by decide) 5248800000000000000 (by decide) (by decide)
  refine wt_putp hx hb hts cfX11 tyX11 tyX11_ok nmX11 hown hK hW hS (cg11 k0) (ce k0 (by decide)) rfl 40 (by decide) (Or.inl (hts _ q912)) rfl rfl rfl gl_mk dX11_lights_215 (fun H locs hW hS oq o2 np => ?_)
  have nh0_38 := o2 38 _ (by decide) (by decide) nh0_38
  have nh0_34 := o2 34 _ (by decide) (by decide) nh0_34
  have nh0_35 := o2 35 _ (by decide) (by decide) nh0_35
  have nh0_36 := o2 36 _ (by decide) (by decide) nh0_36
  have nh0_37 := o2 37 _ (by decide) (by decide) nh0_37
  have nh0_2 := o2 2 _ (by decide) (by decide) nh0_2
  have nh0_3 := o2 3 _ (by decide) (by decide) nh0_3
  have nh0_39 := o2 39 _ (by decide) (by decide) nh0_39
  have nh0_40 : wt_pin N.1 vwCl h0 11 40 (.long x214) H := np
  have hV := hV.put (by decide) o2
  have hI := mI.fr.put hI k0 oq o2 (by decide) (by decide)
  refine lv_lload hx hb dX11_lights_218 (lv_at hl 1 rfl) ?_
  refine lv_lload hx hb dX11_lights_220 (lv_at hl 2 rfl) ?_
  refine cp_l (wt_runS (As := [.long x188, .long x153]) (rest := []) ⟨hx, hb, hml, hown, hts⟩ (m_X11_gcd l x188 (lr_w (lo' := -9223372036854775807) (hi' := 9223372036854775807) r188 (by decide) (by decide)) x153 (lr_w (lo' := -9223372036854775807) (hi' := 9223372036854775807) r153 (by decide) (by decide))) wm_X11_gcd q1054 ⟨rfl, rfl⟩ ⟨Nat.le_of_ble_eq_true rfl, Nat.le_of_ble_eq_true rfl⟩ pS_pre rfl hl.1 rfl (Nat.le_of_ble_eq_true rfl) dX11_lights_222 ⟨Nat.zero_le _, Nat.zero_le _⟩) hW hS (fun x222 H locs hp hW1 hS oq => ?_)
  have hV := hV.same hW k0 oq
  have hI := mI.fr.same hI hW oq
  have hW := hW1
  have nh0_38 := nh0_38.kept (oq _ nh0_38.lt (cE_not k0 (by decide)))
  have nh0_34 := nh0_34.kept (oq _ nh0_34.lt (cE_not k0 (by decide)))
  have nh0_35 := nh0_35.kept (oq _ nh0_35.lt (cE_not k0 (by decide)))
  have nh0_36 := nh0_36.kept (oq _ nh0_36.lt (cE_not k0 (by decide)))
  have nh0_37 := nh0_37.kept (oq _ nh0_37.lt (cE_not k0 (by decide)))
  have nh0_2 := nh0_2.kept (oq _ nh0_2.lt (cE_not k0 (by decide)))
  have nh0_3 := nh0_3.kept (oq _ nh0_3.lt (cE_not k0 (by decide)))
  have nh0_39 := nh0_39.kept (oq _ nh0_39.lt (cE_not k0 (by decide)))
  have nh0_40 := nh0_40.kept (oq _ nh0_40.lt (cE_not k0 (by decide)))
  have y222 : x222.toInt = ((Int.gcd x188.toInt x153.toInt : Nat) : Int) := hp
  have s222 : lr x222 0 9223372036854775807 := ⟨gcd_bd y222, (lr_any x222).2⟩
  have z222 : x222.toInt ≠ 0 := gcd_ne y222 (Or.inr (by omega))
  refine lv_lstore (lv' := [(23, .long x222), (21, .long x188), (19, .long x153), (17, .long x140), (15, .long x127), (13, .long x106), (11, .long x85), (9, .long x64), (7, .long x43), (5, .long x31), (3, .long x20), (1, .long x9), (0, .ref h0)]) hx hb dX11_lights_225 hl (by decide) rfl (fun ls hl => ?_)
  refine lv_aload_n hx hb dX11_lights_227 rfl (lv_at hl 12 rfl) ?_
  refine lv_lload hx hb dX11_lights_228 (lv_at hl 1 rfl) ?_
  refine lv_lload hx hb dX11_lights_230 (lv_at hl 0 rfl) ?_
  refine lv_ldiv hx hb dX11_lights_232 (l_ne0 z222) ?_
  refine lv_topl (fun x232 e232 => ?_)
  have t232 := lt_div e232 (l_ne0 z222) r188 (by decide)
  have r232 : lr x232 (-5248800000000000000) 5248800000000000000 := lr_div e232 (l_ne0 z222) r188 (by decide) 5248800000000000000 (by decide) (by decide)
  refine wt_putp hx hb hts cfX11 tyX11 tyX11_ok nmX11 hown hK hW hS (cg11 k0) (ce k0 (by decide)) rfl 41 (by decide) (Or.inl (hts _ q913)) rfl rfl rfl gl_mk dX11_lights_233 (fun H locs hW hS oq o2 np => ?_)
  have nh0_38 := o2 38 _ (by decide) (by decide) nh0_38
  have nh0_34 := o2 34 _ (by decide) (by decide) nh0_34
  have nh0_35 := o2 35 _ (by decide) (by decide) nh0_35
  have nh0_36 := o2 36 _ (by decide) (by decide) nh0_36
  have nh0_37 := o2 37 _ (by decide) (by decide) nh0_37
  have nh0_2 := o2 2 _ (by decide) (by decide) nh0_2
  have nh0_3 := o2 3 _ (by decide) (by decide) nh0_3
  have nh0_39 := o2 39 _ (by decide) (by decide) nh0_39
  have nh0_40 := o2 40 _ (by decide) (by decide) nh0_40
  have nh0_41 : wt_pin N.1 vwCl h0 11 41 (.long x232) H := np
  have hV := hV.put (by decide) o2
  have hI := mI.fr.put hI k0 oq o2 (by decide) (by decide)
  refine lv_aload_n hx hb dX11_lights_236 rfl (lv_at hl 12 rfl) ?_
  refine lv_lload hx hb dX11_lights_237 (lv_at hl 2 rfl) ?_
  refine lv_lload hx hb dX11_lights_239 (lv_at hl 0 rfl) ?_
  refine lv_ldiv hx hb dX11_lights_241 (l_ne0 z222) ?_
  refine lv_topl (fun x241 e241 => ?_)
  have t241 := lt_div e241 (l_ne0 z222) r153 (by decide)
  have r241 : lr x241 (-5248800000000000000) 5248800000000000000 := lr_div e241 (l_ne0 z222) r153 (by decide) 5248800000000000000 (by decide) (by decide)
  refine wt_putp hx hb hts cfX11 tyX11 tyX11_ok nmX11 hown hK hW hS (cg11 k0) (ce k0 (by decide)) rfl 42 (by decide) (Or.inl (hts _ q914)) rfl rfl rfl gl_mk dX11_lights_242 (fun H locs hW hS oq o2 np => ?_)
  have nh0_38 := o2 38 _ (by decide) (by decide) nh0_38
  have nh0_34 := o2 34 _ (by decide) (by decide) nh0_34
  have nh0_35 := o2 35 _ (by decide) (by decide) nh0_35
  have nh0_36 := o2 36 _ (by decide) (by decide) nh0_36
  have nh0_37 := o2 37 _ (by decide) (by decide) nh0_37
  have nh0_2 := o2 2 _ (by decide) (by decide) nh0_2
  have nh0_3 := o2 3 _ (by decide) (by decide) nh0_3
  have nh0_39 := o2 39 _ (by decide) (by decide) nh0_39
  have nh0_40 := o2 40 _ (by decide) (by decide) nh0_40
  have nh0_41 := o2 41 _ (by decide) (by decide) nh0_41
  have nh0_42 : wt_pin N.1 vwCl h0 11 42 (.long x241) H := np
  have hV := hV.put (by decide) o2
  have hI := mI.fr.put hI k0 oq o2 (by decide) (by decide)
  exact W.vret hx hb hr (fun t ht _ => ⟨⟨(), rfl, trivial, cW_at ht hW, ⟨mI_at ht hI, kp_at ht hV, ⟨_, _, pin_at ht nh0_39, pin_at ht nh0_40, quo_nn (qdiv t205 (gcd_dl y195)) htop hg, quo_pos (qdiv t214 (gcd_dr y195)) hall hg⟩⟩⟩, hS.F ht⟩) hS.2.2 dX11_lights_245
