set_option maxHeartbeats 4000000 in
set_option maxRecDepth 100000 in
theorem m_X5_whole (l : Launch) (N : c_N) (h0 : Nat) (k0 : N.2.2.1 h0 = some 5) (p1 : Nat) (kp1 : N.2.2.1 p1 = some 4) : cMl l yX5_whole cX5_whole 6 .long { frames := 0, cells := 0, slots := 0, locals := 0 } [.ref h0, .ref p1] N [] cT0 (fun _ => True) := by
  refine Met.ofW (cc := cX5_whole) (maxL := 6) (ret := some .long) (by decide) rfl ?_
  intro p e s m args below meth c s₁ B hml hv
  obtain ⟨rfl, ⟨hK, hW, hT, hnn⟩, hB⟩ := hv
  have hx := B.exec
  have hb := B.bytes
  have hr := B.returns
  have hts : ∀ w ∈ lw_g, w.before _ s = true := fun w h => atoms_spec (ws := wc_ws yX5_whole cX5_whole 6 (some .long)) B.pre w (List.mem_cons_of_mem _ h)
  have hown : s.vm.findClass RX5 = some m.cls := findClass_of_methodNamed B.named
  have hlocks := B.notSynchronized
  have hS : va_S (cE N []) s.heap s.heap [] := va_S.rf
  have hl := lv_entry ([.ref h0, .ref p1]) (n := 6) (Nat.le_of_ble_eq_true rfl)
  rw [lg_entry_eq]
  generalize (lg_sl ([.ref h0, .ref p1]) ++ List.replicate (6 - (lg_sl ([.ref h0, .ref p1])).length) Slot.unset).toArray = ls at hl ⊢
  have hl : lv_has ls 6 [(0, .ref h0), (1, .ref p1)] := hl
  refine wq_all ?_
  intro WW w1 w2
  refine lv_aload_n hx hb dX5_whole_0 rfl (lv_at hl 0 rfl) ?_
  refine wt_get hx hb hts cfX5 hown hK hW (cg5 k0) rfl 0 (by decide) q137 dX5_whole_1 (fun v hv => ?_)
  obtain ⟨x1, rfl, k1⟩ : gr N 27 v := hv
  refine lv_aload_n hx hb dX5_whole_4 rfl (lv_at hl 0 rfl) ?_
  refine wt_getp hx hb hts cfX5 hown hK hW (cg5 k0) rfl 2 (by decide) (Or.inl (hts _ q143)) dX5_whole_5 (fun v hv nh0_2 => ?_)
  obtain ⟨x5, rfl, r5⟩ : gi 0 5 v := hv
  refine wt_iald hx hb hK hW 0 (cg27 k1) rfl (ir_in r5 (by decide) (by decide)) dX5_whole_8 (fun v hv => ?_)
  have hv : v = .int _ := hv
  subst hv
  refine lv_topi (fun x8 e8 => ?_)
  refine lv_i2l hx hb dX5_whole_9 rfl ?_
  refine lv_topl (fun x9 e9 => ?_)
  have r9 : lr x9 (-2147483648) 2147483647 := by rw [e9]; exact i2l_r (ir_any x8)
  refine lv_aload_n hx hb dX5_whole_10 rfl (lv_at hl 0 rfl) ?_
  refine wt_get hx hb hts cfX5 hown hK hW (cg5 k0) rfl 1 (by decide) q140 dX5_whole_11 (fun v hv => ?_)
  obtain ⟨x11, rfl, k11⟩ : gr N 28 v := hv
  refine lv_aload_n hx hb dX5_whole_14 rfl (lv_at hl 0 rfl) ?_
  refine wt_getp hx hb hts cfX5 hown hK hW (cg5 k0) rfl 3 (by decide) (Or.inl (hts _ q145)) dX5_whole_15 (fun v hv nh0_3 => ?_)
  obtain ⟨x15, rfl, r15⟩ : gi 0 5 v := hv
  refine wt_iald hx hb hK hW 0 (cg28 k11) rfl (ir_in r15 (by decide) (by decide)) dX5_whole_18 (fun v hv => ?_)
  have hv : v = .int _ := hv
  subst hv
  refine lv_topi (fun x18 e18 => ?_)
  refine lv_i2l hx hb dX5_whole_19 rfl ?_
  refine lv_topl (fun x19 e19 => ?_)
  have r19 : lr x19 (-2147483648) 2147483647 := by rw [e19]; exact i2l_r (ir_any x18)
  refine lv_lmul hx hb dX5_whole_20 ?_
  refine lv_topl (fun x20 e20 => ?_)
  refine lv_aload_n hx hb dX5_whole_21 rfl (lv_at hl 1 rfl) ?_
  refine wt_getp hx hb hts cfX4 hown hK hW (cg4 kp1) rfl 0 (by decide) (Or.inr ⟨_, lw_n_use hnn q187⟩) dX5_whole_22 (fun v hv np1_0 => ?_)
  obtain ⟨x22, rfl⟩ : gl v := hv
  refine lv_lmul hx hb dX5_whole_25 ?_
  refine lv_topl (fun x25 e25 => ?_)
  refine lv_aload_n hx hb dX5_whole_26 rfl (lv_at hl 0 rfl) ?_
  refine wt_get hx hb hts cfX5 hown hK hW (cg5 k0) rfl 1 (by decide) q140 dX5_whole_27 (fun v hv => ?_)
  obtain ⟨x27, rfl, k27⟩ : gr N 28 v := hv
  refine lv_aload_n hx hb dX5_whole_30 rfl (lv_at hl 0 rfl) ?_
  refine wt_rel hx hb hts cfX5 hown hK nh0_2 rfl (by decide) (Or.inl (hts _ q143)) dX5_whole_31 ?_
  refine wt_iald hx hb hK hW 0 (cg28 k27) rfl (ir_in r5 (by decide) (by decide)) dX5_whole_34 (fun v hv => ?_)
  have hv : v = .int _ := hv
  subst hv
  refine lv_topi (fun x34 e34 => ?_)
  refine lv_i2l hx hb dX5_whole_35 rfl ?_
  refine lv_topl (fun x35 e35 => ?_)
  have r35 : lr x35 (-2147483648) 2147483647 := by rw [e35]; exact i2l_r (ir_any x34)
  refine lv_aload_n hx hb dX5_whole_36 rfl (lv_at hl 0 rfl) ?_
  refine wt_get hx hb hts cfX5 hown hK hW (cg5 k0) rfl 0 (by decide) q137 dX5_whole_37 (fun v hv => ?_)
  obtain ⟨x37, rfl, k37⟩ : gr N 27 v := hv
  refine lv_aload_n hx hb dX5_whole_40 rfl (lv_at hl 0 rfl) ?_
  refine wt_rel hx hb hts cfX5 hown hK nh0_3 rfl (by decide) (Or.inl (hts _ q145)) dX5_whole_41 ?_
  refine wt_iald hx hb hK hW 0 (cg27 k37) rfl (ir_in r15 (by decide) (by decide)) dX5_whole_44 (fun v hv => ?_)
  have hv : v = .int _ := hv
  subst hv
  refine lv_topi (fun x44 e44 => ?_)
  refine lv_i2l hx hb dX5_whole_45 rfl ?_
  refine lv_topl (fun x45 e45 => ?_)
  have r45 : lr x45 (-2147483648) 2147483647 := by rw [e45]; exact i2l_r (ir_any x44)
  refine lv_lmul hx hb dX5_whole_46 ?_
  refine lv_topl (fun x46 e46 => ?_)
  refine lv_aload_n hx hb dX5_whole_47 rfl (lv_at hl 1 rfl) ?_
  refine wt_getp hx hb hts cfX4 hown hK hW (cg4 kp1) rfl 3 (by decide) (Or.inr ⟨_, lw_n_use hnn q193⟩) dX5_whole_48 (fun v hv np1_3 => ?_)
  obtain ⟨x48, rfl⟩ : gl v := hv
  refine lv_lmul hx hb dX5_whole_51 ?_
  refine lv_topl (fun x51 e51 => ?_)
  refine lv_ladd hx hb dX5_whole_52 ?_
  refine lv_topl (fun x52 e52 => ?_)
  refine lv_lstore_n (lv' := [(2, .long x52), (0, .ref h0), (1, .ref p1)]) hx hb dX5_whole_53 rfl hl (by decide) rfl (fun ls hl => ?_)
  refine lv_aload_n hx hb dX5_whole_54 rfl (lv_at hl 1 rfl) ?_
  refine wt_get hx hb hts cfX5 hown hK hW (cg5 k0) rfl 0 (by decide) q137 dX5_whole_55 (fun v hv => ?_)
  obtain ⟨x55, rfl, k55⟩ : gr N 27 v := hv
  refine lv_aload_n hx hb dX5_whole_58 rfl (lv_at hl 1 rfl) ?_
  refine wt_rel hx hb hts cfX5 hown hK nh0_2 rfl (by decide) (Or.inl (hts _ q143)) dX5_whole_59 ?_
  refine wt_iald hx hb hK hW 0 (cg27 k55) rfl (ir_in r5 (by decide) (by decide)) dX5_whole_62 (fun v hv => ?_)
  have hv : v = .int _ := hv
  subst hv
  refine lv_topi (fun x62 e62 => ?_)
  refine lv_i2l hx hb dX5_whole_63 rfl ?_
  refine lv_topl (fun x63 e63 => ?_)
  have r63 : lr x63 (-2147483648) 2147483647 := by rw [e63]; exact i2l_r (ir_any x62)
  refine lv_aload_n hx hb dX5_whole_64 rfl (lv_at hl 1 rfl) ?_
  refine wt_get hx hb hts cfX5 hown hK hW (cg5 k0) rfl 0 (by decide) q137 dX5_whole_65 (fun v hv => ?_)
  obtain ⟨x65, rfl, k65⟩ : gr N 27 v := hv
  refine lv_aload_n hx hb dX5_whole_68 rfl (lv_at hl 1 rfl) ?_
  refine wt_rel hx hb hts cfX5 hown hK nh0_3 rfl (by decide) (Or.inl (hts _ q145)) dX5_whole_69 ?_
  refine wt_iald hx hb hK hW 0 (cg27 k65) rfl (ir_in r15 (by decide) (by decide)) dX5_whole_72 (fun v hv => ?_)
  have hv : v = .int _ := hv
  subst hv
  refine lv_topi (fun x72 e72 => ?_)
  refine lv_i2l hx hb dX5_whole_73 rfl ?_
  refine lv_topl (fun x73 e73 => ?_)
  have r73 : lr x73 (-2147483648) 2147483647 := by rw [e73]; exact i2l_r (ir_any x72)
  refine lv_lmul hx hb dX5_whole_74 ?_
  refine lv_topl (fun x74 e74 => ?_)
  refine lv_aload_n hx hb dX5_whole_75 rfl (lv_at hl 2 rfl) ?_
  refine wt_getp hx hb hts cfX4 hown hK hW (cg4 kp1) rfl 1 (by decide) (Or.inr ⟨_, lw_n_use hnn q189⟩) dX5_whole_76 (fun v hv np1_1 => ?_)
  obtain ⟨x76, rfl⟩ : gl v := hv
  refine lv_lmul hx hb dX5_whole_79 ?_
  refine lv_topl (fun x79 e79 => ?_)
  refine lv_aload_n hx hb dX5_whole_80 rfl (lv_at hl 1 rfl) ?_
  refine wt_get hx hb hts cfX5 hown hK hW (cg5 k0) rfl 1 (by decide) q140 dX5_whole_81 (fun v hv => ?_)
  obtain ⟨x81, rfl, k81⟩ : gr N 28 v := hv
  refine lv_aload_n hx hb dX5_whole_84 rfl (lv_at hl 1 rfl) ?_
  refine wt_rel hx hb hts cfX5 hown hK nh0_2 rfl (by decide) (Or.inl (hts _ q143)) dX5_whole_85 ?_
  refine wt_iald hx hb hK hW 0 (cg28 k81) rfl (ir_in r5 (by decide) (by decide)) dX5_whole_88 (fun v hv => ?_)
  have hv : v = .int _ := hv
  subst hv
  refine lv_topi (fun x88 e88 => ?_)
  refine lv_i2l hx hb dX5_whole_89 rfl ?_
  refine lv_topl (fun x89 e89 => ?_)
  have r89 : lr x89 (-2147483648) 2147483647 := by rw [e89]; exact i2l_r (ir_any x88)
  refine lv_aload_n hx hb dX5_whole_90 rfl (lv_at hl 1 rfl) ?_
  refine wt_get hx hb hts cfX5 hown hK hW (cg5 k0) rfl 1 (by decide) q140 dX5_whole_91 (fun v hv => ?_)
  obtain ⟨x91, rfl, k91⟩ : gr N 28 v := hv
  refine lv_aload_n hx hb dX5_whole_94 rfl (lv_at hl 1 rfl) ?_
  refine wt_rel hx hb hts cfX5 hown hK nh0_3 rfl (by decide) (Or.inl (hts _ q145)) dX5_whole_95 ?_
  refine wt_iald hx hb hK hW 0 (cg28 k91) rfl (ir_in r15 (by decide) (by decide)) dX5_whole_98 (fun v hv => ?_)
  have hv : v = .int _ := hv
  subst hv
  refine lv_topi (fun x98 e98 => ?_)
  refine lv_i2l hx hb dX5_whole_99 rfl ?_
  refine lv_topl (fun x99 e99 => ?_)
  have r99 : lr x99 (-2147483648) 2147483647 := by rw [e99]; exact i2l_r (ir_any x98)
  refine lv_lmul hx hb dX5_whole_100 ?_
  refine lv_topl (fun x100 e100 => ?_)
  refine lv_aload_n hx hb dX5_whole_101 rfl (lv_at hl 2 rfl) ?_
  refine wt_getp hx hb hts cfX4 hown hK hW (cg4 kp1) rfl 2 (by decide) (Or.inr ⟨_, lw_n_use hnn q191⟩) dX5_whole_102 (fun v hv np1_2 => ?_)
  obtain ⟨x102, rfl⟩ : gl v := hv
  refine lv_lmul hx hb dX5_whole_105 ?_
  refine lv_topl (fun x105 e105 => ?_)
  refine lv_ladd hx hb dX5_whole_106 ?_
  refine lv_topl (fun x106 e106 => ?_)
  refine lv_lstore (lv' := [(4, .long x106), (2, .long x52), (0, .ref h0), (1, .ref p1)]) hx hb dX5_whole_107 hl (by decide) rfl (fun ls hl => ?_)
  refine lv_lload_n hx hb dX5_whole_109 rfl (lv_at hl 1 rfl) ?_
  refine lv_lload_n hx hb dX5_whole_110 rfl (lv_at hl 1 rfl) ?_
  refine lv_lmul hx hb dX5_whole_111 ?_
  refine lv_topl (fun x111 e111 => ?_)
  refine lv_lload hx hb dX5_whole_112 (lv_at hl 0 rfl) ?_
  refine lv_lload hx hb dX5_whole_114 (lv_at hl 0 rfl) ?_
  refine lv_lmul hx hb dX5_whole_116 ?_
  refine lv_topl (fun x116 e116 => ?_)
  refine lv_ladd hx hb dX5_whole_117 ?_
  refine lv_topl (fun x117 e117 => ?_)
  exact W.lret (v := x117) hx hb hr (fun t ht _ => ⟨⟨x117, (), rfl, trivial, cW_at ht hW⟩, hS.F ht⟩) hS.2.2 dX5_whole_118
set_option maxHeartbeats 4000000 in
set_option maxRecDepth 100000 in
theorem m_X5_swapSides (l : Launch) (N : c_N) (h0 : Nat) (k0 : N.2.2.1 h0 = some 5) : cMv l yX5_swapSides cX5_swapSides 2 { frames := 0, cells := 0, slots := 0, locals := 0 } [.ref h0] N [5] cT0 cT0 := by
  refine Met.ofW (cc := cX5_swapSides) (maxL := 2) (ret := none) (by decide) rfl ?_
  intro p e s m args below meth c s₁ B hml hv
  obtain ⟨rfl, ⟨hK, hW, hT, hnn⟩, hB⟩ := hv
  have hx := B.exec
  have hb := B.bytes
  have hr := B.returns
  have hts : ∀ w ∈ lw_g, w.before _ s = true := fun w h => atoms_spec (ws := wc_ws yX5_swapSides cX5_swapSides 2 none) B.pre w (List.mem_cons_of_mem _ h)
  have hown : s.vm.findClass RX5 = some m.cls := findClass_of_methodNamed B.named
  have hlocks := B.notSynchronized
  have hS : va_S (cE N [5]) s.heap s.heap [] := va_S.rf
  have hl := lv_entry ([.ref h0]) (n := 2) (Nat.le_of_ble_eq_true rfl)
  rw [lg_entry_eq]
  generalize (lg_sl ([.ref h0]) ++ List.replicate (2 - (lg_sl ([.ref h0])).length) Slot.unset).toArray = ls at hl ⊢
  have hl : lv_has ls 2 [(0, .ref h0)] := hl
  refine wq_all ?_
  intro WW w1 w2
  refine lv_aload_n hx hb dX5_swapSides_0 rfl (lv_at hl 0 rfl) ?_
  refine wt_getp hx hb hts cfX5 hown hK hW (cg5 k0) rfl 2 (by decide) (Or.inl (hts _ q143)) dX5_swapSides_1 (fun v hv nh0_2 => ?_)
  obtain ⟨x1, rfl, r1⟩ : gi 0 5 v := hv
  refine lv_istore_n (lv' := [(1, .int x1), (0, .ref h0)]) hx hb dX5_swapSides_4 rfl hl (by decide) rfl (fun ls hl => ?_)
  refine lv_aload_n hx hb dX5_swapSides_5 rfl (lv_at hl 1 rfl) ?_
  refine lv_aload_n hx hb dX5_swapSides_6 rfl (lv_at hl 1 rfl) ?_
  refine wt_getp hx hb hts cfX5 hown hK hW (cg5 k0) rfl 3 (by decide) (Or.inl (hts _ q145)) dX5_swapSides_7 (fun v hv nh0_3 => ?_)
  obtain ⟨x7, rfl, r7⟩ : gi 0 5 v := hv
  refine wt_putp hx hb hts cfX5 tyX5 tyX5_ok nmX5 hown hK hW hS (cg5 k0) (ce k0 (by decide)) rfl 2 (by decide) (Or.inl (hts _ q143)) rfl rfl rfl (gi_mk r7) dX5_swapSides_10 (fun H locs hW hS oq o2 np => ?_)
  have nh0_3 := o2 3 _ (by decide) (by decide) nh0_3
  have nh0_2 : wt_pin N.1 vwCl h0 5 2 (.int x7) H := np
  refine lv_aload_n hx hb dX5_swapSides_13 rfl (lv_at hl 1 rfl) ?_
  refine lv_iload_n hx hb dX5_swapSides_14 rfl (lv_at hl 0 rfl) ?_
  refine wt_putp hx hb hts cfX5 tyX5 tyX5_ok nmX5 hown hK hW hS (cg5 k0) (ce k0 (by decide)) rfl 3 (by decide) (Or.inl (hts _ q145)) rfl rfl rfl (gi_mk r1) dX5_swapSides_15 (fun H locs hW hS oq o2 np => ?_)
  have nh0_2 := o2 2 _ (by decide) (by decide) nh0_2
  have nh0_3 : wt_pin N.1 vwCl h0 5 3 (.int x1) H := np
  exact W.vret hx hb hr (fun t ht _ => ⟨⟨(), rfl, trivial, cW_at ht hW, trivial⟩, hS.F ht⟩) hS.2.2 dX5_swapSides_18
set_option maxHeartbeats 4000000 in
set_option maxRecDepth 100000 in
theorem m_X5_measureBack (l : Launch) (N : c_N) (h0 : Nat) (k0 : N.2.2.1 h0 = some 5) (p1 : Nat) (kp1 : N.2.2.1 p1 = some 4) (p2 : Nat) (kp2 : N.2.2.1 p2 = some 0) : cMv l yX5_measureBack cX5_measureBack 7 { frames := 1, cells := 0, slots := 0, locals := 25 } [.ref h0, .ref p1, .ref p2] N [0] cT0 cT0 := by
  refine Met.ofW (cc := cX5_measureBack) (maxL := 7) (ret := none) (by decide) rfl ?_
  intro p e s m args below meth c s₁ B hml hv
  obtain ⟨rfl, ⟨hK, hW, hT, hnn⟩, hB⟩ := hv
  have hx := B.exec
  have hb := B.bytes
  have hr := B.returns
  have hts : ∀ w ∈ lw_g, w.before _ s = true := fun w h => atoms_spec (ws := wc_ws yX5_measureBack cX5_measureBack 7 none) B.pre w (List.mem_cons_of_mem _ h)
  have hown : s.vm.findClass RX5 = some m.cls := findClass_of_methodNamed B.named
  have hlocks := B.notSynchronized
  have hS : va_S (cE N [0]) s.heap s.heap [] := va_S.rf
  have hl := lv_entry ([.ref h0, .ref p1, .ref p2]) (n := 7) (Nat.le_of_ble_eq_true rfl)
  rw [lg_entry_eq]
  generalize (lg_sl ([.ref h0, .ref p1, .ref p2]) ++ List.replicate (7 - (lg_sl ([.ref h0, .ref p1, .ref p2])).length) Slot.unset).toArray = ls at hl ⊢
  have hl : lv_has ls 7 [(0, .ref h0), (1, .ref p1), (2, .ref p2)] := hl
  refine wq_all ?_
  intro WW w1 w2
  refine lv_aload_n hx hb dX5_measureBack_0 rfl (lv_at hl 0 rfl) ?_
  refine wt_get hx hb hts cfX5 hown hK hW (cg5 k0) rfl 0 (by decide) q137 dX5_measureBack_1 (fun v hv => ?_)
  obtain ⟨x1, rfl, k1⟩ : gr N 27 v := hv
  refine lv_aload_n hx hb dX5_measureBack_4 rfl (lv_at hl 0 rfl) ?_
  refine wt_getp hx hb hts cfX5 hown hK hW (cg5 k0) rfl 2 (by decide) (Or.inl (hts _ q143)) dX5_measureBack_5 (fun v hv nh0_2 => ?_)
  obtain ⟨x5, rfl, r5⟩ : gi 0 5 v := hv
  refine wt_iald hx hb hK hW 0 (cg27 k1) rfl (ir_in r5 (by decide) (by decide)) dX5_measureBack_8 (fun v hv => ?_)
  have hv : v = .int _ := hv
  subst hv
  refine lv_topi (fun x8 e8 => ?_)
  refine lv_i2l hx hb dX5_measureBack_9 rfl ?_
  refine lv_topl (fun x9 e9 => ?_)
  have r9 : lr x9 (-2147483648) 2147483647 := by rw [e9]; exact i2l_r (ir_any x8)
  refine lv_aload_n hx hb dX5_measureBack_10 rfl (lv_at hl 0 rfl) ?_
  refine wt_get hx hb hts cfX5 hown hK hW (cg5 k0) rfl 1 (by decide) q140 dX5_measureBack_11 (fun v hv => ?_)
  obtain ⟨x11, rfl, k11⟩ : gr N 28 v := hv
  refine lv_aload_n hx hb dX5_measureBack_14 rfl (lv_at hl 0 rfl) ?_
  refine wt_getp hx hb hts cfX5 hown hK hW (cg5 k0) rfl 3 (by decide) (Or.inl (hts _ q145)) dX5_measureBack_15 (fun v hv nh0_3 => ?_)
  obtain ⟨x15, rfl, r15⟩ : gi 0 5 v := hv
  refine wt_iald hx hb hK hW 0 (cg28 k11) rfl (ir_in r15 (by decide) (by decide)) dX5_measureBack_18 (fun v hv => ?_)
  have hv : v = .int _ := hv
  subst hv
  refine lv_topi (fun x18 e18 => ?_)
  refine lv_i2l hx hb dX5_measureBack_19 rfl ?_
  refine lv_topl (fun x19 e19 => ?_)
  have r19 : lr x19 (-2147483648) 2147483647 := by rw [e19]; exact i2l_r (ir_any x18)
  refine lv_lmul hx hb dX5_measureBack_20 ?_
  refine lv_topl (fun x20 e20 => ?_)
  refine lv_aload_n hx hb dX5_measureBack_21 rfl (lv_at hl 1 rfl) ?_
  refine wt_getp hx hb hts cfX4 hown hK hW (cg4 kp1) rfl 0 (by decide) (Or.inr ⟨_, lw_n_use hnn q187⟩) dX5_measureBack_22 (fun v hv np1_0 => ?_)
  obtain ⟨x22, rfl⟩ : gl v := hv
  refine lv_lmul hx hb dX5_measureBack_25 ?_
  refine lv_topl (fun x25 e25 => ?_)
  refine lv_aload_n hx hb dX5_measureBack_26 rfl (lv_at hl 0 rfl) ?_
  refine wt_get hx hb hts cfX5 hown hK hW (cg5 k0) rfl 1 (by decide) q140 dX5_measureBack_27 (fun v hv => ?_)
  obtain ⟨x27, rfl, k27⟩ : gr N 28 v := hv
  refine lv_aload_n hx hb dX5_measureBack_30 rfl (lv_at hl 0 rfl) ?_
  refine wt_rel hx hb hts cfX5 hown hK nh0_2 rfl (by decide) (Or.inl (hts _ q143)) dX5_measureBack_31 ?_
  refine wt_iald hx hb hK hW 0 (cg28 k27) rfl (ir_in r5 (by decide) (by decide)) dX5_measureBack_34 (fun v hv => ?_)
  have hv : v = .int _ := hv
  subst hv
  refine lv_topi (fun x34 e34 => ?_)
  refine lv_i2l hx hb dX5_measureBack_35 rfl ?_
  refine lv_topl (fun x35 e35 => ?_)
  have r35 : lr x35 (-2147483648) 2147483647 := by rw [e35]; exact i2l_r (ir_any x34)
  refine lv_aload_n hx hb dX5_measureBack_36 rfl (lv_at hl 0 rfl) ?_
  refine wt_get hx hb hts cfX5 hown hK hW (cg5 k0) rfl 0 (by decide) q137 dX5_measureBack_37 (fun v hv => ?_)
  obtain ⟨x37, rfl, k37⟩ : gr N 27 v := hv
  refine lv_aload_n hx hb dX5_measureBack_40 rfl (lv_at hl 0 rfl) ?_
  refine wt_rel hx hb hts cfX5 hown hK nh0_3 rfl (by decide) (Or.inl (hts _ q145)) dX5_measureBack_41 ?_
  refine wt_iald hx hb hK hW 0 (cg27 k37) rfl (ir_in r15 (by decide) (by decide)) dX5_measureBack_44 (fun v hv => ?_)
  have hv : v = .int _ := hv
  subst hv
  refine lv_topi (fun x44 e44 => ?_)
  refine lv_i2l hx hb dX5_measureBack_45 rfl ?_
  refine lv_topl (fun x45 e45 => ?_)
  have r45 : lr x45 (-2147483648) 2147483647 := by rw [e45]; exact i2l_r (ir_any x44)
  refine lv_lmul hx hb dX5_measureBack_46 ?_
  refine lv_topl (fun x46 e46 => ?_)
  refine lv_aload_n hx hb dX5_measureBack_47 rfl (lv_at hl 1 rfl) ?_
  refine wt_getp hx hb hts cfX4 hown hK hW (cg4 kp1) rfl 3 (by decide) (Or.inr ⟨_, lw_n_use hnn q193⟩) dX5_measureBack_48 (fun v hv np1_3 => ?_)
  obtain ⟨x48, rfl⟩ : gl v := hv
  refine lv_lmul hx hb dX5_measureBack_51 ?_
  refine lv_topl (fun x51 e51 => ?_)
  refine lv_lsub hx hb dX5_measureBack_52 ?_
  refine lv_topl (fun x52 e52 => ?_)
  refine lv_lstore_n (lv' := [(3, .long x52), (0, .ref h0), (1, .ref p1), (2, .ref p2)]) hx hb dX5_measureBack_53 rfl hl (by decide) rfl (fun ls hl => ?_)
  refine lv_aload_n hx hb dX5_measureBack_54 rfl (lv_at hl 1 rfl) ?_
  refine wt_get hx hb hts cfX5 hown hK hW (cg5 k0) rfl 0 (by decide) q137 dX5_measureBack_55 (fun v hv => ?_)
  obtain ⟨x55, rfl, k55⟩ : gr N 27 v := hv
  refine lv_aload_n hx hb dX5_measureBack_58 rfl (lv_at hl 1 rfl) ?_
  refine wt_rel hx hb hts cfX5 hown hK nh0_2 rfl (by decide) (Or.inl (hts _ q143)) dX5_measureBack_59 ?_
  refine wt_iald hx hb hK hW 0 (cg27 k55) rfl (ir_in r5 (by decide) (by decide)) dX5_measureBack_62 (fun v hv => ?_)
  have hv : v = .int _ := hv
  subst hv
  refine lv_topi (fun x62 e62 => ?_)
  refine lv_i2l hx hb dX5_measureBack_63 rfl ?_
  refine lv_topl (fun x63 e63 => ?_)
  have r63 : lr x63 (-2147483648) 2147483647 := by rw [e63]; exact i2l_r (ir_any x62)
  refine lv_aload_n hx hb dX5_measureBack_64 rfl (lv_at hl 1 rfl) ?_
  refine wt_get hx hb hts cfX5 hown hK hW (cg5 k0) rfl 0 (by decide) q137 dX5_measureBack_65 (fun v hv => ?_)
  obtain ⟨x65, rfl, k65⟩ : gr N 27 v := hv
  refine lv_aload_n hx hb dX5_measureBack_68 rfl (lv_at hl 1 rfl) ?_
  refine wt_rel hx hb hts cfX5 hown hK nh0_3 rfl (by decide) (Or.inl (hts _ q145)) dX5_measureBack_69 ?_
  refine wt_iald hx hb hK hW 0 (cg27 k65) rfl (ir_in r15 (by decide) (by decide)) dX5_measureBack_72 (fun v hv => ?_)
  have hv : v = .int _ := hv
  subst hv
  refine lv_topi (fun x72 e72 => ?_)
  refine lv_i2l hx hb dX5_measureBack_73 rfl ?_
  refine lv_topl (fun x73 e73 => ?_)
  have r73 : lr x73 (-2147483648) 2147483647 := by rw [e73]; exact i2l_r (ir_any x72)
  refine lv_lmul hx hb dX5_measureBack_74 ?_
  refine lv_topl (fun x74 e74 => ?_)
  refine lv_aload_n hx hb dX5_measureBack_75 rfl (lv_at hl 2 rfl) ?_
  refine wt_getp hx hb hts cfX4 hown hK hW (cg4 kp1) rfl 1 (by decide) (Or.inr ⟨_, lw_n_use hnn q189⟩) dX5_measureBack_76 (fun v hv np1_1 => ?_)
  obtain ⟨x76, rfl⟩ : gl v := hv
  refine lv_lmul hx hb dX5_measureBack_79 ?_
  refine lv_topl (fun x79 e79 => ?_)
  refine lv_aload_n hx hb dX5_measureBack_80 rfl (lv_at hl 1 rfl) ?_
  refine wt_get hx hb hts cfX5 hown hK hW (cg5 k0) rfl 1 (by decide) q140 dX5_measureBack_81 (fun v hv => ?_)
  obtain ⟨x81, rfl, k81⟩ : gr N 28 v := hv
  refine lv_aload_n hx hb dX5_measureBack_84 rfl (lv_at hl 1 rfl) ?_
  refine wt_rel hx hb hts cfX5 hown hK nh0_2 rfl (by decide) (Or.inl (hts _ q143)) dX5_measureBack_85 ?_
  refine wt_iald hx hb hK hW 0 (cg28 k81) rfl (ir_in r5 (by decide) (by decide)) dX5_measureBack_88 (fun v hv => ?_)
  have hv : v = .int _ := hv
  subst hv
  refine lv_topi (fun x88 e88 => ?_)
  refine lv_i2l hx hb dX5_measureBack_89 rfl ?_
  refine lv_topl (fun x89 e89 => ?_)
  have r89 : lr x89 (-2147483648) 2147483647 := by rw [e89]; exact i2l_r (ir_any x88)
  refine lv_aload_n hx hb dX5_measureBack_90 rfl (lv_at hl 1 rfl) ?_
  refine wt_get hx hb hts cfX5 hown hK hW (cg5 k0) rfl 1 (by decide) q140 dX5_measureBack_91 (fun v hv => ?_)
  obtain ⟨x91, rfl, k91⟩ : gr N 28 v := hv
  refine lv_aload_n hx hb dX5_measureBack_94 rfl (lv_at hl 1 rfl) ?_
  refine wt_rel hx hb hts cfX5 hown hK nh0_3 rfl (by decide) (Or.inl (hts _ q145)) dX5_measureBack_95 ?_
  refine wt_iald hx hb hK hW 0 (cg28 k91) rfl (ir_in r15 (by decide) (by decide)) dX5_measureBack_98 (fun v hv => ?_)
  have hv : v = .int _ := hv
  subst hv
  refine lv_topi (fun x98 e98 => ?_)
  refine lv_i2l hx hb dX5_measureBack_99 rfl ?_
  refine lv_topl (fun x99 e99 => ?_)
  have r99 : lr x99 (-2147483648) 2147483647 := by rw [e99]; exact i2l_r (ir_any x98)
  refine lv_lmul hx hb dX5_measureBack_100 ?_
  refine lv_topl (fun x100 e100 => ?_)
  refine lv_aload_n hx hb dX5_measureBack_101 rfl (lv_at hl 2 rfl) ?_
  refine wt_getp hx hb hts cfX4 hown hK hW (cg4 kp1) rfl 2 (by decide) (Or.inr ⟨_, lw_n_use hnn q191⟩) dX5_measureBack_102 (fun v hv np1_2 => ?_)
  obtain ⟨x102, rfl⟩ : gl v := hv
  refine lv_lmul hx hb dX5_measureBack_105 ?_
  refine lv_topl (fun x105 e105 => ?_)
  refine lv_lsub hx hb dX5_measureBack_106 ?_
  refine lv_topl (fun x106 e106 => ?_)
  refine lv_lstore (lv' := [(5, .long x106), (3, .long x52), (0, .ref h0), (1, .ref p1), (2, .ref p2)]) hx hb dX5_measureBack_107 hl (by decide) rfl (fun ls hl => ?_)
  refine lv_aload_n hx hb dX5_measureBack_109 rfl (lv_at hl 4 rfl) ?_
  refine lv_lload_n hx hb dX5_measureBack_110 rfl (lv_at hl 1 rfl) ?_
  refine lv_lload_n hx hb dX5_measureBack_111 rfl (lv_at hl 1 rfl) ?_
  refine lv_lmul hx hb dX5_measureBack_112 ?_
  refine lv_topl (fun x112 e112 => ?_)
  refine lv_lload hx hb dX5_measureBack_113 (lv_at hl 0 rfl) ?_
  refine lv_lload hx hb dX5_measureBack_115 (lv_at hl 0 rfl) ?_
  refine lv_lmul hx hb dX5_measureBack_117 ?_
  refine lv_topl (fun x117 e117 => ?_)
  refine lv_ladd hx hb dX5_measureBack_118 ?_
  refine lv_topl (fun x118 e118 => ?_)
  refine lv_aload_n hx hb dX5_measureBack_119 rfl (lv_at hl 2 rfl) ?_
  refine lv_aload_n hx hb dX5_measureBack_120 rfl (lv_at hl 3 rfl) ?_
  refine cc_l (wt_runV (As := [.ref p1]) (rest := [.long x118, .ref p2]) ⟨hx, hb, hml, hown, hts⟩ (m_X5_whole l N h0 k0 p1 kp1) wm_X5_whole q603 ⟨rfl, rfl⟩ ⟨Nat.le_of_ble_eq_true rfl, Nat.le_of_ble_eq_true rfl⟩ (cS_preV hK hW hT hnn hS (cg5 k0) rfl rfl trivial) rfl hl.1 rfl (Nat.le_of_ble_eq_true rfl) dX5_measureBack_121 ⟨Nat.zero_le _, Nat.zero_le _⟩) hS (by decide) (fun x121 H locs hp hW hS oq => ?_)
  have nh0_2 := nh0_2.kept (oq _ nh0_2.lt (cE_not k0 (by decide)))
  have nh0_3 := nh0_3.kept (oq _ nh0_3.lt (cE_not k0 (by decide)))
  have np1_0 := np1_0.kept (oq _ np1_0.lt (cE_not kp1 (by decide)))
  have np1_3 := np1_3.kept (oq _ np1_3.lt (cE_not kp1 (by decide)))
  have np1_1 := np1_1.kept (oq _ np1_1.lt (cE_not kp1 (by decide)))
  have np1_2 := np1_2.kept (oq _ np1_2.lt (cE_not kp1 (by decide)))
  refine cc_v (wt_runV (As := [.long x118, .long x121]) (rest := []) ⟨hx, hb, hml, hown, hts⟩ (m_X0_set l N p2 kp2 x118 x121) wm_X0_set q607 ⟨rfl, rfl⟩ ⟨Nat.le_of_ble_eq_true rfl, Nat.le_of_ble_eq_true rfl⟩ (cS_preV hK hW hT hnn hS (cg0 kp2) rfl rfl trivial) rfl hl.1 rfl (Nat.le_of_ble_eq_true rfl) dX5_measureBack_124 ⟨Nat.zero_le _, Nat.zero_le _⟩) hS (by decide) (fun H locs hW hS oq hB2 => ?_)
  have nh0_2 := nh0_2.kept (oq _ nh0_2.lt (cE_not k0 (by decide)))
  have nh0_3 := nh0_3.kept (oq _ nh0_3.lt (cE_not k0 (by decide)))
  have np1_0 := np1_0.kept (oq _ np1_0.lt (cE_not kp1 (by decide)))
  have np1_3 := np1_3.kept (oq _ np1_3.lt (cE_not kp1 (by decide)))
  have np1_1 := np1_1.kept (oq _ np1_1.lt (cE_not kp1 (by decide)))
  have np1_2 := np1_2.kept (oq _ np1_2.lt (cE_not kp1 (by decide)))
  exact W.vret hx hb hr (fun t ht _ => ⟨⟨(), rfl, trivial, cW_at ht hW, trivial⟩, hS.F ht⟩) hS.2.2 dX5_measureBack_127
set_option maxHeartbeats 4000000 in
set_option maxRecDepth 100000 in
theorem m_X5_measureThrough (l : Launch) (N : c_N) (h0 : Nat) (k0 : N.2.2.1 h0 = some 5) (p1 : Nat) (kp1 : N.2.2.1 p1 = some 4) (p2 : Nat) (kp2 : N.2.2.1 p2 = some 0) : cMv l yX5_measureThrough cX5_measureThrough 5 { frames := 1, cells := 0, slots := 0, locals := 25 } [.ref h0, .ref p1, .ref p2] N [0] cT0 cT0 := by
  refine Met.ofW (cc := cX5_measureThrough) (maxL := 5) (ret := none) (by decide) rfl ?_
  intro p e s m args below meth c s₁ B hml hv
  obtain ⟨rfl, ⟨hK, hW, hT, hnn⟩, hB⟩ := hv
  have hx := B.exec
  have hb := B.bytes
  have hr := B.returns
  have hts : ∀ w ∈ lw_g, w.before _ s = true := fun w h => atoms_spec (ws := wc_ws yX5_measureThrough cX5_measureThrough 5 none) B.pre w (List.mem_cons_of_mem _ h)
  have hown : s.vm.findClass RX5 = some m.cls := findClass_of_methodNamed B.named
  have hlocks := B.notSynchronized
  have hS : va_S (cE N [0]) s.heap s.heap [] := va_S.rf
  have hl := lv_entry ([.ref h0, .ref p1, .ref p2]) (n := 5) (Nat.le_of_ble_eq_true rfl)
  rw [lg_entry_eq]
  generalize (lg_sl ([.ref h0, .ref p1, .ref p2]) ++ List.replicate (5 - (lg_sl ([.ref h0, .ref p1, .ref p2])).length) Slot.unset).toArray = ls at hl ⊢
  have hl : lv_has ls 5 [(0, .ref h0), (1, .ref p1), (2, .ref p2)] := hl
  refine wq_all ?_
  intro WW w1 w2
  refine lv_ldc2 hx hb hown (hts _ q615) dX5_measureThrough_0 ?_
  refine lv_aload_n hx hb dX5_measureThrough_3 rfl (lv_at hl 0 rfl) ?_
  refine wt_get hx hb hts cfX5 hown hK hW (cg5 k0) rfl 0 (by decide) q137 dX5_measureThrough_4 (fun v hv => ?_)
  obtain ⟨x4, rfl, k4⟩ : gr N 27 v := hv
  refine lv_aload_n hx hb dX5_measureThrough_7 rfl (lv_at hl 0 rfl) ?_
  refine wt_getp hx hb hts cfX5 hown hK hW (cg5 k0) rfl 2 (by decide) (Or.inl (hts _ q143)) dX5_measureThrough_8 (fun v hv nh0_2 => ?_)
  obtain ⟨x8, rfl, r8⟩ : gi 0 5 v := hv
  refine wt_iald hx hb hK hW 0 (cg27 k4) rfl (ir_in r8 (by decide) (by decide)) dX5_measureThrough_11 (fun v hv => ?_)
  have hv : v = .int _ := hv
  subst hv
  refine lv_topi (fun x11 e11 => ?_)
  refine lv_i2l hx hb dX5_measureThrough_12 rfl ?_
  refine lv_topl (fun x12 e12 => ?_)
  have r12 : lr x12 (-2147483648) 2147483647 := by rw [e12]; exact i2l_r (ir_any x11)
  refine lv_lmul hx hb dX5_measureThrough_13 ?_
  refine lv_topl (fun x13 e13 => ?_)
  refine lv_aload_n hx hb dX5_measureThrough_14 rfl (lv_at hl 0 rfl) ?_
  refine wt_get hx hb hts cfX5 hown hK hW (cg5 k0) rfl 1 (by decide) q140 dX5_measureThrough_15 (fun v hv => ?_)
  obtain ⟨x15, rfl, k15⟩ : gr N 28 v := hv
  refine lv_aload_n hx hb dX5_measureThrough_18 rfl (lv_at hl 0 rfl) ?_
  refine wt_rel hx hb hts cfX5 hown hK nh0_2 rfl (by decide) (Or.inl (hts _ q143)) dX5_measureThrough_19 ?_
  refine wt_iald hx hb hK hW 0 (cg28 k15) rfl (ir_in r8 (by decide) (by decide)) dX5_measureThrough_22 (fun v hv => ?_)
  have hv : v = .int _ := hv
  subst hv
  refine lv_topi (fun x22 e22 => ?_)
  refine lv_i2l hx hb dX5_measureThrough_23 rfl ?_
  refine lv_topl (fun x23 e23 => ?_)
  have r23 : lr x23 (-2147483648) 2147483647 := by rw [e23]; exact i2l_r (ir_any x22)
  refine lv_lmul hx hb dX5_measureThrough_24 ?_
  refine lv_topl (fun x24 e24 => ?_)
  refine lv_aload_n hx hb dX5_measureThrough_25 rfl (lv_at hl 0 rfl) ?_
  refine wt_get hx hb hts cfX5 hown hK hW (cg5 k0) rfl 0 (by decide) q137 dX5_measureThrough_26 (fun v hv => ?_)
  obtain ⟨x26, rfl, k26⟩ : gr N 27 v := hv
  refine lv_aload_n hx hb dX5_measureThrough_29 rfl (lv_at hl 0 rfl) ?_
  refine wt_getp hx hb hts cfX5 hown hK hW (cg5 k0) rfl 3 (by decide) (Or.inl (hts _ q145)) dX5_measureThrough_30 (fun v hv nh0_3 => ?_)
  obtain ⟨x30, rfl, r30⟩ : gi 0 5 v := hv
  refine wt_iald hx hb hK hW 0 (cg27 k26) rfl (ir_in r30 (by decide) (by decide)) dX5_measureThrough_33 (fun v hv => ?_)
  have hv : v = .int _ := hv
  subst hv
  refine lv_topi (fun x33 e33 => ?_)
  refine lv_i2l hx hb dX5_measureThrough_34 rfl ?_
  refine lv_topl (fun x34 e34 => ?_)
  have r34 : lr x34 (-2147483648) 2147483647 := by rw [e34]; exact i2l_r (ir_any x33)
  refine lv_lmul hx hb dX5_measureThrough_35 ?_
  refine lv_topl (fun x35 e35 => ?_)
  refine lv_aload_n hx hb dX5_measureThrough_36 rfl (lv_at hl 0 rfl) ?_
  refine wt_get hx hb hts cfX5 hown hK hW (cg5 k0) rfl 1 (by decide) q140 dX5_measureThrough_37 (fun v hv => ?_)
  obtain ⟨x37, rfl, k37⟩ : gr N 28 v := hv
  refine lv_aload_n hx hb dX5_measureThrough_40 rfl (lv_at hl 0 rfl) ?_
  refine wt_rel hx hb hts cfX5 hown hK nh0_3 rfl (by decide) (Or.inl (hts _ q145)) dX5_measureThrough_41 ?_
  refine wt_iald hx hb hK hW 0 (cg28 k37) rfl (ir_in r30 (by decide) (by decide)) dX5_measureThrough_44 (fun v hv => ?_)
  have hv : v = .int _ := hv
  subst hv
  refine lv_topi (fun x44 e44 => ?_)
  refine lv_i2l hx hb dX5_measureThrough_45 rfl ?_
  refine lv_topl (fun x45 e45 => ?_)
  have r45 : lr x45 (-2147483648) 2147483647 := by rw [e45]; exact i2l_r (ir_any x44)
  refine lv_lmul hx hb dX5_measureThrough_46 ?_
  refine lv_topl (fun x46 e46 => ?_)
  refine lv_lstore_n (lv' := [(3, .long x46), (0, .ref h0), (1, .ref p1), (2, .ref p2)]) hx hb dX5_measureThrough_47 rfl hl (by decide) rfl (fun ls hl => ?_)
  refine lv_aload_n hx hb dX5_measureThrough_48 rfl (lv_at hl 3 rfl) ?_
  refine lv_lload_n hx hb dX5_measureThrough_49 rfl (lv_at hl 0 rfl) ?_
  refine lv_aload_n hx hb dX5_measureThrough_50 rfl (lv_at hl 2 rfl) ?_
  refine wt_getp hx hb hts cfX4 hown hK hW (cg4 kp1) rfl 0 (by decide) (Or.inr ⟨_, lw_n_use hnn q187⟩) dX5_measureThrough_51 (fun v hv np1_0 => ?_)
  obtain ⟨x51, rfl⟩ : gl v := hv
  refine lv_aload_n hx hb dX5_measureThrough_54 rfl (lv_at hl 2 rfl) ?_
  refine wt_getp hx hb hts cfX4 hown hK hW (cg4 kp1) rfl 3 (by decide) (Or.inr ⟨_, lw_n_use hnn q193⟩) dX5_measureThrough_55 (fun v hv np1_3 => ?_)
  obtain ⟨x55, rfl⟩ : gl v := hv
  refine lv_lmul hx hb dX5_measureThrough_58 ?_
  refine lv_topl (fun x58 e58 => ?_)
  refine lv_aload_n hx hb dX5_measureThrough_59 rfl (lv_at hl 2 rfl) ?_
  refine wt_getp hx hb hts cfX4 hown hK hW (cg4 kp1) rfl 1 (by decide) (Or.inr ⟨_, lw_n_use hnn q189⟩) dX5_measureThrough_60 (fun v hv np1_1 => ?_)
  obtain ⟨x60, rfl⟩ : gl v := hv
  refine lv_aload_n hx hb dX5_measureThrough_63 rfl (lv_at hl 2 rfl) ?_
  refine wt_getp hx hb hts cfX4 hown hK hW (cg4 kp1) rfl 2 (by decide) (Or.inr ⟨_, lw_n_use hnn q191⟩) dX5_measureThrough_64 (fun v hv np1_2 => ?_)
  obtain ⟨x64, rfl⟩ : gl v := hv
  refine lv_lmul hx hb dX5_measureThrough_67 ?_
  refine lv_topl (fun x67 e67 => ?_)
  refine lv_ladd hx hb dX5_measureThrough_68 ?_
  refine lv_topl (fun x68 e68 => ?_)
  refine lv_lmul hx hb dX5_measureThrough_69 ?_
  refine lv_topl (fun x69 e69 => ?_)
  refine lv_aload_n hx hb dX5_measureThrough_70 rfl (lv_at hl 1 rfl) ?_
  refine lv_aload_n hx hb dX5_measureThrough_71 rfl (lv_at hl 2 rfl) ?_
  refine cc_l (wt_runV (As := [.ref p1]) (rest := [.long x69, .ref p2]) ⟨hx, hb, hml, hown, hts⟩ (m_X5_whole l N h0 k0 p1 kp1) wm_X5_whole q603 ⟨rfl, rfl⟩ ⟨Nat.le_of_ble_eq_true rfl, Nat.le_of_ble_eq_true rfl⟩ (cS_preV hK hW hT hnn hS (cg5 k0) rfl rfl trivial) rfl hl.1 rfl (Nat.le_of_ble_eq_true rfl) dX5_measureThrough_72 ⟨Nat.zero_le _, Nat.zero_le _⟩) hS (by decide) (fun x72 H locs hp hW hS oq => ?_)
  have nh0_2 := nh0_2.kept (oq _ nh0_2.lt (cE_not k0 (by decide)))
  have nh0_3 := nh0_3.kept (oq _ nh0_3.lt (cE_not k0 (by decide)))
  have np1_0 := np1_0.kept (oq _ np1_0.lt (cE_not kp1 (by decide)))
  have np1_3 := np1_3.kept (oq _ np1_3.lt (cE_not kp1 (by decide)))
  have np1_1 := np1_1.kept (oq _ np1_1.lt (cE_not kp1 (by decide)))
  have np1_2 := np1_2.kept (oq _ np1_2.lt (cE_not kp1 (by decide)))
  refine cc_v (wt_runV (As := [.long x69, .long x72]) (rest := []) ⟨hx, hb, hml, hown, hts⟩ (m_X0_set l N p2 kp2 x69 x72) wm_X0_set q607 ⟨rfl, rfl⟩ ⟨Nat.le_of_ble_eq_true rfl, Nat.le_of_ble_eq_true rfl⟩ (cS_preV hK hW hT hnn hS (cg0 kp2) rfl rfl trivial) rfl hl.1 rfl (Nat.le_of_ble_eq_true rfl) dX5_measureThrough_75 ⟨Nat.zero_le _, Nat.zero_le _⟩) hS (by decide) (fun H locs hW hS oq hB2 => ?_)
  have nh0_2 := nh0_2.kept (oq _ nh0_2.lt (cE_not k0 (by decide)))
  have nh0_3 := nh0_3.kept (oq _ nh0_3.lt (cE_not k0 (by decide)))
  have np1_0 := np1_0.kept (oq _ np1_0.lt (cE_not kp1 (by decide)))
  have np1_3 := np1_3.kept (oq _ np1_3.lt (cE_not kp1 (by decide)))
  have np1_1 := np1_1.kept (oq _ np1_1.lt (cE_not kp1 (by decide)))
  have np1_2 := np1_2.kept (oq _ np1_2.lt (cE_not kp1 (by decide)))
  exact W.vret hx hb hr (fun t ht _ => ⟨⟨(), rfl, trivial, cW_at ht hW, trivial⟩, hS.F ht⟩) hS.2.2 dX5_measureThrough_78
set_option maxHeartbeats 4000000 in
set_option maxRecDepth 100000 in
theorem m_X5_measureAdmittance (l : Launch) (N : c_N) (h0 : Nat) (k0 : N.2.2.1 h0 = some 5) (p1 : Nat) (kp1 : N.2.2.1 p1 = some 4) (p2 : Int32) (rp2 : ir p2 0 1) (p3 : Nat) (kp3 : N.2.2.1 p3 = some 0) : cMv l yX5_measureAdmittance cX5_measureAdmittance 14 { frames := 1, cells := 0, slots := 0, locals := 24 } [.ref h0, .ref p1, .int p2, .ref p3] N [0] cT0 cT0 := by
  refine Met.ofW (cc := cX5_measureAdmittance) (maxL := 14) (ret := none) (by decide) rfl ?_
  intro p e s m args below meth c s₁ B hml hv
  obtain ⟨rfl, ⟨hK, hW, hT, hnn⟩, hB⟩ := hv
  have hx := B.exec
  have hb := B.bytes
  have hr := B.returns
  have hts : ∀ w ∈ lw_g, w.before _ s = true := fun w h => atoms_spec (ws := wc_ws yX5_measureAdmittance cX5_measureAdmittance 14 none) B.pre w (List.mem_cons_of_mem _ h)
  have hown : s.vm.findClass RX5 = some m.cls := findClass_of_methodNamed B.named
  have hlocks := B.notSynchronized
  have hS : va_S (cE N [0]) s.heap s.heap [] := va_S.rf
  have hl := lv_entry ([.ref h0, .ref p1, .int p2, .ref p3]) (n := 14) (Nat.le_of_ble_eq_true rfl)
  rw [lg_entry_eq]
  generalize (lg_sl ([.ref h0, .ref p1, .int p2, .ref p3]) ++ List.replicate (14 - (lg_sl ([.ref h0, .ref p1, .int p2, .ref p3])).length) Slot.unset).toArray = ls at hl ⊢
  have hl : lv_has ls 14 [(0, .ref h0), (1, .ref p1), (2, .int p2), (3, .ref p3)] := hl
  refine wq_all ?_
  intro WW w1 w2
  have J97 : ∀ (H : Heap) (locs : List Loc) (ls : Array Slot) (v97_4 : Int64) (v97_6 : Int64) (w97_0 : Int64) (u97_0 : Int32) (u97_1 : Int64) (u97_2 : Int64) (u97_3 : Int64) (u97_4 : Int64), cW N H → va_S (cE N [0]) s.heap H locs → lv_has ls 14 [(3, .ref p3), (4, .long v97_4), (6, .long v97_6)] → ir u97_0 0 5 → wt_pin N.1 vwCl h0 5 3 (.int u97_0) H → wt_pin N.1 vwCl p1 4 0 (.long u97_1) H → wt_pin N.1 vwCl p1 4 1 (.long u97_2) H → wt_pin N.1 vwCl p1 4 2 (.long u97_3) H → wt_pin N.1 vwCl p1 4 3 (.long u97_4) H → WW H locs (F0 m 97 ls [.long w97_0]) := by
    intro H locs ls v97_4 v97_6 w97_0 u97_0 u97_1 u97_2 u97_3 u97_4 hW hS hl ru97_0 nh0_3 np1_0 np1_1 np1_2 np1_3
    refine w1 _ _ _ ?_
    refine lv_lstore (lv' := [(12, .long w97_0), (3, .ref p3), (4, .long v97_4), (6, .long v97_6)]) hx hb dX5_measureAdmittance_97 hl (by decide) rfl (fun ls hl => ?_)
    refine lv_aload_n hx hb dX5_measureAdmittance_99 rfl (lv_at hl 1 rfl) ?_
    refine lv_lload hx hb dX5_measureAdmittance_100 (lv_at hl 0 rfl) ?_
    refine lv_lload hx hb dX5_measureAdmittance_102 (lv_at hl 2 rfl) ?_
    refine lv_lload hx hb dX5_measureAdmittance_104 (lv_at hl 2 rfl) ?_
    refine lv_lmul hx hb dX5_measureAdmittance_106 ?_
    refine lv_topl (fun x106 e106 => ?_)
    refine lv_lload hx hb dX5_measureAdmittance_107 (lv_at hl 3 rfl) ?_
    refine lv_lload hx hb dX5_measureAdmittance_109 (lv_at hl 3 rfl) ?_
    refine lv_lmul hx hb dX5_measureAdmittance_111 ?_
    refine lv_topl (fun x111 e111 => ?_)
    refine lv_ladd hx hb dX5_measureAdmittance_112 ?_
    refine lv_topl (fun x112 e112 => ?_)
    refine cc_v (wt_runV (As := [.long w97_0, .long x112]) (rest := []) ⟨hx, hb, hml, hown, hts⟩ (m_X0_set l N p3 kp3 w97_0 x112) wm_X0_set q607 ⟨rfl, rfl⟩ ⟨Nat.le_of_ble_eq_true rfl, Nat.le_of_ble_eq_true rfl⟩ (cS_preV hK hW hT hnn hS (cg0 kp3) rfl rfl trivial) rfl hl.1 rfl (Nat.le_of_ble_eq_true rfl) dX5_measureAdmittance_113 ⟨Nat.zero_le _, Nat.zero_le _⟩) hS (by decide) (fun H locs hW hS oq hB2 => ?_)
    have nh0_3 := nh0_3.kept (oq _ nh0_3.lt (cE_not k0 (by decide)))
    have np1_0 := np1_0.kept (oq _ np1_0.lt (cE_not kp1 (by decide)))
    have np1_1 := np1_1.kept (oq _ np1_1.lt (cE_not kp1 (by decide)))
    have np1_2 := np1_2.kept (oq _ np1_2.lt (cE_not kp1 (by decide)))
    have np1_3 := np1_3.kept (oq _ np1_3.lt (cE_not kp1 (by decide)))
    exact W.vret hx hb hr (fun t ht _ => ⟨⟨(), rfl, trivial, cW_at ht hW, trivial⟩, hS.F ht⟩) hS.2.2 dX5_measureAdmittance_116
  refine lv_aload_n hx hb dX5_measureAdmittance_0 rfl (lv_at hl 0 rfl) ?_
  refine wt_get hx hb hts cfX5 hown hK hW (cg5 k0) rfl 1 (by decide) q140 dX5_measureAdmittance_1 (fun v hv => ?_)
  obtain ⟨x1, rfl, k1⟩ : gr N 28 v := hv
  refine lv_aload_n hx hb dX5_measureAdmittance_4 rfl (lv_at hl 0 rfl) ?_
  refine wt_getp hx hb hts cfX5 hown hK hW (cg5 k0) rfl 3 (by decide) (Or.inl (hts _ q145)) dX5_measureAdmittance_5 (fun v hv nh0_3 => ?_)
  obtain ⟨x5, rfl, r5⟩ : gi 0 5 v := hv
  refine wt_iald hx hb hK hW 0 (cg28 k1) rfl (ir_in r5 (by decide) (by decide)) dX5_measureAdmittance_8 (fun v hv => ?_)
  have hv : v = .int _ := hv
  subst hv
  refine lv_topi (fun x8 e8 => ?_)
  refine lv_i2l hx hb dX5_measureAdmittance_9 rfl ?_
  refine lv_topl (fun x9 e9 => ?_)
  have r9 : lr x9 (-2147483648) 2147483647 := by rw [e9]; exact i2l_r (ir_any x8)
  refine lv_aload_n hx hb dX5_measureAdmittance_10 rfl (lv_at hl 1 rfl) ?_
  refine wt_getp hx hb hts cfX4 hown hK hW (cg4 kp1) rfl 0 (by decide) (Or.inr ⟨_, lw_n_use hnn q187⟩) dX5_measureAdmittance_11 (fun v hv np1_0 => ?_)
  obtain ⟨x11, rfl⟩ : gl v := hv
  refine lv_lmul hx hb dX5_measureAdmittance_14 ?_
  refine lv_topl (fun x14 e14 => ?_)
  refine lv_lstore (lv' := [(4, .long x14), (0, .ref h0), (1, .ref p1), (2, .int p2), (3, .ref p3)]) hx hb dX5_measureAdmittance_15 hl (by decide) rfl (fun ls hl => ?_)
  refine lv_aload_n hx hb dX5_measureAdmittance_17 rfl (lv_at hl 1 rfl) ?_
  refine wt_get hx hb hts cfX5 hown hK hW (cg5 k0) rfl 0 (by decide) q137 dX5_measureAdmittance_18 (fun v hv => ?_)
  obtain ⟨x18, rfl, k18⟩ : gr N 27 v := hv
  refine lv_aload_n hx hb dX5_measureAdmittance_21 rfl (lv_at hl 1 rfl) ?_
  refine wt_rel hx hb hts cfX5 hown hK nh0_3 rfl (by decide) (Or.inl (hts _ q145)) dX5_measureAdmittance_22 ?_
  refine wt_iald hx hb hK hW 0 (cg27 k18) rfl (ir_in r5 (by decide) (by decide)) dX5_measureAdmittance_25 (fun v hv => ?_)
  have hv : v = .int _ := hv
  subst hv
  refine lv_topi (fun x25 e25 => ?_)
  refine lv_i2l hx hb dX5_measureAdmittance_26 rfl ?_
  refine lv_topl (fun x26 e26 => ?_)
  have r26 : lr x26 (-2147483648) 2147483647 := by rw [e26]; exact i2l_r (ir_any x25)
  refine lv_aload_n hx hb dX5_measureAdmittance_27 rfl (lv_at hl 2 rfl) ?_
  refine wt_getp hx hb hts cfX4 hown hK hW (cg4 kp1) rfl 1 (by decide) (Or.inr ⟨_, lw_n_use hnn q189⟩) dX5_measureAdmittance_28 (fun v hv np1_1 => ?_)
  obtain ⟨x28, rfl⟩ : gl v := hv
  refine lv_lmul hx hb dX5_measureAdmittance_31 ?_
  refine lv_topl (fun x31 e31 => ?_)
  refine lv_lstore (lv' := [(6, .long x31), (4, .long x14), (0, .ref h0), (1, .ref p1), (2, .int p2), (3, .ref p3)]) hx hb dX5_measureAdmittance_32 hl (by decide) rfl (fun ls hl => ?_)
  refine lv_aload_n hx hb dX5_measureAdmittance_34 rfl (lv_at hl 2 rfl) ?_
  refine wt_get hx hb hts cfX5 hown hK hW (cg5 k0) rfl 0 (by decide) q137 dX5_measureAdmittance_35 (fun v hv => ?_)
  obtain ⟨x35, rfl, k35⟩ : gr N 27 v := hv
  refine lv_aload_n hx hb dX5_measureAdmittance_38 rfl (lv_at hl 2 rfl) ?_
  refine wt_rel hx hb hts cfX5 hown hK nh0_3 rfl (by decide) (Or.inl (hts _ q145)) dX5_measureAdmittance_39 ?_
  refine wt_iald hx hb hK hW 0 (cg27 k35) rfl (ir_in r5 (by decide) (by decide)) dX5_measureAdmittance_42 (fun v hv => ?_)
  have hv : v = .int _ := hv
  subst hv
  refine lv_topi (fun x42 e42 => ?_)
  refine lv_i2l hx hb dX5_measureAdmittance_43 rfl ?_
  refine lv_topl (fun x43 e43 => ?_)
  have r43 : lr x43 (-2147483648) 2147483647 := by rw [e43]; exact i2l_r (ir_any x42)
  refine lv_aload_n hx hb dX5_measureAdmittance_44 rfl (lv_at hl 3 rfl) ?_
  refine wt_getp hx hb hts cfX4 hown hK hW (cg4 kp1) rfl 3 (by decide) (Or.inr ⟨_, lw_n_use hnn q193⟩) dX5_measureAdmittance_45 (fun v hv np1_3 => ?_)
  obtain ⟨x45, rfl⟩ : gl v := hv
  refine lv_lmul hx hb dX5_measureAdmittance_48 ?_
  refine lv_topl (fun x48 e48 => ?_)
  refine lv_lstore (lv' := [(8, .long x48), (6, .long x31), (4, .long x14), (0, .ref h0), (1, .ref p1), (2, .int p2), (3, .ref p3)]) hx hb dX5_measureAdmittance_49 hl (by decide) rfl (fun ls hl => ?_)
  refine lv_aload_n hx hb dX5_measureAdmittance_51 rfl (lv_at hl 3 rfl) ?_
  refine wt_get hx hb hts cfX5 hown hK hW (cg5 k0) rfl 1 (by decide) q140 dX5_measureAdmittance_52 (fun v hv => ?_)
  obtain ⟨x52, rfl, k52⟩ : gr N 28 v := hv
  refine lv_aload_n hx hb dX5_measureAdmittance_55 rfl (lv_at hl 3 rfl) ?_
  refine wt_rel hx hb hts cfX5 hown hK nh0_3 rfl (by decide) (Or.inl (hts _ q145)) dX5_measureAdmittance_56 ?_
  refine wt_iald hx hb hK hW 0 (cg28 k52) rfl (ir_in r5 (by decide) (by decide)) dX5_measureAdmittance_59 (fun v hv => ?_)
  have hv : v = .int _ := hv
  subst hv
  refine lv_topi (fun x59 e59 => ?_)
  refine lv_i2l hx hb dX5_measureAdmittance_60 rfl ?_
  refine lv_topl (fun x60 e60 => ?_)
  have r60 : lr x60 (-2147483648) 2147483647 := by rw [e60]; exact i2l_r (ir_any x59)
  refine lv_aload_n hx hb dX5_measureAdmittance_61 rfl (lv_at hl 4 rfl) ?_
  refine wt_getp hx hb hts cfX4 hown hK hW (cg4 kp1) rfl 2 (by decide) (Or.inr ⟨_, lw_n_use hnn q191⟩) dX5_measureAdmittance_62 (fun v hv np1_2 => ?_)
  obtain ⟨x62, rfl⟩ : gl v := hv
  refine lv_lmul hx hb dX5_measureAdmittance_65 ?_
  refine lv_topl (fun x65 e65 => ?_)
  refine lv_lstore (lv' := [(10, .long x65), (8, .long x48), (6, .long x31), (4, .long x14), (0, .ref h0), (1, .ref p1), (2, .int p2), (3, .ref p3)]) hx hb dX5_measureAdmittance_66 hl (by decide) rfl (fun ls hl => ?_)
  refine lv_iload_n hx hb dX5_measureAdmittance_68 rfl (lv_at hl 6 rfl) ?_
  refine lv_if_eq (tgt := 86) hx hb dX5_measureAdmittance_69 (by decide) (fun c69 => ?_) (fun c69 => ?_)
  · have rp2_69 : ir p2 0 0 := rf_eq c69 (ir_c (0) (by decide) : ir (0 : Int32) (0) (0))
    refine lv_lload hx hb dX5_measureAdmittance_86 (lv_at hl 3 rfl) ?_
    refine lv_lload hx hb dX5_measureAdmittance_88 (lv_at hl 1 rfl) ?_
    refine lv_lmul hx hb dX5_measureAdmittance_90 ?_
    refine lv_topl (fun x90 e90 => ?_)
    refine lv_lload hx hb dX5_measureAdmittance_91 (lv_at hl 2 rfl) ?_
    refine lv_lload hx hb dX5_measureAdmittance_93 (lv_at hl 0 rfl) ?_
    refine lv_lmul hx hb dX5_measureAdmittance_95 ?_
    refine lv_topl (fun x95 e95 => ?_)
    refine lv_ladd hx hb dX5_measureAdmittance_96 ?_
    refine lv_topl (fun x96 e96 => ?_)
    exact w2 _ _ _ (J97 _ _ _ x14 x31 x96 x5 x11 x28 x62 x45 hW hS (lv_sub hl [7, 3, 2] rfl) r5 nh0_3 np1_0 np1_1 np1_2 np1_3)
  · have rp2_69 : ir p2 1 1 := rf_ne0 c69 rp2
    refine lv_lload hx hb dX5_measureAdmittance_72 (lv_at hl 3 rfl) ?_
    refine lv_lload hx hb dX5_measureAdmittance_74 (lv_at hl 0 rfl) ?_
    refine lv_lmul hx hb dX5_measureAdmittance_76 ?_
    refine lv_topl (fun x76 e76 => ?_)
    refine lv_lload hx hb dX5_measureAdmittance_77 (lv_at hl 2 rfl) ?_
    refine lv_lload hx hb dX5_measureAdmittance_79 (lv_at hl 1 rfl) ?_
    refine lv_lmul hx hb dX5_measureAdmittance_81 ?_
    refine lv_topl (fun x81 e81 => ?_)
    refine lv_lsub hx hb dX5_measureAdmittance_82 ?_
    refine lv_topl (fun x82 e82 => ?_)
    refine lv_goto (tgt := 97) hx hb dX5_measureAdmittance_83 (by decide) ?_
    exact w2 _ _ _ (J97 _ _ _ x14 x31 x82 x5 x11 x28 x62 x45 hW hS (lv_sub hl [7, 3, 2] rfl) r5 nh0_3 np1_0 np1_1 np1_2 np1_3)
set_option maxHeartbeats 4000000 in
set_option maxRecDepth 100000 in
theorem m_X5_throwsNothingBack (l : Launch) (N : c_N) (h0 : Nat) (k0 : N.2.2.1 h0 = some 5) (p1 : Nat) (kp1 : N.2.2.1 p1 = some 4) (p2 : Nat) (kp2 : N.2.2.1 p2 = some 4) : cMi l yX5_throwsNothingBack cX5_throwsNothingBack 11 .boolean { frames := 0, cells := 0, slots := 0, locals := 0 } [.ref h0, .ref p1, .ref p2] N [] cT0 (fun r => ir r 0 1) := by
  refine Met.ofW (cc := cX5_throwsNothingBack) (maxL := 11) (ret := some .boolean) (by decide) rfl ?_
  intro p e s m args below meth c s₁ B hml hv
  obtain ⟨rfl, ⟨hK, hW, hT, hnn⟩, hB⟩ := hv
  have hx := B.exec
  have hb := B.bytes
  have hr := B.returns
  have hts : ∀ w ∈ lw_g, w.before _ s = true := fun w h => atoms_spec (ws := wc_ws yX5_throwsNothingBack cX5_throwsNothingBack 11 (some .boolean)) B.pre w (List.mem_cons_of_mem _ h)
  have hown : s.vm.findClass RX5 = some m.cls := findClass_of_methodNamed B.named
  have hlocks := B.notSynchronized
  have hS : va_S (cE N []) s.heap s.heap [] := va_S.rf
  have hl := lv_entry ([.ref h0, .ref p1, .ref p2]) (n := 11) (Nat.le_of_ble_eq_true rfl)
  rw [lg_entry_eq]
  generalize (lg_sl ([.ref h0, .ref p1, .ref p2]) ++ List.replicate (11 - (lg_sl ([.ref h0, .ref p1, .ref p2])).length) Slot.unset).toArray = ls at hl ⊢
  have hl : lv_has ls 11 [(0, .ref h0), (1, .ref p1), (2, .ref p2)] := hl
  refine wq_all ?_
  intro WW w1 w2
  refine lv_aload_n hx hb dX5_throwsNothingBack_0 rfl (lv_at hl 1 rfl) ?_
  refine wt_getp hx hb hts cfX4 hown hK hW (cg4 kp1) rfl 0 (by decide) (Or.inr ⟨_, lw_n_use hnn q187⟩) dX5_throwsNothingBack_1 (fun v hv np1_0 => ?_)
  obtain ⟨x1, rfl⟩ : gl v := hv
  refine lv_aload_n hx hb dX5_throwsNothingBack_4 rfl (lv_at hl 2 rfl) ?_
  refine wt_getp hx hb hts cfX4 hown hK hW (cg4 kp2) rfl 0 (by decide) (Or.inr ⟨_, lw_n_use hnn q187⟩) dX5_throwsNothingBack_5 (fun v hv np2_0 => ?_)
  obtain ⟨x5, rfl⟩ : gl v := hv
  refine lv_lmul hx hb dX5_throwsNothingBack_8 ?_
  refine lv_topl (fun x8 e8 => ?_)
  refine lv_aload_n hx hb dX5_throwsNothingBack_9 rfl (lv_at hl 1 rfl) ?_
  refine wt_getp hx hb hts cfX4 hown hK hW (cg4 kp1) rfl 1 (by decide) (Or.inr ⟨_, lw_n_use hnn q189⟩) dX5_throwsNothingBack_10 (fun v hv np1_1 => ?_)
  obtain ⟨x10, rfl⟩ : gl v := hv
  refine lv_aload_n hx hb dX5_throwsNothingBack_13 rfl (lv_at hl 2 rfl) ?_
  refine wt_getp hx hb hts cfX4 hown hK hW (cg4 kp2) rfl 2 (by decide) (Or.inr ⟨_, lw_n_use hnn q191⟩) dX5_throwsNothingBack_14 (fun v hv np2_2 => ?_)
  obtain ⟨x14, rfl⟩ : gl v := hv
  refine lv_lmul hx hb dX5_throwsNothingBack_17 ?_
  refine lv_topl (fun x17 e17 => ?_)
  refine lv_lsub hx hb dX5_throwsNothingBack_18 ?_
  refine lv_topl (fun x18 e18 => ?_)
  refine lv_lstore_n (lv' := [(3, .long x18), (0, .ref h0), (1, .ref p1), (2, .ref p2)]) hx hb dX5_throwsNothingBack_19 rfl hl (by decide) rfl (fun ls hl => ?_)
  refine lv_aload_n hx hb dX5_throwsNothingBack_20 rfl (lv_at hl 2 rfl) ?_
  refine wt_getp hx hb hts cfX4 hown hK hW (cg4 kp1) rfl 3 (by decide) (Or.inr ⟨_, lw_n_use hnn q193⟩) dX5_throwsNothingBack_21 (fun v hv np1_3 => ?_)
  obtain ⟨x21, rfl⟩ : gl v := hv
  refine lv_aload_n hx hb dX5_throwsNothingBack_24 rfl (lv_at hl 3 rfl) ?_
  refine wt_getp hx hb hts cfX4 hown hK hW (cg4 kp2) rfl 3 (by decide) (Or.inr ⟨_, lw_n_use hnn q193⟩) dX5_throwsNothingBack_25 (fun v hv np2_3 => ?_)
  obtain ⟨x25, rfl⟩ : gl v := hv
  refine lv_lmul hx hb dX5_throwsNothingBack_28 ?_
  refine lv_topl (fun x28 e28 => ?_)
  refine lv_aload_n hx hb dX5_throwsNothingBack_29 rfl (lv_at hl 2 rfl) ?_
  refine wt_getp hx hb hts cfX4 hown hK hW (cg4 kp1) rfl 2 (by decide) (Or.inr ⟨_, lw_n_use hnn q191⟩) dX5_throwsNothingBack_30 (fun v hv np1_2 => ?_)
  obtain ⟨x30, rfl⟩ : gl v := hv
  refine lv_aload_n hx hb dX5_throwsNothingBack_33 rfl (lv_at hl 3 rfl) ?_
  refine wt_getp hx hb hts cfX4 hown hK hW (cg4 kp2) rfl 1 (by decide) (Or.inr ⟨_, lw_n_use hnn q189⟩) dX5_throwsNothingBack_34 (fun v hv np2_1 => ?_)
  obtain ⟨x34, rfl⟩ : gl v := hv
  refine lv_lmul hx hb dX5_throwsNothingBack_37 ?_
  refine lv_topl (fun x37 e37 => ?_)
  refine lv_lsub hx hb dX5_throwsNothingBack_38 ?_
  refine lv_topl (fun x38 e38 => ?_)
  refine lv_lstore (lv' := [(5, .long x38), (3, .long x18), (0, .ref h0), (1, .ref p1), (2, .ref p2)]) hx hb dX5_throwsNothingBack_39 hl (by decide) rfl (fun ls hl => ?_)
  refine lv_aload_n hx hb dX5_throwsNothingBack_41 rfl (lv_at hl 2 rfl) ?_
  refine wt_get hx hb hts cfX5 hown hK hW (cg5 k0) rfl 0 (by decide) q137 dX5_throwsNothingBack_42 (fun v hv => ?_)
  obtain ⟨x42, rfl, k42⟩ : gr N 27 v := hv
  refine lv_aload_n hx hb dX5_throwsNothingBack_45 rfl (lv_at hl 2 rfl) ?_
  refine wt_getp hx hb hts cfX5 hown hK hW (cg5 k0) rfl 2 (by decide) (Or.inl (hts _ q143)) dX5_throwsNothingBack_46 (fun v hv nh0_2 => ?_)
  obtain ⟨x46, rfl, r46⟩ : gi 0 5 v := hv
  refine wt_iald hx hb hK hW 0 (cg27 k42) rfl (ir_in r46 (by decide) (by decide)) dX5_throwsNothingBack_49 (fun v hv => ?_)
  have hv : v = .int _ := hv
  subst hv
  refine lv_topi (fun x49 e49 => ?_)
  refine lv_aload_n hx hb dX5_throwsNothingBack_50 rfl (lv_at hl 2 rfl) ?_
  refine wt_get hx hb hts cfX5 hown hK hW (cg5 k0) rfl 1 (by decide) q140 dX5_throwsNothingBack_51 (fun v hv => ?_)
  obtain ⟨x51, rfl, k51⟩ : gr N 28 v := hv
  refine lv_aload_n hx hb dX5_throwsNothingBack_54 rfl (lv_at hl 2 rfl) ?_
  refine wt_getp hx hb hts cfX5 hown hK hW (cg5 k0) rfl 3 (by decide) (Or.inl (hts _ q145)) dX5_throwsNothingBack_55 (fun v hv nh0_3 => ?_)
  obtain ⟨x55, rfl, r55⟩ : gi 0 5 v := hv
  refine wt_iald hx hb hK hW 0 (cg28 k51) rfl (ir_in r55 (by decide) (by decide)) dX5_throwsNothingBack_58 (fun v hv => ?_)
  have hv : v = .int _ := hv
  subst hv
  refine lv_topi (fun x58 e58 => ?_)
  refine lv_imul hx hb dX5_throwsNothingBack_59 ?_
  refine lv_topi (fun x59 e59 => ?_)
  refine lv_i2l hx hb dX5_throwsNothingBack_60 rfl ?_
  refine lv_topl (fun x60 e60 => ?_)
  have r60 : lr x60 (-2147483648) 2147483647 := by rw [e60]; exact i2l_r (ir_any x59)
  refine lv_lload_n hx hb dX5_throwsNothingBack_61 rfl (lv_at hl 1 rfl) ?_
  refine lv_lmul hx hb dX5_throwsNothingBack_62 ?_
  refine lv_topl (fun x62 e62 => ?_)
  refine lv_aload_n hx hb dX5_throwsNothingBack_63 rfl (lv_at hl 2 rfl) ?_
  refine wt_get hx hb hts cfX5 hown hK hW (cg5 k0) rfl 1 (by decide) q140 dX5_throwsNothingBack_64 (fun v hv => ?_)
  obtain ⟨x64, rfl, k64⟩ : gr N 28 v := hv
  refine lv_aload_n hx hb dX5_throwsNothingBack_67 rfl (lv_at hl 2 rfl) ?_
  refine wt_rel hx hb hts cfX5 hown hK nh0_2 rfl (by decide) (Or.inl (hts _ q143)) dX5_throwsNothingBack_68 ?_
  refine wt_iald hx hb hK hW 0 (cg28 k64) rfl (ir_in r46 (by decide) (by decide)) dX5_throwsNothingBack_71 (fun v hv => ?_)
  have hv : v = .int _ := hv
  subst hv
  refine lv_topi (fun x71 e71 => ?_)
  refine lv_aload_n hx hb dX5_throwsNothingBack_72 rfl (lv_at hl 2 rfl) ?_
  refine wt_get hx hb hts cfX5 hown hK hW (cg5 k0) rfl 0 (by decide) q137 dX5_throwsNothingBack_73 (fun v hv => ?_)
  obtain ⟨x73, rfl, k73⟩ : gr N 27 v := hv
  refine lv_aload_n hx hb dX5_throwsNothingBack_76 rfl (lv_at hl 2 rfl) ?_
  refine wt_rel hx hb hts cfX5 hown hK nh0_3 rfl (by decide) (Or.inl (hts _ q145)) dX5_throwsNothingBack_77 ?_
  refine wt_iald hx hb hK hW 0 (cg27 k73) rfl (ir_in r55 (by decide) (by decide)) dX5_throwsNothingBack_80 (fun v hv => ?_)
  have hv : v = .int _ := hv
  subst hv
  refine lv_topi (fun x80 e80 => ?_)
  refine lv_imul hx hb dX5_throwsNothingBack_81 ?_
  refine lv_topi (fun x81 e81 => ?_)
  refine lv_i2l hx hb dX5_throwsNothingBack_82 rfl ?_
  refine lv_topl (fun x82 e82 => ?_)
  have r82 : lr x82 (-2147483648) 2147483647 := by rw [e82]; exact i2l_r (ir_any x81)
  refine lv_lload hx hb dX5_throwsNothingBack_83 (lv_at hl 0 rfl) ?_
  refine lv_lmul hx hb dX5_throwsNothingBack_85 ?_
  refine lv_topl (fun x85 e85 => ?_)
  refine wl_eq (tgt := 92) hx hb dX5_throwsNothingBack_86 dX5_throwsNothingBack_87 (by decide) (fun c86 => ?_) (fun c86 => ?_)
  · refine lv_aload_n hx hb dX5_throwsNothingBack_92 rfl (lv_at hl 3 rfl) ?_
    refine wt_rel hx hb hts cfX4 hown hK np1_0 rfl (by decide) (Or.inr ⟨_, lw_n_use hnn q187⟩) dX5_throwsNothingBack_93 ?_
    refine lv_aload_n hx hb dX5_throwsNothingBack_96 rfl (lv_at hl 4 rfl) ?_
    refine wt_rel hx hb hts cfX4 hown hK np2_1 rfl (by decide) (Or.inr ⟨_, lw_n_use hnn q189⟩) dX5_throwsNothingBack_97 ?_
    refine lv_lmul hx hb dX5_throwsNothingBack_100 ?_
    refine lv_topl (fun x100 e100 => ?_)
    refine lv_aload_n hx hb dX5_throwsNothingBack_101 rfl (lv_at hl 3 rfl) ?_
    refine wt_rel hx hb hts cfX4 hown hK np1_1 rfl (by decide) (Or.inr ⟨_, lw_n_use hnn q189⟩) dX5_throwsNothingBack_102 ?_
    refine lv_aload_n hx hb dX5_throwsNothingBack_105 rfl (lv_at hl 4 rfl) ?_
    refine wt_rel hx hb hts cfX4 hown hK np2_3 rfl (by decide) (Or.inr ⟨_, lw_n_use hnn q193⟩) dX5_throwsNothingBack_106 ?_
    refine lv_lmul hx hb dX5_throwsNothingBack_109 ?_
    refine lv_topl (fun x109 e109 => ?_)
    refine lv_ladd hx hb dX5_throwsNothingBack_110 ?_
    refine lv_topl (fun x110 e110 => ?_)
    refine lv_lstore (lv' := [(7, .long x110), (5, .long x38), (3, .long x18), (0, .ref h0), (1, .ref p1), (2, .ref p2)]) hx hb dX5_throwsNothingBack_111 hl (by decide) rfl (fun ls hl => ?_)
    refine lv_aload_n hx hb dX5_throwsNothingBack_113 rfl (lv_at hl 4 rfl) ?_
    refine wt_rel hx hb hts cfX4 hown hK np1_2 rfl (by decide) (Or.inr ⟨_, lw_n_use hnn q191⟩) dX5_throwsNothingBack_114 ?_
    refine lv_aload_n hx hb dX5_throwsNothingBack_117 rfl (lv_at hl 5 rfl) ?_
    refine wt_rel hx hb hts cfX4 hown hK np2_0 rfl (by decide) (Or.inr ⟨_, lw_n_use hnn q187⟩) dX5_throwsNothingBack_118 ?_
    refine lv_lmul hx hb dX5_throwsNothingBack_121 ?_
    refine lv_topl (fun x121 e121 => ?_)
    refine lv_aload_n hx hb dX5_throwsNothingBack_122 rfl (lv_at hl 4 rfl) ?_
    refine wt_rel hx hb hts cfX4 hown hK np1_3 rfl (by decide) (Or.inr ⟨_, lw_n_use hnn q193⟩) dX5_throwsNothingBack_123 ?_
    refine lv_aload_n hx hb dX5_throwsNothingBack_126 rfl (lv_at hl 5 rfl) ?_
    refine wt_rel hx hb hts cfX4 hown hK np2_2 rfl (by decide) (Or.inr ⟨_, lw_n_use hnn q191⟩) dX5_throwsNothingBack_127 ?_
    refine lv_lmul hx hb dX5_throwsNothingBack_130 ?_
    refine lv_topl (fun x130 e130 => ?_)
    refine lv_ladd hx hb dX5_throwsNothingBack_131 ?_
    refine lv_topl (fun x131 e131 => ?_)
    refine lv_lstore (lv' := [(9, .long x131), (7, .long x110), (5, .long x38), (3, .long x18), (0, .ref h0), (1, .ref p1), (2, .ref p2)]) hx hb dX5_throwsNothingBack_132 hl (by decide) rfl (fun ls hl => ?_)
    refine lv_aload_n hx hb dX5_throwsNothingBack_134 rfl (lv_at hl 4 rfl) ?_
    refine wt_get hx hb hts cfX5 hown hK hW (cg5 k0) rfl 0 (by decide) q137 dX5_throwsNothingBack_135 (fun v hv => ?_)
    obtain ⟨x135, rfl, k135⟩ : gr N 27 v := hv
    refine lv_aload_n hx hb dX5_throwsNothingBack_138 rfl (lv_at hl 4 rfl) ?_
    refine wt_rel hx hb hts cfX5 hown hK nh0_2 rfl (by decide) (Or.inl (hts _ q143)) dX5_throwsNothingBack_139 ?_
    refine wt_iald hx hb hK hW 0 (cg27 k135) rfl (ir_in r46 (by decide) (by decide)) dX5_throwsNothingBack_142 (fun v hv => ?_)
    have hv : v = .int _ := hv
    subst hv
    refine lv_topi (fun x142 e142 => ?_)
    refine lv_aload_n hx hb dX5_throwsNothingBack_143 rfl (lv_at hl 4 rfl) ?_
    refine wt_get hx hb hts cfX5 hown hK hW (cg5 k0) rfl 0 (by decide) q137 dX5_throwsNothingBack_144 (fun v hv => ?_)
    obtain ⟨x144, rfl, k144⟩ : gr N 27 v := hv
    refine lv_aload_n hx hb dX5_throwsNothingBack_147 rfl (lv_at hl 4 rfl) ?_
    refine wt_rel hx hb hts cfX5 hown hK nh0_3 rfl (by decide) (Or.inl (hts _ q145)) dX5_throwsNothingBack_148 ?_
    refine wt_iald hx hb hK hW 0 (cg27 k144) rfl (ir_in r55 (by decide) (by decide)) dX5_throwsNothingBack_151 (fun v hv => ?_)
    have hv : v = .int _ := hv
    subst hv
    refine lv_topi (fun x151 e151 => ?_)
    refine lv_imul hx hb dX5_throwsNothingBack_152 ?_
    refine lv_topi (fun x152 e152 => ?_)
    refine lv_i2l hx hb dX5_throwsNothingBack_153 rfl ?_
    refine lv_topl (fun x153 e153 => ?_)
    have r153 : lr x153 (-2147483648) 2147483647 := by rw [e153]; exact i2l_r (ir_any x152)
    refine lv_lload hx hb dX5_throwsNothingBack_154 (lv_at hl 1 rfl) ?_
    refine lv_lmul hx hb dX5_throwsNothingBack_156 ?_
    refine lv_topl (fun x156 e156 => ?_)
    refine lv_aload_n hx hb dX5_throwsNothingBack_157 rfl (lv_at hl 4 rfl) ?_
    refine wt_get hx hb hts cfX5 hown hK hW (cg5 k0) rfl 1 (by decide) q140 dX5_throwsNothingBack_158 (fun v hv => ?_)
    obtain ⟨x158, rfl, k158⟩ : gr N 28 v := hv
    refine lv_aload_n hx hb dX5_throwsNothingBack_161 rfl (lv_at hl 4 rfl) ?_
    refine wt_rel hx hb hts cfX5 hown hK nh0_2 rfl (by decide) (Or.inl (hts _ q143)) dX5_throwsNothingBack_162 ?_
    refine wt_iald hx hb hK hW 0 (cg28 k158) rfl (ir_in r46 (by decide) (by decide)) dX5_throwsNothingBack_165 (fun v hv => ?_)
    have hv : v = .int _ := hv
    subst hv
    refine lv_topi (fun x165 e165 => ?_)
    refine lv_aload_n hx hb dX5_throwsNothingBack_166 rfl (lv_at hl 4 rfl) ?_
    refine wt_get hx hb hts cfX5 hown hK hW (cg5 k0) rfl 1 (by decide) q140 dX5_throwsNothingBack_167 (fun v hv => ?_)
    obtain ⟨x167, rfl, k167⟩ : gr N 28 v := hv
    refine lv_aload_n hx hb dX5_throwsNothingBack_170 rfl (lv_at hl 4 rfl) ?_
    refine wt_rel hx hb hts cfX5 hown hK nh0_3 rfl (by decide) (Or.inl (hts _ q145)) dX5_throwsNothingBack_171 ?_
    refine wt_iald hx hb hK hW 0 (cg28 k167) rfl (ir_in r55 (by decide) (by decide)) dX5_throwsNothingBack_174 (fun v hv => ?_)
    have hv : v = .int _ := hv
    subst hv
    refine lv_topi (fun x174 e174 => ?_)
    refine lv_imul hx hb dX5_throwsNothingBack_175 ?_
    refine lv_topi (fun x175 e175 => ?_)
    refine lv_i2l hx hb dX5_throwsNothingBack_176 rfl ?_
    refine lv_topl (fun x176 e176 => ?_)
    have r176 : lr x176 (-2147483648) 2147483647 := by rw [e176]; exact i2l_r (ir_any x175)
    refine lv_lload hx hb dX5_throwsNothingBack_177 (lv_at hl 0 rfl) ?_
    refine lv_lmul hx hb dX5_throwsNothingBack_179 ?_
    refine lv_topl (fun x179 e179 => ?_)
    refine wl_ne (tgt := 188) hx hb dX5_throwsNothingBack_180 dX5_throwsNothingBack_181 (by decide) (fun c180 => ?_) (fun c180 => ?_)
    · refine lv_iconst (v := 0) hx hb dX5_throwsNothingBack_188 (by decide) ?_
      exact W.zret (v := (0 : Int32)) hx hb hr rfl (fun t ht _ => ⟨⟨(0 : Int32), (), rfl, (⟨by decide, by decide⟩), cW_at ht hW⟩, hS.F ht⟩) hS.2.2 dX5_throwsNothingBack_189
    · refine lv_iconst (v := 1) hx hb dX5_throwsNothingBack_184 (by decide) ?_
      refine lv_goto (tgt := 189) hx hb dX5_throwsNothingBack_185 (by decide) ?_
      exact W.zret (v := (1 : Int32)) hx hb hr rfl (fun t ht _ => ⟨⟨(1 : Int32), (), rfl, (⟨by decide, by decide⟩), cW_at ht hW⟩, hS.F ht⟩) hS.2.2 dX5_throwsNothingBack_189
  · refine lv_iconst (v := 0) hx hb dX5_throwsNothingBack_90 (by decide) ?_
    exact W.zret (v := (0 : Int32)) hx hb hr rfl (fun t ht _ => ⟨⟨(0 : Int32), (), rfl, (⟨by decide, by decide⟩), cW_at ht hW⟩, hS.F ht⟩) hS.2.2 dX5_throwsNothingBack_91
