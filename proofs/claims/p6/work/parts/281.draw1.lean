set_option maxHeartbeats 4000000 in
set_option maxRecDepth 100000 in
theorem d_X10_share (l : Launch) (N : c_N) (h0 : Nat) (k0 : N.2.2.1 h0 = some 10) (p1 : Int32) : cMiD l yX10_share cX10_share 3 .int { frames := 6, cells := 0, slots := 0, locals := 155 } [.ref h0, .int p1] N [0, 2, 4, 8] cT0 (fun _ => True) := by
  refine MetD.ofW (cc := cX10_share) (maxL := 3) (ret := some .int) (by decide) rfl ?_
  intro p e s m args below meth c s₁ B hml hv hd0
  refine W.base2 ?_
  obtain ⟨rfl, ⟨hK, hW, hT, hnn⟩, hB⟩ := hv
  have hx := B.exec
  have hb := B.bytes
  have hr := B.returns
  have hts : ∀ w ∈ lw_g, w.before _ s = true := fun w h => atoms_spec (ws := wc_ws yX10_share cX10_share 3 (some .int)) B.pre w (List.mem_cons_of_mem _ h)
  have hown : s.vm.findClass RX10 = some m.cls := findClass_of_methodNamed B.named
  have hlocks := B.notSynchronized
  have hS : va_S (cE N [0, 2, 4, 8]) s.heap s.heap [] := va_S.rf
  have hl := lv_entry ([.ref h0, .int p1]) (n := 3) (Nat.le_of_ble_eq_true rfl)
  rw [lg_entry_eq]
  generalize (lg_sl ([.ref h0, .int p1]) ++ List.replicate (3 - (lg_sl ([.ref h0, .int p1])).length) Slot.unset).toArray = ls at hl ⊢
  have hl : lv_has ls 3 [(0, .ref h0), (1, .int p1)] := hl
  refine wq_all ?_
  intro WW w1 w2
  refine lv_iload_n hx hb dX10_share_0 rfl (lv_at hl 1 rfl) ?_
  refine cp_i (wt_runS (As := [.int p1]) (rest := []) ⟨hx, hb, hml, hown, hts⟩ (m_X10_isMark l p1) wm_X10_isMark q539 ⟨rfl, rfl⟩ ⟨Nat.le_of_ble_eq_true rfl, Nat.le_of_ble_eq_true rfl⟩ pS_pre rfl hl.1 rfl (Nat.le_of_ble_eq_true rfl) dX10_share_1 ⟨Nat.zero_le _, Nat.zero_le _⟩) hW hS (fun x1 H locs hp hW hS oq => ?_)
  obtain ⟨r1, b1⟩ := hp
  refine lv_if_ne (tgt := 10) hx hb dX10_share_4 (by decide) (fun c4 => ?_) (fun c4 => ?_)
  · have rx1_4 : ir x1 1 1 := rf_ne0 c4 r1
    have bx1_4 := b1 c4
    refine lv_aload_n hx hb dX10_share_10 rfl (lv_at hl 0 rfl) ?_
    refine lv_aload_n hx hb dX10_share_11 rfl (lv_at hl 0 rfl) ?_
    refine wt_get hx hb hts cfX10 hown hK hW (cg10 k0) rfl 1 (by decide) q294 dX10_share_12 (fun v hv => ?_)
    obtain ⟨x12, rfl, k12⟩ : gr N 3 v := hv
    refine wt_getp hx hb hts cfX3 hown hK hW (cg3 k12) rfl 1 (by decide) (Or.inr ⟨_, lw_n_use hnn q46⟩) dX10_share_15 (fun v hv nx12_1 => ?_)
    obtain ⟨x15, rfl, r15⟩ : gi 0 24 v := hv
    refine lv_iload_n hx hb dX10_share_18 rfl (lv_at hl 1 rfl) ?_
    refine cc_r (wt_runV (As := [.int x15, .int p1]) (rest := []) ⟨hx, hb, hml, hown, hts⟩ (m_X10_beginning l N h0 k0 x15 p1 bx1_4) wm_X10_beginning q543 ⟨rfl, rfl⟩ ⟨Nat.le_of_ble_eq_true rfl, Nat.le_of_ble_eq_true rfl⟩ (cS_preV hK hW hT hnn hS (cg10 k0) rfl rfl trivial) rfl hl.1 rfl (Nat.le_of_ble_eq_true rfl) dX10_share_19 ⟨Nat.zero_le _, Nat.zero_le _⟩) hS (by decide) (fun x19 H locs k19 hW hS oq => ?_)
    have nx12_1 := nx12_1.kept (oq _ nx12_1.lt (cE_not k12 (by decide)))
    refine lv_astore_n (lv' := [(2, .ref x19), (0, .ref h0), (1, .int p1)]) hx hb dX10_share_22 rfl hl (by decide) rfl (fun ls hl => ?_)
    refine lv_aload_n hx hb dX10_share_23 rfl (lv_at hl 0 rfl) ?_
    refine wt_getp hx hb hts cfX4 hown hK hW (cg4 k19) rfl 4 (by decide) (Or.inr ⟨_, lw_n_use hnn q197⟩) dX10_share_24 (fun v hv nx19_4 => ?_)
    obtain ⟨x24, rfl, r24⟩ : gi 0 1 v := hv
    refine lv_if_eq (tgt := 32) hx hb dX10_share_27 (by decide) (fun c27 => ?_) (fun c27 => ?_)
    · have rx24_27 : ir x24 0 0 := rf_eq c27 (ir_c (0) (by decide) : ir (0 : Int32) (0) (0))
      refine lv_aload_n hx hb dX10_share_32 rfl (lv_at hl 1 rfl) ?_
      refine wt_get hx hb hts cfX10 hown hK hW (cg10 k0) rfl 3 (by decide) q296 dX10_share_33 (fun v hv => ?_)
      obtain ⟨x33, rfl, k33⟩ : gr N 5 v := hv
      refine lv_aload_n hx hb dX10_share_36 rfl (lv_at hl 0 rfl) ?_
      refine lv_aload_n hx hb dX10_share_37 rfl (lv_at hl 1 rfl) ?_
      refine wt_get hx hb hts cfX10 hown hK hW (cg10 k0) rfl 9 (by decide) q302 dX10_share_38 (fun v hv => ?_)
      obtain ⟨x38, rfl, k38⟩ : gr N 0 v := hv
      refine cc_v (wt_runV (As := [.ref x19, .ref x38]) (rest := []) ⟨hx, hb, hml, hown, hts⟩ (m_X5_measureBack l N x33 k33 x19 k19 x38 k38) wm_X5_measureBack q599 ⟨rfl, rfl⟩ ⟨Nat.le_of_ble_eq_true rfl, Nat.le_of_ble_eq_true rfl⟩ (cS_preV hK hW hT hnn hS (cg5 k33) rfl rfl trivial) rfl hl.1 rfl (Nat.le_of_ble_eq_true rfl) dX10_share_41 ⟨Nat.zero_le _, Nat.zero_le _⟩) hS (by decide) (fun H locs hW hS oq hB2 => ?_)
      have nx12_1 := nx12_1.kept (oq _ nx12_1.lt (cE_not k12 (by decide)))
      have nx19_4 := nx19_4.kept (oq _ nx19_4.lt (cE_not k19 (by decide)))
      refine lv_aload_n hx hb dX10_share_44 rfl (lv_at hl 1 rfl) ?_
      refine wt_get hx hb hts cfX10 hown hK hW (cg10 k0) rfl 9 (by decide) q302 dX10_share_45 (fun v hv => ?_)
      obtain ⟨x45, rfl, k45⟩ : gr N 0 v := hv
      refine cc_v (wt_runV (As := []) (rest := []) ⟨hx, hb, hml, hown, hts⟩ (m_X0_lower l N x45 k45) wm_X0_lower q616 ⟨rfl, rfl⟩ ⟨Nat.le_of_ble_eq_true rfl, Nat.le_of_ble_eq_true rfl⟩ (cS_preV hK hW hT hnn hS (cg0 k45) rfl rfl trivial) rfl hl.1 rfl (Nat.le_of_ble_eq_true rfl) dX10_share_48 ⟨Nat.zero_le _, Nat.zero_le _⟩) hS (by decide) (fun H locs hW hS oq hB2 => ?_)
      have nx12_1 := nx12_1.kept (oq _ nx12_1.lt (cE_not k12 (by decide)))
      have nx19_4 := nx19_4.kept (oq _ nx19_4.lt (cE_not k19 (by decide)))
      refine lv_aload_n hx hb dX10_share_51 rfl (lv_at hl 1 rfl) ?_
      refine wt_get hx hb hts cfX10 hown hK hW (cg10 k0) rfl 9 (by decide) q302 dX10_share_52 (fun v hv => ?_)
      obtain ⟨x52, rfl, k52⟩ : gr N 0 v := hv
      refine wt_getp hx hb hts cfX0 hown hK hW (cg0 k52) rfl 1 (by decide) (Or.inr ⟨_, lw_n_use hnn q261⟩) dX10_share_55 (fun v hv nx52_1 => ?_)
      obtain ⟨x55, rfl⟩ : gl v := hv
      refine lv_lconst (v := 0) hx hb dX10_share_58 (by decide) ?_
      refine wl_le (tgt := 86) hx hb dX10_share_59 dX10_share_60 (by decide) (fun c59 => ?_) (fun c59 => ?_)
      · have c59 : x55.toInt ≤ (0 : Int) := c59
        have rx55_59 : lr x55 (-9223372036854775808) 0 := by have h8 := (lr_any x55); have h9 := (lr_c (0) (by decide) : lr (0 : Int64) (0) (0)); constructor <;> omega
        refine lv_iconst (v := -1) hx hb dX10_share_86 (by decide) ?_
        refine W.endD (s := s) (d0 := s.drawn) hd0 ?_
        exact W.iret (v := (-1 : Int32)) hx hb hr (fun t ht _ => ⟨⟨(-1 : Int32), (), rfl, trivial, cW_at ht hW⟩, hS.F ht⟩) hS.2.2 dX10_share_87
      · have c59 : (0 : Int) < x55.toInt := c59
        have rx55_59 : lr x55 1 9223372036854775807 := by have h8 := (lr_any x55); have h9 := (lr_c (0) (by decide) : lr (0 : Int64) (0) (0)); constructor <;> omega
        refine lv_aload_n hx hb dX10_share_63 rfl (lv_at hl 1 rfl) ?_
        refine wt_get hx hb hts cfX10 hown hK hW (cg10 k0) rfl 9 (by decide) q302 dX10_share_64 (fun v hv => ?_)
        obtain ⟨x64, rfl, k64⟩ : gr N 0 v := hv
        refine wt_getp hx hb hts cfX0 hown hK hW (cg0 k64) rfl 0 (by decide) (Or.inr ⟨_, lw_n_use hnn q259⟩) dX10_share_67 (fun v hv nx64_0 => ?_)
        obtain ⟨x67, rfl⟩ : gl v := hv
        refine lv_l2f hx hb dX10_share_70 ?_
        refine lv_topf (fun x70 _ => ?_)
        refine lv_aload_n hx hb dX10_share_71 rfl (lv_at hl 1 rfl) ?_
        refine wt_get hx hb hts cfX10 hown hK hW (cg10 k0) rfl 9 (by decide) q302 dX10_share_72 (fun v hv => ?_)
        obtain ⟨x72, rfl, k72⟩ : gr N 0 v := hv
        refine wt_getp hx hb hts cfX0 hown hK hW (cg0 k72) rfl 1 (by decide) (Or.inr ⟨_, lw_n_use hnn q261⟩) dX10_share_75 (fun v hv nx72_1 => ?_)
        obtain ⟨x75, rfl⟩ : gl v := hv
        refine lv_l2f hx hb dX10_share_78 ?_
        refine lv_topf (fun x78 _ => ?_)
        refine W.base ?_
        refine lv_fdiv_any (s := s) (d0 := s.drawn) hd0 lw_bits hx hb dX10_share_79 (fun x79 d1 _ hd1 => ?_)
        refine va_calliD (s := s) hd1 (wt_runS_D (As := [.float x79]) (rest := []) ⟨hx, hb, hml, hown, dr_words hts _⟩ (d_X10_bitsOfFloat l x79) wm_X10_bitsOfFloat q625 ⟨rfl, rfl⟩ ⟨Nat.le_of_ble_eq_true rfl, Nat.le_of_ble_eq_true rfl⟩ pS_pre rfl hl.1 rfl (Nat.le_of_ble_eq_true rfl) dX10_share_80 ⟨Nat.zero_le _, Nat.zero_le _⟩) hS (fun _ _ h => h.elim) (fun _ h => h.elim) (fun x80 _ t H1 locs ht _ _ _ _ hk hS d2 hd2 => ?_)
        have hW := hW.call hk (fun _ _ _ h => h)
        refine lv_goto (tgt := 87) hx hb dX10_share_83 (by decide) ?_
        refine W.endD (s := s) (d0 := d2) hd2 ?_
        exact W.iret (v := x80) hx hb hr (fun t ht _ => ⟨⟨x80, (), rfl, trivial, cW_at ht hW⟩, hS.F ht⟩) hS.2.2 dX10_share_87
    · have rx24_27 : ir x24 1 1 := rf_ne0 c27 r24
      refine lv_iconst (v := -1) hx hb dX10_share_30 (by decide) ?_
      refine W.endD (s := s) (d0 := s.drawn) hd0 ?_
      exact W.iret (v := (-1 : Int32)) hx hb hr (fun t ht _ => ⟨⟨(-1 : Int32), (), rfl, trivial, cW_at ht hW⟩, hS.F ht⟩) hS.2.2 dX10_share_31
  · have rx1_4 : ir x1 0 0 := rf_eq c4 (ir_c (0) (by decide) : ir (0 : Int32) (0) (0))
    refine lv_bipush (v := -2) hx hb dX10_share_7 (by decide) ?_
    refine W.endD (s := s) (d0 := s.drawn) hd0 ?_
    exact W.iret (v := (-2 : Int32)) hx hb hr (fun t ht _ => ⟨⟨(-2 : Int32), (), rfl, trivial, cW_at ht hW⟩, hS.F ht⟩) hS.2.2 dX10_share_9
set_option maxHeartbeats 4000000 in
set_option maxRecDepth 100000 in
theorem d_X10_through (l : Launch) (N : c_N) (h0 : Nat) (k0 : N.2.2.1 h0 = some 10) (p1 : Int32) : cMlD l yX10_through cX10_through 3 .long { frames := 6, cells := 0, slots := 0, locals := 155 } [.ref h0, .int p1] N [0, 2, 4, 8] cT0 (fun _ => True) := by
  refine MetD.ofW (cc := cX10_through) (maxL := 3) (ret := some .long) (by decide) rfl ?_
  intro p e s m args below meth c s₁ B hml hv hd0
  refine W.base2 ?_
  obtain ⟨rfl, ⟨hK, hW, hT, hnn⟩, hB⟩ := hv
  have hx := B.exec
  have hb := B.bytes
  have hr := B.returns
  have hts : ∀ w ∈ lw_g, w.before _ s = true := fun w h => atoms_spec (ws := wc_ws yX10_through cX10_through 3 (some .long)) B.pre w (List.mem_cons_of_mem _ h)
  have hown : s.vm.findClass RX10 = some m.cls := findClass_of_methodNamed B.named
  have hlocks := B.notSynchronized
  have hS : va_S (cE N [0, 2, 4, 8]) s.heap s.heap [] := va_S.rf
  have hl := lv_entry ([.ref h0, .int p1]) (n := 3) (Nat.le_of_ble_eq_true rfl)
  rw [lg_entry_eq]
  generalize (lg_sl ([.ref h0, .int p1]) ++ List.replicate (3 - (lg_sl ([.ref h0, .int p1])).length) Slot.unset).toArray = ls at hl ⊢
  have hl : lv_has ls 3 [(0, .ref h0), (1, .int p1)] := hl
  refine wq_all ?_
  intro WW w1 w2
  refine lv_iload_n hx hb dX10_through_0 rfl (lv_at hl 1 rfl) ?_
  refine cp_i (wt_runS (As := [.int p1]) (rest := []) ⟨hx, hb, hml, hown, hts⟩ (m_X10_isMark l p1) wm_X10_isMark q539 ⟨rfl, rfl⟩ ⟨Nat.le_of_ble_eq_true rfl, Nat.le_of_ble_eq_true rfl⟩ pS_pre rfl hl.1 rfl (Nat.le_of_ble_eq_true rfl) dX10_through_1 ⟨Nat.zero_le _, Nat.zero_le _⟩) hW hS (fun x1 H locs hp hW hS oq => ?_)
  obtain ⟨r1, b1⟩ := hp
  refine lv_if_ne (tgt := 11) hx hb dX10_through_4 (by decide) (fun c4 => ?_) (fun c4 => ?_)
  · have rx1_4 : ir x1 1 1 := rf_ne0 c4 r1
    have bx1_4 := b1 c4
    refine lv_aload_n hx hb dX10_through_11 rfl (lv_at hl 0 rfl) ?_
    refine lv_aload_n hx hb dX10_through_12 rfl (lv_at hl 0 rfl) ?_
    refine wt_get hx hb hts cfX10 hown hK hW (cg10 k0) rfl 1 (by decide) q294 dX10_through_13 (fun v hv => ?_)
    obtain ⟨x13, rfl, k13⟩ : gr N 3 v := hv
    refine wt_getp hx hb hts cfX3 hown hK hW (cg3 k13) rfl 1 (by decide) (Or.inr ⟨_, lw_n_use hnn q46⟩) dX10_through_16 (fun v hv nx13_1 => ?_)
    obtain ⟨x16, rfl, r16⟩ : gi 0 24 v := hv
    refine lv_iload_n hx hb dX10_through_19 rfl (lv_at hl 1 rfl) ?_
    refine cc_r (wt_runV (As := [.int x16, .int p1]) (rest := []) ⟨hx, hb, hml, hown, hts⟩ (m_X10_beginning l N h0 k0 x16 p1 bx1_4) wm_X10_beginning q543 ⟨rfl, rfl⟩ ⟨Nat.le_of_ble_eq_true rfl, Nat.le_of_ble_eq_true rfl⟩ (cS_preV hK hW hT hnn hS (cg10 k0) rfl rfl trivial) rfl hl.1 rfl (Nat.le_of_ble_eq_true rfl) dX10_through_20 ⟨Nat.zero_le _, Nat.zero_le _⟩) hS (by decide) (fun x20 H locs k20 hW hS oq => ?_)
    have nx13_1 := nx13_1.kept (oq _ nx13_1.lt (cE_not k13 (by decide)))
    refine lv_astore_n (lv' := [(2, .ref x20), (0, .ref h0), (1, .int p1)]) hx hb dX10_through_23 rfl hl (by decide) rfl (fun ls hl => ?_)
    refine lv_aload_n hx hb dX10_through_24 rfl (lv_at hl 0 rfl) ?_
    refine wt_getp hx hb hts cfX4 hown hK hW (cg4 k20) rfl 4 (by decide) (Or.inr ⟨_, lw_n_use hnn q197⟩) dX10_through_25 (fun v hv nx20_4 => ?_)
    obtain ⟨x25, rfl, r25⟩ : gi 0 1 v := hv
    refine lv_if_eq (tgt := 35) hx hb dX10_through_28 (by decide) (fun c28 => ?_) (fun c28 => ?_)
    · have rx25_28 : ir x25 0 0 := rf_eq c28 (ir_c (0) (by decide) : ir (0 : Int32) (0) (0))
      refine lv_aload_n hx hb dX10_through_35 rfl (lv_at hl 1 rfl) ?_
      refine wt_get hx hb hts cfX10 hown hK hW (cg10 k0) rfl 3 (by decide) q296 dX10_through_36 (fun v hv => ?_)
      obtain ⟨x36, rfl, k36⟩ : gr N 5 v := hv
      refine lv_aload_n hx hb dX10_through_39 rfl (lv_at hl 0 rfl) ?_
      refine lv_aload_n hx hb dX10_through_40 rfl (lv_at hl 1 rfl) ?_
      refine wt_get hx hb hts cfX10 hown hK hW (cg10 k0) rfl 9 (by decide) q302 dX10_through_41 (fun v hv => ?_)
      obtain ⟨x41, rfl, k41⟩ : gr N 0 v := hv
      refine cc_v (wt_runV (As := [.ref x20, .ref x41]) (rest := []) ⟨hx, hb, hml, hown, hts⟩ (m_X5_measureThrough l N x36 k36 x20 k20 x41 k41) wm_X5_measureThrough q611 ⟨rfl, rfl⟩ ⟨Nat.le_of_ble_eq_true rfl, Nat.le_of_ble_eq_true rfl⟩ (cS_preV hK hW hT hnn hS (cg5 k36) rfl rfl trivial) rfl hl.1 rfl (Nat.le_of_ble_eq_true rfl) dX10_through_44 ⟨Nat.zero_le _, Nat.zero_le _⟩) hS (by decide) (fun H locs hW hS oq hB2 => ?_)
      have nx13_1 := nx13_1.kept (oq _ nx13_1.lt (cE_not k13 (by decide)))
      have nx20_4 := nx20_4.kept (oq _ nx20_4.lt (cE_not k20 (by decide)))
      refine lv_aload_n hx hb dX10_through_47 rfl (lv_at hl 1 rfl) ?_
      refine wt_get hx hb hts cfX10 hown hK hW (cg10 k0) rfl 9 (by decide) q302 dX10_through_48 (fun v hv => ?_)
      obtain ⟨x48, rfl, k48⟩ : gr N 0 v := hv
      refine cc_v (wt_runV (As := []) (rest := []) ⟨hx, hb, hml, hown, hts⟩ (m_X0_lower l N x48 k48) wm_X0_lower q616 ⟨rfl, rfl⟩ ⟨Nat.le_of_ble_eq_true rfl, Nat.le_of_ble_eq_true rfl⟩ (cS_preV hK hW hT hnn hS (cg0 k48) rfl rfl trivial) rfl hl.1 rfl (Nat.le_of_ble_eq_true rfl) dX10_through_51 ⟨Nat.zero_le _, Nat.zero_le _⟩) hS (by decide) (fun H locs hW hS oq hB2 => ?_)
      have nx13_1 := nx13_1.kept (oq _ nx13_1.lt (cE_not k13 (by decide)))
      have nx20_4 := nx20_4.kept (oq _ nx20_4.lt (cE_not k20 (by decide)))
      refine lv_aload_n hx hb dX10_through_54 rfl (lv_at hl 1 rfl) ?_
      refine wt_get hx hb hts cfX10 hown hK hW (cg10 k0) rfl 9 (by decide) q302 dX10_through_55 (fun v hv => ?_)
      obtain ⟨x55, rfl, k55⟩ : gr N 0 v := hv
      refine wt_getp hx hb hts cfX0 hown hK hW (cg0 k55) rfl 1 (by decide) (Or.inr ⟨_, lw_n_use hnn q261⟩) dX10_through_58 (fun v hv nx55_1 => ?_)
      obtain ⟨x58, rfl⟩ : gl v := hv
      refine lv_lconst (v := 0) hx hb dX10_through_61 (by decide) ?_
      refine wl_le (tgt := 89) hx hb dX10_through_62 dX10_through_63 (by decide) (fun c62 => ?_) (fun c62 => ?_)
      · have c62 : x58.toInt ≤ (0 : Int) := c62
        have rx58_62 : lr x58 (-9223372036854775808) 0 := by have h8 := (lr_any x58); have h9 := (lr_c (0) (by decide) : lr (0 : Int64) (0) (0)); constructor <;> omega
        refine lv_ldc2 hx hb hown (hts _ q598) dX10_through_89 ?_
        refine W.endD (s := s) (d0 := s.drawn) hd0 ?_
        exact W.lret (v := (-1 : Int64)) hx hb hr (fun t ht _ => ⟨⟨(-1 : Int64), (), rfl, trivial, cW_at ht hW⟩, hS.F ht⟩) hS.2.2 dX10_through_92
      · have c62 : (0 : Int) < x58.toInt := c62
        have rx58_62 : lr x58 1 9223372036854775807 := by have h8 := (lr_any x58); have h9 := (lr_c (0) (by decide) : lr (0 : Int64) (0) (0)); constructor <;> omega
        refine lv_aload_n hx hb dX10_through_66 rfl (lv_at hl 1 rfl) ?_
        refine wt_get hx hb hts cfX10 hown hK hW (cg10 k0) rfl 9 (by decide) q302 dX10_through_67 (fun v hv => ?_)
        obtain ⟨x67, rfl, k67⟩ : gr N 0 v := hv
        refine wt_getp hx hb hts cfX0 hown hK hW (cg0 k67) rfl 0 (by decide) (Or.inr ⟨_, lw_n_use hnn q259⟩) dX10_through_70 (fun v hv nx67_0 => ?_)
        obtain ⟨x70, rfl⟩ : gl v := hv
        refine lv_l2d hx hb dX10_through_73 ?_
        refine lv_topd (fun x73 _ => ?_)
        refine lv_aload_n hx hb dX10_through_74 rfl (lv_at hl 1 rfl) ?_
        refine wt_get hx hb hts cfX10 hown hK hW (cg10 k0) rfl 9 (by decide) q302 dX10_through_75 (fun v hv => ?_)
        obtain ⟨x75, rfl, k75⟩ : gr N 0 v := hv
        refine wt_getp hx hb hts cfX0 hown hK hW (cg0 k75) rfl 1 (by decide) (Or.inr ⟨_, lw_n_use hnn q261⟩) dX10_through_78 (fun v hv nx75_1 => ?_)
        obtain ⟨x78, rfl⟩ : gl v := hv
        refine lv_l2d hx hb dX10_through_81 ?_
        refine lv_topd (fun x81 _ => ?_)
        refine W.base ?_
        refine lv_ddiv_any (s := s) (d0 := s.drawn) hd0 lw_bits hx hb dX10_through_82 (fun x82 d1 _ hd1 => ?_)
        refine va_calllD (s := s) hd1 (wt_runS_D (As := [.double x82]) (rest := []) ⟨hx, hb, hml, hown, dr_words hts _⟩ (d_X10_bitsOfDouble l x82) wm_X10_bitsOfDouble q633 ⟨rfl, rfl⟩ ⟨Nat.le_of_ble_eq_true rfl, Nat.le_of_ble_eq_true rfl⟩ pS_pre rfl hl.1 rfl (Nat.le_of_ble_eq_true rfl) dX10_through_83 ⟨Nat.zero_le _, Nat.zero_le _⟩) hS (fun _ _ h => h.elim) (fun _ h => h.elim) (fun x83 _ t H1 locs ht _ _ _ _ hk hS d2 hd2 => ?_)
        have hW := hW.call hk (fun _ _ _ h => h)
        refine lv_goto (tgt := 92) hx hb dX10_through_86 (by decide) ?_
        refine W.endD (s := s) (d0 := d2) hd2 ?_
        exact W.lret (v := x83) hx hb hr (fun t ht _ => ⟨⟨x83, (), rfl, trivial, cW_at ht hW⟩, hS.F ht⟩) hS.2.2 dX10_through_92
    · have rx25_28 : ir x25 1 1 := rf_ne0 c28 r25
      refine lv_ldc2 hx hb hown (hts _ q598) dX10_through_31 ?_
      refine W.endD (s := s) (d0 := s.drawn) hd0 ?_
      exact W.lret (v := (-1 : Int64)) hx hb hr (fun t ht _ => ⟨⟨(-1 : Int64), (), rfl, trivial, cW_at ht hW⟩, hS.F ht⟩) hS.2.2 dX10_through_34
  · have rx1_4 : ir x1 0 0 := rf_eq c4 (ir_c (0) (by decide) : ir (0 : Int32) (0) (0))
    refine lv_ldc2 hx hb hown (hts _ q597) dX10_through_7 ?_
    refine W.endD (s := s) (d0 := s.drawn) hd0 ?_
    exact W.lret (v := (-2 : Int64)) hx hb hr (fun t ht _ => ⟨⟨(-2 : Int64), (), rfl, trivial, cW_at ht hW⟩, hS.F ht⟩) hS.2.2 dX10_through_10
set_option maxHeartbeats 4000000 in
set_option maxRecDepth 100000 in
theorem d_X11_share (l : Launch) (N : c_N) (h0 : Nat) (k0 : N.2.2.1 h0 = some 11) (hO : mOK N) (V : Nat → Value) (p1 : Int32) : cMi2D l yX11_share cX11_share 2 .int { frames := 5, cells := 0, slots := 0, locals := 148 } [.ref h0, .int p1] N [11] (fun H => mI N h0 H ∧ kp N h0 [32, 33, 34, 35, 36, 37, 38, 39, 40, 41, 42] V H) (fun _ => True) (fun _ H => mI N h0 H ∧ kp N h0 [32, 33, 34, 35, 36, 37, 38, 39, 40, 41, 42] V H) := by
  refine MetD.ofW (cc := cX11_share) (maxL := 2) (ret := some .int) (by decide) rfl ?_
  intro p e s m args below meth c s₁ B hml hv hd0
  refine W.base2 ?_
  obtain ⟨rfl, ⟨hK, hW, hT, hnn⟩, hB⟩ := hv
  obtain ⟨hI, hV⟩ := hB
  have hx := B.exec
  have hb := B.bytes
  have hr := B.returns
  have hts : ∀ w ∈ lw_g, w.before _ s = true := fun w h => atoms_spec (ws := wc_ws yX11_share cX11_share 2 (some .int)) B.pre w (List.mem_cons_of_mem _ h)
  have hown : s.vm.findClass RX11 = some m.cls := findClass_of_methodNamed B.named
  have hlocks := B.notSynchronized
  have hS : va_S (cE N [11]) s.heap s.heap [] := va_S.rf
  have hl := lv_entry ([.ref h0, .int p1]) (n := 2) (Nat.le_of_ble_eq_true rfl)
  rw [lg_entry_eq]
  generalize (lg_sl ([.ref h0, .int p1]) ++ List.replicate (2 - (lg_sl ([.ref h0, .int p1])).length) Slot.unset).toArray = ls at hl ⊢
  have hl : lv_has ls 2 [(0, .ref h0), (1, .int p1)] := hl
  refine wq_all ?_
  intro WW w1 w2
  refine lv_aload_n hx hb dX11_share_0 rfl (lv_at hl 0 rfl) ?_
  refine lv_iload_n hx hb dX11_share_1 rfl (lv_at hl 1 rfl) ?_
  obtain ⟨V1, hV1⟩ := kp_all hW k0
  refine cc_i2 (B2 := fun _ H => mI N h0 H ∧ kp N h0 [] V1 H) (wt_runV (As := [.int p1]) (rest := []) ⟨hx, hb, hml, hown, hts⟩ (m_X11_isMark l N h0 k0 hO V1 p1) wm_X11_isMark q1204 ⟨rfl, rfl⟩ ⟨Nat.le_of_ble_eq_true rfl, Nat.le_of_ble_eq_true rfl⟩ (cS_preV (B := fun H => mI N h0 H ∧ kp N h0 [] V1 H) hK hW hT hnn hS (cg11 k0) rfl rfl (And.intro hI (kp_of (F := []) hV1))) rfl hl.1 rfl (Nat.le_of_ble_eq_true rfl) dX11_share_2 ⟨Nat.zero_le _, Nat.zero_le _⟩) hS (by decide) (fun x2 H locs hp hW hS oq hB2 => ?_)
  obtain ⟨hI, hV2⟩ := hB2
  have hV := kp_call hV hV1 hV2 (by decide)
  obtain ⟨r2, b2⟩ := hp
  refine lv_if_ne (tgt := 11) hx hb dX11_share_5 (by decide) (fun c5 => ?_) (fun c5 => ?_)
  · have rx2_5 : ir x2 1 1 := rf_ne0 c5 r2
    have bx2_5 := b2 c5
    refine lv_aload_n hx hb dX11_share_11 rfl (lv_at hl 0 rfl) ?_
    refine lv_aload_n hx hb dX11_share_12 rfl (lv_at hl 0 rfl) ?_
    refine wt_getp hx hb hts cfX11 hown hK hW (cg11 k0) rfl 7 (by decide) (Or.inl (hts _ q879)) dX11_share_13 (fun v hv nh0_7 => ?_)
    obtain ⟨x13, rfl, r13⟩ : gi 0 24 v := hv
    refine lv_iload_n hx hb dX11_share_16 rfl (lv_at hl 1 rfl) ?_
    obtain ⟨V1, hV1⟩ := kp_all hW k0
    refine cc_i2 (B2 := fun r H => mI N h0 H ∧ kp N h0 [32, 33, 34, 35, 36, 37, 38, 39, 40, 41, 42] V1 H ∧ (¬ r = 0 → ∃ bu bb : Int64, pL N h0 39 bu H ∧ pL N h0 40 bb H ∧ 0 ≤ bu.toInt ∧ 1 ≤ bb.toInt)) (wt_runV (As := [.int x13, .int p1]) (rest := []) ⟨hx, hb, hml, hown, hts⟩ (m_X11_shines l N h0 k0 hO V1 x13 r13 p1 bx2_5 x13 (by have h6 := r13; have h7 := r13; omega)) wm_X11_shines q1238 ⟨rfl, rfl⟩ ⟨Nat.le_of_ble_eq_true rfl, Nat.le_of_ble_eq_true rfl⟩ (cS_preV (B := fun H => mI N h0 H ∧ kp N h0 [32, 33, 34, 35, 36, 37, 38, 39, 40, 41, 42] V1 H ∧ wt_pin N.1 vwCl h0 11 7 (.int x13) H) hK hW hT hnn hS (cg11 k0) rfl rfl (And.intro hI (And.intro (kp_of (F := [32, 33, 34, 35, 36, 37, 38, 39, 40, 41, 42]) hV1) nh0_7))) rfl hl.1 rfl (Nat.le_of_ble_eq_true rfl) dX11_share_17 ⟨Nat.zero_le _, Nat.zero_le _⟩) hS (by decide) (fun x17 H locs hp hW hS oq hB2 => ?_)
    obtain ⟨hI, hV2, hB2⟩ := hB2
    have hV := kp_call hV hV1 hV2 (by decide)
    have hq17 := hB2
    have nh0_7 := kp_use hV1 hV2 (by decide) (by decide) nh0_7
    have r17 : ir x17 0 1 := hp
    refine lv_if_eq (tgt := 40) hx hb dX11_share_20 (by decide) (fun c20 => ?_) (fun c20 => ?_)
    · have rx17_20 : ir x17 0 0 := rf_eq c20 (ir_c (0) (by decide) : ir (0 : Int32) (0) (0))
      refine lv_iconst (v := -1) hx hb dX11_share_40 (by decide) ?_
      refine W.endD (s := s) (d0 := s.drawn) hd0 ?_
      exact W.iret (v := (-1 : Int32)) hx hb hr (fun t ht _ => ⟨⟨(-1 : Int32), (-1 : Int32), rfl, ⟨rfl, trivial⟩, cW_at ht hW, ⟨mI_at ht hI, kp_at ht hV⟩⟩, hS.F ht⟩) hS.2.2 dX11_share_41
    · have rx17_20 : ir x17 1 1 := rf_ne0 c20 r17
      obtain ⟨bu17, bb17, nh0_39, nh0_40, vu17, vb17⟩ := hq17 c20
      refine lv_aload_n hx hb dX11_share_23 rfl (lv_at hl 0 rfl) ?_
      refine wt_rel hx hb hts cfX11 hown hK nh0_39 rfl (by decide) (Or.inl (hts _ q911)) dX11_share_24 ?_
      refine lv_l2f hx hb dX11_share_27 ?_
      refine lv_topf (fun x27 _ => ?_)
      refine lv_aload_n hx hb dX11_share_28 rfl (lv_at hl 0 rfl) ?_
      refine wt_rel hx hb hts cfX11 hown hK nh0_40 rfl (by decide) (Or.inl (hts _ q912)) dX11_share_29 ?_
      refine lv_l2f hx hb dX11_share_32 ?_
      refine lv_topf (fun x32 _ => ?_)
      refine W.base ?_
      refine lv_fdiv_any (s := s) (d0 := s.drawn) hd0 lw_bits hx hb dX11_share_33 (fun x33 d1 _ hd1 => ?_)
      refine va_calli (wt_runS (As := [.float x33]) (rest := []) ⟨hx, hb, hml, hown, dr_words hts _⟩ (m_Jxf58ca_floatToIntBits_5c35a l x33) wm_Jxf58ca_floatToIntBits_5c35a q1254 ⟨rfl, rfl⟩ ⟨Nat.le_of_ble_eq_true rfl, Nat.le_of_ble_eq_true rfl⟩ pS_pre rfl hl.1 rfl (Nat.le_of_ble_eq_true rfl) dX11_share_34 ⟨Nat.zero_le _, Nat.zero_le _⟩) hS (fun _ _ h => h.elim) (fun _ h => h.elim) (fun x34 _ t H1 locs ht _ _ _ _ hk hS => ?_)
      have oq : ∀ q : Nat, q < _ → ¬ cE N [] q → H1[q]? = _ := fun q hq _ => hk q hq (fun h => h)
      have hV := hV.same hW k0 oq
      have hI := mI.fr.same hI hW oq
      have hW := hW.call hk (fun _ _ _ h => h)
      refine lv_goto (tgt := 41) hx hb dX11_share_37 (by decide) ?_
      refine W.endD (s := s) (d0 := d1) hd1 ?_
      exact W.iret (v := x34) hx hb hr (fun t ht _ => ⟨⟨x34, x34, rfl, ⟨rfl, trivial⟩, cW_at ht hW, ⟨mI_at ht hI, kp_at ht hV⟩⟩, hS.F ht⟩) hS.2.2 dX11_share_41
  · have rx2_5 : ir x2 0 0 := rf_eq c5 (ir_c (0) (by decide) : ir (0 : Int32) (0) (0))
    refine lv_bipush (v := -2) hx hb dX11_share_8 (by decide) ?_
    refine W.endD (s := s) (d0 := s.drawn) hd0 ?_
    exact W.iret (v := (-2 : Int32)) hx hb hr (fun t ht _ => ⟨⟨(-2 : Int32), (-2 : Int32), rfl, ⟨rfl, trivial⟩, cW_at ht hW, ⟨mI_at ht hI, kp_at ht hV⟩⟩, hS.F ht⟩) hS.2.2 dX11_share_10
set_option maxHeartbeats 4000000 in
set_option maxRecDepth 100000 in
theorem d_X11_through (l : Launch) (N : c_N) (h0 : Nat) (k0 : N.2.2.1 h0 = some 11) (hO : mOK N) (V : Nat → Value) (p1 : Int32) : cMl2D l yX11_through cX11_through 2 .long { frames := 5, cells := 0, slots := 0, locals := 148 } [.ref h0, .int p1] N [11] (fun H => mI N h0 H ∧ kp N h0 [32, 33, 34, 35, 36, 37, 38, 39, 40, 41, 42] V H) (fun _ => True) (fun _ H => mI N h0 H ∧ kp N h0 [32, 33, 34, 35, 36, 37, 38, 39, 40, 41, 42] V H) := by
  refine MetD.ofW (cc := cX11_through) (maxL := 2) (ret := some .long) (by decide) rfl ?_
  intro p e s m args below meth c s₁ B hml hv hd0
  refine W.base2 ?_
  obtain ⟨rfl, ⟨hK, hW, hT, hnn⟩, hB⟩ := hv
  obtain ⟨hI, hV⟩ := hB
  have hx := B.exec
  have hb := B.bytes
  have hr := B.returns
  have hts : ∀ w ∈ lw_g, w.before _ s = true := fun w h => atoms_spec (ws := wc_ws yX11_through cX11_through 2 (some .long)) B.pre w (List.mem_cons_of_mem _ h)
  have hown : s.vm.findClass RX11 = some m.cls := findClass_of_methodNamed B.named
  have hlocks := B.notSynchronized
  have hS : va_S (cE N [11]) s.heap s.heap [] := va_S.rf
  have hl := lv_entry ([.ref h0, .int p1]) (n := 2) (Nat.le_of_ble_eq_true rfl)
  rw [lg_entry_eq]
  generalize (lg_sl ([.ref h0, .int p1]) ++ List.replicate (2 - (lg_sl ([.ref h0, .int p1])).length) Slot.unset).toArray = ls at hl ⊢
  have hl : lv_has ls 2 [(0, .ref h0), (1, .int p1)] := hl
  refine wq_all ?_
  intro WW w1 w2
  refine lv_aload_n hx hb dX11_through_0 rfl (lv_at hl 0 rfl) ?_
  refine lv_iload_n hx hb dX11_through_1 rfl (lv_at hl 1 rfl) ?_
  obtain ⟨V1, hV1⟩ := kp_all hW k0
  refine cc_i2 (B2 := fun _ H => mI N h0 H ∧ kp N h0 [] V1 H) (wt_runV (As := [.int p1]) (rest := []) ⟨hx, hb, hml, hown, hts⟩ (m_X11_isMark l N h0 k0 hO V1 p1) wm_X11_isMark q1204 ⟨rfl, rfl⟩ ⟨Nat.le_of_ble_eq_true rfl, Nat.le_of_ble_eq_true rfl⟩ (cS_preV (B := fun H => mI N h0 H ∧ kp N h0 [] V1 H) hK hW hT hnn hS (cg11 k0) rfl rfl (And.intro hI (kp_of (F := []) hV1))) rfl hl.1 rfl (Nat.le_of_ble_eq_true rfl) dX11_through_2 ⟨Nat.zero_le _, Nat.zero_le _⟩) hS (by decide) (fun x2 H locs hp hW hS oq hB2 => ?_)
  obtain ⟨hI, hV2⟩ := hB2
  have hV := kp_call hV hV1 hV2 (by decide)
  obtain ⟨r2, b2⟩ := hp
  refine lv_if_ne (tgt := 12) hx hb dX11_through_5 (by decide) (fun c5 => ?_) (fun c5 => ?_)
  · have rx2_5 : ir x2 1 1 := rf_ne0 c5 r2
    have bx2_5 := b2 c5
    refine lv_aload_n hx hb dX11_through_12 rfl (lv_at hl 0 rfl) ?_
    refine lv_aload_n hx hb dX11_through_13 rfl (lv_at hl 0 rfl) ?_
    refine wt_getp hx hb hts cfX11 hown hK hW (cg11 k0) rfl 7 (by decide) (Or.inl (hts _ q879)) dX11_through_14 (fun v hv nh0_7 => ?_)
    obtain ⟨x14, rfl, r14⟩ : gi 0 24 v := hv
    refine lv_iload_n hx hb dX11_through_17 rfl (lv_at hl 1 rfl) ?_
    obtain ⟨V1, hV1⟩ := kp_all hW k0
    refine cc_i2 (B2 := fun r H => mI N h0 H ∧ kp N h0 [32, 33, 34, 35, 36, 37, 38, 39, 40, 41, 42] V1 H ∧ (¬ r = 0 → ∃ bu bb : Int64, pL N h0 39 bu H ∧ pL N h0 40 bb H ∧ 0 ≤ bu.toInt ∧ 1 ≤ bb.toInt)) (wt_runV (As := [.int x14, .int p1]) (rest := []) ⟨hx, hb, hml, hown, hts⟩ (m_X11_shines l N h0 k0 hO V1 x14 r14 p1 bx2_5 x14 (by have h6 := r14; have h7 := r14; omega)) wm_X11_shines q1238 ⟨rfl, rfl⟩ ⟨Nat.le_of_ble_eq_true rfl, Nat.le_of_ble_eq_true rfl⟩ (cS_preV (B := fun H => mI N h0 H ∧ kp N h0 [32, 33, 34, 35, 36, 37, 38, 39, 40, 41, 42] V1 H ∧ wt_pin N.1 vwCl h0 11 7 (.int x14) H) hK hW hT hnn hS (cg11 k0) rfl rfl (And.intro hI (And.intro (kp_of (F := [32, 33, 34, 35, 36, 37, 38, 39, 40, 41, 42]) hV1) nh0_7))) rfl hl.1 rfl (Nat.le_of_ble_eq_true rfl) dX11_through_18 ⟨Nat.zero_le _, Nat.zero_le _⟩) hS (by decide) (fun x18 H locs hp hW hS oq hB2 => ?_)
    obtain ⟨hI, hV2, hB2⟩ := hB2
    have hV := kp_call hV hV1 hV2 (by decide)
    have hq18 := hB2
    have nh0_7 := kp_use hV1 hV2 (by decide) (by decide) nh0_7
    have r18 : ir x18 0 1 := hp
    refine lv_if_eq (tgt := 41) hx hb dX11_through_21 (by decide) (fun c21 => ?_) (fun c21 => ?_)
    · have rx18_21 : ir x18 0 0 := rf_eq c21 (ir_c (0) (by decide) : ir (0 : Int32) (0) (0))
      refine lv_ldc2 hx hb hown (hts _ q1203) dX11_through_41 ?_
      refine W.endD (s := s) (d0 := s.drawn) hd0 ?_
      exact W.lret (v := (-1 : Int64)) hx hb hr (fun t ht _ => ⟨⟨(-1 : Int64), (-1 : Int64), rfl, ⟨rfl, trivial⟩, cW_at ht hW, ⟨mI_at ht hI, kp_at ht hV⟩⟩, hS.F ht⟩) hS.2.2 dX11_through_44
    · have rx18_21 : ir x18 1 1 := rf_ne0 c21 r18
      obtain ⟨bu18, bb18, nh0_39, nh0_40, vu18, vb18⟩ := hq18 c21
      refine lv_aload_n hx hb dX11_through_24 rfl (lv_at hl 0 rfl) ?_
      refine wt_getp hx hb hts cfX11 hown hK hW (cg11 k0) rfl 41 (by decide) (Or.inl (hts _ q913)) dX11_through_25 (fun v hv nh0_41 => ?_)
      obtain ⟨x25, rfl⟩ : gl v := hv
      refine lv_l2d hx hb dX11_through_28 ?_
      refine lv_topd (fun x28 _ => ?_)
      refine lv_aload_n hx hb dX11_through_29 rfl (lv_at hl 0 rfl) ?_
      refine wt_getp hx hb hts cfX11 hown hK hW (cg11 k0) rfl 42 (by decide) (Or.inl (hts _ q914)) dX11_through_30 (fun v hv nh0_42 => ?_)
      obtain ⟨x30, rfl⟩ : gl v := hv
      refine lv_l2d hx hb dX11_through_33 ?_
      refine lv_topd (fun x33 _ => ?_)
      refine W.base ?_
      refine lv_ddiv_any (s := s) (d0 := s.drawn) hd0 lw_bits hx hb dX11_through_34 (fun x34 d1 _ hd1 => ?_)
      refine va_calll (wt_runS (As := [.double x34]) (rest := []) ⟨hx, hb, hml, hown, dr_words hts _⟩ (m_Jxe99ae_doubleToLongBits_ccdee l x34) wm_Jxe99ae_doubleToLongBits_ccdee q1268 ⟨rfl, rfl⟩ ⟨Nat.le_of_ble_eq_true rfl, Nat.le_of_ble_eq_true rfl⟩ pS_pre rfl hl.1 rfl (Nat.le_of_ble_eq_true rfl) dX11_through_35 ⟨Nat.zero_le _, Nat.zero_le _⟩) hS (fun _ _ h => h.elim) (fun _ h => h.elim) (fun x35 _ t H1 locs ht _ _ _ _ hk hS => ?_)
      have oq : ∀ q : Nat, q < _ → ¬ cE N [] q → H1[q]? = _ := fun q hq _ => hk q hq (fun h => h)
      have hV := hV.same hW k0 oq
      have hI := mI.fr.same hI hW oq
      have hW := hW.call hk (fun _ _ _ h => h)
      refine lv_goto (tgt := 44) hx hb dX11_through_38 (by decide) ?_
      refine W.endD (s := s) (d0 := d1) hd1 ?_
      exact W.lret (v := x35) hx hb hr (fun t ht _ => ⟨⟨x35, x35, rfl, ⟨rfl, trivial⟩, cW_at ht hW, ⟨mI_at ht hI, kp_at ht hV⟩⟩, hS.F ht⟩) hS.2.2 dX11_through_44
  · have rx2_5 : ir x2 0 0 := rf_eq c5 (ir_c (0) (by decide) : ir (0 : Int32) (0) (0))
    refine lv_ldc2 hx hb hown (hts _ q1237) dX11_through_8 ?_
    refine W.endD (s := s) (d0 := s.drawn) hd0 ?_
    exact W.lret (v := (-2 : Int64)) hx hb hr (fun t ht _ => ⟨⟨(-2 : Int64), (-2 : Int64), rfl, ⟨rfl, trivial⟩, cW_at ht hW, ⟨mI_at ht hI, kp_at ht hV⟩⟩, hS.F ht⟩) hS.2.2 dX11_through_11
