set_option maxHeartbeats 4000000 in
set_option maxRecDepth 100000 in
theorem m_X0_set (l : Launch) (N : c_N) (h0 : Nat) (k0 : N.2.2.1 h0 = some 0) (p1 : Int64) (p2 : Int64) : cMv l yX0_set cX0_set 5 { frames := 0, cells := 0, slots := 0, locals := 0 } [.ref h0, .long p1, .long p2] N [0] cT0 cT0 := by
  refine Met.ofW (cc := cX0_set) (maxL := 5) (ret := none) (by decide) rfl ?_
  intro p e s m args below meth c s₁ B hml hv
  obtain ⟨rfl, ⟨hK, hW, hT, hnn⟩, hB⟩ := hv
  have hx := B.exec
  have hb := B.bytes
  have hr := B.returns
  have hts : ∀ w ∈ lw_g, w.before _ s = true := fun w h => atoms_spec (ws := wc_ws yX0_set cX0_set 5 none) B.pre w (List.mem_cons_of_mem _ h)
  have hown : s.vm.findClass RX0 = some m.cls := findClass_of_methodNamed B.named
  have hlocks := B.notSynchronized
  have hS : va_S (cE N [0]) s.heap s.heap [] := va_S.rf
  have hl := lv_entry ([.ref h0, .long p1, .long p2]) (n := 5) (Nat.le_of_ble_eq_true rfl)
  rw [lg_entry_eq]
  generalize (lg_sl ([.ref h0, .long p1, .long p2]) ++ List.replicate (5 - (lg_sl ([.ref h0, .long p1, .long p2])).length) Slot.unset).toArray = ls at hl ⊢
  have hl : lv_has ls 5 [(0, .ref h0), (1, .long p1), (3, .long p2)] := hl
  refine wq_all ?_
  intro WW w1 w2
  refine lv_aload_n hx hb dX0_set_0 rfl (lv_at hl 0 rfl) ?_
  refine lv_lload_n hx hb dX0_set_1 rfl (lv_at hl 1 rfl) ?_
  refine wt_putp hx hb hts cfX0 tyX0 tyX0_ok nmX0 hown hK hW hS (cg0 k0) (ce k0 (by decide)) rfl 0 (by decide) (Or.inl (hts _ q258)) rfl rfl rfl gl_mk dX0_set_2 (fun H locs hW hS oq o2 np => ?_)
  have nh0_0 : wt_pin N.1 vwCl h0 0 0 (.long p1) H := np
  refine lv_aload_n hx hb dX0_set_5 rfl (lv_at hl 0 rfl) ?_
  refine lv_lload_n hx hb dX0_set_6 rfl (lv_at hl 2 rfl) ?_
  refine wt_putp hx hb hts cfX0 tyX0 tyX0_ok nmX0 hown hK hW hS (cg0 k0) (ce k0 (by decide)) rfl 1 (by decide) (Or.inl (hts _ q260)) rfl rfl rfl gl_mk dX0_set_7 (fun H locs hW hS oq o2 np => ?_)
  have nh0_0 := o2 0 _ (by decide) (by decide) nh0_0
  have nh0_1 : wt_pin N.1 vwCl h0 0 1 (.long p2) H := np
  exact W.vret hx hb hr (fun t ht _ => ⟨⟨(), rfl, trivial, cW_at ht hW, trivial⟩, hS.F ht⟩) hS.2.2 dX0_set_10
set_option maxHeartbeats 4000000 in
set_option maxRecDepth 100000 in
theorem m_X0_copyOf (l : Launch) (N : c_N) (h0 : Nat) (k0 : N.2.2.1 h0 = some 0) (p1 : Nat) (kp1 : N.2.2.1 p1 = some 0) : cMv l yX0_copyOf cX0_copyOf 2 { frames := 0, cells := 0, slots := 0, locals := 0 } [.ref h0, .ref p1] N [0] cT0 cT0 := by
  refine Met.ofW (cc := cX0_copyOf) (maxL := 2) (ret := none) (by decide) rfl ?_
  intro p e s m args below meth c s₁ B hml hv
  obtain ⟨rfl, ⟨hK, hW, hT, hnn⟩, hB⟩ := hv
  have hx := B.exec
  have hb := B.bytes
  have hr := B.returns
  have hts : ∀ w ∈ lw_g, w.before _ s = true := fun w h => atoms_spec (ws := wc_ws yX0_copyOf cX0_copyOf 2 none) B.pre w (List.mem_cons_of_mem _ h)
  have hown : s.vm.findClass RX0 = some m.cls := findClass_of_methodNamed B.named
  have hlocks := B.notSynchronized
  have hS : va_S (cE N [0]) s.heap s.heap [] := va_S.rf
  have hl := lv_entry ([.ref h0, .ref p1]) (n := 2) (Nat.le_of_ble_eq_true rfl)
  rw [lg_entry_eq]
  generalize (lg_sl ([.ref h0, .ref p1]) ++ List.replicate (2 - (lg_sl ([.ref h0, .ref p1])).length) Slot.unset).toArray = ls at hl ⊢
  have hl : lv_has ls 2 [(0, .ref h0), (1, .ref p1)] := hl
  refine wq_all ?_
  intro WW w1 w2
  refine lv_aload_n hx hb dX0_copyOf_0 rfl (lv_at hl 0 rfl) ?_
  refine lv_aload_n hx hb dX0_copyOf_1 rfl (lv_at hl 1 rfl) ?_
  refine wt_getp hx hb hts cfX0 hown hK hW (cg0 kp1) rfl 0 (by decide) (Or.inl (hts _ q258)) dX0_copyOf_2 (fun v hv np1_0 => ?_)
  obtain ⟨x2, rfl⟩ : gl v := hv
  refine wt_putp hx hb hts cfX0 tyX0 tyX0_ok nmX0 hown hK hW hS (cg0 k0) (ce k0 (by decide)) rfl 0 (by decide) (Or.inl (hts _ q258)) rfl rfl rfl gl_mk dX0_copyOf_5 (fun H locs hW hS oq o2 np => ?_)
  have nh0_0 : wt_pin N.1 vwCl h0 0 0 (.long x2) H := np
  refine lv_aload_n hx hb dX0_copyOf_8 rfl (lv_at hl 0 rfl) ?_
  refine lv_aload_n hx hb dX0_copyOf_9 rfl (lv_at hl 1 rfl) ?_
  refine wt_getp hx hb hts cfX0 hown hK hW (cg0 kp1) rfl 1 (by decide) (Or.inl (hts _ q260)) dX0_copyOf_10 (fun v hv np1_1 => ?_)
  obtain ⟨x10, rfl⟩ : gl v := hv
  refine wt_putp hx hb hts cfX0 tyX0 tyX0_ok nmX0 hown hK hW hS (cg0 k0) (ce k0 (by decide)) rfl 1 (by decide) (Or.inl (hts _ q260)) rfl rfl rfl gl_mk dX0_copyOf_13 (fun H locs hW hS oq o2 np => ?_)
  have nh0_0 := o2 0 _ (by decide) (by decide) nh0_0
  have nh0_1 : wt_pin N.1 vwCl h0 0 1 (.long x10) H := np
  exact W.vret hx hb hr (fun t ht _ => ⟨⟨(), rfl, trivial, cW_at ht hW, trivial⟩, hS.F ht⟩) hS.2.2 dX0_copyOf_16
set_option maxHeartbeats 4000000 in
set_option maxRecDepth 100000 in
theorem m_X0_lower (l : Launch) (N : c_N) (h0 : Nat) (k0 : N.2.2.1 h0 = some 0) : cMv l yX0_lower cX0_lower 3 { frames := 1, cells := 0, slots := 0, locals := 30 } [.ref h0] N [0] cT0 cT0 := by
  refine Met.ofW (cc := cX0_lower) (maxL := 3) (ret := none) (by decide) rfl ?_
  intro p e s m args below meth c s₁ B hml hv
  obtain ⟨rfl, ⟨hK, hW, hT, hnn⟩, hB⟩ := hv
  have hx := B.exec
  have hb := B.bytes
  have hr := B.returns
  have hts : ∀ w ∈ lw_g, w.before _ s = true := fun w h => atoms_spec (ws := wc_ws yX0_lower cX0_lower 3 none) B.pre w (List.mem_cons_of_mem _ h)
  have hown : s.vm.findClass RX0 = some m.cls := findClass_of_methodNamed B.named
  have hlocks := B.notSynchronized
  have hS : va_S (cE N [0]) s.heap s.heap [] := va_S.rf
  have hl := lv_entry ([.ref h0]) (n := 3) (Nat.le_of_ble_eq_true rfl)
  rw [lg_entry_eq]
  generalize (lg_sl ([.ref h0]) ++ List.replicate (3 - (lg_sl ([.ref h0])).length) Slot.unset).toArray = ls at hl ⊢
  have hl : lv_has ls 3 [(0, .ref h0)] := hl
  refine wq_all ?_
  intro WW w1 w2
  refine lv_aload_n hx hb dX0_lower_0 rfl (lv_at hl 0 rfl) ?_
  refine wt_getp hx hb hts cfX0 hown hK hW (cg0 k0) rfl 0 (by decide) (Or.inl (hts _ q258)) dX0_lower_1 (fun v hv nh0_0 => ?_)
  obtain ⟨x1, rfl⟩ : gl v := hv
  refine lv_aload_n hx hb dX0_lower_4 rfl (lv_at hl 0 rfl) ?_
  refine wt_getp hx hb hts cfX0 hown hK hW (cg0 k0) rfl 1 (by decide) (Or.inl (hts _ q260)) dX0_lower_5 (fun v hv nh0_1 => ?_)
  obtain ⟨x5, rfl⟩ : gl v := hv
  refine cp_l (wt_runSN (As := [.long x1, .long x5]) (rest := []) ⟨hx, hb, hml, hown, hts⟩ hnn (m_X10_commonDivisor l x1 x5) wm_X10_commonDivisor q620 ⟨rfl, rfl⟩ ⟨Nat.le_of_ble_eq_true rfl, Nat.le_of_ble_eq_true rfl⟩ pS_pre rfl hl.1 rfl (Nat.le_of_ble_eq_true rfl) dX0_lower_8 ⟨Nat.zero_le _, Nat.zero_le _⟩) hW hS (fun x8 H locs hp hW hS oq => ?_)
  have nh0_0 := nh0_0.kept (oq _ nh0_0.lt (cE_not k0 (by decide)))
  have nh0_1 := nh0_1.kept (oq _ nh0_1.lt (cE_not k0 (by decide)))
  refine lv_lstore_n (lv' := [(1, .long x8), (0, .ref h0)]) hx hb dX0_lower_11 rfl hl (by decide) rfl (fun ls hl => ?_)
  refine lv_lload_n hx hb dX0_lower_12 rfl (lv_at hl 0 rfl) ?_
  refine lv_lconst (v := 1) hx hb dX0_lower_13 (by decide) ?_
  refine wl_le (tgt := 38) hx hb dX0_lower_14 dX0_lower_15 (by decide) (fun c14 => ?_) (fun c14 => ?_)
  · have c14 : x8.toInt ≤ (1 : Int) := c14
    have rx8_14 : lr x8 (-9223372036854775808) 1 := by have h8 := (lr_any x8); have h9 := (lr_c (1) (by decide) : lr (1 : Int64) (1) (1)); constructor <;> omega
    exact W.vret hx hb hr (fun t ht _ => ⟨⟨(), rfl, trivial, cW_at ht hW, trivial⟩, hS.F ht⟩) hS.2.2 dX0_lower_38
  · have c14 : (1 : Int) < x8.toInt := c14
    have rx8_14 : lr x8 2 9223372036854775807 := by have h8 := (lr_any x8); have h9 := (lr_c (1) (by decide) : lr (1 : Int64) (1) (1)); constructor <;> omega
    refine lv_aload_n hx hb dX0_lower_18 rfl (lv_at hl 1 rfl) ?_
    refine lv_dup hx hb dX0_lower_19 rfl ?_
    refine wt_rel hx hb hts cfX0 hown hK nh0_0 rfl (by decide) (Or.inl (hts _ q258)) dX0_lower_20 ?_
    refine lv_lload_n hx hb dX0_lower_23 rfl (lv_at hl 0 rfl) ?_
    refine lv_ldiv hx hb dX0_lower_24 (l_ne0 (by have h9 := rx8_14; omega)) ?_
    refine lv_topl (fun x24 e24 => ?_)
    refine wt_putp hx hb hts cfX0 tyX0 tyX0_ok nmX0 hown hK hW hS (cg0 k0) (ce k0 (by decide)) rfl 0 (by decide) (Or.inl (hts _ q258)) rfl rfl rfl gl_mk dX0_lower_25 (fun H locs hW hS oq o2 np => ?_)
    have nh0_1 := o2 1 _ (by decide) (by decide) nh0_1
    have nh0_0 : wt_pin N.1 vwCl h0 0 0 (.long x24) H := np
    refine lv_aload_n hx hb dX0_lower_28 rfl (lv_at hl 1 rfl) ?_
    refine lv_dup hx hb dX0_lower_29 rfl ?_
    refine wt_rel hx hb hts cfX0 hown hK nh0_1 rfl (by decide) (Or.inl (hts _ q260)) dX0_lower_30 ?_
    refine lv_lload_n hx hb dX0_lower_33 rfl (lv_at hl 0 rfl) ?_
    refine lv_ldiv hx hb dX0_lower_34 (l_ne0 (by have h9 := rx8_14; omega)) ?_
    refine lv_topl (fun x34 e34 => ?_)
    refine wt_putp hx hb hts cfX0 tyX0 tyX0_ok nmX0 hown hK hW hS (cg0 k0) (ce k0 (by decide)) rfl 1 (by decide) (Or.inl (hts _ q260)) rfl rfl rfl gl_mk dX0_lower_35 (fun H locs hW hS oq o2 np => ?_)
    have nh0_0 := o2 0 _ (by decide) (by decide) nh0_0
    have nh0_1 : wt_pin N.1 vwCl h0 0 1 (.long x34) H := np
    exact W.vret hx hb hr (fun t ht _ => ⟨⟨(), rfl, trivial, cW_at ht hW, trivial⟩, hS.F ht⟩) hS.2.2 dX0_lower_38
set_option maxHeartbeats 4000000 in
set_option maxRecDepth 100000 in
theorem m_X0_compareWith (l : Launch) (N : c_N) (h0 : Nat) (k0 : N.2.2.1 h0 = some 0) (p1 : Nat) (kp1 : N.2.2.1 p1 = some 0) : cMi l yX0_compareWith cX0_compareWith 19 .int { frames := 1, cells := 0, slots := 0, locals := 23 } [.ref h0, .ref p1] N [] cT0 (fun _ => True) := by
  refine Met.ofW (cc := cX0_compareWith) (maxL := 19) (ret := some .int) (by decide) rfl ?_
  intro p e s m args below meth c s₁ B hml hv
  obtain ⟨rfl, ⟨hK, hW, hT, hnn⟩, hB⟩ := hv
  have hx := B.exec
  have hb := B.bytes
  have hr := B.returns
  have hts : ∀ w ∈ lw_g, w.before _ s = true := fun w h => atoms_spec (ws := wc_ws yX0_compareWith cX0_compareWith 19 (some .int)) B.pre w (List.mem_cons_of_mem _ h)
  have hown : s.vm.findClass RX0 = some m.cls := findClass_of_methodNamed B.named
  have hlocks := B.notSynchronized
  have hS : va_S (cE N []) s.heap s.heap [] := va_S.rf
  have hl := lv_entry ([.ref h0, .ref p1]) (n := 19) (Nat.le_of_ble_eq_true rfl)
  rw [lg_entry_eq]
  generalize (lg_sl ([.ref h0, .ref p1]) ++ List.replicate (19 - (lg_sl ([.ref h0, .ref p1])).length) Slot.unset).toArray = ls at hl ⊢
  have hl : lv_has ls 19 [(0, .ref h0), (1, .ref p1)] := hl
  refine wq_all ?_
  intro WW w1 w2
  have J110 : ∀ (H : Heap) (locs : List Loc) (ls : Array Slot) (v110_15 : Int64) (v110_17 : Int64) (u110_0 : Int64) (u110_1 : Int64) (u110_2 : Int64) (u110_3 : Int64), cW N H → va_S (cE N []) s.heap H locs → lv_has ls 19 [(15, .long v110_15), (17, .long v110_17)] → wt_pin N.1 vwCl h0 0 0 (.long u110_0) H → wt_pin N.1 vwCl h0 0 1 (.long u110_1) H → wt_pin N.1 vwCl p1 0 0 (.long u110_2) H → wt_pin N.1 vwCl p1 0 1 (.long u110_3) H → WW H locs (F0 m 110 ls []) := by
    intro H locs ls v110_15 v110_17 u110_0 u110_1 u110_2 u110_3 hW hS hl nh0_0 nh0_1 np1_0 np1_1
    refine w1 _ _ _ ?_
    refine lv_lload hx hb dX0_compareWith_110 (lv_at hl 0 rfl) ?_
    refine lv_lload hx hb dX0_compareWith_112 (lv_at hl 1 rfl) ?_
    refine cp_i (wt_runS (As := [.long v110_15, .long v110_17]) (rest := []) ⟨hx, hb, hml, hown, hts⟩ (m_J13_compare_74951 l v110_15 v110_17) wm_J13_compare_74951 q664 ⟨rfl, rfl⟩ ⟨Nat.le_of_ble_eq_true rfl, Nat.le_of_ble_eq_true rfl⟩ pS_pre rfl hl.1 rfl (Nat.le_of_ble_eq_true rfl) dX0_compareWith_114 ⟨Nat.zero_le _, Nat.zero_le _⟩) hW hS (fun x114 H locs hp hW hS oq => ?_)
    have nh0_0 := nh0_0.kept (oq _ nh0_0.lt (cE_not k0 (by decide)))
    have nh0_1 := nh0_1.kept (oq _ nh0_1.lt (cE_not k0 (by decide)))
    have np1_0 := np1_0.kept (oq _ np1_0.lt (cE_not kp1 (by decide)))
    have np1_1 := np1_1.kept (oq _ np1_1.lt (cE_not kp1 (by decide)))
    exact W.iret (v := x114) hx hb hr (fun t ht _ => ⟨⟨x114, (), rfl, trivial, cW_at ht hW⟩, hS.F ht⟩) hS.2.2 dX0_compareWith_117
  have L26 : ∀ (n : Nat) (H : Heap) (locs : List Loc) (ls : Array Slot) (v26_2 : Int64) (v26_4 : Int64) (v26_6 : Int64) (v26_8 : Int64) (v26_10 : Int32) (u26_0 : Int64) (u26_1 : Int64) (u26_2 : Int64) (u26_3 : Int64), cW N H → va_S (cE N []) s.heap H locs → lv_has ls 19 [(2, .long v26_2), (4, .long v26_4), (6, .long v26_6), (8, .long v26_8), (10, .int v26_10)] → ir v26_10 0 200 → wt_pin N.1 vwCl h0 0 0 (.long u26_0) H → wt_pin N.1 vwCl h0 0 1 (.long u26_1) H → wt_pin N.1 vwCl p1 0 0 (.long u26_2) H → wt_pin N.1 vwCl p1 0 1 (.long u26_3) H → 200 - v26_10.toInt < (n : Int) → WW H locs (F0 m 26 ls []) := by
    intro n
    induction n with
    | zero =>
      intro H locs ls v26_2 v26_4 v26_6 v26_8 v26_10 u26_0 u26_1 u26_2 u26_3 hW hS hl rv26_10 nh0_0 nh0_1 np1_0 np1_1 mu26
      exfalso
      omega
    | succ n ih26 =>
      intro H locs ls v26_2 v26_4 v26_6 v26_8 v26_10 u26_0 u26_1 u26_2 u26_3 hW hS hl rv26_10 nh0_0 nh0_1 np1_0 np1_1 mu26
      refine w1 _ _ _ ?_
      refine lv_iload hx hb dX0_compareWith_26 (lv_at hl 4 rfl) ?_
      refine lv_sipush (v := 200) hx hb dX0_compareWith_28 (by decide) ?_
      refine lv_icmp_ge (tgt := 139) hx hb dX0_compareWith_31 (by decide) (fun c31 => ?_) (fun c31 => ?_)
      · have rv26_10_31 : ir v26_10 200 200 := ⟨Int.le_trans (by decide) (rf_le c31 (ir_c (200) (by decide) : ir (200 : Int32) (200) (200)) rv26_10).2, (rv26_10).2⟩
        refine lv_iconst (v := 0) hx hb dX0_compareWith_139 (by decide) ?_
        exact W.iret (v := (0 : Int32)) hx hb hr (fun t ht _ => ⟨⟨(0 : Int32), (), rfl, trivial, cW_at ht hW⟩, hS.F ht⟩) hS.2.2 dX0_compareWith_140
      · have rv26_10_31 : ir v26_10 0 199 := ⟨(rv26_10).1, Int.le_trans (rf_lt (rf_nle c31) rv26_10 (ir_c (200) (by decide) : ir (200 : Int32) (200) (200))).1 (by decide)⟩
        refine lv_lload hx hb dX0_compareWith_34 (lv_at hl 1 rfl) ?_
        refine lv_lconst (v := 0) hx hb dX0_compareWith_36 (by decide) ?_
        refine wl_le (tgt := 139) hx hb dX0_compareWith_37 dX0_compareWith_38 (by decide) (fun c37 => ?_) (fun c37 => ?_)
        · have c37 : v26_4.toInt ≤ (0 : Int) := c37
          have rv26_4_37 : lr v26_4 (-9223372036854775808) 0 := by have h8 := (lr_any v26_4); have h9 := (lr_c (0) (by decide) : lr (0 : Int64) (0) (0)); constructor <;> omega
          refine lv_iconst (v := 0) hx hb dX0_compareWith_139 (by decide) ?_
          exact W.iret (v := (0 : Int32)) hx hb hr (fun t ht _ => ⟨⟨(0 : Int32), (), rfl, trivial, cW_at ht hW⟩, hS.F ht⟩) hS.2.2 dX0_compareWith_140
        · have c37 : (0 : Int) < v26_4.toInt := c37
          have rv26_4_37 : lr v26_4 1 9223372036854775807 := by have h8 := (lr_any v26_4); have h9 := (lr_c (0) (by decide) : lr (0 : Int64) (0) (0)); constructor <;> omega
          refine lv_lload hx hb dX0_compareWith_41 (lv_at hl 3 rfl) ?_
          refine lv_lconst (v := 0) hx hb dX0_compareWith_43 (by decide) ?_
          refine wl_le (tgt := 139) hx hb dX0_compareWith_44 dX0_compareWith_45 (by decide) (fun c44 => ?_) (fun c44 => ?_)
          · have c44 : v26_8.toInt ≤ (0 : Int) := c44
            have rv26_8_44 : lr v26_8 (-9223372036854775808) 0 := by have h8 := (lr_any v26_8); have h9 := (lr_c (0) (by decide) : lr (0 : Int64) (0) (0)); constructor <;> omega
            refine lv_iconst (v := 0) hx hb dX0_compareWith_139 (by decide) ?_
            exact W.iret (v := (0 : Int32)) hx hb hr (fun t ht _ => ⟨⟨(0 : Int32), (), rfl, trivial, cW_at ht hW⟩, hS.F ht⟩) hS.2.2 dX0_compareWith_140
          · have c44 : (0 : Int) < v26_8.toInt := c44
            have rv26_8_44 : lr v26_8 1 9223372036854775807 := by have h8 := (lr_any v26_8); have h9 := (lr_c (0) (by decide) : lr (0 : Int64) (0) (0)); constructor <;> omega
            refine lv_lload_n hx hb dX0_compareWith_48 rfl (lv_at hl 0 rfl) ?_
            refine lv_lload hx hb dX0_compareWith_49 (lv_at hl 1 rfl) ?_
            refine lv_ldiv hx hb dX0_compareWith_51 (l_ne0 (by have h9 := rv26_4_37; omega)) ?_
            refine lv_topl (fun x51 e51 => ?_)
            refine lv_lstore (lv' := [(11, .long x51), (2, .long v26_2), (4, .long v26_4), (6, .long v26_6), (8, .long v26_8), (10, .int v26_10)]) hx hb dX0_compareWith_52 hl (by decide) rfl (fun ls hl => ?_)
            refine lv_lload hx hb dX0_compareWith_54 (lv_at hl 3 rfl) ?_
            refine lv_lload hx hb dX0_compareWith_56 (lv_at hl 4 rfl) ?_
            refine lv_ldiv hx hb dX0_compareWith_58 (l_ne0 (by have h9 := rv26_8_44; omega)) ?_
            refine lv_topl (fun x58 e58 => ?_)
            refine lv_lstore (lv' := [(13, .long x58), (11, .long x51), (2, .long v26_2), (4, .long v26_4), (6, .long v26_6), (8, .long v26_8), (10, .int v26_10)]) hx hb dX0_compareWith_59 hl (by decide) rfl (fun ls hl => ?_)
            refine lv_lload hx hb dX0_compareWith_61 (lv_at hl 1 rfl) ?_
            refine lv_lload hx hb dX0_compareWith_63 (lv_at hl 0 rfl) ?_
            refine wl_eq (tgt := 83) hx hb dX0_compareWith_65 dX0_compareWith_66 (by decide) (fun c65 => ?_) (fun c65 => ?_)
            · refine lv_lload_n hx hb dX0_compareWith_83 rfl (lv_at hl 2 rfl) ?_
              refine lv_lload hx hb dX0_compareWith_84 (lv_at hl 3 rfl) ?_
              refine lv_lrem hx hb dX0_compareWith_86 (l_ne0 (by have h9 := rv26_4_37; omega)) ?_
              refine lv_topl (fun x86 e86 => ?_)
              refine lv_lstore (lv' := [(15, .long x86), (13, .long x58), (11, .long x51), (2, .long v26_2), (4, .long v26_4), (6, .long v26_6), (8, .long v26_8), (10, .int v26_10)]) hx hb dX0_compareWith_87 hl (by decide) rfl (fun ls hl => ?_)
              refine lv_lload hx hb dX0_compareWith_89 (lv_at hl 5 rfl) ?_
              refine lv_lload hx hb dX0_compareWith_91 (lv_at hl 6 rfl) ?_
              refine lv_lrem hx hb dX0_compareWith_93 (l_ne0 (by have h9 := rv26_8_44; omega)) ?_
              refine lv_topl (fun x93 e93 => ?_)
              refine lv_lstore (lv' := [(17, .long x93), (15, .long x86), (13, .long x58), (11, .long x51), (2, .long v26_2), (4, .long v26_4), (6, .long v26_6), (8, .long v26_8), (10, .int v26_10)]) hx hb dX0_compareWith_94 hl (by decide) rfl (fun ls hl => ?_)
              refine lv_lload hx hb dX0_compareWith_96 (lv_at hl 1 rfl) ?_
              refine lv_lconst (v := 0) hx hb dX0_compareWith_98 (by decide) ?_
              refine wl_eq (tgt := 110) hx hb dX0_compareWith_99 dX0_compareWith_100 (by decide) (fun c99 => ?_) (fun c99 => ?_)
              · have c99 : x86.toInt = (0 : Int) := c99
                have rx86_99 : lr x86 0 0 := by have h8 := (lr_any x86); have h9 := (lr_c (0) (by decide) : lr (0 : Int64) (0) (0)); constructor <;> omega
                exact w2 _ _ _ (J110 _ _ _ x86 x93 u26_0 u26_1 u26_2 u26_3 hW hS (lv_sub hl [1, 0] rfl) nh0_0 nh0_1 np1_0 np1_1)
              · have c99 : x86.toInt ≠ (0 : Int) := c99
                refine lv_lload hx hb dX0_compareWith_103 (lv_at hl 0 rfl) ?_
                refine lv_lconst (v := 0) hx hb dX0_compareWith_105 (by decide) ?_
                refine wl_ne (tgt := 118) hx hb dX0_compareWith_106 dX0_compareWith_107 (by decide) (fun c106 => ?_) (fun c106 => ?_)
                · have c106 : x93.toInt ≠ (0 : Int) := c106
                  refine lv_lload hx hb dX0_compareWith_118 (lv_at hl 7 rfl) ?_
                  refine lv_lstore_n (lv' := [(2, .long v26_8), (17, .long x93), (15, .long x86), (13, .long x58), (11, .long x51), (4, .long v26_4), (6, .long v26_6), (8, .long v26_8), (10, .int v26_10)]) hx hb dX0_compareWith_120 rfl hl (by decide) rfl (fun ls hl => ?_)
                  refine lv_lload hx hb dX0_compareWith_121 (lv_at hl 5 rfl) ?_
                  refine lv_lstore (lv' := [(6, .long v26_4), (2, .long v26_8), (17, .long x93), (15, .long x86), (13, .long x58), (11, .long x51), (4, .long v26_4), (8, .long v26_8), (10, .int v26_10)]) hx hb dX0_compareWith_123 hl (by decide) rfl (fun ls hl => ?_)
                  refine lv_lload hx hb dX0_compareWith_125 (lv_at hl 2 rfl) ?_
                  refine lv_lstore (lv' := [(4, .long x93), (6, .long v26_4), (2, .long v26_8), (17, .long x93), (15, .long x86), (13, .long x58), (11, .long x51), (8, .long v26_8), (10, .int v26_10)]) hx hb dX0_compareWith_127 hl (by decide) rfl (fun ls hl => ?_)
                  refine lv_lload hx hb dX0_compareWith_129 (lv_at hl 4 rfl) ?_
                  refine lv_lstore (lv' := [(8, .long x86), (4, .long x93), (6, .long v26_4), (2, .long v26_8), (17, .long x93), (15, .long x86), (13, .long x58), (11, .long x51), (10, .int v26_10)]) hx hb dX0_compareWith_131 hl (by decide) rfl (fun ls hl => ?_)
                  obtain ⟨x133, e133⟩ : ∃ y : Int32, y = v26_10 + 1 := ⟨_, rfl⟩
                  have r133 : ir x133 1 200 := ir_w (ir_add e133 rv26_10_31 (ir_c (1) (by decide) : ir (1 : Int32) (1) (1)) (by decide) (by decide)) (by decide) (by decide)
                  have t133 : x133.toInt = v26_10.toInt + (1) := it_add e133 rv26_10_31 (ir_c (1) (by decide) : ir (1 : Int32) (1) (1)) (by decide) (by decide)
                  refine lv_iinc (v := x133) (lv' := [(10, .int x133), (8, .long x86), (4, .long x93), (6, .long v26_4), (2, .long v26_8), (17, .long x93), (15, .long x86), (13, .long x58), (11, .long x51)]) hx hb dX0_compareWith_133 hl (k := 8) rfl (by rw [e133]; rfl) (by decide) rfl (fun ls hl => ?_)
                  refine lv_goto (tgt := 26) hx hb dX0_compareWith_136 (by decide) ?_
                  exact w2 _ _ _ (ih26 _ _ _ v26_8 x93 v26_4 x86 x133 u26_0 u26_1 u26_2 u26_3 hW hS (lv_sub hl [4, 2, 3, 1, 0] rfl) (ir_w (lo' := 0) (hi' := 200) r133 (by decide) (by decide)) nh0_0 nh0_1 np1_0 np1_1 (by have h9 := r133; omega))
                · have c106 : x93.toInt = (0 : Int) := c106
                  have rx93_106 : lr x93 0 0 := by have h8 := (lr_any x93); have h9 := (lr_c (0) (by decide) : lr (0 : Int64) (0) (0)); constructor <;> omega
                  exact w2 _ _ _ (J110 _ _ _ x86 x93 u26_0 u26_1 u26_2 u26_3 hW hS (lv_sub hl [1, 0] rfl) nh0_0 nh0_1 np1_0 np1_1)
            · refine lv_lload hx hb dX0_compareWith_69 (lv_at hl 1 rfl) ?_
              refine lv_lload hx hb dX0_compareWith_71 (lv_at hl 0 rfl) ?_
              refine wl_ge (tgt := 81) hx hb dX0_compareWith_73 dX0_compareWith_74 (by decide) (fun c73 => ?_) (fun c73 => ?_)
              · refine lv_iconst (v := 1) hx hb dX0_compareWith_81 (by decide) ?_
                exact W.iret (v := (1 : Int32)) hx hb hr (fun t ht _ => ⟨⟨(1 : Int32), (), rfl, trivial, cW_at ht hW⟩, hS.F ht⟩) hS.2.2 dX0_compareWith_82
              · have rx51_73 : lr x51 (-9223372036854775808) 9223372036854775806 := by have h8 := (lr_any x51); have h9 := (lr_any x58); constructor <;> omega
                have rx58_73 : lr x58 (-9223372036854775807) 9223372036854775807 := by have h8 := (lr_any x58); have h9 := rx51_73; constructor <;> omega
                refine lv_iconst (v := -1) hx hb dX0_compareWith_77 (by decide) ?_
                refine lv_goto (tgt := 82) hx hb dX0_compareWith_78 (by decide) ?_
                exact W.iret (v := (-1 : Int32)) hx hb hr (fun t ht _ => ⟨⟨(-1 : Int32), (), rfl, trivial, cW_at ht hW⟩, hS.F ht⟩) hS.2.2 dX0_compareWith_82
  refine lv_aload_n hx hb dX0_compareWith_0 rfl (lv_at hl 0 rfl) ?_
  refine wt_getp hx hb hts cfX0 hown hK hW (cg0 k0) rfl 0 (by decide) (Or.inl (hts _ q258)) dX0_compareWith_1 (fun v hv nh0_0 => ?_)
  obtain ⟨x1, rfl⟩ : gl v := hv
  refine lv_lstore_n (lv' := [(2, .long x1), (0, .ref h0), (1, .ref p1)]) hx hb dX0_compareWith_4 rfl hl (by decide) rfl (fun ls hl => ?_)
  refine lv_aload_n hx hb dX0_compareWith_5 rfl (lv_at hl 1 rfl) ?_
  refine wt_getp hx hb hts cfX0 hown hK hW (cg0 k0) rfl 1 (by decide) (Or.inl (hts _ q260)) dX0_compareWith_6 (fun v hv nh0_1 => ?_)
  obtain ⟨x6, rfl⟩ : gl v := hv
  refine lv_lstore (lv' := [(4, .long x6), (2, .long x1), (0, .ref h0), (1, .ref p1)]) hx hb dX0_compareWith_9 hl (by decide) rfl (fun ls hl => ?_)
  refine lv_aload_n hx hb dX0_compareWith_11 rfl (lv_at hl 3 rfl) ?_
  refine wt_getp hx hb hts cfX0 hown hK hW (cg0 kp1) rfl 0 (by decide) (Or.inl (hts _ q258)) dX0_compareWith_12 (fun v hv np1_0 => ?_)
  obtain ⟨x12, rfl⟩ : gl v := hv
  refine lv_lstore (lv' := [(6, .long x12), (4, .long x6), (2, .long x1), (0, .ref h0), (1, .ref p1)]) hx hb dX0_compareWith_15 hl (by decide) rfl (fun ls hl => ?_)
  refine lv_aload_n hx hb dX0_compareWith_17 rfl (lv_at hl 4 rfl) ?_
  refine wt_getp hx hb hts cfX0 hown hK hW (cg0 kp1) rfl 1 (by decide) (Or.inl (hts _ q260)) dX0_compareWith_18 (fun v hv np1_1 => ?_)
  obtain ⟨x18, rfl⟩ : gl v := hv
  refine lv_lstore (lv' := [(8, .long x18), (6, .long x12), (4, .long x6), (2, .long x1), (0, .ref h0), (1, .ref p1)]) hx hb dX0_compareWith_21 hl (by decide) rfl (fun ls hl => ?_)
  refine lv_iconst (v := 0) hx hb dX0_compareWith_23 (by decide) ?_
  refine lv_istore (lv' := [(10, .int (0 : Int32)), (8, .long x18), (6, .long x12), (4, .long x6), (2, .long x1), (0, .ref h0), (1, .ref p1)]) hx hb dX0_compareWith_24 hl (by decide) rfl (fun ls hl => ?_)
  exact w2 _ _ _ (L26 201 _ _ _ x1 x6 x12 x18 (0 : Int32) x1 x6 x12 x18 hW hS (lv_sub hl [4, 3, 2, 1, 0] rfl) (ir_w (lo' := 0) (hi' := 200) (ir_c (0) (by decide) : ir (0 : Int32) (0) (0)) (by decide) (by decide)) nh0_0 nh0_1 np1_0 np1_1 (by have h9 := (ir_c (0) (by decide) : ir (0 : Int32) (0) (0)); omega))
set_option maxHeartbeats 4000000 in
set_option maxRecDepth 100000 in
theorem m_X8_set (l : Launch) (N : c_N) (h0 : Nat) (k0 : N.2.2.1 h0 = some 8) (p1 : Int64) (p2 : Int64) : cMv l yX8_set cX8_set 7 { frames := 1, cells := 0, slots := 0, locals := 30 } [.ref h0, .long p1, .long p2] N [8] cT0 cT0 := by
  refine Met.ofW (cc := cX8_set) (maxL := 7) (ret := none) (by decide) rfl ?_
  intro p e s m args below meth c s₁ B hml hv
  obtain ⟨rfl, ⟨hK, hW, hT, hnn⟩, hB⟩ := hv
  have hx := B.exec
  have hb := B.bytes
  have hr := B.returns
  have hts : ∀ w ∈ lw_g, w.before _ s = true := fun w h => atoms_spec (ws := wc_ws yX8_set cX8_set 7 none) B.pre w (List.mem_cons_of_mem _ h)
  have hown : s.vm.findClass RX8 = some m.cls := findClass_of_methodNamed B.named
  have hlocks := B.notSynchronized
  have hS : va_S (cE N [8]) s.heap s.heap [] := va_S.rf
  have hl := lv_entry ([.ref h0, .long p1, .long p2]) (n := 7) (Nat.le_of_ble_eq_true rfl)
  rw [lg_entry_eq]
  generalize (lg_sl ([.ref h0, .long p1, .long p2]) ++ List.replicate (7 - (lg_sl ([.ref h0, .long p1, .long p2])).length) Slot.unset).toArray = ls at hl ⊢
  have hl : lv_has ls 7 [(0, .ref h0), (1, .long p1), (3, .long p2)] := hl
  refine wq_all ?_
  intro WW w1 w2
  have J23 : ∀ (H : Heap) (locs : List Loc) (ls : Array Slot) (v23_5 : Int64) (w23_0 : Int64), cW N H → va_S (cE N [8]) s.heap H locs → lv_has ls 7 [(0, .ref h0), (3, .long p2), (5, .long v23_5)] → WW H locs (F0 m 23 ls [.long w23_0, .ref h0]) := by
    intro H locs ls v23_5 w23_0 hW hS hl
    refine w1 _ _ _ ?_
    refine wt_putp hx hb hts cfX8 tyX8 tyX8_ok nmX8 hown hK hW hS (cg8 k0) (ce k0 (by decide)) rfl 0 (by decide) (Or.inl (hts _ q170)) rfl rfl rfl gl_mk dX8_set_23 (fun H locs hW hS oq o2 np => ?_)
    have nh0_0 : wt_pin N.1 vwCl h0 8 0 (.long w23_0) H := np
    refine lv_aload_n hx hb dX8_set_26 rfl (lv_at hl 0 rfl) ?_
    refine lv_lload hx hb dX8_set_27 (lv_at hl 2 rfl) ?_
    refine lv_lconst (v := 1) hx hb dX8_set_29 (by decide) ?_
    refine wl_le (tgt := 41) hx hb dX8_set_30 dX8_set_31 (by decide) (fun c30 => ?_) (fun c30 => ?_)
    · have c30 : v23_5.toInt ≤ (1 : Int) := c30
      have rv23_5_30 : lr v23_5 (-9223372036854775808) 1 := by have h8 := (lr_any v23_5); have h9 := (lr_c (1) (by decide) : lr (1 : Int64) (1) (1)); constructor <;> omega
      refine lv_lload_n hx hb dX8_set_41 rfl (lv_at hl 1 rfl) ?_
      refine wt_putp hx hb hts cfX8 tyX8 tyX8_ok nmX8 hown hK hW hS (cg8 k0) (ce k0 (by decide)) rfl 1 (by decide) (Or.inl (hts _ q173)) rfl rfl rfl gl_mk dX8_set_42 (fun H locs hW hS oq o2 np => ?_)
      have nh0_0 := o2 0 _ (by decide) (by decide) nh0_0
      have nh0_1 : wt_pin N.1 vwCl h0 8 1 (.long p2) H := np
      exact W.vret hx hb hr (fun t ht _ => ⟨⟨(), rfl, trivial, cW_at ht hW, trivial⟩, hS.F ht⟩) hS.2.2 dX8_set_45
    · have c30 : (1 : Int) < v23_5.toInt := c30
      have rv23_5_30 : lr v23_5 2 9223372036854775807 := by have h8 := (lr_any v23_5); have h9 := (lr_c (1) (by decide) : lr (1 : Int64) (1) (1)); constructor <;> omega
      refine lv_lload_n hx hb dX8_set_34 rfl (lv_at hl 1 rfl) ?_
      refine lv_lload hx hb dX8_set_35 (lv_at hl 2 rfl) ?_
      refine lv_ldiv hx hb dX8_set_37 (l_ne0 (by have h9 := rv23_5_30; omega)) ?_
      refine lv_topl (fun x37 e37 => ?_)
      refine lv_goto (tgt := 42) hx hb dX8_set_38 (by decide) ?_
      refine wt_putp hx hb hts cfX8 tyX8 tyX8_ok nmX8 hown hK hW hS (cg8 k0) (ce k0 (by decide)) rfl 1 (by decide) (Or.inl (hts _ q173)) rfl rfl rfl gl_mk dX8_set_42 (fun H locs hW hS oq o2 np => ?_)
      have nh0_0 := o2 0 _ (by decide) (by decide) nh0_0
      have nh0_1 : wt_pin N.1 vwCl h0 8 1 (.long x37) H := np
      exact W.vret hx hb hr (fun t ht _ => ⟨⟨(), rfl, trivial, cW_at ht hW, trivial⟩, hS.F ht⟩) hS.2.2 dX8_set_45
  refine lv_lload_n hx hb dX8_set_0 rfl (lv_at hl 1 rfl) ?_
  refine lv_lload_n hx hb dX8_set_1 rfl (lv_at hl 2 rfl) ?_
  refine cp_l (wt_runSN (As := [.long p1, .long p2]) (rest := []) ⟨hx, hb, hml, hown, hts⟩ hnn (m_X10_commonDivisor l p1 p2) wm_X10_commonDivisor q487 ⟨rfl, rfl⟩ ⟨Nat.le_of_ble_eq_true rfl, Nat.le_of_ble_eq_true rfl⟩ pS_pre rfl hl.1 rfl (Nat.le_of_ble_eq_true rfl) dX8_set_2 ⟨Nat.zero_le _, Nat.zero_le _⟩) hW hS (fun x2 H locs hp hW hS oq => ?_)
  refine lv_lstore (lv' := [(5, .long x2), (0, .ref h0), (1, .long p1), (3, .long p2)]) hx hb dX8_set_5 hl (by decide) rfl (fun ls hl => ?_)
  refine lv_aload_n hx hb dX8_set_7 rfl (lv_at hl 1 rfl) ?_
  refine lv_lload hx hb dX8_set_8 (lv_at hl 0 rfl) ?_
  refine lv_lconst (v := 1) hx hb dX8_set_10 (by decide) ?_
  refine wl_le (tgt := 22) hx hb dX8_set_11 dX8_set_12 (by decide) (fun c11 => ?_) (fun c11 => ?_)
  · have c11 : x2.toInt ≤ (1 : Int) := c11
    have rx2_11 : lr x2 (-9223372036854775808) 1 := by have h8 := (lr_any x2); have h9 := (lr_c (1) (by decide) : lr (1 : Int64) (1) (1)); constructor <;> omega
    refine lv_lload_n hx hb dX8_set_22 rfl (lv_at hl 2 rfl) ?_
    exact w2 _ _ _ (J23 _ _ _ x2 p1 hW hS (lv_sub hl [1, 3, 0] rfl) )
  · have c11 : (1 : Int) < x2.toInt := c11
    have rx2_11 : lr x2 2 9223372036854775807 := by have h8 := (lr_any x2); have h9 := (lr_c (1) (by decide) : lr (1 : Int64) (1) (1)); constructor <;> omega
    refine lv_lload_n hx hb dX8_set_15 rfl (lv_at hl 2 rfl) ?_
    refine lv_lload hx hb dX8_set_16 (lv_at hl 0 rfl) ?_
    refine lv_ldiv hx hb dX8_set_18 (l_ne0 (by have h9 := rx2_11; omega)) ?_
    refine lv_topl (fun x18 e18 => ?_)
    refine lv_goto (tgt := 23) hx hb dX8_set_19 (by decide) ?_
    exact w2 _ _ _ (J23 _ _ _ x2 x18 hW hS (lv_sub hl [1, 3, 0] rfl) )
set_option maxHeartbeats 4000000 in
set_option maxRecDepth 100000 in
theorem m_X8_ofCode (l : Launch) (N : c_N) (h0 : Nat) (k0 : N.2.2.1 h0 = some 8) (p1 : Int32) : cMv l yX8_ofCode cX8_ofCode 2 { frames := 1, cells := 0, slots := 0, locals := 20 } [.ref h0, .int p1] N [8] cT0 cT0 := by
  refine Met.ofW (cc := cX8_ofCode) (maxL := 2) (ret := none) (by decide) rfl ?_
  intro p e s m args below meth c s₁ B hml hv
  obtain ⟨rfl, ⟨hK, hW, hT, hnn⟩, hB⟩ := hv
  have hx := B.exec
  have hb := B.bytes
  have hr := B.returns
  have hts : ∀ w ∈ lw_g, w.before _ s = true := fun w h => atoms_spec (ws := wc_ws yX8_ofCode cX8_ofCode 2 none) B.pre w (List.mem_cons_of_mem _ h)
  have hown : s.vm.findClass RX8 = some m.cls := findClass_of_methodNamed B.named
  have hlocks := B.notSynchronized
  have hS : va_S (cE N [8]) s.heap s.heap [] := va_S.rf
  have hl := lv_entry ([.ref h0, .int p1]) (n := 2) (Nat.le_of_ble_eq_true rfl)
  rw [lg_entry_eq]
  generalize (lg_sl ([.ref h0, .int p1]) ++ List.replicate (2 - (lg_sl ([.ref h0, .int p1])).length) Slot.unset).toArray = ls at hl ⊢
  have hl : lv_has ls 2 [(0, .ref h0), (1, .int p1)] := hl
  refine wq_all ?_
  intro WW w1 w2
  refine lv_aload_n hx hb dX8_ofCode_0 rfl (lv_at hl 0 rfl) ?_
  refine lv_iload_n hx hb dX8_ofCode_1 rfl (lv_at hl 1 rfl) ?_
  refine cp_i (wt_runSN (As := [.int p1]) (rest := [.ref h0]) ⟨hx, hb, hml, hown, hts⟩ hnn (m_X10_pOf l p1) wm_X10_pOf q473 ⟨rfl, rfl⟩ ⟨Nat.le_of_ble_eq_true rfl, Nat.le_of_ble_eq_true rfl⟩ pS_pre rfl hl.1 rfl (Nat.le_of_ble_eq_true rfl) dX8_ofCode_2 ⟨Nat.zero_le _, Nat.zero_le _⟩) hW hS (fun x2 H locs hp hW hS oq => ?_)
  have r2 : ir x2 0 7 := hp
  refine lv_i2l hx hb dX8_ofCode_5 rfl ?_
  refine lv_topl (fun x5 e5 => ?_)
  have r5 : lr x5 0 7 := by rw [e5]; exact i2l_r r2
  refine wt_putp hx hb hts cfX8 tyX8 tyX8_ok nmX8 hown hK hW hS (cg8 k0) (ce k0 (by decide)) rfl 0 (by decide) (Or.inl (hts _ q170)) rfl rfl rfl gl_mk dX8_ofCode_6 (fun H locs hW hS oq o2 np => ?_)
  have nh0_0 : wt_pin N.1 vwCl h0 8 0 (.long x5) H := np
  refine lv_aload_n hx hb dX8_ofCode_9 rfl (lv_at hl 0 rfl) ?_
  refine lv_iload_n hx hb dX8_ofCode_10 rfl (lv_at hl 1 rfl) ?_
  refine cp_i (wt_runSN (As := [.int p1]) (rest := [.ref h0]) ⟨hx, hb, hml, hown, hts⟩ hnn (m_X10_qOf l p1) wm_X10_qOf q476 ⟨rfl, rfl⟩ ⟨Nat.le_of_ble_eq_true rfl, Nat.le_of_ble_eq_true rfl⟩ pS_pre rfl hl.1 rfl (Nat.le_of_ble_eq_true rfl) dX8_ofCode_11 ⟨Nat.zero_le _, Nat.zero_le _⟩) hW hS (fun x11 H locs hp hW hS oq => ?_)
  have nh0_0 := nh0_0.kept (oq _ nh0_0.lt (cE_not k0 (by decide)))
  have r11 : ir x11 0 7 := hp
  refine lv_i2l hx hb dX8_ofCode_14 rfl ?_
  refine lv_topl (fun x14 e14 => ?_)
  have r14 : lr x14 0 7 := by rw [e14]; exact i2l_r r11
  refine wt_putp hx hb hts cfX8 tyX8 tyX8_ok nmX8 hown hK hW hS (cg8 k0) (ce k0 (by decide)) rfl 1 (by decide) (Or.inl (hts _ q173)) rfl rfl rfl gl_mk dX8_ofCode_15 (fun H locs hW hS oq o2 np => ?_)
  have nh0_0 := o2 0 _ (by decide) (by decide) nh0_0
  have nh0_1 : wt_pin N.1 vwCl h0 8 1 (.long x14) H := np
  exact W.vret hx hb hr (fun t ht _ => ⟨⟨(), rfl, trivial, cW_at ht hW, trivial⟩, hS.F ht⟩) hS.2.2 dX8_ofCode_18
set_option maxHeartbeats 4000000 in
set_option maxRecDepth 100000 in
theorem m_X8_slip (l : Launch) (N : c_N) (h0 : Nat) (k0 : N.2.2.1 h0 = some 8) (p1 : Int32) (p2 : Int32) (rp2 : ir p2 0 1) : cMv l yX8_slip cX8_slip 5 { frames := 2, cells := 0, slots := 0, locals := 56 } [.ref h0, .int p1, .int p2] N [8] cT0 cT0 := by
  refine Met.ofW (cc := cX8_slip) (maxL := 5) (ret := none) (by decide) rfl ?_
  intro p e s m args below meth c s₁ B hml hv
  obtain ⟨rfl, ⟨hK, hW, hT, hnn⟩, hB⟩ := hv
  have hx := B.exec
  have hb := B.bytes
  have hr := B.returns
  have hts : ∀ w ∈ lw_g, w.before _ s = true := fun w h => atoms_spec (ws := wc_ws yX8_slip cX8_slip 5 none) B.pre w (List.mem_cons_of_mem _ h)
  have hown : s.vm.findClass RX8 = some m.cls := findClass_of_methodNamed B.named
  have hlocks := B.notSynchronized
  have hS : va_S (cE N [8]) s.heap s.heap [] := va_S.rf
  have hl := lv_entry ([.ref h0, .int p1, .int p2]) (n := 5) (Nat.le_of_ble_eq_true rfl)
  rw [lg_entry_eq]
  generalize (lg_sl ([.ref h0, .int p1, .int p2]) ++ List.replicate (5 - (lg_sl ([.ref h0, .int p1, .int p2])).length) Slot.unset).toArray = ls at hl ⊢
  have hl : lv_has ls 5 [(0, .ref h0), (1, .int p1), (2, .int p2)] := hl
  refine wq_all ?_
  intro WW w1 w2
  have J54 : ∀ (H : Heap) (locs : List Loc) (ls : Array Slot) (w54_0 : Int64) (u54_0 : Int64) (u54_1 : Int64), cW N H → va_S (cE N [8]) s.heap H locs → lv_has ls 5 [(0, .ref h0), (1, .int p1)] → lr w54_0 0 9223372036854775807 → wt_pin N.1 vwCl h0 8 0 (.long u54_0) H → wt_pin N.1 vwCl h0 8 1 (.long u54_1) H → WW H locs (F0 m 54 ls [.long w54_0, .ref h0]) := by
    intro H locs ls w54_0 u54_0 u54_1 hW hS hl rw54_0 nh0_0 nh0_1
    refine w1 _ _ _ ?_
    refine lv_aload_n hx hb dX8_slip_54 rfl (lv_at hl 0 rfl) ?_
    refine wt_rel hx hb hts cfX8 hown hK nh0_1 rfl (by decide) (Or.inl (hts _ q173)) dX8_slip_55 ?_
    refine lv_iload_n hx hb dX8_slip_58 rfl (lv_at hl 1 rfl) ?_
    refine lv_i2l hx hb dX8_slip_59 rfl ?_
    refine lv_topl (fun x59 e59 => ?_)
    have r59 : lr x59 (-2147483648) 2147483647 := by rw [e59]; exact i2l_r (ir_any p1)
    refine lv_lmul hx hb dX8_slip_60 ?_
    refine lv_topl (fun x60 e60 => ?_)
    refine cc_v (wt_runV (As := [.long w54_0, .long x60]) (rest := []) ⟨hx, hb, hml, hown, hts⟩ (m_X8_set l N h0 k0 w54_0 x60) wm_X8_set q483 ⟨rfl, rfl⟩ ⟨Nat.le_of_ble_eq_true rfl, Nat.le_of_ble_eq_true rfl⟩ (cS_preV hK hW hT hnn hS (cg8 k0) rfl rfl trivial) rfl hl.1 rfl (Nat.le_of_ble_eq_true rfl) dX8_slip_61 ⟨Nat.zero_le _, Nat.zero_le _⟩) hS (by decide) (fun H locs hW hS oq hB2 => ?_)
    exact W.vret hx hb hr (fun t ht _ => ⟨⟨(), rfl, trivial, cW_at ht hW, trivial⟩, hS.F ht⟩) hS.2.2 dX8_slip_64
  have J41 : ∀ (H : Heap) (locs : List Loc) (ls : Array Slot) (w41_0 : Int64) (u41_0 : Int64) (u41_1 : Int64), cW N H → va_S (cE N [8]) s.heap H locs → lv_has ls 5 [(0, .ref h0), (1, .int p1)] → wt_pin N.1 vwCl h0 8 0 (.long u41_0) H → wt_pin N.1 vwCl h0 8 1 (.long u41_1) H → WW H locs (F0 m 41 ls [.long w41_0]) := by
    intro H locs ls w41_0 u41_0 u41_1 hW hS hl nh0_0 nh0_1
    refine w1 _ _ _ ?_
    refine lv_lstore_n (lv' := [(3, .long w41_0), (0, .ref h0), (1, .int p1)]) hx hb dX8_slip_41 rfl hl (by decide) rfl (fun ls hl => ?_)
    refine lv_aload_n hx hb dX8_slip_42 rfl (lv_at hl 1 rfl) ?_
    refine lv_lload_n hx hb dX8_slip_43 rfl (lv_at hl 0 rfl) ?_
    refine lv_lconst (v := 0) hx hb dX8_slip_44 (by decide) ?_
    refine wl_ge (tgt := 53) hx hb dX8_slip_45 dX8_slip_46 (by decide) (fun c45 => ?_) (fun c45 => ?_)
    · have c45 : (0 : Int) ≤ w41_0.toInt := c45
      have rw41_0_45 : lr w41_0 0 9223372036854775807 := by have h8 := (lr_any w41_0); have h9 := (lr_c (0) (by decide) : lr (0 : Int64) (0) (0)); constructor <;> omega
      refine lv_lload_n hx hb dX8_slip_53 rfl (lv_at hl 0 rfl) ?_
      exact w2 _ _ _ (J54 _ _ _ w41_0 u41_0 u41_1 hW hS (lv_sub hl [1, 2] rfl) rw41_0_45 nh0_0 nh0_1)
    · have c45 : w41_0.toInt < (0 : Int) := c45
      have rw41_0_45 : lr w41_0 (-9223372036854775808) (-1) := by have h8 := (lr_any w41_0); have h9 := (lr_c (0) (by decide) : lr (0 : Int64) (0) (0)); constructor <;> omega
      refine lv_lconst (v := 0) hx hb dX8_slip_49 (by decide) ?_
      refine lv_goto (tgt := 54) hx hb dX8_slip_50 (by decide) ?_
      exact w2 _ _ _ (J54 _ _ _ (0 : Int64) u41_0 u41_1 hW hS (lv_sub hl [1, 2] rfl) (lr_w (lo' := 0) (hi' := 9223372036854775807) (lr_c (0) (by decide) : lr (0 : Int64) (0) (0)) (by decide) (by decide)) nh0_0 nh0_1)
  refine lv_aload_n hx hb dX8_slip_0 rfl (lv_at hl 0 rfl) ?_
  refine wt_getp hx hb hts cfX8 hown hK hW (cg8 k0) rfl 1 (by decide) (Or.inl (hts _ q173)) dX8_slip_1 (fun v hv nh0_1 => ?_)
  obtain ⟨x1, rfl⟩ : gl v := hv
  refine lv_lconst (v := 0) hx hb dX8_slip_4 (by decide) ?_
  refine wl_ne (tgt := 10) hx hb dX8_slip_5 dX8_slip_6 (by decide) (fun c5 => ?_) (fun c5 => ?_)
  · have c5 : x1.toInt ≠ (0 : Int) := c5
    refine lv_iload_n hx hb dX8_slip_10 rfl (lv_at hl 2 rfl) ?_
    refine lv_if_eq (tgt := 29) hx hb dX8_slip_11 (by decide) (fun c11 => ?_) (fun c11 => ?_)
    · have rp2_11 : ir p2 0 0 := rf_eq c11 (ir_c (0) (by decide) : ir (0 : Int32) (0) (0))
      refine lv_aload_n hx hb dX8_slip_29 rfl (lv_at hl 0 rfl) ?_
      refine wt_getp hx hb hts cfX8 hown hK hW (cg8 k0) rfl 0 (by decide) (Or.inl (hts _ q170)) dX8_slip_30 (fun v hv nh0_0 => ?_)
      obtain ⟨x30, rfl⟩ : gl v := hv
      refine lv_iload_n hx hb dX8_slip_33 rfl (lv_at hl 1 rfl) ?_
      refine lv_i2l hx hb dX8_slip_34 rfl ?_
      refine lv_topl (fun x34 e34 => ?_)
      have r34 : lr x34 (-2147483648) 2147483647 := by rw [e34]; exact i2l_r (ir_any p1)
      refine lv_lmul hx hb dX8_slip_35 ?_
      refine lv_topl (fun x35 e35 => ?_)
      refine lv_aload_n hx hb dX8_slip_36 rfl (lv_at hl 0 rfl) ?_
      refine wt_rel hx hb hts cfX8 hown hK nh0_1 rfl (by decide) (Or.inl (hts _ q173)) dX8_slip_37 ?_
      refine lv_lsub hx hb dX8_slip_40 ?_
      refine lv_topl (fun x40 e40 => ?_)
      exact w2 _ _ _ (J41 _ _ _ x40 x30 x1 hW hS (lv_sub hl [0, 1] rfl) nh0_0 nh0_1)
    · have rp2_11 : ir p2 1 1 := rf_ne0 c11 rp2
      refine lv_aload_n hx hb dX8_slip_14 rfl (lv_at hl 0 rfl) ?_
      refine wt_getp hx hb hts cfX8 hown hK hW (cg8 k0) rfl 0 (by decide) (Or.inl (hts _ q170)) dX8_slip_15 (fun v hv nh0_0 => ?_)
      obtain ⟨x15, rfl⟩ : gl v := hv
      refine lv_iload_n hx hb dX8_slip_18 rfl (lv_at hl 1 rfl) ?_
      refine lv_i2l hx hb dX8_slip_19 rfl ?_
      refine lv_topl (fun x19 e19 => ?_)
      have r19 : lr x19 (-2147483648) 2147483647 := by rw [e19]; exact i2l_r (ir_any p1)
      refine lv_lmul hx hb dX8_slip_20 ?_
      refine lv_topl (fun x20 e20 => ?_)
      refine lv_aload_n hx hb dX8_slip_21 rfl (lv_at hl 0 rfl) ?_
      refine wt_rel hx hb hts cfX8 hown hK nh0_1 rfl (by decide) (Or.inl (hts _ q173)) dX8_slip_22 ?_
      refine lv_ladd hx hb dX8_slip_25 ?_
      refine lv_topl (fun x25 e25 => ?_)
      refine lv_goto (tgt := 41) hx hb dX8_slip_26 (by decide) ?_
      exact w2 _ _ _ (J41 _ _ _ x25 x15 x1 hW hS (lv_sub hl [0, 1] rfl) nh0_0 nh0_1)
  · have c5 : x1.toInt = (0 : Int) := c5
    have rx1_5 : lr x1 0 0 := by have h8 := (lr_any x1); have h9 := (lr_c (0) (by decide) : lr (0 : Int64) (0) (0)); constructor <;> omega
    exact W.vret hx hb hr (fun t ht _ => ⟨⟨(), rfl, trivial, cW_at ht hW, trivial⟩, hS.F ht⟩) hS.2.2 dX8_slip_9
set_option maxHeartbeats 4000000 in
set_option maxRecDepth 100000 in
theorem m_X8_raise (l : Launch) (N : c_N) (h0 : Nat) (k0 : N.2.2.1 h0 = some 8) (p1 : Int32) (rp1 : ir p1 1 4) : cMv l yX8_raise cX8_raise 9 { frames := 2, cells := 0, slots := 0, locals := 56 } [.ref h0, .int p1] N [8] cT0 cT0 := by
  refine Met.ofW (cc := cX8_raise) (maxL := 9) (ret := none) (by decide) rfl ?_
  intro p e s m args below meth c s₁ B hml hv
  obtain ⟨rfl, ⟨hK, hW, hT, hnn⟩, hB⟩ := hv
  have hx := B.exec
  have hb := B.bytes
  have hr := B.returns
  have hts : ∀ w ∈ lw_g, w.before _ s = true := fun w h => atoms_spec (ws := wc_ws yX8_raise cX8_raise 9 none) B.pre w (List.mem_cons_of_mem _ h)
  have hown : s.vm.findClass RX8 = some m.cls := findClass_of_methodNamed B.named
  have hlocks := B.notSynchronized
  have hS : va_S (cE N [8]) s.heap s.heap [] := va_S.rf
  have hl := lv_entry ([.ref h0, .int p1]) (n := 9) (Nat.le_of_ble_eq_true rfl)
  rw [lg_entry_eq]
  generalize (lg_sl ([.ref h0, .int p1]) ++ List.replicate (9 - (lg_sl ([.ref h0, .int p1])).length) Slot.unset).toArray = ls at hl ⊢
  have hl : lv_has ls 9 [(0, .ref h0), (1, .int p1)] := hl
  refine wq_all ?_
  intro WW w1 w2
  have J85 : ∀ (H : Heap) (locs : List Loc) (ls : Array Slot) (v85_2 : Int64) (v85_4 : Int64) (w85_0 : Int32) (u85_0 : Int64) (u85_1 : Int64), cW N H → va_S (cE N [8]) s.heap H locs → lv_has ls 9 [(0, .ref h0), (2, .long v85_2), (4, .long v85_4)] → ir w85_0 (-1) 1 → wt_pin N.1 vwCl h0 8 0 (.long u85_0) H → wt_pin N.1 vwCl h0 8 1 (.long u85_1) H → WW H locs (F0 m 85 ls [.int w85_0]) := by
    intro H locs ls v85_2 v85_4 w85_0 u85_0 u85_1 hW hS hl rw85_0 nh0_0 nh0_1
    refine w1 _ _ _ ?_
    refine lv_istore (lv' := [(6, .int w85_0), (0, .ref h0), (2, .long v85_2), (4, .long v85_4)]) hx hb dX8_raise_85 hl (by decide) rfl (fun ls hl => ?_)
    refine lv_aload_n hx hb dX8_raise_87 rfl (lv_at hl 1 rfl) ?_
    refine lv_iload hx hb dX8_raise_88 (lv_at hl 0 rfl) ?_
    refine lv_i2l hx hb dX8_raise_90 rfl ?_
    refine lv_topl (fun x90 e90 => ?_)
    have r90 : lr x90 (-1) 1 := by rw [e90]; exact i2l_r rw85_0
    refine lv_lload hx hb dX8_raise_91 (lv_at hl 3 rfl) ?_
    refine lv_lmul hx hb dX8_raise_93 ?_
    refine lv_topl (fun x93 e93 => ?_)
    refine lv_iload hx hb dX8_raise_94 (lv_at hl 0 rfl) ?_
    refine lv_i2l hx hb dX8_raise_96 rfl ?_
    refine lv_topl (fun x96 e96 => ?_)
    have r96 : lr x96 (-1) 1 := by rw [e96]; exact i2l_r rw85_0
    refine lv_lload_n hx hb dX8_raise_97 rfl (lv_at hl 2 rfl) ?_
    refine lv_lmul hx hb dX8_raise_98 ?_
    refine lv_topl (fun x98 e98 => ?_)
    refine cc_v (wt_runV (As := [.long x93, .long x98]) (rest := []) ⟨hx, hb, hml, hown, hts⟩ (m_X8_set l N h0 k0 x93 x98) wm_X8_set q483 ⟨rfl, rfl⟩ ⟨Nat.le_of_ble_eq_true rfl, Nat.le_of_ble_eq_true rfl⟩ (cS_preV hK hW hT hnn hS (cg8 k0) rfl rfl trivial) rfl hl.1 rfl (Nat.le_of_ble_eq_true rfl) dX8_raise_99 ⟨Nat.zero_le _, Nat.zero_le _⟩) hS (by decide) (fun H locs hW hS oq hB2 => ?_)
    exact W.vret hx hb hr (fun t ht _ => ⟨⟨(), rfl, trivial, cW_at ht hW, trivial⟩, hS.F ht⟩) hS.2.2 dX8_raise_102
  have J80 : ∀ (H : Heap) (locs : List Loc) (ls : Array Slot) (v80_2 : Int64) (v80_4 : Int64) (u80_0 : Int64) (u80_1 : Int64), cW N H → va_S (cE N [8]) s.heap H locs → lv_has ls 9 [(0, .ref h0), (2, .long v80_2), (4, .long v80_4)] → lr v80_2 (-9223372036854775808) 0 → wt_pin N.1 vwCl h0 8 0 (.long u80_0) H → wt_pin N.1 vwCl h0 8 1 (.long u80_1) H → WW H locs (F0 m 80 ls []) := by
    intro H locs ls v80_2 v80_4 u80_0 u80_1 hW hS hl rv80_2 nh0_0 nh0_1
    refine w1 _ _ _ ?_
    refine lv_iconst (v := -1) hx hb dX8_raise_80 (by decide) ?_
    refine lv_goto (tgt := 85) hx hb dX8_raise_81 (by decide) ?_
    exact w2 _ _ _ (J85 _ _ _ v80_2 v80_4 (-1 : Int32) u80_0 u80_1 hW hS (lv_sub hl [0, 1, 2] rfl) (ir_w (lo' := -1) (hi' := 1) (ir_c (-1) (by decide) : ir (-1 : Int32) (-1) (-1)) (by decide) (by decide)) nh0_0 nh0_1)
  have J84 : ∀ (H : Heap) (locs : List Loc) (ls : Array Slot) (v84_2 : Int64) (v84_4 : Int64) (u84_0 : Int64) (u84_1 : Int64), cW N H → va_S (cE N [8]) s.heap H locs → lv_has ls 9 [(0, .ref h0), (2, .long v84_2), (4, .long v84_4)] → lr v84_2 0 9223372036854775807 → wt_pin N.1 vwCl h0 8 0 (.long u84_0) H → wt_pin N.1 vwCl h0 8 1 (.long u84_1) H → WW H locs (F0 m 84 ls []) := by
    intro H locs ls v84_2 v84_4 u84_0 u84_1 hW hS hl rv84_2 nh0_0 nh0_1
    refine w1 _ _ _ ?_
    refine lv_iconst (v := 1) hx hb dX8_raise_84 (by decide) ?_
    exact w2 _ _ _ (J85 _ _ _ v84_2 v84_4 (1 : Int32) u84_0 u84_1 hW hS (lv_sub hl [0, 1, 2] rfl) (ir_w (lo' := -1) (hi' := 1) (ir_c (1) (by decide) : ir (1 : Int32) (1) (1)) (by decide) (by decide)) nh0_0 nh0_1)
  have L14 : ∀ (n : Nat) (H : Heap) (locs : List Loc) (ls : Array Slot) (v14_2 : Int64) (v14_4 : Int64) (v14_6 : Int32) (u14_0 : Int64) (u14_1 : Int64), cW N H → va_S (cE N [8]) s.heap H locs → lv_has ls 9 [(0, .ref h0), (1, .int p1), (2, .long v14_2), (4, .long v14_4), (6, .int v14_6)] → ir p1 1 4 → ir v14_6 1 4 → wt_pin N.1 vwCl h0 8 0 (.long u14_0) H → wt_pin N.1 vwCl h0 8 1 (.long u14_1) H → 4 - v14_6.toInt < (n : Int) → WW H locs (F0 m 14 ls []) := by
    intro n
    induction n with
    | zero =>
      intro H locs ls v14_2 v14_4 v14_6 u14_0 u14_1 hW hS hl rv14_1 rv14_6 nh0_0 nh0_1 mu14
      exfalso
      omega
    | succ n ih14 =>
      intro H locs ls v14_2 v14_4 v14_6 u14_0 u14_1 hW hS hl rv14_1 rv14_6 nh0_0 nh0_1 mu14
      refine w1 _ _ _ ?_
      refine lv_iload hx hb dX8_raise_14 (lv_at hl 4 rfl) ?_
      refine lv_iload_n hx hb dX8_raise_16 rfl (lv_at hl 1 rfl) ?_
      refine lv_icmp_ge (tgt := 61) hx hb dX8_raise_17 (by decide) (fun c17 => ?_) (fun c17 => ?_)
      · refine lv_lload_n hx hb dX8_raise_61 rfl (lv_at hl 2 rfl) ?_
        refine lv_lconst (v := 0) hx hb dX8_raise_62 (by decide) ?_
        refine wl_lt (tgt := 80) hx hb dX8_raise_63 dX8_raise_64 (by decide) (fun c63 => ?_) (fun c63 => ?_)
        · have c63 : v14_2.toInt < (0 : Int) := c63
          have rv14_2_63 : lr v14_2 (-9223372036854775808) (-1) := by have h8 := (lr_any v14_2); have h9 := (lr_c (0) (by decide) : lr (0 : Int64) (0) (0)); constructor <;> omega
          exact w2 _ _ _ (J80 _ _ _ v14_2 v14_4 u14_0 u14_1 hW hS (lv_sub hl [0, 2, 3] rfl) (lr_w (lo' := -9223372036854775808) (hi' := 0) rv14_2_63 (by decide) (by decide)) nh0_0 nh0_1)
        · have c63 : (0 : Int) ≤ v14_2.toInt := c63
          have rv14_2_63 : lr v14_2 0 9223372036854775807 := by have h8 := (lr_any v14_2); have h9 := (lr_c (0) (by decide) : lr (0 : Int64) (0) (0)); constructor <;> omega
          refine lv_lload_n hx hb dX8_raise_67 rfl (lv_at hl 2 rfl) ?_
          refine lv_lconst (v := 0) hx hb dX8_raise_68 (by decide) ?_
          refine wl_ne (tgt := 84) hx hb dX8_raise_69 dX8_raise_70 (by decide) (fun c69 => ?_) (fun c69 => ?_)
          · have c69 : v14_2.toInt ≠ (0 : Int) := c69
            exact w2 _ _ _ (J84 _ _ _ v14_2 v14_4 u14_0 u14_1 hW hS (lv_sub hl [0, 2, 3] rfl) rv14_2_63 nh0_0 nh0_1)
          · have c69 : v14_2.toInt = (0 : Int) := c69
            have rv14_2_69 : lr v14_2 0 0 := by have h8 := rv14_2_63; have h9 := (lr_c (0) (by decide) : lr (0 : Int64) (0) (0)); constructor <;> omega
            refine lv_lload hx hb dX8_raise_73 (lv_at hl 3 rfl) ?_
            refine lv_lconst (v := 0) hx hb dX8_raise_75 (by decide) ?_
            refine wl_ge (tgt := 84) hx hb dX8_raise_76 dX8_raise_77 (by decide) (fun c76 => ?_) (fun c76 => ?_)
            · have c76 : (0 : Int) ≤ v14_4.toInt := c76
              have rv14_4_76 : lr v14_4 0 9223372036854775807 := by have h8 := (lr_any v14_4); have h9 := (lr_c (0) (by decide) : lr (0 : Int64) (0) (0)); constructor <;> omega
              exact w2 _ _ _ (J84 _ _ _ v14_2 v14_4 u14_0 u14_1 hW hS (lv_sub hl [0, 2, 3] rfl) (lr_w (lo' := 0) (hi' := 9223372036854775807) rv14_2_69 (by decide) (by decide)) nh0_0 nh0_1)
            · have c76 : v14_4.toInt < (0 : Int) := c76
              have rv14_4_76 : lr v14_4 (-9223372036854775808) (-1) := by have h8 := (lr_any v14_4); have h9 := (lr_c (0) (by decide) : lr (0 : Int64) (0) (0)); constructor <;> omega
              exact w2 _ _ _ (J80 _ _ _ v14_2 v14_4 u14_0 u14_1 hW hS (lv_sub hl [0, 2, 3] rfl) (lr_w (lo' := -9223372036854775808) (hi' := 0) rv14_2_69 (by decide) (by decide)) nh0_0 nh0_1)
      · have rv14_6_17 : ir v14_6 1 3 := ⟨(rv14_6).1, Int.le_trans (rf_lt (rf_nle c17) rv14_6 rv14_1).1 (by decide)⟩
        have rp1_17 : ir p1 2 4 := ⟨Int.le_trans (by decide) (rf_lt (rf_nle c17) rv14_6 rv14_1).2, (rv14_1).2⟩
        refine lv_lload_n hx hb dX8_raise_20 rfl (lv_at hl 2 rfl) ?_
        refine lv_aload_n hx hb dX8_raise_21 rfl (lv_at hl 0 rfl) ?_
        refine wt_rel hx hb hts cfX8 hown hK nh0_1 rfl (by decide) (Or.inl (hts _ q173)) dX8_raise_22 ?_
        refine lv_lmul hx hb dX8_raise_25 ?_
        refine lv_topl (fun x25 e25 => ?_)
        refine lv_lload hx hb dX8_raise_26 (lv_at hl 3 rfl) ?_
        refine lv_aload_n hx hb dX8_raise_28 rfl (lv_at hl 0 rfl) ?_
        refine wt_rel hx hb hts cfX8 hown hK nh0_0 rfl (by decide) (Or.inl (hts _ q170)) dX8_raise_29 ?_
        refine lv_lmul hx hb dX8_raise_32 ?_
        refine lv_topl (fun x32 e32 => ?_)
        refine lv_lsub hx hb dX8_raise_33 ?_
        refine lv_topl (fun x33 e33 => ?_)
        refine lv_lstore (lv' := [(7, .long x33), (0, .ref h0), (1, .int p1), (2, .long v14_2), (4, .long v14_4), (6, .int v14_6)]) hx hb dX8_raise_34 hl (by decide) rfl (fun ls hl => ?_)
        refine lv_lload_n hx hb dX8_raise_36 rfl (lv_at hl 3 rfl) ?_
        refine lv_aload_n hx hb dX8_raise_37 rfl (lv_at hl 1 rfl) ?_
        refine wt_rel hx hb hts cfX8 hown hK nh0_0 rfl (by decide) (Or.inl (hts _ q170)) dX8_raise_38 ?_
        refine lv_lmul hx hb dX8_raise_41 ?_
        refine lv_topl (fun x41 e41 => ?_)
        refine lv_lload hx hb dX8_raise_42 (lv_at hl 4 rfl) ?_
        refine lv_aload_n hx hb dX8_raise_44 rfl (lv_at hl 1 rfl) ?_
        refine wt_rel hx hb hts cfX8 hown hK nh0_1 rfl (by decide) (Or.inl (hts _ q173)) dX8_raise_45 ?_
        refine lv_lmul hx hb dX8_raise_48 ?_
        refine lv_topl (fun x48 e48 => ?_)
        refine lv_ladd hx hb dX8_raise_49 ?_
        refine lv_topl (fun x49 e49 => ?_)
        refine lv_lstore (lv' := [(4, .long x49), (7, .long x33), (0, .ref h0), (1, .int p1), (2, .long v14_2), (6, .int v14_6)]) hx hb dX8_raise_50 hl (by decide) rfl (fun ls hl => ?_)
        refine lv_lload hx hb dX8_raise_52 (lv_at hl 1 rfl) ?_
        refine lv_lstore_n (lv' := [(2, .long x33), (4, .long x49), (7, .long x33), (0, .ref h0), (1, .int p1), (6, .int v14_6)]) hx hb dX8_raise_54 rfl hl (by decide) rfl (fun ls hl => ?_)
        obtain ⟨x55, e55⟩ : ∃ y : Int32, y = v14_6 + 1 := ⟨_, rfl⟩
        have r55 : ir x55 2 4 := ir_w (ir_add e55 rv14_6_17 (ir_c (1) (by decide) : ir (1 : Int32) (1) (1)) (by decide) (by decide)) (by decide) (by decide)
        have t55 : x55.toInt = v14_6.toInt + (1) := it_add e55 rv14_6_17 (ir_c (1) (by decide) : ir (1 : Int32) (1) (1)) (by decide) (by decide)
        refine lv_iinc (v := x55) (lv' := [(6, .int x55), (2, .long x33), (4, .long x49), (7, .long x33), (0, .ref h0), (1, .int p1)]) hx hb dX8_raise_55 hl (k := 5) rfl (by rw [e55]; rfl) (by decide) rfl (fun ls hl => ?_)
        refine lv_goto (tgt := 14) hx hb dX8_raise_58 (by decide) ?_
        exact w2 _ _ _ (ih14 _ _ _ x33 x49 x55 u14_0 u14_1 hW hS (lv_sub hl [4, 5, 1, 2, 0] rfl) (ir_w (lo' := 1) (hi' := 4) rp1_17 (by decide) (by decide)) (ir_w (lo' := 1) (hi' := 4) r55 (by decide) (by decide)) nh0_0 nh0_1 (by have h9 := r55; omega))
  refine lv_aload_n hx hb dX8_raise_0 rfl (lv_at hl 0 rfl) ?_
  refine wt_getp hx hb hts cfX8 hown hK hW (cg8 k0) rfl 1 (by decide) (Or.inl (hts _ q173)) dX8_raise_1 (fun v hv nh0_1 => ?_)
  obtain ⟨x1, rfl⟩ : gl v := hv
  refine lv_lstore_n (lv' := [(2, .long x1), (0, .ref h0), (1, .int p1)]) hx hb dX8_raise_4 rfl hl (by decide) rfl (fun ls hl => ?_)
  refine lv_aload_n hx hb dX8_raise_5 rfl (lv_at hl 1 rfl) ?_
  refine wt_getp hx hb hts cfX8 hown hK hW (cg8 k0) rfl 0 (by decide) (Or.inl (hts _ q170)) dX8_raise_6 (fun v hv nh0_0 => ?_)
  obtain ⟨x6, rfl⟩ : gl v := hv
  refine lv_lstore (lv' := [(4, .long x6), (2, .long x1), (0, .ref h0), (1, .int p1)]) hx hb dX8_raise_9 hl (by decide) rfl (fun ls hl => ?_)
  refine lv_iconst (v := 1) hx hb dX8_raise_11 (by decide) ?_
  refine lv_istore (lv' := [(6, .int (1 : Int32)), (4, .long x6), (2, .long x1), (0, .ref h0), (1, .int p1)]) hx hb dX8_raise_12 hl (by decide) rfl (fun ls hl => ?_)
  exact w2 _ _ _ (L14 4 _ _ _ x1 x6 (1 : Int32) x6 x1 hW hS (lv_sub hl [3, 4, 2, 1, 0] rfl) rp1 (ir_w (lo' := 1) (hi' := 4) (ir_c (1) (by decide) : ir (1 : Int32) (1) (1)) (by decide) (by decide)) nh0_0 nh0_1 (by have h9 := (ir_c (1) (by decide) : ir (1 : Int32) (1) (1)); omega))
set_option maxHeartbeats 4000000 in
set_option maxRecDepth 100000 in
theorem m_X4_toUnit (l : Launch) (N : c_N) (h0 : Nat) (k0 : N.2.2.1 h0 = some 4) : cMv l yX4_toUnit cX4_toUnit 1 { frames := 0, cells := 0, slots := 0, locals := 0 } [.ref h0] N [4] cT0 cT0 := by
  refine Met.ofW (cc := cX4_toUnit) (maxL := 1) (ret := none) (by decide) rfl ?_
  intro p e s m args below meth c s₁ B hml hv
  obtain ⟨rfl, ⟨hK, hW, hT, hnn⟩, hB⟩ := hv
  have hx := B.exec
  have hb := B.bytes
  have hr := B.returns
  have hts : ∀ w ∈ lw_g, w.before _ s = true := fun w h => atoms_spec (ws := wc_ws yX4_toUnit cX4_toUnit 1 none) B.pre w (List.mem_cons_of_mem _ h)
  have hown : s.vm.findClass RX4 = some m.cls := findClass_of_methodNamed B.named
  have hlocks := B.notSynchronized
  have hS : va_S (cE N [4]) s.heap s.heap [] := va_S.rf
  have hl := lv_entry ([.ref h0]) (n := 1) (Nat.le_of_ble_eq_true rfl)
  rw [lg_entry_eq]
  generalize (lg_sl ([.ref h0]) ++ List.replicate (1 - (lg_sl ([.ref h0])).length) Slot.unset).toArray = ls at hl ⊢
  have hl : lv_has ls 1 [(0, .ref h0)] := hl
  refine wq_all ?_
  intro WW w1 w2
  refine lv_aload_n hx hb dX4_toUnit_0 rfl (lv_at hl 0 rfl) ?_
  refine lv_lconst (v := 1) hx hb dX4_toUnit_1 (by decide) ?_
  refine wt_putp hx hb hts cfX4 tyX4 tyX4_ok nmX4 hown hK hW hS (cg4 k0) (ce k0 (by decide)) rfl 0 (by decide) (Or.inl (hts _ q186)) rfl rfl rfl gl_mk dX4_toUnit_2 (fun H locs hW hS oq o2 np => ?_)
  have nh0_0 : wt_pin N.1 vwCl h0 4 0 (.long (1 : Int64)) H := np
  refine lv_aload_n hx hb dX4_toUnit_5 rfl (lv_at hl 0 rfl) ?_
  refine lv_lconst (v := 0) hx hb dX4_toUnit_6 (by decide) ?_
  refine wt_putp hx hb hts cfX4 tyX4 tyX4_ok nmX4 hown hK hW hS (cg4 k0) (ce k0 (by decide)) rfl 1 (by decide) (Or.inl (hts _ q188)) rfl rfl rfl gl_mk dX4_toUnit_7 (fun H locs hW hS oq o2 np => ?_)
  have nh0_0 := o2 0 _ (by decide) (by decide) nh0_0
  have nh0_1 : wt_pin N.1 vwCl h0 4 1 (.long (0 : Int64)) H := np
  refine lv_aload_n hx hb dX4_toUnit_10 rfl (lv_at hl 0 rfl) ?_
  refine lv_lconst (v := 0) hx hb dX4_toUnit_11 (by decide) ?_
  refine wt_putp hx hb hts cfX4 tyX4 tyX4_ok nmX4 hown hK hW hS (cg4 k0) (ce k0 (by decide)) rfl 2 (by decide) (Or.inl (hts _ q190)) rfl rfl rfl gl_mk dX4_toUnit_12 (fun H locs hW hS oq o2 np => ?_)
  have nh0_0 := o2 0 _ (by decide) (by decide) nh0_0
  have nh0_1 := o2 1 _ (by decide) (by decide) nh0_1
  have nh0_2 : wt_pin N.1 vwCl h0 4 2 (.long (0 : Int64)) H := np
  refine lv_aload_n hx hb dX4_toUnit_15 rfl (lv_at hl 0 rfl) ?_
  refine lv_lconst (v := 1) hx hb dX4_toUnit_16 (by decide) ?_
  refine wt_putp hx hb hts cfX4 tyX4 tyX4_ok nmX4 hown hK hW hS (cg4 k0) (ce k0 (by decide)) rfl 3 (by decide) (Or.inl (hts _ q192)) rfl rfl rfl gl_mk dX4_toUnit_17 (fun H locs hW hS oq o2 np => ?_)
  have nh0_0 := o2 0 _ (by decide) (by decide) nh0_0
  have nh0_1 := o2 1 _ (by decide) (by decide) nh0_1
  have nh0_2 := o2 2 _ (by decide) (by decide) nh0_2
  have nh0_3 : wt_pin N.1 vwCl h0 4 3 (.long (1 : Int64)) H := np
  refine lv_aload_n hx hb dX4_toUnit_20 rfl (lv_at hl 0 rfl) ?_
  refine lv_iconst (v := 0) hx hb dX4_toUnit_21 (by decide) ?_
  refine wt_putp hx hb hts cfX4 tyX4 tyX4_ok nmX4 hown hK hW hS (cg4 k0) (ce k0 (by decide)) rfl 4 (by decide) (Or.inl (hts _ q194)) rfl rfl rfl (gi_mk (ir_w (lo' := 0) (hi' := 1) (ir_c (0) (by decide) : ir (0 : Int32) (0) (0)) (by decide) (by decide))) dX4_toUnit_22 (fun H locs hW hS oq o2 np => ?_)
  have nh0_0 := o2 0 _ (by decide) (by decide) nh0_0
  have nh0_1 := o2 1 _ (by decide) (by decide) nh0_1
  have nh0_2 := o2 2 _ (by decide) (by decide) nh0_2
  have nh0_3 := o2 3 _ (by decide) (by decide) nh0_3
  have nh0_4 : wt_pin N.1 vwCl h0 4 4 (.int (0 : Int32)) H := np
  exact W.vret hx hb hr (fun t ht _ => ⟨⟨(), rfl, trivial, cW_at ht hW, trivial⟩, hS.F ht⟩) hS.2.2 dX4_toUnit_25
set_option maxHeartbeats 4000000 in
set_option maxRecDepth 100000 in
theorem m_X4_copyOf (l : Launch) (N : c_N) (h0 : Nat) (k0 : N.2.2.1 h0 = some 4) (p1 : Nat) (kp1 : N.2.2.1 p1 = some 4) : cMv l yX4_copyOf cX4_copyOf 2 { frames := 0, cells := 0, slots := 0, locals := 0 } [.ref h0, .ref p1] N [4] cT0 cT0 := by
  refine Met.ofW (cc := cX4_copyOf) (maxL := 2) (ret := none) (by decide) rfl ?_
  intro p e s m args below meth c s₁ B hml hv
  obtain ⟨rfl, ⟨hK, hW, hT, hnn⟩, hB⟩ := hv
  have hx := B.exec
  have hb := B.bytes
  have hr := B.returns
  have hts : ∀ w ∈ lw_g, w.before _ s = true := fun w h => atoms_spec (ws := wc_ws yX4_copyOf cX4_copyOf 2 none) B.pre w (List.mem_cons_of_mem _ h)
  have hown : s.vm.findClass RX4 = some m.cls := findClass_of_methodNamed B.named
  have hlocks := B.notSynchronized
  have hS : va_S (cE N [4]) s.heap s.heap [] := va_S.rf
  have hl := lv_entry ([.ref h0, .ref p1]) (n := 2) (Nat.le_of_ble_eq_true rfl)
  rw [lg_entry_eq]
  generalize (lg_sl ([.ref h0, .ref p1]) ++ List.replicate (2 - (lg_sl ([.ref h0, .ref p1])).length) Slot.unset).toArray = ls at hl ⊢
  have hl : lv_has ls 2 [(0, .ref h0), (1, .ref p1)] := hl
  refine wq_all ?_
  intro WW w1 w2
  refine lv_aload_n hx hb dX4_copyOf_0 rfl (lv_at hl 0 rfl) ?_
  refine lv_aload_n hx hb dX4_copyOf_1 rfl (lv_at hl 1 rfl) ?_
  refine wt_getp hx hb hts cfX4 hown hK hW (cg4 kp1) rfl 0 (by decide) (Or.inl (hts _ q186)) dX4_copyOf_2 (fun v hv np1_0 => ?_)
  obtain ⟨x2, rfl⟩ : gl v := hv
  refine wt_putp hx hb hts cfX4 tyX4 tyX4_ok nmX4 hown hK hW hS (cg4 k0) (ce k0 (by decide)) rfl 0 (by decide) (Or.inl (hts _ q186)) rfl rfl rfl gl_mk dX4_copyOf_5 (fun H locs hW hS oq o2 np => ?_)
  have nh0_0 : wt_pin N.1 vwCl h0 4 0 (.long x2) H := np
  refine lv_aload_n hx hb dX4_copyOf_8 rfl (lv_at hl 0 rfl) ?_
  refine lv_aload_n hx hb dX4_copyOf_9 rfl (lv_at hl 1 rfl) ?_
  refine wt_getp hx hb hts cfX4 hown hK hW (cg4 kp1) rfl 1 (by decide) (Or.inl (hts _ q188)) dX4_copyOf_10 (fun v hv np1_1 => ?_)
  obtain ⟨x10, rfl⟩ : gl v := hv
  refine wt_putp hx hb hts cfX4 tyX4 tyX4_ok nmX4 hown hK hW hS (cg4 k0) (ce k0 (by decide)) rfl 1 (by decide) (Or.inl (hts _ q188)) rfl rfl rfl gl_mk dX4_copyOf_13 (fun H locs hW hS oq o2 np => ?_)
  have nh0_0 := o2 0 _ (by decide) (by decide) nh0_0
  have nh0_1 : wt_pin N.1 vwCl h0 4 1 (.long x10) H := np
  refine lv_aload_n hx hb dX4_copyOf_16 rfl (lv_at hl 0 rfl) ?_
  refine lv_aload_n hx hb dX4_copyOf_17 rfl (lv_at hl 1 rfl) ?_
  refine wt_getp hx hb hts cfX4 hown hK hW (cg4 kp1) rfl 2 (by decide) (Or.inl (hts _ q190)) dX4_copyOf_18 (fun v hv np1_2 => ?_)
  obtain ⟨x18, rfl⟩ : gl v := hv
  refine wt_putp hx hb hts cfX4 tyX4 tyX4_ok nmX4 hown hK hW hS (cg4 k0) (ce k0 (by decide)) rfl 2 (by decide) (Or.inl (hts _ q190)) rfl rfl rfl gl_mk dX4_copyOf_21 (fun H locs hW hS oq o2 np => ?_)
  have nh0_0 := o2 0 _ (by decide) (by decide) nh0_0
  have nh0_1 := o2 1 _ (by decide) (by decide) nh0_1
  have nh0_2 : wt_pin N.1 vwCl h0 4 2 (.long x18) H := np
  refine lv_aload_n hx hb dX4_copyOf_24 rfl (lv_at hl 0 rfl) ?_
  refine lv_aload_n hx hb dX4_copyOf_25 rfl (lv_at hl 1 rfl) ?_
  refine wt_getp hx hb hts cfX4 hown hK hW (cg4 kp1) rfl 3 (by decide) (Or.inl (hts _ q192)) dX4_copyOf_26 (fun v hv np1_3 => ?_)
  obtain ⟨x26, rfl⟩ : gl v := hv
  refine wt_putp hx hb hts cfX4 tyX4 tyX4_ok nmX4 hown hK hW hS (cg4 k0) (ce k0 (by decide)) rfl 3 (by decide) (Or.inl (hts _ q192)) rfl rfl rfl gl_mk dX4_copyOf_29 (fun H locs hW hS oq o2 np => ?_)
  have nh0_0 := o2 0 _ (by decide) (by decide) nh0_0
  have nh0_1 := o2 1 _ (by decide) (by decide) nh0_1
  have nh0_2 := o2 2 _ (by decide) (by decide) nh0_2
  have nh0_3 : wt_pin N.1 vwCl h0 4 3 (.long x26) H := np
  refine lv_aload_n hx hb dX4_copyOf_32 rfl (lv_at hl 0 rfl) ?_
  refine lv_aload_n hx hb dX4_copyOf_33 rfl (lv_at hl 1 rfl) ?_
  refine wt_getp hx hb hts cfX4 hown hK hW (cg4 kp1) rfl 4 (by decide) (Or.inl (hts _ q194)) dX4_copyOf_34 (fun v hv np1_4 => ?_)
  obtain ⟨x34, rfl, r34⟩ : gi 0 1 v := hv
  refine wt_putp hx hb hts cfX4 tyX4 tyX4_ok nmX4 hown hK hW hS (cg4 k0) (ce k0 (by decide)) rfl 4 (by decide) (Or.inl (hts _ q194)) rfl (nar01 r34) (fit01 r34) (gi_mk r34) dX4_copyOf_37 (fun H locs hW hS oq o2 np => ?_)
  have nh0_0 := o2 0 _ (by decide) (by decide) nh0_0
  have nh0_1 := o2 1 _ (by decide) (by decide) nh0_1
  have nh0_2 := o2 2 _ (by decide) (by decide) nh0_2
  have nh0_3 := o2 3 _ (by decide) (by decide) nh0_3
  have nh0_4 : wt_pin N.1 vwCl h0 4 4 (.int x34) H := np
  exact W.vret hx hb hr (fun t ht _ => ⟨⟨(), rfl, trivial, cW_at ht hW, trivial⟩, hS.F ht⟩) hS.2.2 dX4_copyOf_40
set_option maxHeartbeats 4000000 in
set_option maxRecDepth 100000 in
theorem m_X4_settle (l : Launch) (N : c_N) (h0 : Nat) (k0 : N.2.2.1 h0 = some 4) : cMv l yX4_settle cX4_settle 3 { frames := 1, cells := 0, slots := 0, locals := 30 } [.ref h0] N [4] cT0 cT0 := by
  refine Met.ofW (cc := cX4_settle) (maxL := 3) (ret := none) (by decide) rfl ?_
  intro p e s m args below meth c s₁ B hml hv
  obtain ⟨rfl, ⟨hK, hW, hT, hnn⟩, hB⟩ := hv
  have hx := B.exec
  have hb := B.bytes
  have hr := B.returns
  have hts : ∀ w ∈ lw_g, w.before _ s = true := fun w h => atoms_spec (ws := wc_ws yX4_settle cX4_settle 3 none) B.pre w (List.mem_cons_of_mem _ h)
  have hown : s.vm.findClass RX4 = some m.cls := findClass_of_methodNamed B.named
  have hlocks := B.notSynchronized
  have hS : va_S (cE N [4]) s.heap s.heap [] := va_S.rf
  have hl := lv_entry ([.ref h0]) (n := 3) (Nat.le_of_ble_eq_true rfl)
  rw [lg_entry_eq]
  generalize (lg_sl ([.ref h0]) ++ List.replicate (3 - (lg_sl ([.ref h0])).length) Slot.unset).toArray = ls at hl ⊢
  have hl : lv_has ls 3 [(0, .ref h0)] := hl
  refine wq_all ?_
  intro WW w1 w2
  have J72 : ∀ (H : Heap) (locs : List Loc) (ls : Array Slot) (u72_0 : Int64) (u72_1 : Int64) (u72_2 : Int64) (u72_3 : Int64), cW N H → va_S (cE N [4]) s.heap H locs → lv_has ls 3 [(0, .ref h0)] → wt_pin N.1 vwCl h0 4 0 (.long u72_0) H → wt_pin N.1 vwCl h0 4 1 (.long u72_1) H → wt_pin N.1 vwCl h0 4 2 (.long u72_2) H → wt_pin N.1 vwCl h0 4 3 (.long u72_3) H → WW H locs (F0 m 72 ls []) := by
    intro H locs ls u72_0 u72_1 u72_2 u72_3 hW hS hl nh0_0 nh0_1 nh0_2 nh0_3
    refine w1 _ _ _ ?_
    refine lv_aload_n hx hb dX4_settle_72 rfl (lv_at hl 0 rfl) ?_
    refine lv_aload_n hx hb dX4_settle_73 rfl (lv_at hl 0 rfl) ?_
    refine wt_rel hx hb hts cfX4 hown hK nh0_0 rfl (by decide) (Or.inl (hts _ q186)) dX4_settle_74 ?_
    refine cp_i (wt_runS (As := [.long u72_0]) (rest := [.ref h0]) ⟨hx, hb, hml, hown, hts⟩ (m_X4_isBeyond l u72_0) wm_X4_isBeyond q576 ⟨rfl, rfl⟩ ⟨Nat.le_of_ble_eq_true rfl, Nat.le_of_ble_eq_true rfl⟩ pS_pre rfl hl.1 rfl (Nat.le_of_ble_eq_true rfl) dX4_settle_77 ⟨Nat.zero_le _, Nat.zero_le _⟩) hW hS (fun x77 H locs hp hW hS oq => ?_)
    have nh0_0 := nh0_0.kept (oq _ nh0_0.lt (cE_not k0 (by decide)))
    have nh0_1 := nh0_1.kept (oq _ nh0_1.lt (cE_not k0 (by decide)))
    have nh0_2 := nh0_2.kept (oq _ nh0_2.lt (cE_not k0 (by decide)))
    have nh0_3 := nh0_3.kept (oq _ nh0_3.lt (cE_not k0 (by decide)))
    have r77 : ir x77 0 1 := hp
    refine lv_if_ne (tgt := 113) hx hb dX4_settle_80 (by decide) (fun c80 => ?_) (fun c80 => ?_)
    · have rx77_80 : ir x77 1 1 := rf_ne0 c80 r77
      refine lv_iconst (v := 1) hx hb dX4_settle_113 (by decide) ?_
      refine lv_goto (tgt := 118) hx hb dX4_settle_114 (by decide) ?_
      refine wt_putp hx hb hts cfX4 tyX4 tyX4_ok nmX4 hown hK hW hS (cg4 k0) (ce k0 (by decide)) rfl 4 (by decide) (Or.inl (hts _ q194)) rfl rfl rfl (gi_mk (ir_w (lo' := 0) (hi' := 1) (ir_c (1) (by decide) : ir (1 : Int32) (1) (1)) (by decide) (by decide))) dX4_settle_118 (fun H locs hW hS oq o2 np => ?_)
      have nh0_0 := o2 0 _ (by decide) (by decide) nh0_0
      have nh0_1 := o2 1 _ (by decide) (by decide) nh0_1
      have nh0_2 := o2 2 _ (by decide) (by decide) nh0_2
      have nh0_3 := o2 3 _ (by decide) (by decide) nh0_3
      have nh0_4 : wt_pin N.1 vwCl h0 4 4 (.int (1 : Int32)) H := np
      exact W.vret hx hb hr (fun t ht _ => ⟨⟨(), rfl, trivial, cW_at ht hW, trivial⟩, hS.F ht⟩) hS.2.2 dX4_settle_121
    · have rx77_80 : ir x77 0 0 := rf_eq c80 (ir_c (0) (by decide) : ir (0 : Int32) (0) (0))
      refine lv_aload_n hx hb dX4_settle_83 rfl (lv_at hl 0 rfl) ?_
      refine wt_rel hx hb hts cfX4 hown hK nh0_1 rfl (by decide) (Or.inl (hts _ q188)) dX4_settle_84 ?_
      refine cp_i (wt_runS (As := [.long u72_1]) (rest := [.ref h0]) ⟨hx, hb, hml, hown, hts⟩ (m_X4_isBeyond l u72_1) wm_X4_isBeyond q576 ⟨rfl, rfl⟩ ⟨Nat.le_of_ble_eq_true rfl, Nat.le_of_ble_eq_true rfl⟩ pS_pre rfl hl.1 rfl (Nat.le_of_ble_eq_true rfl) dX4_settle_87 ⟨Nat.zero_le _, Nat.zero_le _⟩) hW hS (fun x87 H locs hp hW hS oq => ?_)
      have nh0_0 := nh0_0.kept (oq _ nh0_0.lt (cE_not k0 (by decide)))
      have nh0_1 := nh0_1.kept (oq _ nh0_1.lt (cE_not k0 (by decide)))
      have nh0_2 := nh0_2.kept (oq _ nh0_2.lt (cE_not k0 (by decide)))
      have nh0_3 := nh0_3.kept (oq _ nh0_3.lt (cE_not k0 (by decide)))
      have r87 : ir x87 0 1 := hp
      refine lv_if_ne (tgt := 113) hx hb dX4_settle_90 (by decide) (fun c90 => ?_) (fun c90 => ?_)
      · have rx87_90 : ir x87 1 1 := rf_ne0 c90 r87
        refine lv_iconst (v := 1) hx hb dX4_settle_113 (by decide) ?_
        refine lv_goto (tgt := 118) hx hb dX4_settle_114 (by decide) ?_
        refine wt_putp hx hb hts cfX4 tyX4 tyX4_ok nmX4 hown hK hW hS (cg4 k0) (ce k0 (by decide)) rfl 4 (by decide) (Or.inl (hts _ q194)) rfl rfl rfl (gi_mk (ir_w (lo' := 0) (hi' := 1) (ir_c (1) (by decide) : ir (1 : Int32) (1) (1)) (by decide) (by decide))) dX4_settle_118 (fun H locs hW hS oq o2 np => ?_)
        have nh0_0 := o2 0 _ (by decide) (by decide) nh0_0
        have nh0_1 := o2 1 _ (by decide) (by decide) nh0_1
        have nh0_2 := o2 2 _ (by decide) (by decide) nh0_2
        have nh0_3 := o2 3 _ (by decide) (by decide) nh0_3
        have nh0_4 : wt_pin N.1 vwCl h0 4 4 (.int (1 : Int32)) H := np
        exact W.vret hx hb hr (fun t ht _ => ⟨⟨(), rfl, trivial, cW_at ht hW, trivial⟩, hS.F ht⟩) hS.2.2 dX4_settle_121
      · have rx87_90 : ir x87 0 0 := rf_eq c90 (ir_c (0) (by decide) : ir (0 : Int32) (0) (0))
        refine lv_aload_n hx hb dX4_settle_93 rfl (lv_at hl 0 rfl) ?_
        refine wt_rel hx hb hts cfX4 hown hK nh0_2 rfl (by decide) (Or.inl (hts _ q190)) dX4_settle_94 ?_
        refine cp_i (wt_runS (As := [.long u72_2]) (rest := [.ref h0]) ⟨hx, hb, hml, hown, hts⟩ (m_X4_isBeyond l u72_2) wm_X4_isBeyond q576 ⟨rfl, rfl⟩ ⟨Nat.le_of_ble_eq_true rfl, Nat.le_of_ble_eq_true rfl⟩ pS_pre rfl hl.1 rfl (Nat.le_of_ble_eq_true rfl) dX4_settle_97 ⟨Nat.zero_le _, Nat.zero_le _⟩) hW hS (fun x97 H locs hp hW hS oq => ?_)
        have nh0_0 := nh0_0.kept (oq _ nh0_0.lt (cE_not k0 (by decide)))
        have nh0_1 := nh0_1.kept (oq _ nh0_1.lt (cE_not k0 (by decide)))
        have nh0_2 := nh0_2.kept (oq _ nh0_2.lt (cE_not k0 (by decide)))
        have nh0_3 := nh0_3.kept (oq _ nh0_3.lt (cE_not k0 (by decide)))
        have r97 : ir x97 0 1 := hp
        refine lv_if_ne (tgt := 113) hx hb dX4_settle_100 (by decide) (fun c100 => ?_) (fun c100 => ?_)
        · have rx97_100 : ir x97 1 1 := rf_ne0 c100 r97
          refine lv_iconst (v := 1) hx hb dX4_settle_113 (by decide) ?_
          refine lv_goto (tgt := 118) hx hb dX4_settle_114 (by decide) ?_
          refine wt_putp hx hb hts cfX4 tyX4 tyX4_ok nmX4 hown hK hW hS (cg4 k0) (ce k0 (by decide)) rfl 4 (by decide) (Or.inl (hts _ q194)) rfl rfl rfl (gi_mk (ir_w (lo' := 0) (hi' := 1) (ir_c (1) (by decide) : ir (1 : Int32) (1) (1)) (by decide) (by decide))) dX4_settle_118 (fun H locs hW hS oq o2 np => ?_)
          have nh0_0 := o2 0 _ (by decide) (by decide) nh0_0
          have nh0_1 := o2 1 _ (by decide) (by decide) nh0_1
          have nh0_2 := o2 2 _ (by decide) (by decide) nh0_2
          have nh0_3 := o2 3 _ (by decide) (by decide) nh0_3
          have nh0_4 : wt_pin N.1 vwCl h0 4 4 (.int (1 : Int32)) H := np
          exact W.vret hx hb hr (fun t ht _ => ⟨⟨(), rfl, trivial, cW_at ht hW, trivial⟩, hS.F ht⟩) hS.2.2 dX4_settle_121
        · have rx97_100 : ir x97 0 0 := rf_eq c100 (ir_c (0) (by decide) : ir (0 : Int32) (0) (0))
          refine lv_aload_n hx hb dX4_settle_103 rfl (lv_at hl 0 rfl) ?_
          refine wt_rel hx hb hts cfX4 hown hK nh0_3 rfl (by decide) (Or.inl (hts _ q192)) dX4_settle_104 ?_
          refine cp_i (wt_runS (As := [.long u72_3]) (rest := [.ref h0]) ⟨hx, hb, hml, hown, hts⟩ (m_X4_isBeyond l u72_3) wm_X4_isBeyond q576 ⟨rfl, rfl⟩ ⟨Nat.le_of_ble_eq_true rfl, Nat.le_of_ble_eq_true rfl⟩ pS_pre rfl hl.1 rfl (Nat.le_of_ble_eq_true rfl) dX4_settle_107 ⟨Nat.zero_le _, Nat.zero_le _⟩) hW hS (fun x107 H locs hp hW hS oq => ?_)
          have nh0_0 := nh0_0.kept (oq _ nh0_0.lt (cE_not k0 (by decide)))
          have nh0_1 := nh0_1.kept (oq _ nh0_1.lt (cE_not k0 (by decide)))
          have nh0_2 := nh0_2.kept (oq _ nh0_2.lt (cE_not k0 (by decide)))
          have nh0_3 := nh0_3.kept (oq _ nh0_3.lt (cE_not k0 (by decide)))
          have r107 : ir x107 0 1 := hp
          refine lv_if_eq (tgt := 117) hx hb dX4_settle_110 (by decide) (fun c110 => ?_) (fun c110 => ?_)
          · have rx107_110 : ir x107 0 0 := rf_eq c110 (ir_c (0) (by decide) : ir (0 : Int32) (0) (0))
            refine lv_iconst (v := 0) hx hb dX4_settle_117 (by decide) ?_
            refine wt_putp hx hb hts cfX4 tyX4 tyX4_ok nmX4 hown hK hW hS (cg4 k0) (ce k0 (by decide)) rfl 4 (by decide) (Or.inl (hts _ q194)) rfl rfl rfl (gi_mk (ir_w (lo' := 0) (hi' := 1) (ir_c (0) (by decide) : ir (0 : Int32) (0) (0)) (by decide) (by decide))) dX4_settle_118 (fun H locs hW hS oq o2 np => ?_)
            have nh0_0 := o2 0 _ (by decide) (by decide) nh0_0
            have nh0_1 := o2 1 _ (by decide) (by decide) nh0_1
            have nh0_2 := o2 2 _ (by decide) (by decide) nh0_2
            have nh0_3 := o2 3 _ (by decide) (by decide) nh0_3
            have nh0_4 : wt_pin N.1 vwCl h0 4 4 (.int (0 : Int32)) H := np
            exact W.vret hx hb hr (fun t ht _ => ⟨⟨(), rfl, trivial, cW_at ht hW, trivial⟩, hS.F ht⟩) hS.2.2 dX4_settle_121
          · have rx107_110 : ir x107 1 1 := rf_ne0 c110 r107
            refine lv_iconst (v := 1) hx hb dX4_settle_113 (by decide) ?_
            refine lv_goto (tgt := 118) hx hb dX4_settle_114 (by decide) ?_
            refine wt_putp hx hb hts cfX4 tyX4 tyX4_ok nmX4 hown hK hW hS (cg4 k0) (ce k0 (by decide)) rfl 4 (by decide) (Or.inl (hts _ q194)) rfl rfl rfl (gi_mk (ir_w (lo' := 0) (hi' := 1) (ir_c (1) (by decide) : ir (1 : Int32) (1) (1)) (by decide) (by decide))) dX4_settle_118 (fun H locs hW hS oq o2 np => ?_)
            have nh0_0 := o2 0 _ (by decide) (by decide) nh0_0
            have nh0_1 := o2 1 _ (by decide) (by decide) nh0_1
            have nh0_2 := o2 2 _ (by decide) (by decide) nh0_2
            have nh0_3 := o2 3 _ (by decide) (by decide) nh0_3
            have nh0_4 : wt_pin N.1 vwCl h0 4 4 (.int (1 : Int32)) H := np
            exact W.vret hx hb hr (fun t ht _ => ⟨⟨(), rfl, trivial, cW_at ht hW, trivial⟩, hS.F ht⟩) hS.2.2 dX4_settle_121
  refine lv_aload_n hx hb dX4_settle_0 rfl (lv_at hl 0 rfl) ?_
  refine wt_getp hx hb hts cfX4 hown hK hW (cg4 k0) rfl 0 (by decide) (Or.inl (hts _ q186)) dX4_settle_1 (fun v hv nh0_0 => ?_)
  obtain ⟨x1, rfl⟩ : gl v := hv
  refine lv_aload_n hx hb dX4_settle_4 rfl (lv_at hl 0 rfl) ?_
  refine wt_getp hx hb hts cfX4 hown hK hW (cg4 k0) rfl 1 (by decide) (Or.inl (hts _ q188)) dX4_settle_5 (fun v hv nh0_1 => ?_)
  obtain ⟨x5, rfl⟩ : gl v := hv
  refine cp_l (wt_runSN (As := [.long x1, .long x5]) (rest := []) ⟨hx, hb, hml, hown, hts⟩ hnn (m_X10_commonDivisor l x1 x5) wm_X10_commonDivisor q575 ⟨rfl, rfl⟩ ⟨Nat.le_of_ble_eq_true rfl, Nat.le_of_ble_eq_true rfl⟩ pS_pre rfl hl.1 rfl (Nat.le_of_ble_eq_true rfl) dX4_settle_8 ⟨Nat.zero_le _, Nat.zero_le _⟩) hW hS (fun x8 H locs hp hW hS oq => ?_)
  have nh0_0 := nh0_0.kept (oq _ nh0_0.lt (cE_not k0 (by decide)))
  have nh0_1 := nh0_1.kept (oq _ nh0_1.lt (cE_not k0 (by decide)))
  refine lv_aload_n hx hb dX4_settle_11 rfl (lv_at hl 0 rfl) ?_
  refine wt_getp hx hb hts cfX4 hown hK hW (cg4 k0) rfl 2 (by decide) (Or.inl (hts _ q190)) dX4_settle_12 (fun v hv nh0_2 => ?_)
  obtain ⟨x12, rfl⟩ : gl v := hv
  refine cp_l (wt_runSN (As := [.long x8, .long x12]) (rest := []) ⟨hx, hb, hml, hown, hts⟩ hnn (m_X10_commonDivisor l x8 x12) wm_X10_commonDivisor q575 ⟨rfl, rfl⟩ ⟨Nat.le_of_ble_eq_true rfl, Nat.le_of_ble_eq_true rfl⟩ pS_pre rfl hl.1 rfl (Nat.le_of_ble_eq_true rfl) dX4_settle_15 ⟨Nat.zero_le _, Nat.zero_le _⟩) hW hS (fun x15 H locs hp hW hS oq => ?_)
  have nh0_0 := nh0_0.kept (oq _ nh0_0.lt (cE_not k0 (by decide)))
  have nh0_1 := nh0_1.kept (oq _ nh0_1.lt (cE_not k0 (by decide)))
  have nh0_2 := nh0_2.kept (oq _ nh0_2.lt (cE_not k0 (by decide)))
  refine lv_aload_n hx hb dX4_settle_18 rfl (lv_at hl 0 rfl) ?_
  refine wt_getp hx hb hts cfX4 hown hK hW (cg4 k0) rfl 3 (by decide) (Or.inl (hts _ q192)) dX4_settle_19 (fun v hv nh0_3 => ?_)
  obtain ⟨x19, rfl⟩ : gl v := hv
  refine cp_l (wt_runSN (As := [.long x15, .long x19]) (rest := []) ⟨hx, hb, hml, hown, hts⟩ hnn (m_X10_commonDivisor l x15 x19) wm_X10_commonDivisor q575 ⟨rfl, rfl⟩ ⟨Nat.le_of_ble_eq_true rfl, Nat.le_of_ble_eq_true rfl⟩ pS_pre rfl hl.1 rfl (Nat.le_of_ble_eq_true rfl) dX4_settle_22 ⟨Nat.zero_le _, Nat.zero_le _⟩) hW hS (fun x22 H locs hp hW hS oq => ?_)
  have nh0_0 := nh0_0.kept (oq _ nh0_0.lt (cE_not k0 (by decide)))
  have nh0_1 := nh0_1.kept (oq _ nh0_1.lt (cE_not k0 (by decide)))
  have nh0_2 := nh0_2.kept (oq _ nh0_2.lt (cE_not k0 (by decide)))
  have nh0_3 := nh0_3.kept (oq _ nh0_3.lt (cE_not k0 (by decide)))
  refine lv_lstore_n (lv' := [(1, .long x22), (0, .ref h0)]) hx hb dX4_settle_25 rfl hl (by decide) rfl (fun ls hl => ?_)
  refine lv_lload_n hx hb dX4_settle_26 rfl (lv_at hl 0 rfl) ?_
  refine lv_lconst (v := 1) hx hb dX4_settle_27 (by decide) ?_
  refine wl_le (tgt := 72) hx hb dX4_settle_28 dX4_settle_29 (by decide) (fun c28 => ?_) (fun c28 => ?_)
  · have c28 : x22.toInt ≤ (1 : Int) := c28
    have rx22_28 : lr x22 (-9223372036854775808) 1 := by have h8 := (lr_any x22); have h9 := (lr_c (1) (by decide) : lr (1 : Int64) (1) (1)); constructor <;> omega
    exact w2 _ _ _ (J72 _ _ _ x1 x5 x12 x19 hW hS (lv_sub hl [1] rfl) nh0_0 nh0_1 nh0_2 nh0_3)
  · have c28 : (1 : Int) < x22.toInt := c28
    have rx22_28 : lr x22 2 9223372036854775807 := by have h8 := (lr_any x22); have h9 := (lr_c (1) (by decide) : lr (1 : Int64) (1) (1)); constructor <;> omega
    refine lv_aload_n hx hb dX4_settle_32 rfl (lv_at hl 1 rfl) ?_
    refine lv_dup hx hb dX4_settle_33 rfl ?_
    refine wt_rel hx hb hts cfX4 hown hK nh0_0 rfl (by decide) (Or.inl (hts _ q186)) dX4_settle_34 ?_
    refine lv_lload_n hx hb dX4_settle_37 rfl (lv_at hl 0 rfl) ?_
    refine lv_ldiv hx hb dX4_settle_38 (l_ne0 (by have h9 := rx22_28; omega)) ?_
    refine lv_topl (fun x38 e38 => ?_)
    refine wt_putp hx hb hts cfX4 tyX4 tyX4_ok nmX4 hown hK hW hS (cg4 k0) (ce k0 (by decide)) rfl 0 (by decide) (Or.inl (hts _ q186)) rfl rfl rfl gl_mk dX4_settle_39 (fun H locs hW hS oq o2 np => ?_)
    have nh0_1 := o2 1 _ (by decide) (by decide) nh0_1
    have nh0_2 := o2 2 _ (by decide) (by decide) nh0_2
    have nh0_3 := o2 3 _ (by decide) (by decide) nh0_3
    have nh0_0 : wt_pin N.1 vwCl h0 4 0 (.long x38) H := np
    refine lv_aload_n hx hb dX4_settle_42 rfl (lv_at hl 1 rfl) ?_
    refine lv_dup hx hb dX4_settle_43 rfl ?_
    refine wt_rel hx hb hts cfX4 hown hK nh0_1 rfl (by decide) (Or.inl (hts _ q188)) dX4_settle_44 ?_
    refine lv_lload_n hx hb dX4_settle_47 rfl (lv_at hl 0 rfl) ?_
    refine lv_ldiv hx hb dX4_settle_48 (l_ne0 (by have h9 := rx22_28; omega)) ?_
    refine lv_topl (fun x48 e48 => ?_)
    refine wt_putp hx hb hts cfX4 tyX4 tyX4_ok nmX4 hown hK hW hS (cg4 k0) (ce k0 (by decide)) rfl 1 (by decide) (Or.inl (hts _ q188)) rfl rfl rfl gl_mk dX4_settle_49 (fun H locs hW hS oq o2 np => ?_)
    have nh0_2 := o2 2 _ (by decide) (by decide) nh0_2
    have nh0_3 := o2 3 _ (by decide) (by decide) nh0_3
    have nh0_0 := o2 0 _ (by decide) (by decide) nh0_0
    have nh0_1 : wt_pin N.1 vwCl h0 4 1 (.long x48) H := np
    refine lv_aload_n hx hb dX4_settle_52 rfl (lv_at hl 1 rfl) ?_
    refine lv_dup hx hb dX4_settle_53 rfl ?_
    refine wt_rel hx hb hts cfX4 hown hK nh0_2 rfl (by decide) (Or.inl (hts _ q190)) dX4_settle_54 ?_
    refine lv_lload_n hx hb dX4_settle_57 rfl (lv_at hl 0 rfl) ?_
    refine lv_ldiv hx hb dX4_settle_58 (l_ne0 (by have h9 := rx22_28; omega)) ?_
    refine lv_topl (fun x58 e58 => ?_)
    refine wt_putp hx hb hts cfX4 tyX4 tyX4_ok nmX4 hown hK hW hS (cg4 k0) (ce k0 (by decide)) rfl 2 (by decide) (Or.inl (hts _ q190)) rfl rfl rfl gl_mk dX4_settle_59 (fun H locs hW hS oq o2 np => ?_)
    have nh0_3 := o2 3 _ (by decide) (by decide) nh0_3
    have nh0_0 := o2 0 _ (by decide) (by decide) nh0_0
    have nh0_1 := o2 1 _ (by decide) (by decide) nh0_1
    have nh0_2 : wt_pin N.1 vwCl h0 4 2 (.long x58) H := np
    refine lv_aload_n hx hb dX4_settle_62 rfl (lv_at hl 1 rfl) ?_
    refine lv_dup hx hb dX4_settle_63 rfl ?_
    refine wt_rel hx hb hts cfX4 hown hK nh0_3 rfl (by decide) (Or.inl (hts _ q192)) dX4_settle_64 ?_
    refine lv_lload_n hx hb dX4_settle_67 rfl (lv_at hl 0 rfl) ?_
    refine lv_ldiv hx hb dX4_settle_68 (l_ne0 (by have h9 := rx22_28; omega)) ?_
    refine lv_topl (fun x68 e68 => ?_)
    refine wt_putp hx hb hts cfX4 tyX4 tyX4_ok nmX4 hown hK hW hS (cg4 k0) (ce k0 (by decide)) rfl 3 (by decide) (Or.inl (hts _ q192)) rfl rfl rfl gl_mk dX4_settle_69 (fun H locs hW hS oq o2 np => ?_)
    have nh0_0 := o2 0 _ (by decide) (by decide) nh0_0
    have nh0_1 := o2 1 _ (by decide) (by decide) nh0_1
    have nh0_2 := o2 2 _ (by decide) (by decide) nh0_2
    have nh0_3 : wt_pin N.1 vwCl h0 4 3 (.long x68) H := np
    exact w2 _ _ _ (J72 _ _ _ x38 x48 x58 x68 hW hS (lv_sub hl [1] rfl) nh0_0 nh0_1 nh0_2 nh0_3)
set_option maxHeartbeats 4000000 in
set_option maxRecDepth 100000 in
theorem m_X4_ofLayer (l : Launch) (N : c_N) (h0 : Nat) (k0 : N.2.2.1 h0 = some 4) (p1 : Nat) (kp1 : N.2.2.1 p1 = some 5) (p2 : Int32) (rp2 : ir p2 0 5) (p3 : Nat) (kp3 : N.2.2.1 p3 = some 8) : cMv l yX4_ofLayer cX4_ofLayer 12 { frames := 2, cells := 0, slots := 0, locals := 52 } [.ref h0, .ref p1, .int p2, .ref p3] N [4] cT0 cT0 := by
  refine Met.ofW (cc := cX4_ofLayer) (maxL := 12) (ret := none) (by decide) rfl ?_
  intro p e s m args below meth c s₁ B hml hv
  obtain ⟨rfl, ⟨hK, hW, hT, hnn⟩, hB⟩ := hv
  have hx := B.exec
  have hb := B.bytes
  have hr := B.returns
  have hts : ∀ w ∈ lw_g, w.before _ s = true := fun w h => atoms_spec (ws := wc_ws yX4_ofLayer cX4_ofLayer 12 none) B.pre w (List.mem_cons_of_mem _ h)
  have hown : s.vm.findClass RX4 = some m.cls := findClass_of_methodNamed B.named
  have hlocks := B.notSynchronized
  have hS : va_S (cE N [4]) s.heap s.heap [] := va_S.rf
  have hl := lv_entry ([.ref h0, .ref p1, .int p2, .ref p3]) (n := 12) (Nat.le_of_ble_eq_true rfl)
  rw [lg_entry_eq]
  generalize (lg_sl ([.ref h0, .ref p1, .int p2, .ref p3]) ++ List.replicate (12 - (lg_sl ([.ref h0, .ref p1, .int p2, .ref p3])).length) Slot.unset).toArray = ls at hl ⊢
  have hl : lv_has ls 12 [(0, .ref h0), (1, .ref p1), (2, .int p2), (3, .ref p3)] := hl
  refine wq_all ?_
  intro WW w1 w2
  refine lv_aload_n hx hb dX4_ofLayer_0 rfl (lv_at hl 1 rfl) ?_
  refine wt_getN hx hb hts cfX5 hown hK hW (cg5 kp1) rfl 0 (by decide) hnn q138 dX4_ofLayer_1 (fun v hv => ?_)
  obtain ⟨x1, rfl, k1⟩ : gr N 27 v := hv
  refine lv_iload_n hx hb dX4_ofLayer_4 rfl (lv_at hl 2 rfl) ?_
  refine wt_iald hx hb hK hW 0 (cg27 k1) rfl (ir_in rp2 (by decide) (by decide)) dX4_ofLayer_5 (fun v hv => ?_)
  have hv : v = .int _ := hv
  subst hv
  refine lv_topi (fun x5 e5 => ?_)
  refine lv_i2l hx hb dX4_ofLayer_6 rfl ?_
  refine lv_topl (fun x6 e6 => ?_)
  have r6 : lr x6 (-2147483648) 2147483647 := by rw [e6]; exact i2l_r (ir_any x5)
  refine lv_lstore (lv' := [(4, .long x6), (0, .ref h0), (1, .ref p1), (2, .int p2), (3, .ref p3)]) hx hb dX4_ofLayer_7 hl (by decide) rfl (fun ls hl => ?_)
  refine lv_aload_n hx hb dX4_ofLayer_9 rfl (lv_at hl 2 rfl) ?_
  refine wt_getN hx hb hts cfX5 hown hK hW (cg5 kp1) rfl 1 (by decide) hnn q141 dX4_ofLayer_10 (fun v hv => ?_)
  obtain ⟨x10, rfl, k10⟩ : gr N 28 v := hv
  refine lv_iload_n hx hb dX4_ofLayer_13 rfl (lv_at hl 3 rfl) ?_
  refine wt_iald hx hb hK hW 0 (cg28 k10) rfl (ir_in rp2 (by decide) (by decide)) dX4_ofLayer_14 (fun v hv => ?_)
  have hv : v = .int _ := hv
  subst hv
  refine lv_topi (fun x14 e14 => ?_)
  refine lv_i2l hx hb dX4_ofLayer_15 rfl ?_
  refine lv_topl (fun x15 e15 => ?_)
  have r15 : lr x15 (-2147483648) 2147483647 := by rw [e15]; exact i2l_r (ir_any x14)
  refine lv_lstore (lv' := [(6, .long x15), (4, .long x6), (0, .ref h0), (1, .ref p1), (2, .int p2), (3, .ref p3)]) hx hb dX4_ofLayer_16 hl (by decide) rfl (fun ls hl => ?_)
  refine lv_aload_n hx hb dX4_ofLayer_18 rfl (lv_at hl 5 rfl) ?_
  refine wt_getp hx hb hts cfX8 hown hK hW (cg8 kp3) rfl 0 (by decide) (Or.inr ⟨_, lw_n_use hnn q171⟩) dX4_ofLayer_19 (fun v hv np3_0 => ?_)
  obtain ⟨x19, rfl⟩ : gl v := hv
  refine lv_lstore (lv' := [(8, .long x19), (6, .long x15), (4, .long x6), (0, .ref h0), (1, .ref p1), (2, .int p2), (3, .ref p3)]) hx hb dX4_ofLayer_22 hl (by decide) rfl (fun ls hl => ?_)
  refine lv_aload_n hx hb dX4_ofLayer_24 rfl (lv_at hl 6 rfl) ?_
  refine wt_getp hx hb hts cfX8 hown hK hW (cg8 kp3) rfl 1 (by decide) (Or.inr ⟨_, lw_n_use hnn q174⟩) dX4_ofLayer_25 (fun v hv np3_1 => ?_)
  obtain ⟨x25, rfl⟩ : gl v := hv
  refine lv_lstore (lv' := [(10, .long x25), (8, .long x19), (6, .long x15), (4, .long x6), (0, .ref h0), (1, .ref p1), (2, .int p2), (3, .ref p3)]) hx hb dX4_ofLayer_28 hl (by decide) rfl (fun ls hl => ?_)
  refine lv_aload_n hx hb dX4_ofLayer_30 rfl (lv_at hl 4 rfl) ?_
  refine lv_lload hx hb dX4_ofLayer_31 (lv_at hl 3 rfl) ?_
  refine lv_lload hx hb dX4_ofLayer_33 (lv_at hl 2 rfl) ?_
  refine lv_lmul hx hb dX4_ofLayer_35 ?_
  refine lv_topl (fun x35 e35 => ?_)
  refine lv_lload hx hb dX4_ofLayer_36 (lv_at hl 0 rfl) ?_
  refine lv_lload hx hb dX4_ofLayer_38 (lv_at hl 0 rfl) ?_
  refine lv_lmul hx hb dX4_ofLayer_40 ?_
  refine lv_topl (fun x40 e40 => ?_)
  refine lv_lload hx hb dX4_ofLayer_41 (lv_at hl 1 rfl) ?_
  refine lv_lload hx hb dX4_ofLayer_43 (lv_at hl 1 rfl) ?_
  refine lv_lmul hx hb dX4_ofLayer_45 ?_
  refine lv_topl (fun x45 e45 => ?_)
  refine lv_lsub hx hb dX4_ofLayer_46 ?_
  refine lv_topl (fun x46 e46 => ?_)
  refine lv_lmul hx hb dX4_ofLayer_47 ?_
  refine lv_topl (fun x47 e47 => ?_)
  refine wt_putp hx hb hts cfX4 tyX4 tyX4_ok nmX4 hown hK hW hS (cg4 k0) (ce k0 (by decide)) rfl 0 (by decide) (Or.inl (hts _ q186)) rfl rfl rfl gl_mk dX4_ofLayer_48 (fun H locs hW hS oq o2 np => ?_)
  have np3_0 := np3_0.kept (oq _ (ne_kind kp3 k0 (by decide)))
  have np3_1 := np3_1.kept (oq _ (ne_kind kp3 k0 (by decide)))
  have nh0_0 : wt_pin N.1 vwCl h0 4 0 (.long x47) H := np
  refine lv_aload_n hx hb dX4_ofLayer_51 rfl (lv_at hl 4 rfl) ?_
  refine lv_ldc2 hx hb hown (hts _ q570) dX4_ofLayer_52 ?_
  refine lv_lload hx hb dX4_ofLayer_55 (lv_at hl 2 rfl) ?_
  refine lv_lmul hx hb dX4_ofLayer_57 ?_
  refine lv_topl (fun x57 e57 => ?_)
  refine lv_lload hx hb dX4_ofLayer_58 (lv_at hl 2 rfl) ?_
  refine lv_lmul hx hb dX4_ofLayer_60 ?_
  refine lv_topl (fun x60 e60 => ?_)
  refine lv_lload hx hb dX4_ofLayer_61 (lv_at hl 1 rfl) ?_
  refine lv_lmul hx hb dX4_ofLayer_63 ?_
  refine lv_topl (fun x63 e63 => ?_)
  refine lv_lload hx hb dX4_ofLayer_64 (lv_at hl 0 rfl) ?_
  refine lv_lmul hx hb dX4_ofLayer_66 ?_
  refine lv_topl (fun x66 e66 => ?_)
  refine wt_putp hx hb hts cfX4 tyX4 tyX4_ok nmX4 hown hK hW hS (cg4 k0) (ce k0 (by decide)) rfl 1 (by decide) (Or.inl (hts _ q188)) rfl rfl rfl gl_mk dX4_ofLayer_67 (fun H locs hW hS oq o2 np => ?_)
  have np3_0 := np3_0.kept (oq _ (ne_kind kp3 k0 (by decide)))
  have np3_1 := np3_1.kept (oq _ (ne_kind kp3 k0 (by decide)))
  have nh0_0 := o2 0 _ (by decide) (by decide) nh0_0
  have nh0_1 : wt_pin N.1 vwCl h0 4 1 (.long x66) H := np
  refine lv_aload_n hx hb dX4_ofLayer_70 rfl (lv_at hl 4 rfl) ?_
  refine lv_ldc2 hx hb hown (hts _ q570) dX4_ofLayer_71 ?_
  refine lv_lload hx hb dX4_ofLayer_74 (lv_at hl 3 rfl) ?_
  refine lv_lmul hx hb dX4_ofLayer_76 ?_
  refine lv_topl (fun x76 e76 => ?_)
  refine lv_lload hx hb dX4_ofLayer_77 (lv_at hl 3 rfl) ?_
  refine lv_lmul hx hb dX4_ofLayer_79 ?_
  refine lv_topl (fun x79 e79 => ?_)
  refine lv_lload hx hb dX4_ofLayer_80 (lv_at hl 1 rfl) ?_
  refine lv_lmul hx hb dX4_ofLayer_82 ?_
  refine lv_topl (fun x82 e82 => ?_)
  refine lv_lload hx hb dX4_ofLayer_83 (lv_at hl 0 rfl) ?_
  refine lv_lmul hx hb dX4_ofLayer_85 ?_
  refine lv_topl (fun x85 e85 => ?_)
  refine wt_putp hx hb hts cfX4 tyX4 tyX4_ok nmX4 hown hK hW hS (cg4 k0) (ce k0 (by decide)) rfl 2 (by decide) (Or.inl (hts _ q190)) rfl rfl rfl gl_mk dX4_ofLayer_86 (fun H locs hW hS oq o2 np => ?_)
  have np3_0 := np3_0.kept (oq _ (ne_kind kp3 k0 (by decide)))
  have np3_1 := np3_1.kept (oq _ (ne_kind kp3 k0 (by decide)))
  have nh0_0 := o2 0 _ (by decide) (by decide) nh0_0
  have nh0_1 := o2 1 _ (by decide) (by decide) nh0_1
  have nh0_2 : wt_pin N.1 vwCl h0 4 2 (.long x85) H := np
  refine lv_aload_n hx hb dX4_ofLayer_89 rfl (lv_at hl 4 rfl) ?_
  refine lv_aload_n hx hb dX4_ofLayer_90 rfl (lv_at hl 4 rfl) ?_
  refine wt_rel hx hb hts cfX4 hown hK nh0_0 rfl (by decide) (Or.inl (hts _ q186)) dX4_ofLayer_91 ?_
  refine wt_putp hx hb hts cfX4 tyX4 tyX4_ok nmX4 hown hK hW hS (cg4 k0) (ce k0 (by decide)) rfl 3 (by decide) (Or.inl (hts _ q192)) rfl rfl rfl gl_mk dX4_ofLayer_94 (fun H locs hW hS oq o2 np => ?_)
  have np3_0 := np3_0.kept (oq _ (ne_kind kp3 k0 (by decide)))
  have np3_1 := np3_1.kept (oq _ (ne_kind kp3 k0 (by decide)))
  have nh0_0 := o2 0 _ (by decide) (by decide) nh0_0
  have nh0_1 := o2 1 _ (by decide) (by decide) nh0_1
  have nh0_2 := o2 2 _ (by decide) (by decide) nh0_2
  have nh0_3 : wt_pin N.1 vwCl h0 4 3 (.long x47) H := np
  refine lv_aload_n hx hb dX4_ofLayer_97 rfl (lv_at hl 4 rfl) ?_
  refine cc_v (wt_runV (As := []) (rest := []) ⟨hx, hb, hml, hown, hts⟩ (m_X4_settle l N h0 k0) wm_X4_settle q571 ⟨rfl, rfl⟩ ⟨Nat.le_of_ble_eq_true rfl, Nat.le_of_ble_eq_true rfl⟩ (cS_preV hK hW hT hnn hS (cg4 k0) rfl rfl trivial) rfl hl.1 rfl (Nat.le_of_ble_eq_true rfl) dX4_ofLayer_98 ⟨Nat.zero_le _, Nat.zero_le _⟩) hS (by decide) (fun H locs hW hS oq hB2 => ?_)
  have np3_0 := np3_0.kept (oq _ np3_0.lt (cE_not kp3 (by decide)))
  have np3_1 := np3_1.kept (oq _ np3_1.lt (cE_not kp3 (by decide)))
  exact W.vret hx hb hr (fun t ht _ => ⟨⟨(), rfl, trivial, cW_at ht hW, trivial⟩, hS.F ht⟩) hS.2.2 dX4_ofLayer_101
set_option maxHeartbeats 4000000 in
set_option maxRecDepth 100000 in
theorem m_X4_ofRowAndLayer (l : Launch) (N : c_N) (h0 : Nat) (k0 : N.2.2.1 h0 = some 4) (p1 : Nat) (kp1 : N.2.2.1 p1 = some 4) (p2 : Nat) (kp2 : N.2.2.1 p2 = some 4) : cMv l yX4_ofRowAndLayer cX4_ofRowAndLayer 11 { frames := 2, cells := 0, slots := 0, locals := 52 } [.ref h0, .ref p1, .ref p2] N [4] cT0 cT0 := by
  refine Met.ofW (cc := cX4_ofRowAndLayer) (maxL := 11) (ret := none) (by decide) rfl ?_
  intro p e s m args below meth c s₁ B hml hv
  obtain ⟨rfl, ⟨hK, hW, hT, hnn⟩, hB⟩ := hv
  have hx := B.exec
  have hb := B.bytes
  have hr := B.returns
  have hts : ∀ w ∈ lw_g, w.before _ s = true := fun w h => atoms_spec (ws := wc_ws yX4_ofRowAndLayer cX4_ofRowAndLayer 11 none) B.pre w (List.mem_cons_of_mem _ h)
  have hown : s.vm.findClass RX4 = some m.cls := findClass_of_methodNamed B.named
  have hlocks := B.notSynchronized
  have hS : va_S (cE N [4]) s.heap s.heap [] := va_S.rf
  have hl := lv_entry ([.ref h0, .ref p1, .ref p2]) (n := 11) (Nat.le_of_ble_eq_true rfl)
  rw [lg_entry_eq]
  generalize (lg_sl ([.ref h0, .ref p1, .ref p2]) ++ List.replicate (11 - (lg_sl ([.ref h0, .ref p1, .ref p2])).length) Slot.unset).toArray = ls at hl ⊢
  have hl : lv_has ls 11 [(0, .ref h0), (1, .ref p1), (2, .ref p2)] := hl
  refine wq_all ?_
  intro WW w1 w2
  refine lv_aload_n hx hb dX4_ofRowAndLayer_0 rfl (lv_at hl 1 rfl) ?_
  refine wt_getp hx hb hts cfX4 hown hK hW (cg4 kp1) rfl 4 (by decide) (Or.inl (hts _ q194)) dX4_ofRowAndLayer_1 (fun v hv np1_4 => ?_)
  obtain ⟨x1, rfl, r1⟩ : gi 0 1 v := hv
  refine lv_if_ne (tgt := 14) hx hb dX4_ofRowAndLayer_4 (by decide) (fun c4 => ?_) (fun c4 => ?_)
  · have rx1_4 : ir x1 1 1 := rf_ne0 c4 r1
    refine lv_aload_n hx hb dX4_ofRowAndLayer_14 rfl (lv_at hl 0 rfl) ?_
    refine lv_iconst (v := 1) hx hb dX4_ofRowAndLayer_15 (by decide) ?_
    refine wt_putp hx hb hts cfX4 tyX4 tyX4_ok nmX4 hown hK hW hS (cg4 k0) (ce k0 (by decide)) rfl 4 (by decide) (Or.inl (hts _ q194)) rfl rfl rfl (gi_mk (ir_w (lo' := 0) (hi' := 1) (ir_c (1) (by decide) : ir (1 : Int32) (1) (1)) (by decide) (by decide))) dX4_ofRowAndLayer_16 (fun H locs hW hS oq o2 np => ?_)
    have nh0_4 : wt_pin N.1 vwCl h0 4 4 (.int (1 : Int32)) H := np
    exact W.vret hx hb hr (fun t ht _ => ⟨⟨(), rfl, trivial, cW_at ht hW, trivial⟩, hS.F ht⟩) hS.2.2 dX4_ofRowAndLayer_19
  · have rx1_4 : ir x1 0 0 := rf_eq c4 (ir_c (0) (by decide) : ir (0 : Int32) (0) (0))
    refine lv_aload_n hx hb dX4_ofRowAndLayer_7 rfl (lv_at hl 2 rfl) ?_
    refine wt_getp hx hb hts cfX4 hown hK hW (cg4 kp2) rfl 4 (by decide) (Or.inl (hts _ q194)) dX4_ofRowAndLayer_8 (fun v hv np2_4 => ?_)
    obtain ⟨x8, rfl, r8⟩ : gi 0 1 v := hv
    refine lv_if_eq (tgt := 20) hx hb dX4_ofRowAndLayer_11 (by decide) (fun c11 => ?_) (fun c11 => ?_)
    · have rx8_11 : ir x8 0 0 := rf_eq c11 (ir_c (0) (by decide) : ir (0 : Int32) (0) (0))
      refine lv_aload_n hx hb dX4_ofRowAndLayer_20 rfl (lv_at hl 1 rfl) ?_
      refine wt_getp hx hb hts cfX4 hown hK hW (cg4 kp1) rfl 0 (by decide) (Or.inl (hts _ q186)) dX4_ofRowAndLayer_21 (fun v hv np1_0 => ?_)
      obtain ⟨x21, rfl⟩ : gl v := hv
      refine lv_aload_n hx hb dX4_ofRowAndLayer_24 rfl (lv_at hl 2 rfl) ?_
      refine wt_getp hx hb hts cfX4 hown hK hW (cg4 kp2) rfl 0 (by decide) (Or.inl (hts _ q186)) dX4_ofRowAndLayer_25 (fun v hv np2_0 => ?_)
      obtain ⟨x25, rfl⟩ : gl v := hv
      refine lv_lmul hx hb dX4_ofRowAndLayer_28 ?_
      refine lv_topl (fun x28 e28 => ?_)
      refine lv_aload_n hx hb dX4_ofRowAndLayer_29 rfl (lv_at hl 1 rfl) ?_
      refine wt_getp hx hb hts cfX4 hown hK hW (cg4 kp1) rfl 1 (by decide) (Or.inl (hts _ q188)) dX4_ofRowAndLayer_30 (fun v hv np1_1 => ?_)
      obtain ⟨x30, rfl⟩ : gl v := hv
      refine lv_aload_n hx hb dX4_ofRowAndLayer_33 rfl (lv_at hl 2 rfl) ?_
      refine wt_getp hx hb hts cfX4 hown hK hW (cg4 kp2) rfl 2 (by decide) (Or.inl (hts _ q190)) dX4_ofRowAndLayer_34 (fun v hv np2_2 => ?_)
      obtain ⟨x34, rfl⟩ : gl v := hv
      refine lv_lmul hx hb dX4_ofRowAndLayer_37 ?_
      refine lv_topl (fun x37 e37 => ?_)
      refine lv_lsub hx hb dX4_ofRowAndLayer_38 ?_
      refine lv_topl (fun x38 e38 => ?_)
      refine lv_lstore_n (lv' := [(3, .long x38), (0, .ref h0), (1, .ref p1), (2, .ref p2)]) hx hb dX4_ofRowAndLayer_39 rfl hl (by decide) rfl (fun ls hl => ?_)
      refine lv_aload_n hx hb dX4_ofRowAndLayer_40 rfl (lv_at hl 2 rfl) ?_
      refine wt_rel hx hb hts cfX4 hown hK np1_0 rfl (by decide) (Or.inl (hts _ q186)) dX4_ofRowAndLayer_41 ?_
      refine lv_aload_n hx hb dX4_ofRowAndLayer_44 rfl (lv_at hl 3 rfl) ?_
      refine wt_getp hx hb hts cfX4 hown hK hW (cg4 kp2) rfl 1 (by decide) (Or.inl (hts _ q188)) dX4_ofRowAndLayer_45 (fun v hv np2_1 => ?_)
      obtain ⟨x45, rfl⟩ : gl v := hv
      refine lv_lmul hx hb dX4_ofRowAndLayer_48 ?_
      refine lv_topl (fun x48 e48 => ?_)
      refine lv_aload_n hx hb dX4_ofRowAndLayer_49 rfl (lv_at hl 2 rfl) ?_
      refine wt_rel hx hb hts cfX4 hown hK np1_1 rfl (by decide) (Or.inl (hts _ q188)) dX4_ofRowAndLayer_50 ?_
      refine lv_aload_n hx hb dX4_ofRowAndLayer_53 rfl (lv_at hl 3 rfl) ?_
      refine wt_getp hx hb hts cfX4 hown hK hW (cg4 kp2) rfl 3 (by decide) (Or.inl (hts _ q192)) dX4_ofRowAndLayer_54 (fun v hv np2_3 => ?_)
      obtain ⟨x54, rfl⟩ : gl v := hv
      refine lv_lmul hx hb dX4_ofRowAndLayer_57 ?_
      refine lv_topl (fun x57 e57 => ?_)
      refine lv_ladd hx hb dX4_ofRowAndLayer_58 ?_
      refine lv_topl (fun x58 e58 => ?_)
      refine lv_lstore (lv' := [(5, .long x58), (3, .long x38), (0, .ref h0), (1, .ref p1), (2, .ref p2)]) hx hb dX4_ofRowAndLayer_59 hl (by decide) rfl (fun ls hl => ?_)
      refine lv_aload_n hx hb dX4_ofRowAndLayer_61 rfl (lv_at hl 3 rfl) ?_
      refine wt_getp hx hb hts cfX4 hown hK hW (cg4 kp1) rfl 2 (by decide) (Or.inl (hts _ q190)) dX4_ofRowAndLayer_62 (fun v hv np1_2 => ?_)
      obtain ⟨x62, rfl⟩ : gl v := hv
      refine lv_aload_n hx hb dX4_ofRowAndLayer_65 rfl (lv_at hl 4 rfl) ?_
      refine wt_rel hx hb hts cfX4 hown hK np2_0 rfl (by decide) (Or.inl (hts _ q186)) dX4_ofRowAndLayer_66 ?_
      refine lv_lmul hx hb dX4_ofRowAndLayer_69 ?_
      refine lv_topl (fun x69 e69 => ?_)
      refine lv_aload_n hx hb dX4_ofRowAndLayer_70 rfl (lv_at hl 3 rfl) ?_
      refine wt_getp hx hb hts cfX4 hown hK hW (cg4 kp1) rfl 3 (by decide) (Or.inl (hts _ q192)) dX4_ofRowAndLayer_71 (fun v hv np1_3 => ?_)
      obtain ⟨x71, rfl⟩ : gl v := hv
      refine lv_aload_n hx hb dX4_ofRowAndLayer_74 rfl (lv_at hl 4 rfl) ?_
      refine wt_rel hx hb hts cfX4 hown hK np2_2 rfl (by decide) (Or.inl (hts _ q190)) dX4_ofRowAndLayer_75 ?_
      refine lv_lmul hx hb dX4_ofRowAndLayer_78 ?_
      refine lv_topl (fun x78 e78 => ?_)
      refine lv_ladd hx hb dX4_ofRowAndLayer_79 ?_
      refine lv_topl (fun x79 e79 => ?_)
      refine lv_lstore (lv' := [(7, .long x79), (5, .long x58), (3, .long x38), (0, .ref h0), (1, .ref p1), (2, .ref p2)]) hx hb dX4_ofRowAndLayer_80 hl (by decide) rfl (fun ls hl => ?_)
      refine lv_aload_n hx hb dX4_ofRowAndLayer_82 rfl (lv_at hl 4 rfl) ?_
      refine wt_rel hx hb hts cfX4 hown hK np1_3 rfl (by decide) (Or.inl (hts _ q192)) dX4_ofRowAndLayer_83 ?_
      refine lv_aload_n hx hb dX4_ofRowAndLayer_86 rfl (lv_at hl 5 rfl) ?_
      refine wt_rel hx hb hts cfX4 hown hK np2_3 rfl (by decide) (Or.inl (hts _ q192)) dX4_ofRowAndLayer_87 ?_
      refine lv_lmul hx hb dX4_ofRowAndLayer_90 ?_
      refine lv_topl (fun x90 e90 => ?_)
      refine lv_aload_n hx hb dX4_ofRowAndLayer_91 rfl (lv_at hl 4 rfl) ?_
      refine wt_rel hx hb hts cfX4 hown hK np1_2 rfl (by decide) (Or.inl (hts _ q190)) dX4_ofRowAndLayer_92 ?_
      refine lv_aload_n hx hb dX4_ofRowAndLayer_95 rfl (lv_at hl 5 rfl) ?_
      refine wt_rel hx hb hts cfX4 hown hK np2_1 rfl (by decide) (Or.inl (hts _ q188)) dX4_ofRowAndLayer_96 ?_
      refine lv_lmul hx hb dX4_ofRowAndLayer_99 ?_
      refine lv_topl (fun x99 e99 => ?_)
      refine lv_lsub hx hb dX4_ofRowAndLayer_100 ?_
      refine lv_topl (fun x100 e100 => ?_)
      refine lv_lstore (lv' := [(9, .long x100), (7, .long x79), (5, .long x58), (3, .long x38), (0, .ref h0), (1, .ref p1), (2, .ref p2)]) hx hb dX4_ofRowAndLayer_101 hl (by decide) rfl (fun ls hl => ?_)
      refine lv_aload_n hx hb dX4_ofRowAndLayer_103 rfl (lv_at hl 4 rfl) ?_
      refine lv_lload_n hx hb dX4_ofRowAndLayer_104 rfl (lv_at hl 3 rfl) ?_
      refine wt_putp hx hb hts cfX4 tyX4 tyX4_ok nmX4 hown hK hW hS (cg4 k0) (ce k0 (by decide)) rfl 0 (by decide) (Or.inl (hts _ q186)) rfl rfl rfl gl_mk dX4_ofRowAndLayer_105 (fun H locs hW hS oq o2 np => ?_)
      have nh0_0 : wt_pin N.1 vwCl h0 4 0 (.long x38) H := np
      refine lv_aload_n hx hb dX4_ofRowAndLayer_108 rfl (lv_at hl 4 rfl) ?_
      refine lv_lload hx hb dX4_ofRowAndLayer_109 (lv_at hl 2 rfl) ?_
      refine wt_putp hx hb hts cfX4 tyX4 tyX4_ok nmX4 hown hK hW hS (cg4 k0) (ce k0 (by decide)) rfl 1 (by decide) (Or.inl (hts _ q188)) rfl rfl rfl gl_mk dX4_ofRowAndLayer_111 (fun H locs hW hS oq o2 np => ?_)
      have nh0_0 := o2 0 _ (by decide) (by decide) nh0_0
      have nh0_1 : wt_pin N.1 vwCl h0 4 1 (.long x58) H := np
      refine lv_aload_n hx hb dX4_ofRowAndLayer_114 rfl (lv_at hl 4 rfl) ?_
      refine lv_lload hx hb dX4_ofRowAndLayer_115 (lv_at hl 1 rfl) ?_
      refine wt_putp hx hb hts cfX4 tyX4 tyX4_ok nmX4 hown hK hW hS (cg4 k0) (ce k0 (by decide)) rfl 2 (by decide) (Or.inl (hts _ q190)) rfl rfl rfl gl_mk dX4_ofRowAndLayer_117 (fun H locs hW hS oq o2 np => ?_)
      have nh0_0 := o2 0 _ (by decide) (by decide) nh0_0
      have nh0_1 := o2 1 _ (by decide) (by decide) nh0_1
      have nh0_2 : wt_pin N.1 vwCl h0 4 2 (.long x79) H := np
      refine lv_aload_n hx hb dX4_ofRowAndLayer_120 rfl (lv_at hl 4 rfl) ?_
      refine lv_lload hx hb dX4_ofRowAndLayer_121 (lv_at hl 0 rfl) ?_
      refine wt_putp hx hb hts cfX4 tyX4 tyX4_ok nmX4 hown hK hW hS (cg4 k0) (ce k0 (by decide)) rfl 3 (by decide) (Or.inl (hts _ q192)) rfl rfl rfl gl_mk dX4_ofRowAndLayer_123 (fun H locs hW hS oq o2 np => ?_)
      have nh0_0 := o2 0 _ (by decide) (by decide) nh0_0
      have nh0_1 := o2 1 _ (by decide) (by decide) nh0_1
      have nh0_2 := o2 2 _ (by decide) (by decide) nh0_2
      have nh0_3 : wt_pin N.1 vwCl h0 4 3 (.long x100) H := np
      refine lv_aload_n hx hb dX4_ofRowAndLayer_126 rfl (lv_at hl 4 rfl) ?_
      refine cc_v (wt_runV (As := []) (rest := []) ⟨hx, hb, hml, hown, hts⟩ (m_X4_settle l N h0 k0) wm_X4_settle q571 ⟨rfl, rfl⟩ ⟨Nat.le_of_ble_eq_true rfl, Nat.le_of_ble_eq_true rfl⟩ (cS_preV hK hW hT hnn hS (cg4 k0) rfl rfl trivial) rfl hl.1 rfl (Nat.le_of_ble_eq_true rfl) dX4_ofRowAndLayer_127 ⟨Nat.zero_le _, Nat.zero_le _⟩) hS (by decide) (fun H locs hW hS oq hB2 => ?_)
      exact W.vret hx hb hr (fun t ht _ => ⟨⟨(), rfl, trivial, cW_at ht hW, trivial⟩, hS.F ht⟩) hS.2.2 dX4_ofRowAndLayer_130
    · have rx8_11 : ir x8 1 1 := rf_ne0 c11 r8
      refine lv_aload_n hx hb dX4_ofRowAndLayer_14 rfl (lv_at hl 0 rfl) ?_
      refine lv_iconst (v := 1) hx hb dX4_ofRowAndLayer_15 (by decide) ?_
      refine wt_putp hx hb hts cfX4 tyX4 tyX4_ok nmX4 hown hK hW hS (cg4 k0) (ce k0 (by decide)) rfl 4 (by decide) (Or.inl (hts _ q194)) rfl rfl rfl (gi_mk (ir_w (lo' := 0) (hi' := 1) (ir_c (1) (by decide) : ir (1 : Int32) (1) (1)) (by decide) (by decide))) dX4_ofRowAndLayer_16 (fun H locs hW hS oq o2 np => ?_)
      have nh0_4 : wt_pin N.1 vwCl h0 4 4 (.int (1 : Int32)) H := np
      exact W.vret hx hb hr (fun t ht _ => ⟨⟨(), rfl, trivial, cW_at ht hW, trivial⟩, hS.F ht⟩) hS.2.2 dX4_ofRowAndLayer_19
set_option maxHeartbeats 4000000 in
set_option maxRecDepth 100000 in
theorem m_X4_number (l : Launch) (N : c_N) (h0 : Nat) (k0 : N.2.2.1 h0 = some 4) (p1 : Int32) : cMl l yX4_number cX4_number 2 .long { frames := 0, cells := 0, slots := 0, locals := 0 } [.ref h0, .int p1] N [] cT0 (fun _ => True) := by
  refine Met.ofW (cc := cX4_number) (maxL := 2) (ret := some .long) (by decide) rfl ?_
  intro p e s m args below meth c s₁ B hml hv
  obtain ⟨rfl, ⟨hK, hW, hT, hnn⟩, hB⟩ := hv
  have hx := B.exec
  have hb := B.bytes
  have hr := B.returns
  have hts : ∀ w ∈ lw_g, w.before _ s = true := fun w h => atoms_spec (ws := wc_ws yX4_number cX4_number 2 (some .long)) B.pre w (List.mem_cons_of_mem _ h)
  have hown : s.vm.findClass RX4 = some m.cls := findClass_of_methodNamed B.named
  have hlocks := B.notSynchronized
  have hS : va_S (cE N []) s.heap s.heap [] := va_S.rf
  have hl := lv_entry ([.ref h0, .int p1]) (n := 2) (Nat.le_of_ble_eq_true rfl)
  rw [lg_entry_eq]
  generalize (lg_sl ([.ref h0, .int p1]) ++ List.replicate (2 - (lg_sl ([.ref h0, .int p1])).length) Slot.unset).toArray = ls at hl ⊢
  have hl : lv_has ls 2 [(0, .ref h0), (1, .int p1)] := hl
  refine wq_all ?_
  intro WW w1 w2
  refine lv_iload_n hx hb dX4_number_0 rfl (lv_at hl 1 rfl) ?_
  by_cases c1 : p1.toInt < 0 ∨ 2 < p1.toInt
  · refine lv_tableOut (tgt := 43) hx hb dX4_number_1 c1 (by decide) ?_
    refine lv_aload_n hx hb dX4_number_43 rfl (lv_at hl 0 rfl) ?_
    refine wt_getp hx hb hts cfX4 hown hK hW (cg4 k0) rfl 3 (by decide) (Or.inl (hts _ q192)) dX4_number_44 (fun v hv nh0_3 => ?_)
    obtain ⟨x44, rfl⟩ : gl v := hv
    exact W.lret (v := x44) hx hb hr (fun t ht _ => ⟨⟨x44, (), rfl, trivial, cW_at ht hW⟩, hS.F ht⟩) hS.2.2 dX4_number_47
  · rcases (show p1.toInt = 0 ∨ p1.toInt = 1 ∨ p1.toInt = 2 by omega) with d1 | d1 | d1
    · refine lv_tableIn (off := 27) (tgt := 28) hx hb dX4_number_1 (by omega) (by omega) (by rw [d1]; rfl) (by decide) ?_
      refine lv_aload_n hx hb dX4_number_28 rfl (lv_at hl 0 rfl) ?_
      refine wt_getp hx hb hts cfX4 hown hK hW (cg4 k0) rfl 0 (by decide) (Or.inl (hts _ q186)) dX4_number_29 (fun v hv nh0_0 => ?_)
      obtain ⟨x29, rfl⟩ : gl v := hv
      exact W.lret (v := x29) hx hb hr (fun t ht _ => ⟨⟨x29, (), rfl, trivial, cW_at ht hW⟩, hS.F ht⟩) hS.2.2 dX4_number_32
    · refine lv_tableIn (off := 32) (tgt := 33) hx hb dX4_number_1 (by omega) (by omega) (by rw [d1]; rfl) (by decide) ?_
      refine lv_aload_n hx hb dX4_number_33 rfl (lv_at hl 0 rfl) ?_
      refine wt_getp hx hb hts cfX4 hown hK hW (cg4 k0) rfl 1 (by decide) (Or.inl (hts _ q188)) dX4_number_34 (fun v hv nh0_1 => ?_)
      obtain ⟨x34, rfl⟩ : gl v := hv
      exact W.lret (v := x34) hx hb hr (fun t ht _ => ⟨⟨x34, (), rfl, trivial, cW_at ht hW⟩, hS.F ht⟩) hS.2.2 dX4_number_37
    · refine lv_tableIn (off := 37) (tgt := 38) hx hb dX4_number_1 (by omega) (by omega) (by rw [d1]; rfl) (by decide) ?_
      refine lv_aload_n hx hb dX4_number_38 rfl (lv_at hl 0 rfl) ?_
      refine wt_getp hx hb hts cfX4 hown hK hW (cg4 k0) rfl 2 (by decide) (Or.inl (hts _ q190)) dX4_number_39 (fun v hv nh0_2 => ?_)
      obtain ⟨x39, rfl⟩ : gl v := hv
      exact W.lret (v := x39) hx hb hr (fun t ht _ => ⟨⟨x39, (), rfl, trivial, cW_at ht hW⟩, hS.F ht⟩) hS.2.2 dX4_number_42
