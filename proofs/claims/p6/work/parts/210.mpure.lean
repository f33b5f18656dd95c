set_option maxHeartbeats 4000000 in
set_option maxRecDepth 100000 in
theorem m_X11_isIn (l : Launch) (p1 : Int64) (p2 : Int64) (p3 : Int64) : pMi l yX11_isIn cX11_isIn 6 .boolean { frames := 0, cells := 0, slots := 0, locals := 0 } [.long p1, .long p2, .long p3] (fun r => ir r 0 1 ∧ (¬ r = 0 → (p2.toInt ≤ p1.toInt ∧ p1.toInt ≤ p3.toInt))) := by
  refine Met.ofW (cc := cX11_isIn) (maxL := 6) (ret := some .boolean) (by decide) rfl ?_
  intro p e s m args below meth c s₁ B hml hv
  obtain ⟨rfl, -⟩ := hv
  have hx := B.exec
  have hb := B.bytes
  have hr := B.returns
  have hts : ∀ w ∈ lw_g, w.before _ s = true := fun w h => atoms_spec (ws := wc_ws yX11_isIn cX11_isIn 6 (some .boolean)) B.pre w (List.mem_cons_of_mem _ h)
  have hown : s.vm.findClass RX11 = some m.cls := findClass_of_methodNamed B.named
  have hlocks := B.notSynchronized
  have hS : va_S (fun _ => False) s.heap s.heap [] := va_S.rf
  have hl := lv_entry ([.long p1, .long p2, .long p3]) (n := 6) (Nat.le_of_ble_eq_true rfl)
  rw [lg_entry_eq]
  generalize (lg_sl ([.long p1, .long p2, .long p3]) ++ List.replicate (6 - (lg_sl ([.long p1, .long p2, .long p3])).length) Slot.unset).toArray = ls at hl ⊢
  have hl : lv_has ls 6 [(0, .long p1), (2, .long p2), (4, .long p3)] := hl
  refine wq_all ?_
  intro WW w1 w2
  refine lv_lload_n hx hb dX11_isIn_0 rfl (lv_at hl 0 rfl) ?_
  refine lv_lload_n hx hb dX11_isIn_1 rfl (lv_at hl 1 rfl) ?_
  refine wl_lt (tgt := 17) hx hb dX11_isIn_2 dX11_isIn_3 (by decide) (fun c2 => ?_) (fun c2 => ?_)
  · have rp1_2 : lr p1 (-9223372036854775808) 9223372036854775806 := by have h8 := (lr_any p1); have h9 := (lr_any p2); constructor <;> omega
    have rp2_2 : lr p2 (-9223372036854775807) 9223372036854775807 := by have h8 := (lr_any p2); have h9 := rp1_2; constructor <;> omega
    refine lv_iconst (v := 0) hx hb dX11_isIn_17 (by decide) ?_
    exact W.zret (v := (0 : Int32)) hx hb hr rfl (fun t ht _ => ⟨⟨(0 : Int32), (), rfl, (⟨⟨by decide, by decide⟩, fun h => absurd rfl h⟩), trivial⟩, hS.F ht⟩) hS.2.2 dX11_isIn_18
  · refine lv_lload_n hx hb dX11_isIn_6 rfl (lv_at hl 0 rfl) ?_
    refine lv_lload hx hb dX11_isIn_7 (lv_at hl 2 rfl) ?_
    refine wl_gt (tgt := 17) hx hb dX11_isIn_9 dX11_isIn_10 (by decide) (fun c9 => ?_) (fun c9 => ?_)
    · have rp1_9 : lr p1 (-9223372036854775807) 9223372036854775807 := by have h8 := (lr_any p1); have h9 := (lr_any p3); constructor <;> omega
      have rp3_9 : lr p3 (-9223372036854775808) 9223372036854775806 := by have h8 := (lr_any p3); have h9 := rp1_9; constructor <;> omega
      refine lv_iconst (v := 0) hx hb dX11_isIn_17 (by decide) ?_
      exact W.zret (v := (0 : Int32)) hx hb hr rfl (fun t ht _ => ⟨⟨(0 : Int32), (), rfl, (⟨⟨by decide, by decide⟩, fun h => absurd rfl h⟩), trivial⟩, hS.F ht⟩) hS.2.2 dX11_isIn_18
    · refine lv_iconst (v := 1) hx hb dX11_isIn_13 (by decide) ?_
      refine lv_goto (tgt := 18) hx hb dX11_isIn_14 (by decide) ?_
      exact W.zret (v := (1 : Int32)) hx hb hr rfl (fun t ht _ => ⟨⟨(1 : Int32), (), rfl, (⟨⟨by decide, by decide⟩, fun _ => ⟨by omega, by omega⟩⟩), trivial⟩, hS.F ht⟩) hS.2.2 dX11_isIn_18
set_option maxHeartbeats 4000000 in
set_option maxRecDepth 100000 in
theorem m_X11_one (l : Launch) (p1 : Int32) (rp1 : ir p1 0 1) : pMi l yX11_one cX11_one 1 .int { frames := 0, cells := 0, slots := 0, locals := 0 } [.int p1] (fun r => ir r 0 1) := by
  refine Met.ofW (cc := cX11_one) (maxL := 1) (ret := some .int) (by decide) rfl ?_
  intro p e s m args below meth c s₁ B hml hv
  obtain ⟨rfl, -⟩ := hv
  have hx := B.exec
  have hb := B.bytes
  have hr := B.returns
  have hts : ∀ w ∈ lw_g, w.before _ s = true := fun w h => atoms_spec (ws := wc_ws yX11_one cX11_one 1 (some .int)) B.pre w (List.mem_cons_of_mem _ h)
  have hown : s.vm.findClass RX11 = some m.cls := findClass_of_methodNamed B.named
  have hlocks := B.notSynchronized
  have hS : va_S (fun _ => False) s.heap s.heap [] := va_S.rf
  have hl := lv_entry ([.int p1]) (n := 1) (Nat.le_of_ble_eq_true rfl)
  rw [lg_entry_eq]
  generalize (lg_sl ([.int p1]) ++ List.replicate (1 - (lg_sl ([.int p1])).length) Slot.unset).toArray = ls at hl ⊢
  have hl : lv_has ls 1 [(0, .int p1)] := hl
  refine wq_all ?_
  intro WW w1 w2
  refine lv_iload_n hx hb dX11_one_0 rfl (lv_at hl 0 rfl) ?_
  refine lv_if_eq (tgt := 8) hx hb dX11_one_1 (by decide) (fun c1 => ?_) (fun c1 => ?_)
  · have rp1_1 : ir p1 0 0 := rf_eq c1 (ir_c (0) (by decide) : ir (0 : Int32) (0) (0))
    refine lv_iconst (v := 0) hx hb dX11_one_8 (by decide) ?_
    exact W.iret (v := (0 : Int32)) hx hb hr (fun t ht _ => ⟨⟨(0 : Int32), (), rfl, (ir_w (lo' := 0) (hi' := 1) (ir_c (0) (by decide) : ir (0 : Int32) (0) (0)) (by decide) (by decide)), trivial⟩, hS.F ht⟩) hS.2.2 dX11_one_9
  · have rp1_1 : ir p1 1 1 := rf_ne0 c1 rp1
    refine lv_iconst (v := 1) hx hb dX11_one_4 (by decide) ?_
    refine lv_goto (tgt := 9) hx hb dX11_one_5 (by decide) ?_
    exact W.iret (v := (1 : Int32)) hx hb hr (fun t ht _ => ⟨⟨(1 : Int32), (), rfl, (ir_w (lo' := 0) (hi' := 1) (ir_c (1) (by decide) : ir (1 : Int32) (1) (1)) (by decide) (by decide)), trivial⟩, hS.F ht⟩) hS.2.2 dX11_one_9
set_option maxHeartbeats 4000000 in
set_option maxRecDepth 100000 in
theorem m_X11_has (l : Launch) (p1 : Int32) (p2 : Int32) : pMi l yX11_has cX11_has 2 .boolean { frames := 0, cells := 0, slots := 0, locals := 0 } [.int p1, .int p2] (fun r => ir r 0 1) := by
  refine Met.ofW (cc := cX11_has) (maxL := 2) (ret := some .boolean) (by decide) rfl ?_
  intro p e s m args below meth c s₁ B hml hv
  obtain ⟨rfl, -⟩ := hv
  have hx := B.exec
  have hb := B.bytes
  have hr := B.returns
  have hts : ∀ w ∈ lw_g, w.before _ s = true := fun w h => atoms_spec (ws := wc_ws yX11_has cX11_has 2 (some .boolean)) B.pre w (List.mem_cons_of_mem _ h)
  have hown : s.vm.findClass RX11 = some m.cls := findClass_of_methodNamed B.named
  have hlocks := B.notSynchronized
  have hS : va_S (fun _ => False) s.heap s.heap [] := va_S.rf
  have hl := lv_entry ([.int p1, .int p2]) (n := 2) (Nat.le_of_ble_eq_true rfl)
  rw [lg_entry_eq]
  generalize (lg_sl ([.int p1, .int p2]) ++ List.replicate (2 - (lg_sl ([.int p1, .int p2])).length) Slot.unset).toArray = ls at hl ⊢
  have hl : lv_has ls 2 [(0, .int p1), (1, .int p2)] := hl
  refine wq_all ?_
  intro WW w1 w2
  refine lv_iload_n hx hb dX11_has_0 rfl (lv_at hl 0 rfl) ?_
  refine lv_iload_n hx hb dX11_has_1 rfl (lv_at hl 1 rfl) ?_
  refine lv_ishr hx hb dX11_has_2 ?_
  refine lv_topi (fun x2 e2 => ?_)
  refine lv_iconst (v := 1) hx hb dX11_has_3 (by decide) ?_
  refine lv_iand hx hb dX11_has_4 ?_
  refine lv_topi (fun x4 e4 => ?_)
  have r4 : ir x4 0 1 := ir_and e4 (ir_w (ir_c (1) (by decide) : ir (1 : Int32) (1) (1)) (by decide) (by decide))
  refine lv_iconst (v := 1) hx hb dX11_has_5 (by decide) ?_
  refine lv_icmp_ne (tgt := 13) hx hb dX11_has_6 (by decide) (fun c6 => ?_) (fun c6 => ?_)
  · refine lv_iconst (v := 0) hx hb dX11_has_13 (by decide) ?_
    exact W.zret (v := (0 : Int32)) hx hb hr rfl (fun t ht _ => ⟨⟨(0 : Int32), (), rfl, (⟨by decide, by decide⟩), trivial⟩, hS.F ht⟩) hS.2.2 dX11_has_14
  · have rx4_6 : ir x4 1 1 := rf_eq c6 (ir_c (1) (by decide) : ir (1 : Int32) (1) (1))
    refine lv_iconst (v := 1) hx hb dX11_has_9 (by decide) ?_
    refine lv_goto (tgt := 14) hx hb dX11_has_10 (by decide) ?_
    exact W.zret (v := (1 : Int32)) hx hb hr rfl (fun t ht _ => ⟨⟨(1 : Int32), (), rfl, (⟨by decide, by decide⟩), trivial⟩, hS.F ht⟩) hS.2.2 dX11_has_14
set_option maxHeartbeats 4000000 in
set_option maxRecDepth 100000 in
theorem m_X11_isThick (l : Launch) (p1 : Int32) (p2 : Int32) : pMi l yX11_isThick cX11_isThick 2 .boolean { frames := 1, cells := 0, slots := 0, locals := 25 } [.int p1, .int p2] (fun r => ir r 0 1 ∧ (¬ r = 0 → ir p1 0 6 ∧ ir p2 0 6 ∧ (p1.toInt ≠ 0 ∨ p2.toInt ≠ 0))) := by
  refine Met.ofW (cc := cX11_isThick) (maxL := 2) (ret := some .boolean) (by decide) rfl ?_
  intro p e s m args below meth c s₁ B hml hv
  obtain ⟨rfl, -⟩ := hv
  have hx := B.exec
  have hb := B.bytes
  have hr := B.returns
  have hts : ∀ w ∈ lw_g, w.before _ s = true := fun w h => atoms_spec (ws := wc_ws yX11_isThick cX11_isThick 2 (some .boolean)) B.pre w (List.mem_cons_of_mem _ h)
  have hown : s.vm.findClass RX11 = some m.cls := findClass_of_methodNamed B.named
  have hlocks := B.notSynchronized
  have hS : va_S (fun _ => False) s.heap s.heap [] := va_S.rf
  have hl := lv_entry ([.int p1, .int p2]) (n := 2) (Nat.le_of_ble_eq_true rfl)
  rw [lg_entry_eq]
  generalize (lg_sl ([.int p1, .int p2]) ++ List.replicate (2 - (lg_sl ([.int p1, .int p2])).length) Slot.unset).toArray = ls at hl ⊢
  have hl : lv_has ls 2 [(0, .int p1), (1, .int p2)] := hl
  refine wq_all ?_
  intro WW w1 w2
  refine lv_iload_n hx hb dX11_isThick_0 rfl (lv_at hl 0 rfl) ?_
  refine lv_i2l hx hb dX11_isThick_1 rfl ?_
  refine lv_topl (fun x1 e1 => ?_)
  have r1 : lr x1 (-2147483648) 2147483647 := by rw [e1]; exact i2l_r (ir_any p1)
  refine lv_lconst (v := 0) hx hb dX11_isThick_2 (by decide) ?_
  refine lv_ldc2 hx hb hown (hts _ q1083) dX11_isThick_3 ?_
  refine pp_i (wt_runS (As := [.long x1, .long (0 : Int64), .long (6 : Int64)]) (rest := []) ⟨hx, hb, hml, hown, hts⟩ (m_X11_isIn l x1 (0 : Int64) (6 : Int64)) wm_X11_isIn q1050 ⟨rfl, rfl⟩ ⟨Nat.le_of_ble_eq_true rfl, Nat.le_of_ble_eq_true rfl⟩ pS_pre rfl hl.1 rfl (Nat.le_of_ble_eq_true rfl) dX11_isThick_6 ⟨Nat.zero_le _, Nat.zero_le _⟩) hS (fun x6 H locs hp hS => ?_)
  obtain ⟨r6, b6⟩ := hp
  refine lv_if_eq (tgt := 24) hx hb dX11_isThick_9 (by decide) (fun c9 => ?_) (fun c9 => ?_)
  · have rx6_9 : ir x6 0 0 := rf_eq c9 (ir_c (0) (by decide) : ir (0 : Int32) (0) (0))
    refine lv_iload_n hx hb dX11_isThick_24 rfl (lv_at hl 0 rfl) ?_
    refine lv_iconst (v := 1) hx hb dX11_isThick_25 (by decide) ?_
    refine lv_icmp_ne (tgt := 37) hx hb dX11_isThick_26 (by decide) (fun c26 => ?_) (fun c26 => ?_)
    · refine lv_iconst (v := 0) hx hb dX11_isThick_37 (by decide) ?_
      exact W.zret (v := (0 : Int32)) hx hb hr rfl (fun t ht _ => ⟨⟨(0 : Int32), (), rfl, (⟨⟨by decide, by decide⟩, fun h => absurd rfl h⟩), trivial⟩, hS.F ht⟩) hS.2.2 dX11_isThick_38
    · have rp1_26 : ir p1 1 1 := rf_eq c26 (ir_c (1) (by decide) : ir (1 : Int32) (1) (1))
      refine lv_iload_n hx hb dX11_isThick_29 rfl (lv_at hl 1 rfl) ?_
      refine lv_if_ne (tgt := 37) hx hb dX11_isThick_30 (by decide) (fun c30 => ?_) (fun c30 => ?_)
      · refine lv_iconst (v := 0) hx hb dX11_isThick_37 (by decide) ?_
        exact W.zret (v := (0 : Int32)) hx hb hr rfl (fun t ht _ => ⟨⟨(0 : Int32), (), rfl, (⟨⟨by decide, by decide⟩, fun h => absurd rfl h⟩), trivial⟩, hS.F ht⟩) hS.2.2 dX11_isThick_38
      · have rp2_30 : ir p2 0 0 := rf_eq c30 (ir_c (0) (by decide) : ir (0 : Int32) (0) (0))
        refine lv_iconst (v := 1) hx hb dX11_isThick_33 (by decide) ?_
        refine lv_goto (tgt := 38) hx hb dX11_isThick_34 (by decide) ?_
        exact W.zret (v := (1 : Int32)) hx hb hr rfl (fun t ht _ => ⟨⟨(1 : Int32), (), rfl, (⟨⟨by decide, by decide⟩, fun _ => ⟨(ir_w (lo' := 0) (hi' := 6) rp1_26 (by decide) (by decide)), (ir_w (lo' := 0) (hi' := 6) rp2_30 (by decide) (by decide)), (Or.inl (by have h9 := rp1_26; omega))⟩⟩), trivial⟩, hS.F ht⟩) hS.2.2 dX11_isThick_38
  · have rx6_9 : ir x6 1 1 := rf_ne0 c9 r6
    have bx6_9 := b6 c9
    have rbx1_9 : lr x1 0 6 := by have h5 := bx6_9; have h6 := r1; have h7 := (lr_c (0) (by decide) : lr (0 : Int64) (0) (0)); have h8 := (lr_c (6) (by decide) : lr (6 : Int64) (6) (6)); constructor <;> omega
    have rp1_9 : ir p1 0 6 := i2l_b e1 rbx1_9
    refine lv_iload_n hx hb dX11_isThick_12 rfl (lv_at hl 1 rfl) ?_
    refine lv_i2l hx hb dX11_isThick_13 rfl ?_
    refine lv_topl (fun x13 e13 => ?_)
    have r13 : lr x13 (-2147483648) 2147483647 := by rw [e13]; exact i2l_r (ir_any p2)
    refine lv_lconst (v := 1) hx hb dX11_isThick_14 (by decide) ?_
    refine lv_ldc2 hx hb hown (hts _ q1083) dX11_isThick_15 ?_
    refine pp_i (wt_runS (As := [.long x13, .long (1 : Int64), .long (6 : Int64)]) (rest := []) ⟨hx, hb, hml, hown, hts⟩ (m_X11_isIn l x13 (1 : Int64) (6 : Int64)) wm_X11_isIn q1050 ⟨rfl, rfl⟩ ⟨Nat.le_of_ble_eq_true rfl, Nat.le_of_ble_eq_true rfl⟩ pS_pre rfl hl.1 rfl (Nat.le_of_ble_eq_true rfl) dX11_isThick_18 ⟨Nat.zero_le _, Nat.zero_le _⟩) hS (fun x18 H locs hp hS => ?_)
    obtain ⟨r18, b18⟩ := hp
    refine lv_if_ne (tgt := 33) hx hb dX11_isThick_21 (by decide) (fun c21 => ?_) (fun c21 => ?_)
    · have rx18_21 : ir x18 1 1 := rf_ne0 c21 r18
      have bx18_21 := b18 c21
      have rbx13_21 : lr x13 1 6 := by have h5 := bx18_21; have h6 := r13; have h7 := (lr_c (1) (by decide) : lr (1 : Int64) (1) (1)); have h8 := (lr_c (6) (by decide) : lr (6 : Int64) (6) (6)); constructor <;> omega
      have rp2_21 : ir p2 1 6 := i2l_b e13 rbx13_21
      refine lv_iconst (v := 1) hx hb dX11_isThick_33 (by decide) ?_
      refine lv_goto (tgt := 38) hx hb dX11_isThick_34 (by decide) ?_
      exact W.zret (v := (1 : Int32)) hx hb hr rfl (fun t ht _ => ⟨⟨(1 : Int32), (), rfl, (⟨⟨by decide, by decide⟩, fun _ => ⟨rp1_9, (ir_w (lo' := 0) (hi' := 6) rp2_21 (by decide) (by decide)), (Or.inr (by have h9 := rp2_21; omega))⟩⟩), trivial⟩, hS.F ht⟩) hS.2.2 dX11_isThick_38
    · have rx18_21 : ir x18 0 0 := rf_eq c21 (ir_c (0) (by decide) : ir (0 : Int32) (0) (0))
      refine lv_iload_n hx hb dX11_isThick_24 rfl (lv_at hl 0 rfl) ?_
      refine lv_iconst (v := 1) hx hb dX11_isThick_25 (by decide) ?_
      refine lv_icmp_ne (tgt := 37) hx hb dX11_isThick_26 (by decide) (fun c26 => ?_) (fun c26 => ?_)
      · refine lv_iconst (v := 0) hx hb dX11_isThick_37 (by decide) ?_
        exact W.zret (v := (0 : Int32)) hx hb hr rfl (fun t ht _ => ⟨⟨(0 : Int32), (), rfl, (⟨⟨by decide, by decide⟩, fun h => absurd rfl h⟩), trivial⟩, hS.F ht⟩) hS.2.2 dX11_isThick_38
      · have rp1_26 : ir p1 1 1 := rf_eq c26 (ir_c (1) (by decide) : ir (1 : Int32) (1) (1))
        refine lv_iload_n hx hb dX11_isThick_29 rfl (lv_at hl 1 rfl) ?_
        refine lv_if_ne (tgt := 37) hx hb dX11_isThick_30 (by decide) (fun c30 => ?_) (fun c30 => ?_)
        · refine lv_iconst (v := 0) hx hb dX11_isThick_37 (by decide) ?_
          exact W.zret (v := (0 : Int32)) hx hb hr rfl (fun t ht _ => ⟨⟨(0 : Int32), (), rfl, (⟨⟨by decide, by decide⟩, fun h => absurd rfl h⟩), trivial⟩, hS.F ht⟩) hS.2.2 dX11_isThick_38
        · have rp2_30 : ir p2 0 0 := rf_eq c30 (ir_c (0) (by decide) : ir (0 : Int32) (0) (0))
          refine lv_iconst (v := 1) hx hb dX11_isThick_33 (by decide) ?_
          refine lv_goto (tgt := 38) hx hb dX11_isThick_34 (by decide) ?_
          exact W.zret (v := (1 : Int32)) hx hb hr rfl (fun t ht _ => ⟨⟨(1 : Int32), (), rfl, (⟨⟨by decide, by decide⟩, fun _ => ⟨(ir_w (lo' := 0) (hi' := 6) rp1_26 (by decide) (by decide)), (ir_w (lo' := 0) (hi' := 6) rp2_30 (by decide) (by decide)), (Or.inl (by have h9 := rp1_26; omega))⟩⟩), trivial⟩, hS.F ht⟩) hS.2.2 dX11_isThick_38
set_option maxHeartbeats 4000000 in
set_option maxRecDepth 100000 in
theorem m_X11_thickUp (l : Launch) (p1 : Int32) : pMi l yX11_thickUp cX11_thickUp 1 .int { frames := 0, cells := 0, slots := 0, locals := 0 } [.int p1] (fun r => ir r 1 3) := by
  refine Met.ofW (cc := cX11_thickUp) (maxL := 1) (ret := some .int) (by decide) rfl ?_
  intro p e s m args below meth c s₁ B hml hv
  obtain ⟨rfl, -⟩ := hv
  have hx := B.exec
  have hb := B.bytes
  have hr := B.returns
  have hts : ∀ w ∈ lw_g, w.before _ s = true := fun w h => atoms_spec (ws := wc_ws yX11_thickUp cX11_thickUp 1 (some .int)) B.pre w (List.mem_cons_of_mem _ h)
  have hown : s.vm.findClass RX11 = some m.cls := findClass_of_methodNamed B.named
  have hlocks := B.notSynchronized
  have hS : va_S (fun _ => False) s.heap s.heap [] := va_S.rf
  have hl := lv_entry ([.int p1]) (n := 1) (Nat.le_of_ble_eq_true rfl)
  rw [lg_entry_eq]
  generalize (lg_sl ([.int p1]) ++ List.replicate (1 - (lg_sl ([.int p1])).length) Slot.unset).toArray = ls at hl ⊢
  have hl : lv_has ls 1 [(0, .int p1)] := hl
  refine wq_all ?_
  intro WW w1 w2
  refine lv_iload_n hx hb dX11_thickUp_0 rfl (lv_at hl 0 rfl) ?_
  refine lv_iconst (v := 2) hx hb dX11_thickUp_1 (by decide) ?_
  refine lv_icmp_eq (tgt := 10) hx hb dX11_thickUp_2 (by decide) (fun c2 => ?_) (fun c2 => ?_)
  · have rp1_2 : ir p1 2 2 := rf_eq c2 (ir_c (2) (by decide) : ir (2 : Int32) (2) (2))
    refine lv_iconst (v := 2) hx hb dX11_thickUp_10 (by decide) ?_
    refine lv_goto (tgt := 30) hx hb dX11_thickUp_11 (by decide) ?_
    exact W.iret (v := (2 : Int32)) hx hb hr (fun t ht _ => ⟨⟨(2 : Int32), (), rfl, (ir_w (lo' := 1) (hi' := 3) (ir_c (2) (by decide) : ir (2 : Int32) (2) (2)) (by decide) (by decide)), trivial⟩, hS.F ht⟩) hS.2.2 dX11_thickUp_30
  · refine lv_iload_n hx hb dX11_thickUp_5 rfl (lv_at hl 0 rfl) ?_
    refine lv_iconst (v := 5) hx hb dX11_thickUp_6 (by decide) ?_
    refine lv_icmp_ne (tgt := 14) hx hb dX11_thickUp_7 (by decide) (fun c7 => ?_) (fun c7 => ?_)
    · refine lv_iload_n hx hb dX11_thickUp_14 rfl (lv_at hl 0 rfl) ?_
      refine lv_iconst (v := 4) hx hb dX11_thickUp_15 (by decide) ?_
      refine lv_icmp_eq (tgt := 25) hx hb dX11_thickUp_16 (by decide) (fun c16 => ?_) (fun c16 => ?_)
      · have rp1_16 : ir p1 4 4 := rf_eq c16 (ir_c (4) (by decide) : ir (4 : Int32) (4) (4))
        refine lv_iconst (v := 3) hx hb dX11_thickUp_25 (by decide) ?_
        refine lv_goto (tgt := 30) hx hb dX11_thickUp_26 (by decide) ?_
        exact W.iret (v := (3 : Int32)) hx hb hr (fun t ht _ => ⟨⟨(3 : Int32), (), rfl, (ir_w (lo' := 1) (hi' := 3) (ir_c (3) (by decide) : ir (3 : Int32) (3) (3)) (by decide) (by decide)), trivial⟩, hS.F ht⟩) hS.2.2 dX11_thickUp_30
      · refine lv_iload_n hx hb dX11_thickUp_19 rfl (lv_at hl 0 rfl) ?_
        refine lv_bipush (v := 6) hx hb dX11_thickUp_20 (by decide) ?_
        refine lv_icmp_ne (tgt := 29) hx hb dX11_thickUp_22 (by decide) (fun c22 => ?_) (fun c22 => ?_)
        · refine lv_iconst (v := 1) hx hb dX11_thickUp_29 (by decide) ?_
          exact W.iret (v := (1 : Int32)) hx hb hr (fun t ht _ => ⟨⟨(1 : Int32), (), rfl, (ir_w (lo' := 1) (hi' := 3) (ir_c (1) (by decide) : ir (1 : Int32) (1) (1)) (by decide) (by decide)), trivial⟩, hS.F ht⟩) hS.2.2 dX11_thickUp_30
        · have rp1_22 : ir p1 6 6 := rf_eq c22 (ir_c (6) (by decide) : ir (6 : Int32) (6) (6))
          refine lv_iconst (v := 3) hx hb dX11_thickUp_25 (by decide) ?_
          refine lv_goto (tgt := 30) hx hb dX11_thickUp_26 (by decide) ?_
          exact W.iret (v := (3 : Int32)) hx hb hr (fun t ht _ => ⟨⟨(3 : Int32), (), rfl, (ir_w (lo' := 1) (hi' := 3) (ir_c (3) (by decide) : ir (3 : Int32) (3) (3)) (by decide) (by decide)), trivial⟩, hS.F ht⟩) hS.2.2 dX11_thickUp_30
    · have rp1_7 : ir p1 5 5 := rf_eq c7 (ir_c (5) (by decide) : ir (5 : Int32) (5) (5))
      refine lv_iconst (v := 2) hx hb dX11_thickUp_10 (by decide) ?_
      refine lv_goto (tgt := 30) hx hb dX11_thickUp_11 (by decide) ?_
      exact W.iret (v := (2 : Int32)) hx hb hr (fun t ht _ => ⟨⟨(2 : Int32), (), rfl, (ir_w (lo' := 1) (hi' := 3) (ir_c (2) (by decide) : ir (2 : Int32) (2) (2)) (by decide) (by decide)), trivial⟩, hS.F ht⟩) hS.2.2 dX11_thickUp_30
set_option maxHeartbeats 4000000 in
set_option maxRecDepth 100000 in
theorem m_X11_thickBy (l : Launch) (p1 : Int32) : pMi l yX11_thickBy cX11_thickBy 1 .int { frames := 0, cells := 0, slots := 0, locals := 0 } [.int p1] (fun r => ir r 1 3) := by
  refine Met.ofW (cc := cX11_thickBy) (maxL := 1) (ret := some .int) (by decide) rfl ?_
  intro p e s m args below meth c s₁ B hml hv
  obtain ⟨rfl, -⟩ := hv
  have hx := B.exec
  have hb := B.bytes
  have hr := B.returns
  have hts : ∀ w ∈ lw_g, w.before _ s = true := fun w h => atoms_spec (ws := wc_ws yX11_thickBy cX11_thickBy 1 (some .int)) B.pre w (List.mem_cons_of_mem _ h)
  have hown : s.vm.findClass RX11 = some m.cls := findClass_of_methodNamed B.named
  have hlocks := B.notSynchronized
  have hS : va_S (fun _ => False) s.heap s.heap [] := va_S.rf
  have hl := lv_entry ([.int p1]) (n := 1) (Nat.le_of_ble_eq_true rfl)
  rw [lg_entry_eq]
  generalize (lg_sl ([.int p1]) ++ List.replicate (1 - (lg_sl ([.int p1])).length) Slot.unset).toArray = ls at hl ⊢
  have hl : lv_has ls 1 [(0, .int p1)] := hl
  refine wq_all ?_
  intro WW w1 w2
  refine lv_iload_n hx hb dX11_thickBy_0 rfl (lv_at hl 0 rfl) ?_
  refine lv_iconst (v := 1) hx hb dX11_thickBy_1 (by decide) ?_
  refine lv_icmp_eq (tgt := 11) hx hb dX11_thickBy_2 (by decide) (fun c2 => ?_) (fun c2 => ?_)
  · have rp1_2 : ir p1 1 1 := rf_eq c2 (ir_c (1) (by decide) : ir (1 : Int32) (1) (1))
    refine lv_iconst (v := 2) hx hb dX11_thickBy_11 (by decide) ?_
    refine lv_goto (tgt := 30) hx hb dX11_thickBy_12 (by decide) ?_
    exact W.iret (v := (2 : Int32)) hx hb hr (fun t ht _ => ⟨⟨(2 : Int32), (), rfl, (ir_w (lo' := 1) (hi' := 3) (ir_c (2) (by decide) : ir (2 : Int32) (2) (2)) (by decide) (by decide)), trivial⟩, hS.F ht⟩) hS.2.2 dX11_thickBy_30
  · refine lv_iload_n hx hb dX11_thickBy_5 rfl (lv_at hl 0 rfl) ?_
    refine lv_bipush (v := 6) hx hb dX11_thickBy_6 (by decide) ?_
    refine lv_icmp_ne (tgt := 15) hx hb dX11_thickBy_8 (by decide) (fun c8 => ?_) (fun c8 => ?_)
    · refine lv_iload_n hx hb dX11_thickBy_15 rfl (lv_at hl 0 rfl) ?_
      refine lv_iconst (v := 3) hx hb dX11_thickBy_16 (by decide) ?_
      refine lv_icmp_eq (tgt := 25) hx hb dX11_thickBy_17 (by decide) (fun c17 => ?_) (fun c17 => ?_)
      · have rp1_17 : ir p1 3 3 := rf_eq c17 (ir_c (3) (by decide) : ir (3 : Int32) (3) (3))
        refine lv_iconst (v := 3) hx hb dX11_thickBy_25 (by decide) ?_
        refine lv_goto (tgt := 30) hx hb dX11_thickBy_26 (by decide) ?_
        exact W.iret (v := (3 : Int32)) hx hb hr (fun t ht _ => ⟨⟨(3 : Int32), (), rfl, (ir_w (lo' := 1) (hi' := 3) (ir_c (3) (by decide) : ir (3 : Int32) (3) (3)) (by decide) (by decide)), trivial⟩, hS.F ht⟩) hS.2.2 dX11_thickBy_30
      · refine lv_iload_n hx hb dX11_thickBy_20 rfl (lv_at hl 0 rfl) ?_
        refine lv_iconst (v := 5) hx hb dX11_thickBy_21 (by decide) ?_
        refine lv_icmp_ne (tgt := 29) hx hb dX11_thickBy_22 (by decide) (fun c22 => ?_) (fun c22 => ?_)
        · refine lv_iconst (v := 1) hx hb dX11_thickBy_29 (by decide) ?_
          exact W.iret (v := (1 : Int32)) hx hb hr (fun t ht _ => ⟨⟨(1 : Int32), (), rfl, (ir_w (lo' := 1) (hi' := 3) (ir_c (1) (by decide) : ir (1 : Int32) (1) (1)) (by decide) (by decide)), trivial⟩, hS.F ht⟩) hS.2.2 dX11_thickBy_30
        · have rp1_22 : ir p1 5 5 := rf_eq c22 (ir_c (5) (by decide) : ir (5 : Int32) (5) (5))
          refine lv_iconst (v := 3) hx hb dX11_thickBy_25 (by decide) ?_
          refine lv_goto (tgt := 30) hx hb dX11_thickBy_26 (by decide) ?_
          exact W.iret (v := (3 : Int32)) hx hb hr (fun t ht _ => ⟨⟨(3 : Int32), (), rfl, (ir_w (lo' := 1) (hi' := 3) (ir_c (3) (by decide) : ir (3 : Int32) (3) (3)) (by decide) (by decide)), trivial⟩, hS.F ht⟩) hS.2.2 dX11_thickBy_30
    · have rp1_8 : ir p1 6 6 := rf_eq c8 (ir_c (6) (by decide) : ir (6 : Int32) (6) (6))
      refine lv_iconst (v := 2) hx hb dX11_thickBy_11 (by decide) ?_
      refine lv_goto (tgt := 30) hx hb dX11_thickBy_12 (by decide) ?_
      exact W.iret (v := (2 : Int32)) hx hb hr (fun t ht _ => ⟨⟨(2 : Int32), (), rfl, (ir_w (lo' := 1) (hi' := 3) (ir_c (2) (by decide) : ir (2 : Int32) (2) (2)) (by decide) (by decide)), trivial⟩, hS.F ht⟩) hS.2.2 dX11_thickBy_30
set_option maxHeartbeats 4000000 in
set_option maxRecDepth 100000 in
theorem m_X11_areSets (l : Launch) (p1 : Int32) (p2 : Int32) (p3 : Int32) : pMi l yX11_areSets cX11_areSets 3 .boolean { frames := 1, cells := 0, slots := 0, locals := 25 } [.int p1, .int p2, .int p3] (fun r => ir r 0 1) := by
  refine Met.ofW (cc := cX11_areSets) (maxL := 3) (ret := some .boolean) (by decide) rfl ?_
  intro p e s m args below meth c s₁ B hml hv
  obtain ⟨rfl, -⟩ := hv
  have hx := B.exec
  have hb := B.bytes
  have hr := B.returns
  have hts : ∀ w ∈ lw_g, w.before _ s = true := fun w h => atoms_spec (ws := wc_ws yX11_areSets cX11_areSets 3 (some .boolean)) B.pre w (List.mem_cons_of_mem _ h)
  have hown : s.vm.findClass RX11 = some m.cls := findClass_of_methodNamed B.named
  have hlocks := B.notSynchronized
  have hS : va_S (fun _ => False) s.heap s.heap [] := va_S.rf
  have hl := lv_entry ([.int p1, .int p2, .int p3]) (n := 3) (Nat.le_of_ble_eq_true rfl)
  rw [lg_entry_eq]
  generalize (lg_sl ([.int p1, .int p2, .int p3]) ++ List.replicate (3 - (lg_sl ([.int p1, .int p2, .int p3])).length) Slot.unset).toArray = ls at hl ⊢
  have hl : lv_has ls 3 [(0, .int p1), (1, .int p2), (2, .int p3)] := hl
  refine wq_all ?_
  intro WW w1 w2
  refine lv_iload_n hx hb dX11_areSets_0 rfl (lv_at hl 0 rfl) ?_
  refine lv_i2l hx hb dX11_areSets_1 rfl ?_
  refine lv_topl (fun x1 e1 => ?_)
  have r1 : lr x1 (-2147483648) 2147483647 := by rw [e1]; exact i2l_r (ir_any p1)
  refine lv_lconst (v := 1) hx hb dX11_areSets_2 (by decide) ?_
  refine lv_ldc2 hx hb hown (hts _ q1333) dX11_areSets_3 ?_
  refine pp_i (wt_runS (As := [.long x1, .long (1 : Int64), .long (15 : Int64)]) (rest := []) ⟨hx, hb, hml, hown, hts⟩ (m_X11_isIn l x1 (1 : Int64) (15 : Int64)) wm_X11_isIn q1050 ⟨rfl, rfl⟩ ⟨Nat.le_of_ble_eq_true rfl, Nat.le_of_ble_eq_true rfl⟩ pS_pre rfl hl.1 rfl (Nat.le_of_ble_eq_true rfl) dX11_areSets_6 ⟨Nat.zero_le _, Nat.zero_le _⟩) hS (fun x6 H locs hp hS => ?_)
  obtain ⟨r6, b6⟩ := hp
  refine lv_if_eq (tgt := 40) hx hb dX11_areSets_9 (by decide) (fun c9 => ?_) (fun c9 => ?_)
  · have rx6_9 : ir x6 0 0 := rf_eq c9 (ir_c (0) (by decide) : ir (0 : Int32) (0) (0))
    refine lv_iconst (v := 0) hx hb dX11_areSets_40 (by decide) ?_
    exact W.zret (v := (0 : Int32)) hx hb hr rfl (fun t ht _ => ⟨⟨(0 : Int32), (), rfl, (⟨by decide, by decide⟩), trivial⟩, hS.F ht⟩) hS.2.2 dX11_areSets_41
  · have rx6_9 : ir x6 1 1 := rf_ne0 c9 r6
    have bx6_9 := b6 c9
    have rbx1_9 : lr x1 1 15 := by have h5 := bx6_9; have h6 := r1; have h7 := (lr_c (1) (by decide) : lr (1 : Int64) (1) (1)); have h8 := (lr_c (15) (by decide) : lr (15 : Int64) (15) (15)); constructor <;> omega
    have rp1_9 : ir p1 1 15 := i2l_b e1 rbx1_9
    refine lv_iload_n hx hb dX11_areSets_12 rfl (lv_at hl 1 rfl) ?_
    refine lv_i2l hx hb dX11_areSets_13 rfl ?_
    refine lv_topl (fun x13 e13 => ?_)
    have r13 : lr x13 (-2147483648) 2147483647 := by rw [e13]; exact i2l_r (ir_any p2)
    refine lv_lconst (v := 1) hx hb dX11_areSets_14 (by decide) ?_
    refine lv_ldc2 hx hb hown (hts _ q1334) dX11_areSets_15 ?_
    refine pp_i (wt_runS (As := [.long x13, .long (1 : Int64), .long (63 : Int64)]) (rest := []) ⟨hx, hb, hml, hown, hts⟩ (m_X11_isIn l x13 (1 : Int64) (63 : Int64)) wm_X11_isIn q1050 ⟨rfl, rfl⟩ ⟨Nat.le_of_ble_eq_true rfl, Nat.le_of_ble_eq_true rfl⟩ pS_pre rfl hl.1 rfl (Nat.le_of_ble_eq_true rfl) dX11_areSets_18 ⟨Nat.zero_le _, Nat.zero_le _⟩) hS (fun x18 H locs hp hS => ?_)
    obtain ⟨r18, b18⟩ := hp
    refine lv_if_eq (tgt := 40) hx hb dX11_areSets_21 (by decide) (fun c21 => ?_) (fun c21 => ?_)
    · have rx18_21 : ir x18 0 0 := rf_eq c21 (ir_c (0) (by decide) : ir (0 : Int32) (0) (0))
      refine lv_iconst (v := 0) hx hb dX11_areSets_40 (by decide) ?_
      exact W.zret (v := (0 : Int32)) hx hb hr rfl (fun t ht _ => ⟨⟨(0 : Int32), (), rfl, (⟨by decide, by decide⟩), trivial⟩, hS.F ht⟩) hS.2.2 dX11_areSets_41
    · have rx18_21 : ir x18 1 1 := rf_ne0 c21 r18
      have bx18_21 := b18 c21
      have rbx13_21 : lr x13 1 63 := by have h5 := bx18_21; have h6 := r13; have h7 := (lr_c (1) (by decide) : lr (1 : Int64) (1) (1)); have h8 := (lr_c (63) (by decide) : lr (63 : Int64) (63) (63)); constructor <;> omega
      have rp2_21 : ir p2 1 63 := i2l_b e13 rbx13_21
      refine lv_iload_n hx hb dX11_areSets_24 rfl (lv_at hl 2 rfl) ?_
      refine lv_i2l hx hb dX11_areSets_25 rfl ?_
      refine lv_topl (fun x25 e25 => ?_)
      have r25 : lr x25 (-2147483648) 2147483647 := by rw [e25]; exact i2l_r (ir_any p3)
      refine lv_lconst (v := 1) hx hb dX11_areSets_26 (by decide) ?_
      refine lv_ldc2 hx hb hown (hts _ q1335) dX11_areSets_27 ?_
      refine pp_i (wt_runS (As := [.long x25, .long (1 : Int64), .long (127 : Int64)]) (rest := []) ⟨hx, hb, hml, hown, hts⟩ (m_X11_isIn l x25 (1 : Int64) (127 : Int64)) wm_X11_isIn q1050 ⟨rfl, rfl⟩ ⟨Nat.le_of_ble_eq_true rfl, Nat.le_of_ble_eq_true rfl⟩ pS_pre rfl hl.1 rfl (Nat.le_of_ble_eq_true rfl) dX11_areSets_30 ⟨Nat.zero_le _, Nat.zero_le _⟩) hS (fun x30 H locs hp hS => ?_)
      obtain ⟨r30, b30⟩ := hp
      refine lv_if_eq (tgt := 40) hx hb dX11_areSets_33 (by decide) (fun c33 => ?_) (fun c33 => ?_)
      · have rx30_33 : ir x30 0 0 := rf_eq c33 (ir_c (0) (by decide) : ir (0 : Int32) (0) (0))
        refine lv_iconst (v := 0) hx hb dX11_areSets_40 (by decide) ?_
        exact W.zret (v := (0 : Int32)) hx hb hr rfl (fun t ht _ => ⟨⟨(0 : Int32), (), rfl, (⟨by decide, by decide⟩), trivial⟩, hS.F ht⟩) hS.2.2 dX11_areSets_41
      · have rx30_33 : ir x30 1 1 := rf_ne0 c33 r30
        have bx30_33 := b30 c33
        have rbx25_33 : lr x25 1 127 := by have h5 := bx30_33; have h6 := r25; have h7 := (lr_c (1) (by decide) : lr (1 : Int64) (1) (1)); have h8 := (lr_c (127) (by decide) : lr (127 : Int64) (127) (127)); constructor <;> omega
        have rp3_33 : ir p3 1 127 := i2l_b e25 rbx25_33
        refine lv_iconst (v := 1) hx hb dX11_areSets_36 (by decide) ?_
        refine lv_goto (tgt := 41) hx hb dX11_areSets_37 (by decide) ?_
        exact W.zret (v := (1 : Int32)) hx hb hr rfl (fun t ht _ => ⟨⟨(1 : Int32), (), rfl, (⟨by decide, by decide⟩), trivial⟩, hS.F ht⟩) hS.2.2 dX11_areSets_41
set_option maxHeartbeats 4000000 in
set_option maxRecDepth 100000 in
theorem m_X11_isTooFine (l : Launch) (p1 : Int64) (p2 : Int64) (p3 : Int64) (p4 : Int64) : pMi l yX11_isTooFine cX11_isTooFine 8 .boolean { frames := 1, cells := 0, slots := 0, locals := 25 } [.long p1, .long p2, .long p3, .long p4] (fun r => ir r 0 1 ∧ (r = 0 → lr p1 (-10000000) 10000000 ∧ lr p2 (-10000000) 10000000 ∧ lr p3 (-10000000) 10000000 ∧ lr p4 (-10000000) 10000000)) := by
  refine Met.ofW (cc := cX11_isTooFine) (maxL := 8) (ret := some .boolean) (by decide) rfl ?_
  intro p e s m args below meth c s₁ B hml hv
  obtain ⟨rfl, -⟩ := hv
  have hx := B.exec
  have hb := B.bytes
  have hr := B.returns
  have hts : ∀ w ∈ lw_g, w.before _ s = true := fun w h => atoms_spec (ws := wc_ws yX11_isTooFine cX11_isTooFine 8 (some .boolean)) B.pre w (List.mem_cons_of_mem _ h)
  have hown : s.vm.findClass RX11 = some m.cls := findClass_of_methodNamed B.named
  have hlocks := B.notSynchronized
  have hS : va_S (fun _ => False) s.heap s.heap [] := va_S.rf
  have hl := lv_entry ([.long p1, .long p2, .long p3, .long p4]) (n := 8) (Nat.le_of_ble_eq_true rfl)
  rw [lg_entry_eq]
  generalize (lg_sl ([.long p1, .long p2, .long p3, .long p4]) ++ List.replicate (8 - (lg_sl ([.long p1, .long p2, .long p3, .long p4])).length) Slot.unset).toArray = ls at hl ⊢
  have hl : lv_has ls 8 [(0, .long p1), (2, .long p2), (4, .long p3), (6, .long p4)] := hl
  refine wq_all ?_
  intro WW w1 w2
  refine lv_lload_n hx hb dX11_isTooFine_0 rfl (lv_at hl 0 rfl) ?_
  refine lv_ldc2 hx hb hown (hts _ q1231) dX11_isTooFine_1 ?_
  refine lv_ldc2 hx hb hown (hts _ q1232) dX11_isTooFine_4 ?_
  refine pp_i (wt_runS (As := [.long p1, .long (-10000000 : Int64), .long (10000000 : Int64)]) (rest := []) ⟨hx, hb, hml, hown, hts⟩ (m_X11_isIn l p1 (-10000000 : Int64) (10000000 : Int64)) wm_X11_isIn q1050 ⟨rfl, rfl⟩ ⟨Nat.le_of_ble_eq_true rfl, Nat.le_of_ble_eq_true rfl⟩ pS_pre rfl hl.1 rfl (Nat.le_of_ble_eq_true rfl) dX11_isTooFine_7 ⟨Nat.zero_le _, Nat.zero_le _⟩) hS (fun x7 H locs hp hS => ?_)
  obtain ⟨r7, b7⟩ := hp
  refine lv_if_eq (tgt := 54) hx hb dX11_isTooFine_10 (by decide) (fun c10 => ?_) (fun c10 => ?_)
  · have rx7_10 : ir x7 0 0 := rf_eq c10 (ir_c (0) (by decide) : ir (0 : Int32) (0) (0))
    refine lv_iconst (v := 1) hx hb dX11_isTooFine_54 (by decide) ?_
    refine lv_goto (tgt := 59) hx hb dX11_isTooFine_55 (by decide) ?_
    exact W.zret (v := (1 : Int32)) hx hb hr rfl (fun t ht _ => ⟨⟨(1 : Int32), (), rfl, (⟨⟨by decide, by decide⟩, fun h => absurd h (by decide)⟩), trivial⟩, hS.F ht⟩) hS.2.2 dX11_isTooFine_59
  · have rx7_10 : ir x7 1 1 := rf_ne0 c10 r7
    have bx7_10 := b7 c10
    have rbp1_10 : lr p1 (-10000000) 10000000 := by have h5 := bx7_10; have h6 := (lr_any p1); have h7 := (lr_c (-10000000) (by decide) : lr (-10000000 : Int64) (-10000000) (-10000000)); have h8 := (lr_c (10000000) (by decide) : lr (10000000 : Int64) (10000000) (10000000)); constructor <;> omega
    refine lv_lload_n hx hb dX11_isTooFine_13 rfl (lv_at hl 1 rfl) ?_
    refine lv_ldc2 hx hb hown (hts _ q1231) dX11_isTooFine_14 ?_
    refine lv_ldc2 hx hb hown (hts _ q1232) dX11_isTooFine_17 ?_
    refine pp_i (wt_runS (As := [.long p2, .long (-10000000 : Int64), .long (10000000 : Int64)]) (rest := []) ⟨hx, hb, hml, hown, hts⟩ (m_X11_isIn l p2 (-10000000 : Int64) (10000000 : Int64)) wm_X11_isIn q1050 ⟨rfl, rfl⟩ ⟨Nat.le_of_ble_eq_true rfl, Nat.le_of_ble_eq_true rfl⟩ pS_pre rfl hl.1 rfl (Nat.le_of_ble_eq_true rfl) dX11_isTooFine_20 ⟨Nat.zero_le _, Nat.zero_le _⟩) hS (fun x20 H locs hp hS => ?_)
    obtain ⟨r20, b20⟩ := hp
    refine lv_if_eq (tgt := 54) hx hb dX11_isTooFine_23 (by decide) (fun c23 => ?_) (fun c23 => ?_)
    · have rx20_23 : ir x20 0 0 := rf_eq c23 (ir_c (0) (by decide) : ir (0 : Int32) (0) (0))
      refine lv_iconst (v := 1) hx hb dX11_isTooFine_54 (by decide) ?_
      refine lv_goto (tgt := 59) hx hb dX11_isTooFine_55 (by decide) ?_
      exact W.zret (v := (1 : Int32)) hx hb hr rfl (fun t ht _ => ⟨⟨(1 : Int32), (), rfl, (⟨⟨by decide, by decide⟩, fun h => absurd h (by decide)⟩), trivial⟩, hS.F ht⟩) hS.2.2 dX11_isTooFine_59
    · have rx20_23 : ir x20 1 1 := rf_ne0 c23 r20
      have bx20_23 := b20 c23
      have rbp2_23 : lr p2 (-10000000) 10000000 := by have h5 := bx20_23; have h6 := (lr_any p2); have h7 := (lr_c (-10000000) (by decide) : lr (-10000000 : Int64) (-10000000) (-10000000)); have h8 := (lr_c (10000000) (by decide) : lr (10000000 : Int64) (10000000) (10000000)); constructor <;> omega
      refine lv_lload hx hb dX11_isTooFine_26 (lv_at hl 2 rfl) ?_
      refine lv_ldc2 hx hb hown (hts _ q1231) dX11_isTooFine_28 ?_
      refine lv_ldc2 hx hb hown (hts _ q1232) dX11_isTooFine_31 ?_
      refine pp_i (wt_runS (As := [.long p3, .long (-10000000 : Int64), .long (10000000 : Int64)]) (rest := []) ⟨hx, hb, hml, hown, hts⟩ (m_X11_isIn l p3 (-10000000 : Int64) (10000000 : Int64)) wm_X11_isIn q1050 ⟨rfl, rfl⟩ ⟨Nat.le_of_ble_eq_true rfl, Nat.le_of_ble_eq_true rfl⟩ pS_pre rfl hl.1 rfl (Nat.le_of_ble_eq_true rfl) dX11_isTooFine_34 ⟨Nat.zero_le _, Nat.zero_le _⟩) hS (fun x34 H locs hp hS => ?_)
      obtain ⟨r34, b34⟩ := hp
      refine lv_if_eq (tgt := 54) hx hb dX11_isTooFine_37 (by decide) (fun c37 => ?_) (fun c37 => ?_)
      · have rx34_37 : ir x34 0 0 := rf_eq c37 (ir_c (0) (by decide) : ir (0 : Int32) (0) (0))
        refine lv_iconst (v := 1) hx hb dX11_isTooFine_54 (by decide) ?_
        refine lv_goto (tgt := 59) hx hb dX11_isTooFine_55 (by decide) ?_
        exact W.zret (v := (1 : Int32)) hx hb hr rfl (fun t ht _ => ⟨⟨(1 : Int32), (), rfl, (⟨⟨by decide, by decide⟩, fun h => absurd h (by decide)⟩), trivial⟩, hS.F ht⟩) hS.2.2 dX11_isTooFine_59
      · have rx34_37 : ir x34 1 1 := rf_ne0 c37 r34
        have bx34_37 := b34 c37
        have rbp3_37 : lr p3 (-10000000) 10000000 := by have h5 := bx34_37; have h6 := (lr_any p3); have h7 := (lr_c (-10000000) (by decide) : lr (-10000000 : Int64) (-10000000) (-10000000)); have h8 := (lr_c (10000000) (by decide) : lr (10000000 : Int64) (10000000) (10000000)); constructor <;> omega
        refine lv_lload hx hb dX11_isTooFine_40 (lv_at hl 3 rfl) ?_
        refine lv_ldc2 hx hb hown (hts _ q1231) dX11_isTooFine_42 ?_
        refine lv_ldc2 hx hb hown (hts _ q1232) dX11_isTooFine_45 ?_
        refine pp_i (wt_runS (As := [.long p4, .long (-10000000 : Int64), .long (10000000 : Int64)]) (rest := []) ⟨hx, hb, hml, hown, hts⟩ (m_X11_isIn l p4 (-10000000 : Int64) (10000000 : Int64)) wm_X11_isIn q1050 ⟨rfl, rfl⟩ ⟨Nat.le_of_ble_eq_true rfl, Nat.le_of_ble_eq_true rfl⟩ pS_pre rfl hl.1 rfl (Nat.le_of_ble_eq_true rfl) dX11_isTooFine_48 ⟨Nat.zero_le _, Nat.zero_le _⟩) hS (fun x48 H locs hp hS => ?_)
        obtain ⟨r48, b48⟩ := hp
        refine lv_if_ne (tgt := 58) hx hb dX11_isTooFine_51 (by decide) (fun c51 => ?_) (fun c51 => ?_)
        · have rx48_51 : ir x48 1 1 := rf_ne0 c51 r48
          have bx48_51 := b48 c51
          have rbp4_51 : lr p4 (-10000000) 10000000 := by have h5 := bx48_51; have h6 := (lr_any p4); have h7 := (lr_c (-10000000) (by decide) : lr (-10000000 : Int64) (-10000000) (-10000000)); have h8 := (lr_c (10000000) (by decide) : lr (10000000 : Int64) (10000000) (10000000)); constructor <;> omega
          refine lv_iconst (v := 0) hx hb dX11_isTooFine_58 (by decide) ?_
          exact W.zret (v := (0 : Int32)) hx hb hr rfl (fun t ht _ => ⟨⟨(0 : Int32), (), rfl, (⟨⟨by decide, by decide⟩, fun _ => ⟨rbp1_10, rbp2_23, rbp3_37, rbp4_51⟩⟩), trivial⟩, hS.F ht⟩) hS.2.2 dX11_isTooFine_59
        · have rx48_51 : ir x48 0 0 := rf_eq c51 (ir_c (0) (by decide) : ir (0 : Int32) (0) (0))
          refine lv_iconst (v := 1) hx hb dX11_isTooFine_54 (by decide) ?_
          refine lv_goto (tgt := 59) hx hb dX11_isTooFine_55 (by decide) ?_
          exact W.zret (v := (1 : Int32)) hx hb hr rfl (fun t ht _ => ⟨⟨(1 : Int32), (), rfl, (⟨⟨by decide, by decide⟩, fun h => absurd h (by decide)⟩), trivial⟩, hS.F ht⟩) hS.2.2 dX11_isTooFine_59
set_option maxHeartbeats 4000000 in
set_option maxRecDepth 100000 in
theorem m_X11_gcd (l : Launch) (p1 : Int64) (rp1 : lr p1 (-9223372036854775807) 9223372036854775807) (p2 : Int64) (rp2 : lr p2 (-9223372036854775807) 9223372036854775807) : pMl l yX11_gcd cX11_gcd 10 .long { frames := 0, cells := 0, slots := 0, locals := 0 } [.long p1, .long p2] (fun r => r.toInt = ((Int.gcd p1.toInt p2.toInt : Nat) : Int)) := by
  refine Met.ofW (cc := cX11_gcd) (maxL := 10) (ret := some .long) (by decide) rfl ?_
  intro p e s m args below meth c s₁ B hml hv
  obtain ⟨rfl, -⟩ := hv
  have hx := B.exec
  have hb := B.bytes
  have hr := B.returns
  have hts : ∀ w ∈ lw_g, w.before _ s = true := fun w h => atoms_spec (ws := wc_ws yX11_gcd cX11_gcd 10 (some .long)) B.pre w (List.mem_cons_of_mem _ h)
  have hown : s.vm.findClass RX11 = some m.cls := findClass_of_methodNamed B.named
  have hlocks := B.notSynchronized
  have hS : va_S (fun _ => False) s.heap s.heap [] := va_S.rf
  have hl := lv_entry ([.long p1, .long p2]) (n := 10) (Nat.le_of_ble_eq_true rfl)
  rw [lg_entry_eq]
  generalize (lg_sl ([.long p1, .long p2]) ++ List.replicate (10 - (lg_sl ([.long p1, .long p2])).length) Slot.unset).toArray = ls at hl ⊢
  have hl : lv_has ls 10 [(0, .long p1), (2, .long p2)] := hl
  refine wq_all ?_
  intro WW w1 w2
  have L28 : ∀ (n : Nat) (H : Heap) (locs : List Loc) (ls : Array Slot) (v28_4 : Int64) (v28_6 : Int64), va_S (fun _ => False) s.heap H locs → lv_has ls 10 [(4, .long v28_4), (6, .long v28_6)] → lr v28_4 0 9223372036854775807 → lr v28_6 0 9223372036854775807 → Int.gcd v28_4.toInt v28_6.toInt = Int.gcd p1.toInt p2.toInt → v28_6.toInt < (n : Int) → WW H locs (F0 m 28 ls []) := by
    intro n
    induction n with
    | zero =>
      intro H locs ls v28_4 v28_6 hS hl rv28_4 rv28_6 rw28_0 mu28
      exfalso
      omega
    | succ n ih28 =>
      intro H locs ls v28_4 v28_6 hS hl rv28_4 rv28_6 rw28_0 mu28
      refine w1 _ _ _ ?_
      refine lv_lload hx hb dX11_gcd_28 (lv_at hl 1 rfl) ?_
      refine lv_lconst (v := 0) hx hb dX11_gcd_30 (by decide) ?_
      refine wl_eq (tgt := 53) hx hb dX11_gcd_31 dX11_gcd_32 (by decide) (fun c31 => ?_) (fun c31 => ?_)
      · have c31 : v28_6.toInt = (0 : Int) := c31
        have rv28_6_31 : lr v28_6 0 0 := by have h8 := rv28_6; have h9 := (lr_c (0) (by decide) : lr (0 : Int64) (0) (0)); constructor <;> omega
        refine lv_lload hx hb dX11_gcd_53 (lv_at hl 0 rfl) ?_
        exact W.lret (v := v28_4) hx hb hr (fun t ht _ => ⟨⟨v28_4, (), rfl, (gcd_end rw28_0 c31 (rv28_4).1), trivial⟩, hS.F ht⟩) hS.2.2 dX11_gcd_55
      · have c31 : v28_6.toInt ≠ (0 : Int) := c31
        have rv28_6_31 : lr v28_6 1 9223372036854775807 := by have h8 := rv28_6; have h9 := (lr_c (0) (by decide) : lr (0 : Int64) (0) (0)); constructor <;> omega
        refine lv_lload hx hb dX11_gcd_35 (lv_at hl 0 rfl) ?_
        refine lv_lload hx hb dX11_gcd_37 (lv_at hl 1 rfl) ?_
        refine lv_lrem hx hb dX11_gcd_39 (l_ne0 c31) ?_
        refine lv_topl (fun x39 e39 => ?_)
        have r39 : lr x39 0 9223372036854775806 := lr_rem e39 (l_ne0 c31) rv28_4 rv28_6_31 (by decide) (by decide) (by decide)
        refine lv_lstore (lv' := [(8, .long x39), (4, .long v28_4), (6, .long v28_6)]) hx hb dX11_gcd_40 hl (by decide) rfl (fun ls hl => ?_)
        refine lv_lload hx hb dX11_gcd_42 (lv_at hl 2 rfl) ?_
        refine lv_lstore (lv' := [(4, .long v28_6), (8, .long x39), (6, .long v28_6)]) hx hb dX11_gcd_44 hl (by decide) rfl (fun ls hl => ?_)
        refine lv_lload hx hb dX11_gcd_46 (lv_at hl 1 rfl) ?_
        refine lv_lstore (lv' := [(6, .long x39), (4, .long v28_6), (8, .long x39)]) hx hb dX11_gcd_48 hl (by decide) rfl (fun ls hl => ?_)
        refine lv_goto (tgt := 28) hx hb dX11_gcd_50 (by decide) ?_
        exact w2 _ _ _ (ih28 _ _ _ v28_6 x39 hS (lv_sub hl [1, 0] rfl) (lr_w (lo' := 0) (hi' := 9223372036854775807) rv28_6_31 (by decide) (by decide)) (lr_w (lo' := 0) (hi' := 9223372036854775807) r39 (by decide) (by decide)) ((gcd_step rv28_4 rv28_6_31 (l_rem e39 (l_ne0 c31))).trans rw28_0) (by have h8 := l_rem_lt e39 (l_ne0 c31) rv28_4 rv28_6_31 (by decide) (by decide); have h9 := r39; omega))
  refine lv_lload_n hx hb dX11_gcd_0 rfl (lv_at hl 0 rfl) ?_
  refine lv_lconst (v := 0) hx hb dX11_gcd_1 (by decide) ?_
  refine wl_ge (tgt := 11) hx hb dX11_gcd_2 dX11_gcd_3 (by decide) (fun c2 => ?_) (fun c2 => ?_)
  · have c2 : (0 : Int) ≤ p1.toInt := c2
    have rp1_2 : lr p1 0 9223372036854775807 := by have h8 := rp1; have h9 := (lr_c (0) (by decide) : lr (0 : Int64) (0) (0)); constructor <;> omega
    refine lv_lload_n hx hb dX11_gcd_11 rfl (lv_at hl 0 rfl) ?_
    refine lv_lstore (lv' := [(4, .long p1), (0, .long p1), (2, .long p2)]) hx hb dX11_gcd_12 hl (by decide) rfl (fun ls hl => ?_)
    refine lv_lload_n hx hb dX11_gcd_14 rfl (lv_at hl 2 rfl) ?_
    refine lv_lconst (v := 0) hx hb dX11_gcd_15 (by decide) ?_
    refine wl_ge (tgt := 25) hx hb dX11_gcd_16 dX11_gcd_17 (by decide) (fun c16 => ?_) (fun c16 => ?_)
    · have c16 : (0 : Int) ≤ p2.toInt := c16
      have rp2_16 : lr p2 0 9223372036854775807 := by have h8 := rp2; have h9 := (lr_c (0) (by decide) : lr (0 : Int64) (0) (0)); constructor <;> omega
      refine lv_lload_n hx hb dX11_gcd_25 rfl (lv_at hl 2 rfl) ?_
      refine lv_lstore (lv' := [(6, .long p2), (4, .long p1), (0, .long p1), (2, .long p2)]) hx hb dX11_gcd_26 hl (by decide) rfl (fun ls hl => ?_)
      exact w2 _ _ _ (L28 9223372036854775808 _ _ _ p1 p2 hS (lv_sub hl [1, 0] rfl) rp1_2 rp2_16 rfl (by have h9 := rp2_16; omega))
    · have c16 : p2.toInt < (0 : Int) := c16
      have rp2_16 : lr p2 (-9223372036854775807) (-1) := by have h8 := rp2; have h9 := (lr_c (0) (by decide) : lr (0 : Int64) (0) (0)); constructor <;> omega
      refine lv_lload_n hx hb dX11_gcd_20 rfl (lv_at hl 2 rfl) ?_
      refine lv_lneg hx hb dX11_gcd_21 ?_
      refine lv_topl (fun x21 e21 => ?_)
      have r21 : lr x21 1 9223372036854775807 := lr_neg e21 rp2_16 (by decide) (by decide) (by decide)
      have t21 := lt_neg e21 rp2_16 (by decide)
      refine lv_goto (tgt := 26) hx hb dX11_gcd_22 (by decide) ?_
      refine lv_lstore (lv' := [(6, .long x21), (4, .long p1), (0, .long p1), (2, .long p2)]) hx hb dX11_gcd_26 hl (by decide) rfl (fun ls hl => ?_)
      exact w2 _ _ _ (L28 9223372036854775808 _ _ _ p1 x21 hS (lv_sub hl [1, 0] rfl) rp1_2 (lr_w (lo' := 0) (hi' := 9223372036854775807) r21 (by decide) (by decide)) (by rw [t21, Int.gcd_neg]) (by have h9 := r21; omega))
  · have c2 : p1.toInt < (0 : Int) := c2
    have rp1_2 : lr p1 (-9223372036854775807) (-1) := by have h8 := rp1; have h9 := (lr_c (0) (by decide) : lr (0 : Int64) (0) (0)); constructor <;> omega
    refine lv_lload_n hx hb dX11_gcd_6 rfl (lv_at hl 0 rfl) ?_
    refine lv_lneg hx hb dX11_gcd_7 ?_
    refine lv_topl (fun x7 e7 => ?_)
    have r7 : lr x7 1 9223372036854775807 := lr_neg e7 rp1_2 (by decide) (by decide) (by decide)
    have t7 := lt_neg e7 rp1_2 (by decide)
    refine lv_goto (tgt := 12) hx hb dX11_gcd_8 (by decide) ?_
    refine lv_lstore (lv' := [(4, .long x7), (0, .long p1), (2, .long p2)]) hx hb dX11_gcd_12 hl (by decide) rfl (fun ls hl => ?_)
    refine lv_lload_n hx hb dX11_gcd_14 rfl (lv_at hl 2 rfl) ?_
    refine lv_lconst (v := 0) hx hb dX11_gcd_15 (by decide) ?_
    refine wl_ge (tgt := 25) hx hb dX11_gcd_16 dX11_gcd_17 (by decide) (fun c16 => ?_) (fun c16 => ?_)
    · have c16 : (0 : Int) ≤ p2.toInt := c16
      have rp2_16 : lr p2 0 9223372036854775807 := by have h8 := rp2; have h9 := (lr_c (0) (by decide) : lr (0 : Int64) (0) (0)); constructor <;> omega
      refine lv_lload_n hx hb dX11_gcd_25 rfl (lv_at hl 2 rfl) ?_
      refine lv_lstore (lv' := [(6, .long p2), (4, .long x7), (0, .long p1), (2, .long p2)]) hx hb dX11_gcd_26 hl (by decide) rfl (fun ls hl => ?_)
      exact w2 _ _ _ (L28 9223372036854775808 _ _ _ x7 p2 hS (lv_sub hl [1, 0] rfl) (lr_w (lo' := 0) (hi' := 9223372036854775807) r7 (by decide) (by decide)) rp2_16 (by rw [t7, Int.neg_gcd]) (by have h9 := rp2_16; omega))
    · have c16 : p2.toInt < (0 : Int) := c16
      have rp2_16 : lr p2 (-9223372036854775807) (-1) := by have h8 := rp2; have h9 := (lr_c (0) (by decide) : lr (0 : Int64) (0) (0)); constructor <;> omega
      refine lv_lload_n hx hb dX11_gcd_20 rfl (lv_at hl 2 rfl) ?_
      refine lv_lneg hx hb dX11_gcd_21 ?_
      refine lv_topl (fun x21 e21 => ?_)
      have r21 : lr x21 1 9223372036854775807 := lr_neg e21 rp2_16 (by decide) (by decide) (by decide)
      have t21 := lt_neg e21 rp2_16 (by decide)
      refine lv_goto (tgt := 26) hx hb dX11_gcd_22 (by decide) ?_
      refine lv_lstore (lv' := [(6, .long x21), (4, .long x7), (0, .long p1), (2, .long p2)]) hx hb dX11_gcd_26 hl (by decide) rfl (fun ls hl => ?_)
      exact w2 _ _ _ (L28 9223372036854775808 _ _ _ x7 x21 hS (lv_sub hl [1, 0] rfl) (lr_w (lo' := 0) (hi' := 9223372036854775807) r7 (by decide) (by decide)) (lr_w (lo' := 0) (hi' := 9223372036854775807) r21 (by decide) (by decide)) (by rw [t7, t21, Int.neg_gcd, Int.gcd_neg]) (by have h9 := r21; omega))
set_option maxHeartbeats 4000000 in
set_option maxRecDepth 100000 in
theorem m_X11_isLess (l : Launch) (p1 : Int64) (rp1 : lr p1 0 9223372036854775807) (p2 : Int64) (rp2 : lr p2 1 9223372036854775807) (p3 : Int64) (rp3 : lr p3 0 9223372036854775807) (p4 : Int64) (rp4 : lr p4 1 9223372036854775807) : pMi l yX11_isLess cX11_isLess 23 .boolean { frames := 0, cells := 0, slots := 0, locals := 0 } [.long p1, .long p2, .long p3, .long p4] (fun r => ir r 0 1) := by
  refine Met.ofW (cc := cX11_isLess) (maxL := 23) (ret := some .boolean) (by decide) rfl ?_
  intro p e s m args below meth c s₁ B hml hv
  obtain ⟨rfl, -⟩ := hv
  have hx := B.exec
  have hb := B.bytes
  have hr := B.returns
  have hts : ∀ w ∈ lw_g, w.before _ s = true := fun w h => atoms_spec (ws := wc_ws yX11_isLess cX11_isLess 23 (some .boolean)) B.pre w (List.mem_cons_of_mem _ h)
  have hown : s.vm.findClass RX11 = some m.cls := findClass_of_methodNamed B.named
  have hlocks := B.notSynchronized
  have hS : va_S (fun _ => False) s.heap s.heap [] := va_S.rf
  have hl := lv_entry ([.long p1, .long p2, .long p3, .long p4]) (n := 23) (Nat.le_of_ble_eq_true rfl)
  rw [lg_entry_eq]
  generalize (lg_sl ([.long p1, .long p2, .long p3, .long p4]) ++ List.replicate (23 - (lg_sl ([.long p1, .long p2, .long p3, .long p4])).length) Slot.unset).toArray = ls at hl ⊢
  have hl : lv_has ls 23 [(0, .long p1), (2, .long p2), (4, .long p3), (6, .long p4)] := hl
  refine wq_all ?_
  intro WW w1 w2
  have J108 : ∀ (H : Heap) (locs : List Loc) (ls : Array Slot) (v108_8 : Int64) (v108_12 : Int64) (v108_16 : Int32), va_S (fun _ => False) s.heap H locs → lv_has ls 23 [(8, .long v108_8), (12, .long v108_12), (16, .int v108_16)] → lr v108_8 0 9223372036854775806 → lr v108_12 0 9223372036854775806 → ir v108_16 0 1 → WW H locs (F0 m 108 ls []) := by
    intro H locs ls v108_8 v108_12 v108_16 hS hl rv108_8 rv108_12 rv108_16
    refine w1 _ _ _ ?_
    refine lv_iload hx hb dX11_isLess_108 (lv_at hl 2 rfl) ?_
    refine lv_if_eq (tgt := 135) hx hb dX11_isLess_110 (by decide) (fun c110 => ?_) (fun c110 => ?_)
    · have rv108_16_110 : ir v108_16 0 0 := rf_eq c110 (ir_c (0) (by decide) : ir (0 : Int32) (0) (0))
      refine lv_lload hx hb dX11_isLess_135 (lv_at hl 0 rfl) ?_
      refine lv_lconst (v := 0) hx hb dX11_isLess_137 (by decide) ?_
      refine wl_ne (tgt := 153) hx hb dX11_isLess_138 dX11_isLess_139 (by decide) (fun c138 => ?_) (fun c138 => ?_)
      · have c138 : v108_8.toInt ≠ (0 : Int) := c138
        have rv108_8_138 : lr v108_8 1 9223372036854775806 := by have h8 := rv108_8; have h9 := (lr_c (0) (by decide) : lr (0 : Int64) (0) (0)); constructor <;> omega
        refine lv_iconst (v := 0) hx hb dX11_isLess_153 (by decide) ?_
        exact W.zret (v := (0 : Int32)) hx hb hr rfl (fun t ht _ => ⟨⟨(0 : Int32), (), rfl, (⟨by decide, by decide⟩), trivial⟩, hS.F ht⟩) hS.2.2 dX11_isLess_154
      · have c138 : v108_8.toInt = (0 : Int) := c138
        have rv108_8_138 : lr v108_8 0 0 := by have h8 := rv108_8; have h9 := (lr_c (0) (by decide) : lr (0 : Int64) (0) (0)); constructor <;> omega
        refine lv_lload hx hb dX11_isLess_142 (lv_at hl 1 rfl) ?_
        refine lv_lconst (v := 0) hx hb dX11_isLess_144 (by decide) ?_
        refine wl_eq (tgt := 153) hx hb dX11_isLess_145 dX11_isLess_146 (by decide) (fun c145 => ?_) (fun c145 => ?_)
        · have c145 : v108_12.toInt = (0 : Int) := c145
          have rv108_12_145 : lr v108_12 0 0 := by have h8 := rv108_12; have h9 := (lr_c (0) (by decide) : lr (0 : Int64) (0) (0)); constructor <;> omega
          refine lv_iconst (v := 0) hx hb dX11_isLess_153 (by decide) ?_
          exact W.zret (v := (0 : Int32)) hx hb hr rfl (fun t ht _ => ⟨⟨(0 : Int32), (), rfl, (⟨by decide, by decide⟩), trivial⟩, hS.F ht⟩) hS.2.2 dX11_isLess_154
        · have c145 : v108_12.toInt ≠ (0 : Int) := c145
          have rv108_12_145 : lr v108_12 1 9223372036854775806 := by have h8 := rv108_12; have h9 := (lr_c (0) (by decide) : lr (0 : Int64) (0) (0)); constructor <;> omega
          refine lv_iconst (v := 1) hx hb dX11_isLess_149 (by decide) ?_
          refine lv_goto (tgt := 154) hx hb dX11_isLess_150 (by decide) ?_
          exact W.zret (v := (1 : Int32)) hx hb hr rfl (fun t ht _ => ⟨⟨(1 : Int32), (), rfl, (⟨by decide, by decide⟩), trivial⟩, hS.F ht⟩) hS.2.2 dX11_isLess_154
    · have rv108_16_110 : ir v108_16 1 1 := rf_ne0 c110 rv108_16
      refine lv_lload hx hb dX11_isLess_113 (lv_at hl 0 rfl) ?_
      refine lv_lconst (v := 0) hx hb dX11_isLess_115 (by decide) ?_
      refine wl_eq (tgt := 131) hx hb dX11_isLess_116 dX11_isLess_117 (by decide) (fun c116 => ?_) (fun c116 => ?_)
      · have c116 : v108_8.toInt = (0 : Int) := c116
        have rv108_8_116 : lr v108_8 0 0 := by have h8 := rv108_8; have h9 := (lr_c (0) (by decide) : lr (0 : Int64) (0) (0)); constructor <;> omega
        refine lv_iconst (v := 0) hx hb dX11_isLess_131 (by decide) ?_
        refine lv_goto (tgt := 154) hx hb dX11_isLess_132 (by decide) ?_
        exact W.zret (v := (0 : Int32)) hx hb hr rfl (fun t ht _ => ⟨⟨(0 : Int32), (), rfl, (⟨by decide, by decide⟩), trivial⟩, hS.F ht⟩) hS.2.2 dX11_isLess_154
      · have c116 : v108_8.toInt ≠ (0 : Int) := c116
        have rv108_8_116 : lr v108_8 1 9223372036854775806 := by have h8 := rv108_8; have h9 := (lr_c (0) (by decide) : lr (0 : Int64) (0) (0)); constructor <;> omega
        refine lv_lload hx hb dX11_isLess_120 (lv_at hl 1 rfl) ?_
        refine lv_lconst (v := 0) hx hb dX11_isLess_122 (by decide) ?_
        refine wl_ne (tgt := 131) hx hb dX11_isLess_123 dX11_isLess_124 (by decide) (fun c123 => ?_) (fun c123 => ?_)
        · have c123 : v108_12.toInt ≠ (0 : Int) := c123
          have rv108_12_123 : lr v108_12 1 9223372036854775806 := by have h8 := rv108_12; have h9 := (lr_c (0) (by decide) : lr (0 : Int64) (0) (0)); constructor <;> omega
          refine lv_iconst (v := 0) hx hb dX11_isLess_131 (by decide) ?_
          refine lv_goto (tgt := 154) hx hb dX11_isLess_132 (by decide) ?_
          exact W.zret (v := (0 : Int32)) hx hb hr rfl (fun t ht _ => ⟨⟨(0 : Int32), (), rfl, (⟨by decide, by decide⟩), trivial⟩, hS.F ht⟩) hS.2.2 dX11_isLess_154
        · have c123 : v108_12.toInt = (0 : Int) := c123
          have rv108_12_123 : lr v108_12 0 0 := by have h8 := rv108_12; have h9 := (lr_c (0) (by decide) : lr (0 : Int64) (0) (0)); constructor <;> omega
          refine lv_iconst (v := 1) hx hb dX11_isLess_127 (by decide) ?_
          refine lv_goto (tgt := 154) hx hb dX11_isLess_128 (by decide) ?_
          exact W.zret (v := (1 : Int32)) hx hb hr rfl (fun t ht _ => ⟨⟨(1 : Int32), (), rfl, (⟨by decide, by decide⟩), trivial⟩, hS.F ht⟩) hS.2.2 dX11_isLess_154
  have L17 : ∀ (n : Nat) (H : Heap) (locs : List Loc) (ls : Array Slot) (v17_8 : Int64) (v17_10 : Int64) (v17_12 : Int64) (v17_14 : Int64) (v17_16 : Int32), va_S (fun _ => False) s.heap H locs → lv_has ls 23 [(8, .long v17_8), (10, .long v17_10), (12, .long v17_12), (14, .long v17_14), (16, .int v17_16)] → lr v17_8 0 9223372036854775807 → lr v17_10 1 9223372036854775807 → lr v17_12 0 9223372036854775807 → lr v17_14 1 9223372036854775807 → ir v17_16 0 1 → v17_10.toInt < (n : Int) → WW H locs (F0 m 17 ls []) := by
    intro n
    induction n with
    | zero =>
      intro H locs ls v17_8 v17_10 v17_12 v17_14 v17_16 hS hl rv17_8 rv17_10 rv17_12 rv17_14 rv17_16 mu17
      exfalso
      omega
    | succ n ih17 =>
      intro H locs ls v17_8 v17_10 v17_12 v17_14 v17_16 hS hl rv17_8 rv17_10 rv17_12 rv17_14 rv17_16 mu17
      refine w1 _ _ _ ?_
      refine lv_lload hx hb dX11_isLess_17 (lv_at hl 0 rfl) ?_
      refine lv_lload hx hb dX11_isLess_19 (lv_at hl 1 rfl) ?_
      refine lv_ldiv hx hb dX11_isLess_21 (l_ne0 (by have h9 := rv17_10; omega)) ?_
      refine lv_topl (fun x21 e21 => ?_)
      have t21 := lt_div e21 (l_ne0 (by have h9 := rv17_10; omega)) rv17_8 (by decide)
      have r21 : lr x21 (-9223372036854775807) 9223372036854775807 := lr_div e21 (l_ne0 (by have h9 := rv17_10; omega)) rv17_8 (by decide) 9223372036854775807 (by decide) (by decide)
      refine lv_lstore (lv' := [(17, .long x21), (8, .long v17_8), (10, .long v17_10), (12, .long v17_12), (14, .long v17_14), (16, .int v17_16)]) hx hb dX11_isLess_22 hl (by decide) rfl (fun ls hl => ?_)
      refine lv_lload hx hb dX11_isLess_24 (lv_at hl 3 rfl) ?_
      refine lv_lload hx hb dX11_isLess_26 (lv_at hl 4 rfl) ?_
      refine lv_ldiv hx hb dX11_isLess_28 (l_ne0 (by have h9 := rv17_14; omega)) ?_
      refine lv_topl (fun x28 e28 => ?_)
      have t28 := lt_div e28 (l_ne0 (by have h9 := rv17_14; omega)) rv17_12 (by decide)
      have r28 : lr x28 (-9223372036854775807) 9223372036854775807 := lr_div e28 (l_ne0 (by have h9 := rv17_14; omega)) rv17_12 (by decide) 9223372036854775807 (by decide) (by decide)
      refine lv_lstore (lv' := [(19, .long x28), (17, .long x21), (8, .long v17_8), (10, .long v17_10), (12, .long v17_12), (14, .long v17_14), (16, .int v17_16)]) hx hb dX11_isLess_29 hl (by decide) rfl (fun ls hl => ?_)
      refine lv_lload hx hb dX11_isLess_31 (lv_at hl 1 rfl) ?_
      refine lv_lload hx hb dX11_isLess_33 (lv_at hl 0 rfl) ?_
      refine wl_eq (tgt := 74) hx hb dX11_isLess_35 dX11_isLess_36 (by decide) (fun c35 => ?_) (fun c35 => ?_)
      · refine lv_lload hx hb dX11_isLess_74 (lv_at hl 2 rfl) ?_
        refine lv_lload hx hb dX11_isLess_76 (lv_at hl 1 rfl) ?_
        refine lv_lload hx hb dX11_isLess_78 (lv_at hl 3 rfl) ?_
        refine lv_lmul hx hb dX11_isLess_80 ?_
        refine lv_topl (fun x80 e80 => ?_)
        refine lv_lsub hx hb dX11_isLess_81 ?_
        refine lv_topl (fun x81 e81 => ?_)
        have l81 : x81 = v17_8 - v17_8 / v17_10 * v17_10 := by rw [e81, e80, e21]
        have k81 := l_rem_lt l81 (l_ne0 (by have h9 := rv17_10; omega)) rv17_8 rv17_10 (by decide) (by decide)
        have r81 : lr x81 0 9223372036854775806 := lr_rem l81 (l_ne0 (by have h9 := rv17_10; omega)) rv17_8 rv17_10 (by decide) (by decide) (by decide)
        refine lv_lstore (lv' := [(8, .long x81), (19, .long x28), (17, .long x21), (10, .long v17_10), (12, .long v17_12), (14, .long v17_14), (16, .int v17_16)]) hx hb dX11_isLess_82 hl (by decide) rfl (fun ls hl => ?_)
        refine lv_lload hx hb dX11_isLess_84 (lv_at hl 4 rfl) ?_
        refine lv_lload hx hb dX11_isLess_86 (lv_at hl 1 rfl) ?_
        refine lv_lload hx hb dX11_isLess_88 (lv_at hl 5 rfl) ?_
        refine lv_lmul hx hb dX11_isLess_90 ?_
        refine lv_topl (fun x90 e90 => ?_)
        refine lv_lsub hx hb dX11_isLess_91 ?_
        refine lv_topl (fun x91 e91 => ?_)
        have l91 : x91 = v17_12 - v17_12 / v17_14 * v17_14 := by rw [e91, e90, e28]
        have k91 := l_rem_lt l91 (l_ne0 (by have h9 := rv17_14; omega)) rv17_12 rv17_14 (by decide) (by decide)
        have r91 : lr x91 0 9223372036854775806 := lr_rem l91 (l_ne0 (by have h9 := rv17_14; omega)) rv17_12 rv17_14 (by decide) (by decide) (by decide)
        refine lv_lstore (lv' := [(12, .long x91), (8, .long x81), (19, .long x28), (17, .long x21), (10, .long v17_10), (14, .long v17_14), (16, .int v17_16)]) hx hb dX11_isLess_92 hl (by decide) rfl (fun ls hl => ?_)
        refine lv_lload hx hb dX11_isLess_94 (lv_at hl 1 rfl) ?_
        refine lv_lconst (v := 0) hx hb dX11_isLess_96 (by decide) ?_
        refine wl_eq (tgt := 108) hx hb dX11_isLess_97 dX11_isLess_98 (by decide) (fun c97 => ?_) (fun c97 => ?_)
        · have c97 : x81.toInt = (0 : Int) := c97
          have rx81_97 : lr x81 0 0 := by have h8 := r81; have h9 := (lr_c (0) (by decide) : lr (0 : Int64) (0) (0)); constructor <;> omega
          exact w2 _ _ _ (J108 _ _ _ x81 x91 v17_16 hS (lv_sub hl [1, 0, 6] rfl) (lr_w (lo' := 0) (hi' := 9223372036854775806) rx81_97 (by decide) (by decide)) r91 rv17_16)
        · have c97 : x81.toInt ≠ (0 : Int) := c97
          have rx81_97 : lr x81 1 9223372036854775806 := by have h8 := r81; have h9 := (lr_c (0) (by decide) : lr (0 : Int64) (0) (0)); constructor <;> omega
          refine lv_lload hx hb dX11_isLess_101 (lv_at hl 0 rfl) ?_
          refine lv_lconst (v := 0) hx hb dX11_isLess_103 (by decide) ?_
          refine wl_ne (tgt := 155) hx hb dX11_isLess_104 dX11_isLess_105 (by decide) (fun c104 => ?_) (fun c104 => ?_)
          · have c104 : x91.toInt ≠ (0 : Int) := c104
            have rx91_104 : lr x91 1 9223372036854775806 := by have h8 := r91; have h9 := (lr_c (0) (by decide) : lr (0 : Int64) (0) (0)); constructor <;> omega
            refine lv_lload hx hb dX11_isLess_155 (lv_at hl 1 rfl) ?_
            refine lv_lstore (lv' := [(21, .long x81), (12, .long x91), (8, .long x81), (19, .long x28), (17, .long x21), (10, .long v17_10), (14, .long v17_14), (16, .int v17_16)]) hx hb dX11_isLess_157 hl (by decide) rfl (fun ls hl => ?_)
            refine lv_lload hx hb dX11_isLess_159 (lv_at hl 5 rfl) ?_
            refine lv_lstore (lv' := [(8, .long v17_10), (21, .long x81), (12, .long x91), (19, .long x28), (17, .long x21), (10, .long v17_10), (14, .long v17_14), (16, .int v17_16)]) hx hb dX11_isLess_161 hl (by decide) rfl (fun ls hl => ?_)
            refine lv_lload hx hb dX11_isLess_163 (lv_at hl 1 rfl) ?_
            refine lv_lstore (lv' := [(10, .long x81), (8, .long v17_10), (21, .long x81), (12, .long x91), (19, .long x28), (17, .long x21), (14, .long v17_14), (16, .int v17_16)]) hx hb dX11_isLess_165 hl (by decide) rfl (fun ls hl => ?_)
            refine lv_lload hx hb dX11_isLess_167 (lv_at hl 3 rfl) ?_
            refine lv_lstore (lv' := [(21, .long x91), (10, .long x81), (8, .long v17_10), (12, .long x91), (19, .long x28), (17, .long x21), (14, .long v17_14), (16, .int v17_16)]) hx hb dX11_isLess_169 hl (by decide) rfl (fun ls hl => ?_)
            refine lv_lload hx hb dX11_isLess_171 (lv_at hl 6 rfl) ?_
            refine lv_lstore (lv' := [(12, .long v17_14), (21, .long x91), (10, .long x81), (8, .long v17_10), (19, .long x28), (17, .long x21), (14, .long v17_14), (16, .int v17_16)]) hx hb dX11_isLess_173 hl (by decide) rfl (fun ls hl => ?_)
            refine lv_lload hx hb dX11_isLess_175 (lv_at hl 1 rfl) ?_
            refine lv_lstore (lv' := [(14, .long x91), (12, .long v17_14), (21, .long x91), (10, .long x81), (8, .long v17_10), (19, .long x28), (17, .long x21), (16, .int v17_16)]) hx hb dX11_isLess_177 hl (by decide) rfl (fun ls hl => ?_)
            refine lv_iload hx hb dX11_isLess_179 (lv_at hl 7 rfl) ?_
            refine lv_if_ne (tgt := 188) hx hb dX11_isLess_181 (by decide) (fun c181 => ?_) (fun c181 => ?_)
            · have rv17_16_181 : ir v17_16 1 1 := rf_ne0 c181 rv17_16
              refine lv_iconst (v := 0) hx hb dX11_isLess_188 (by decide) ?_
              refine lv_istore (lv' := [(16, .int (0 : Int32)), (14, .long x91), (12, .long v17_14), (21, .long x91), (10, .long x81), (8, .long v17_10), (19, .long x28), (17, .long x21)]) hx hb dX11_isLess_189 hl (by decide) rfl (fun ls hl => ?_)
              refine lv_goto (tgt := 17) hx hb dX11_isLess_191 (by decide) ?_
              exact w2 _ _ _ (ih17 _ _ _ v17_10 x81 v17_14 x91 (0 : Int32) hS (lv_sub hl [5, 4, 2, 1, 0] rfl) (lr_w (lo' := 0) (hi' := 9223372036854775807) rv17_10 (by decide) (by decide)) (lr_w (lo' := 1) (hi' := 9223372036854775807) rx81_97 (by decide) (by decide)) (lr_w (lo' := 0) (hi' := 9223372036854775807) rv17_14 (by decide) (by decide)) (lr_w (lo' := 1) (hi' := 9223372036854775807) rx91_104 (by decide) (by decide)) (ir_w (lo' := 0) (hi' := 1) (ir_c (0) (by decide) : ir (0 : Int32) (0) (0)) (by decide) (by decide)) (by have h9 := k81; omega))
            · have rv17_16_181 : ir v17_16 0 0 := rf_eq c181 (ir_c (0) (by decide) : ir (0 : Int32) (0) (0))
              refine lv_iconst (v := 1) hx hb dX11_isLess_184 (by decide) ?_
              refine lv_goto (tgt := 189) hx hb dX11_isLess_185 (by decide) ?_
              refine lv_istore (lv' := [(16, .int (1 : Int32)), (14, .long x91), (12, .long v17_14), (21, .long x91), (10, .long x81), (8, .long v17_10), (19, .long x28), (17, .long x21)]) hx hb dX11_isLess_189 hl (by decide) rfl (fun ls hl => ?_)
              refine lv_goto (tgt := 17) hx hb dX11_isLess_191 (by decide) ?_
              exact w2 _ _ _ (ih17 _ _ _ v17_10 x81 v17_14 x91 (1 : Int32) hS (lv_sub hl [5, 4, 2, 1, 0] rfl) (lr_w (lo' := 0) (hi' := 9223372036854775807) rv17_10 (by decide) (by decide)) (lr_w (lo' := 1) (hi' := 9223372036854775807) rx81_97 (by decide) (by decide)) (lr_w (lo' := 0) (hi' := 9223372036854775807) rv17_14 (by decide) (by decide)) (lr_w (lo' := 1) (hi' := 9223372036854775807) rx91_104 (by decide) (by decide)) (ir_w (lo' := 0) (hi' := 1) (ir_c (1) (by decide) : ir (1 : Int32) (1) (1)) (by decide) (by decide)) (by have h9 := k81; omega))
          · have c104 : x91.toInt = (0 : Int) := c104
            have rx91_104 : lr x91 0 0 := by have h8 := r91; have h9 := (lr_c (0) (by decide) : lr (0 : Int64) (0) (0)); constructor <;> omega
            exact w2 _ _ _ (J108 _ _ _ x81 x91 v17_16 hS (lv_sub hl [1, 0, 6] rfl) (lr_w (lo' := 0) (hi' := 9223372036854775806) rx81_97 (by decide) (by decide)) (lr_w (lo' := 0) (hi' := 9223372036854775806) rx91_104 (by decide) (by decide)) rv17_16)
      · refine lv_iload hx hb dX11_isLess_39 (lv_at hl 6 rfl) ?_
        refine lv_if_eq (tgt := 60) hx hb dX11_isLess_41 (by decide) (fun c41 => ?_) (fun c41 => ?_)
        · have rv17_16_41 : ir v17_16 0 0 := rf_eq c41 (ir_c (0) (by decide) : ir (0 : Int32) (0) (0))
          refine lv_lload hx hb dX11_isLess_60 (lv_at hl 1 rfl) ?_
          refine lv_lload hx hb dX11_isLess_62 (lv_at hl 0 rfl) ?_
          refine wl_ge (tgt := 72) hx hb dX11_isLess_64 dX11_isLess_65 (by decide) (fun c64 => ?_) (fun c64 => ?_)
          · refine lv_iconst (v := 0) hx hb dX11_isLess_72 (by decide) ?_
            exact W.zret (v := (0 : Int32)) hx hb hr rfl (fun t ht _ => ⟨⟨(0 : Int32), (), rfl, (⟨by decide, by decide⟩), trivial⟩, hS.F ht⟩) hS.2.2 dX11_isLess_73
          · have rx21_64 : lr x21 (-9223372036854775807) 9223372036854775806 := by have h8 := r21; have h9 := r28; constructor <;> omega
            have rx28_64 : lr x28 (-9223372036854775806) 9223372036854775807 := by have h8 := r28; have h9 := rx21_64; constructor <;> omega
            refine lv_iconst (v := 1) hx hb dX11_isLess_68 (by decide) ?_
            refine lv_goto (tgt := 73) hx hb dX11_isLess_69 (by decide) ?_
            exact W.zret (v := (1 : Int32)) hx hb hr rfl (fun t ht _ => ⟨⟨(1 : Int32), (), rfl, (⟨by decide, by decide⟩), trivial⟩, hS.F ht⟩) hS.2.2 dX11_isLess_73
        · have rv17_16_41 : ir v17_16 1 1 := rf_ne0 c41 rv17_16
          refine lv_lload hx hb dX11_isLess_44 (lv_at hl 1 rfl) ?_
          refine lv_lload hx hb dX11_isLess_46 (lv_at hl 0 rfl) ?_
          refine wl_le (tgt := 56) hx hb dX11_isLess_48 dX11_isLess_49 (by decide) (fun c48 => ?_) (fun c48 => ?_)
          · refine lv_iconst (v := 0) hx hb dX11_isLess_56 (by decide) ?_
            refine lv_goto (tgt := 73) hx hb dX11_isLess_57 (by decide) ?_
            exact W.zret (v := (0 : Int32)) hx hb hr rfl (fun t ht _ => ⟨⟨(0 : Int32), (), rfl, (⟨by decide, by decide⟩), trivial⟩, hS.F ht⟩) hS.2.2 dX11_isLess_73
          · have rx21_48 : lr x21 (-9223372036854775806) 9223372036854775807 := by have h8 := r21; have h9 := r28; constructor <;> omega
            have rx28_48 : lr x28 (-9223372036854775807) 9223372036854775806 := by have h8 := r28; have h9 := rx21_48; constructor <;> omega
            refine lv_iconst (v := 1) hx hb dX11_isLess_52 (by decide) ?_
            refine lv_goto (tgt := 73) hx hb dX11_isLess_53 (by decide) ?_
            exact W.zret (v := (1 : Int32)) hx hb hr rfl (fun t ht _ => ⟨⟨(1 : Int32), (), rfl, (⟨by decide, by decide⟩), trivial⟩, hS.F ht⟩) hS.2.2 dX11_isLess_73
  refine lv_lload_n hx hb dX11_isLess_0 rfl (lv_at hl 0 rfl) ?_
  refine lv_lstore (lv' := [(8, .long p1), (0, .long p1), (2, .long p2), (4, .long p3), (6, .long p4)]) hx hb dX11_isLess_1 hl (by decide) rfl (fun ls hl => ?_)
  refine lv_lload_n hx hb dX11_isLess_3 rfl (lv_at hl 2 rfl) ?_
  refine lv_lstore (lv' := [(10, .long p2), (8, .long p1), (0, .long p1), (2, .long p2), (4, .long p3), (6, .long p4)]) hx hb dX11_isLess_4 hl (by decide) rfl (fun ls hl => ?_)
  refine lv_lload hx hb dX11_isLess_6 (lv_at hl 4 rfl) ?_
  refine lv_lstore (lv' := [(12, .long p3), (10, .long p2), (8, .long p1), (0, .long p1), (2, .long p2), (4, .long p3), (6, .long p4)]) hx hb dX11_isLess_8 hl (by decide) rfl (fun ls hl => ?_)
  refine lv_lload hx hb dX11_isLess_10 (lv_at hl 6 rfl) ?_
  refine lv_lstore (lv' := [(14, .long p4), (12, .long p3), (10, .long p2), (8, .long p1), (0, .long p1), (2, .long p2), (4, .long p3), (6, .long p4)]) hx hb dX11_isLess_12 hl (by decide) rfl (fun ls hl => ?_)
  refine lv_iconst (v := 0) hx hb dX11_isLess_14 (by decide) ?_
  refine lv_istore (lv' := [(16, .int (0 : Int32)), (14, .long p4), (12, .long p3), (10, .long p2), (8, .long p1), (0, .long p1), (2, .long p2), (4, .long p3), (6, .long p4)]) hx hb dX11_isLess_15 hl (by decide) rfl (fun ls hl => ?_)
  exact w2 _ _ _ (L17 9223372036854775808 _ _ _ p1 p2 p3 p4 (0 : Int32) hS (lv_sub hl [4, 3, 2, 1, 0] rfl) rp1 rp2 rp3 rp4 (ir_w (lo' := 0) (hi' := 1) (ir_c (0) (by decide) : ir (0 : Int32) (0) (0)) (by decide) (by decide)) (by have h9 := rp2; omega))
