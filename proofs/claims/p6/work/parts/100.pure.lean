set_option maxHeartbeats 4000000 in
set_option maxRecDepth 100000 in
theorem m_X10_commonDivisor (l : Launch) (p1 : Int64) (p2 : Int64) : pMl l yX10_commonDivisor cX10_commonDivisor 11 .long { frames := 0, cells := 0, slots := 0, locals := 0 } [.long p1, .long p2] (fun _ => True) := by
  refine Met.ofW (cc := cX10_commonDivisor) (maxL := 11) (ret := some .long) (by decide) rfl ?_
  intro p e s m args below meth c s₁ B hml hv
  obtain ⟨rfl, -⟩ := hv
  have hx := B.exec
  have hb := B.bytes
  have hr := B.returns
  have hts : ∀ w ∈ lw_g, w.before _ s = true := fun w h => atoms_spec (ws := wc_ws yX10_commonDivisor cX10_commonDivisor 11 (some .long)) B.pre w (List.mem_cons_of_mem _ h)
  have hown : s.vm.findClass RX10 = some m.cls := findClass_of_methodNamed B.named
  have hlocks := B.notSynchronized
  have hS : va_S (fun _ => False) s.heap s.heap [] := va_S.rf
  have hl := lv_entry ([.long p1, .long p2]) (n := 11) (Nat.le_of_ble_eq_true rfl)
  rw [lg_entry_eq]
  generalize (lg_sl ([.long p1, .long p2]) ++ List.replicate (11 - (lg_sl ([.long p1, .long p2])).length) Slot.unset).toArray = ls at hl ⊢
  have hl : lv_has ls 11 [(0, .long p1), (2, .long p2)] := hl
  refine wq_all ?_
  intro WW w1 w2
  have L31 : ∀ (n : Nat) (H : Heap) (locs : List Loc) (ls : Array Slot) (v31_4 : Int64) (v31_6 : Int64) (v31_8 : Int32), va_S (fun _ => False) s.heap H locs → lv_has ls 11 [(4, .long v31_4), (6, .long v31_6), (8, .int v31_8)] → ir v31_8 0 200 → 200 - v31_8.toInt < (n : Int) → WW H locs (F0 m 31 ls []) := by
    intro n
    induction n with
    | zero =>
      intro H locs ls v31_4 v31_6 v31_8 hS hl rv31_8 mu31
      exfalso
      omega
    | succ n ih31 =>
      intro H locs ls v31_4 v31_6 v31_8 hS hl rv31_8 mu31
      refine w1 _ _ _ ?_
      refine lv_iload hx hb dX10_commonDivisor_31 (lv_at hl 2 rfl) ?_
      refine lv_sipush (v := 200) hx hb dX10_commonDivisor_33 (by decide) ?_
      refine lv_icmp_ge (tgt := 67) hx hb dX10_commonDivisor_36 (by decide) (fun c36 => ?_) (fun c36 => ?_)
      · have rv31_8_36 : ir v31_8 200 200 := ⟨Int.le_trans (by decide) (rf_le c36 (ir_c (200) (by decide) : ir (200 : Int32) (200) (200)) rv31_8).2, (rv31_8).2⟩
        refine lv_lload hx hb dX10_commonDivisor_67 (lv_at hl 0 rfl) ?_
        exact W.lret (v := v31_4) hx hb hr (fun t ht _ => ⟨⟨v31_4, (), rfl, trivial, trivial⟩, hS.F ht⟩) hS.2.2 dX10_commonDivisor_69
      · have rv31_8_36 : ir v31_8 0 199 := ⟨(rv31_8).1, Int.le_trans (rf_lt (rf_nle c36) rv31_8 (ir_c (200) (by decide) : ir (200 : Int32) (200) (200))).1 (by decide)⟩
        refine lv_lload hx hb dX10_commonDivisor_39 (lv_at hl 1 rfl) ?_
        refine lv_lconst (v := 0) hx hb dX10_commonDivisor_41 (by decide) ?_
        refine wl_eq (tgt := 67) hx hb dX10_commonDivisor_42 dX10_commonDivisor_43 (by decide) (fun c42 => ?_) (fun c42 => ?_)
        · have c42 : v31_6.toInt = (0 : Int) := c42
          have rv31_6_42 : lr v31_6 0 0 := by have h8 := (lr_any v31_6); have h9 := (lr_c (0) (by decide) : lr (0 : Int64) (0) (0)); constructor <;> omega
          refine lv_lload hx hb dX10_commonDivisor_67 (lv_at hl 0 rfl) ?_
          exact W.lret (v := v31_4) hx hb hr (fun t ht _ => ⟨⟨v31_4, (), rfl, trivial, trivial⟩, hS.F ht⟩) hS.2.2 dX10_commonDivisor_69
        · have c42 : v31_6.toInt ≠ (0 : Int) := c42
          refine lv_lload hx hb dX10_commonDivisor_46 (lv_at hl 0 rfl) ?_
          refine lv_lload hx hb dX10_commonDivisor_48 (lv_at hl 1 rfl) ?_
          refine lv_lrem hx hb dX10_commonDivisor_50 (l_ne0 c42) ?_
          refine lv_topl (fun x50 e50 => ?_)
          refine lv_lstore (lv' := [(9, .long x50), (4, .long v31_4), (6, .long v31_6), (8, .int v31_8)]) hx hb dX10_commonDivisor_51 hl (by decide) rfl (fun ls hl => ?_)
          refine lv_lload hx hb dX10_commonDivisor_53 (lv_at hl 2 rfl) ?_
          refine lv_lstore (lv' := [(4, .long v31_6), (9, .long x50), (6, .long v31_6), (8, .int v31_8)]) hx hb dX10_commonDivisor_55 hl (by decide) rfl (fun ls hl => ?_)
          refine lv_lload hx hb dX10_commonDivisor_57 (lv_at hl 1 rfl) ?_
          refine lv_lstore (lv' := [(6, .long x50), (4, .long v31_6), (9, .long x50), (8, .int v31_8)]) hx hb dX10_commonDivisor_59 hl (by decide) rfl (fun ls hl => ?_)
          obtain ⟨x61, e61⟩ : ∃ y : Int32, y = v31_8 + 1 := ⟨_, rfl⟩
          have r61 : ir x61 1 200 := ir_w (ir_add e61 rv31_8_36 (ir_c (1) (by decide) : ir (1 : Int32) (1) (1)) (by decide) (by decide)) (by decide) (by decide)
          have t61 : x61.toInt = v31_8.toInt + (1) := it_add e61 rv31_8_36 (ir_c (1) (by decide) : ir (1 : Int32) (1) (1)) (by decide) (by decide)
          refine lv_iinc (v := x61) (lv' := [(8, .int x61), (6, .long x50), (4, .long v31_6), (9, .long x50)]) hx hb dX10_commonDivisor_61 hl (k := 3) rfl (by rw [e61]; rfl) (by decide) rfl (fun ls hl => ?_)
          refine lv_goto (tgt := 31) hx hb dX10_commonDivisor_64 (by decide) ?_
          exact w2 _ _ _ (ih31 _ _ _ v31_6 x50 x61 hS (lv_sub hl [2, 1, 0] rfl) (ir_w (lo' := 0) (hi' := 200) r61 (by decide) (by decide)) (by have h9 := r61; omega))
  have J26 : ∀ (H : Heap) (locs : List Loc) (ls : Array Slot) (v26_4 : Int64) (w26_0 : Int64), va_S (fun _ => False) s.heap H locs → lv_has ls 11 [(4, .long v26_4)] → WW H locs (F0 m 26 ls [.long w26_0]) := by
    intro H locs ls v26_4 w26_0 hS hl
    refine w1 _ _ _ ?_
    refine lv_lstore (lv' := [(6, .long w26_0), (4, .long v26_4)]) hx hb dX10_commonDivisor_26 hl (by decide) rfl (fun ls hl => ?_)
    refine lv_iconst (v := 0) hx hb dX10_commonDivisor_28 (by decide) ?_
    refine lv_istore (lv' := [(8, .int (0 : Int32)), (6, .long w26_0), (4, .long v26_4)]) hx hb dX10_commonDivisor_29 hl (by decide) rfl (fun ls hl => ?_)
    exact w2 _ _ _ (L31 201 _ _ _ v26_4 w26_0 (0 : Int32) hS (lv_sub hl [2, 1, 0] rfl) (ir_w (lo' := 0) (hi' := 200) (ir_c (0) (by decide) : ir (0 : Int32) (0) (0)) (by decide) (by decide)) (by have h9 := (ir_c (0) (by decide) : ir (0 : Int32) (0) (0)); omega))
  have J12 : ∀ (H : Heap) (locs : List Loc) (ls : Array Slot) (w12_0 : Int64), va_S (fun _ => False) s.heap H locs → lv_has ls 11 [(2, .long p2)] → WW H locs (F0 m 12 ls [.long w12_0]) := by
    intro H locs ls w12_0 hS hl
    refine w1 _ _ _ ?_
    refine lv_lstore (lv' := [(4, .long w12_0), (2, .long p2)]) hx hb dX10_commonDivisor_12 hl (by decide) rfl (fun ls hl => ?_)
    refine lv_lload_n hx hb dX10_commonDivisor_14 rfl (lv_at hl 1 rfl) ?_
    refine lv_lconst (v := 0) hx hb dX10_commonDivisor_15 (by decide) ?_
    refine wl_ge (tgt := 25) hx hb dX10_commonDivisor_16 dX10_commonDivisor_17 (by decide) (fun c16 => ?_) (fun c16 => ?_)
    · have c16 : (0 : Int) ≤ p2.toInt := c16
      have rp2_16 : lr p2 0 9223372036854775807 := by have h8 := (lr_any p2); have h9 := (lr_c (0) (by decide) : lr (0 : Int64) (0) (0)); constructor <;> omega
      refine lv_lload_n hx hb dX10_commonDivisor_25 rfl (lv_at hl 1 rfl) ?_
      exact w2 _ _ _ (J26 _ _ _ w12_0 p2 hS (lv_sub hl [0] rfl) )
    · have c16 : p2.toInt < (0 : Int) := c16
      have rp2_16 : lr p2 (-9223372036854775808) (-1) := by have h8 := (lr_any p2); have h9 := (lr_c (0) (by decide) : lr (0 : Int64) (0) (0)); constructor <;> omega
      refine lv_lload_n hx hb dX10_commonDivisor_20 rfl (lv_at hl 1 rfl) ?_
      refine lv_lneg hx hb dX10_commonDivisor_21 ?_
      refine lv_topl (fun x21 e21 => ?_)
      refine lv_goto (tgt := 26) hx hb dX10_commonDivisor_22 (by decide) ?_
      exact w2 _ _ _ (J26 _ _ _ w12_0 x21 hS (lv_sub hl [0] rfl) )
  refine lv_lload_n hx hb dX10_commonDivisor_0 rfl (lv_at hl 0 rfl) ?_
  refine lv_lconst (v := 0) hx hb dX10_commonDivisor_1 (by decide) ?_
  refine wl_ge (tgt := 11) hx hb dX10_commonDivisor_2 dX10_commonDivisor_3 (by decide) (fun c2 => ?_) (fun c2 => ?_)
  · have c2 : (0 : Int) ≤ p1.toInt := c2
    have rp1_2 : lr p1 0 9223372036854775807 := by have h8 := (lr_any p1); have h9 := (lr_c (0) (by decide) : lr (0 : Int64) (0) (0)); constructor <;> omega
    refine lv_lload_n hx hb dX10_commonDivisor_11 rfl (lv_at hl 0 rfl) ?_
    exact w2 _ _ _ (J12 _ _ _ p1 hS (lv_sub hl [1] rfl) )
  · have c2 : p1.toInt < (0 : Int) := c2
    have rp1_2 : lr p1 (-9223372036854775808) (-1) := by have h8 := (lr_any p1); have h9 := (lr_c (0) (by decide) : lr (0 : Int64) (0) (0)); constructor <;> omega
    refine lv_lload_n hx hb dX10_commonDivisor_6 rfl (lv_at hl 0 rfl) ?_
    refine lv_lneg hx hb dX10_commonDivisor_7 ?_
    refine lv_topl (fun x7 e7 => ?_)
    refine lv_goto (tgt := 12) hx hb dX10_commonDivisor_8 (by decide) ?_
    exact w2 _ _ _ (J12 _ _ _ x7 hS (lv_sub hl [1] rfl) )
set_option maxHeartbeats 4000000 in
set_option maxRecDepth 100000 in
theorem m_X10_commonDivisor_s (l : Launch) (p1 : Int64) (rp1 : lr p1 0 9) (p2 : Int64) (rp2 : lr p2 0 9) : pMl l yX10_commonDivisor cX10_commonDivisor 11 .long { frames := 0, cells := 0, slots := 0, locals := 0 } [.long p1, .long p2] (fun r => lr r 0 9) := by
  refine Met.ofW (cc := cX10_commonDivisor) (maxL := 11) (ret := some .long) (by decide) rfl ?_
  intro p e s m args below meth c s₁ B hml hv
  obtain ⟨rfl, -⟩ := hv
  have hx := B.exec
  have hb := B.bytes
  have hr := B.returns
  have hts : ∀ w ∈ lw_g, w.before _ s = true := fun w h => atoms_spec (ws := wc_ws yX10_commonDivisor cX10_commonDivisor 11 (some .long)) B.pre w (List.mem_cons_of_mem _ h)
  have hown : s.vm.findClass RX10 = some m.cls := findClass_of_methodNamed B.named
  have hlocks := B.notSynchronized
  have hS : va_S (fun _ => False) s.heap s.heap [] := va_S.rf
  have hl := lv_entry ([.long p1, .long p2]) (n := 11) (Nat.le_of_ble_eq_true rfl)
  rw [lg_entry_eq]
  generalize (lg_sl ([.long p1, .long p2]) ++ List.replicate (11 - (lg_sl ([.long p1, .long p2])).length) Slot.unset).toArray = ls at hl ⊢
  have hl : lv_has ls 11 [(0, .long p1), (2, .long p2)] := hl
  refine wq_all ?_
  intro WW w1 w2
  have L31 : ∀ (n : Nat) (H : Heap) (locs : List Loc) (ls : Array Slot) (v31_4 : Int64) (v31_6 : Int64) (v31_8 : Int32), va_S (fun _ => False) s.heap H locs → lv_has ls 11 [(4, .long v31_4), (6, .long v31_6), (8, .int v31_8)] → lr v31_4 0 9 → lr v31_6 0 9 → ir v31_8 0 200 → 200 - v31_8.toInt < (n : Int) → WW H locs (F0 m 31 ls []) := by
    intro n
    induction n with
    | zero =>
      intro H locs ls v31_4 v31_6 v31_8 hS hl rv31_4 rv31_6 rv31_8 mu31
      exfalso
      omega
    | succ n ih31 =>
      intro H locs ls v31_4 v31_6 v31_8 hS hl rv31_4 rv31_6 rv31_8 mu31
      refine w1 _ _ _ ?_
      refine lv_iload hx hb dX10_commonDivisor_31 (lv_at hl 2 rfl) ?_
      refine lv_sipush (v := 200) hx hb dX10_commonDivisor_33 (by decide) ?_
      refine lv_icmp_ge (tgt := 67) hx hb dX10_commonDivisor_36 (by decide) (fun c36 => ?_) (fun c36 => ?_)
      · have rv31_8_36 : ir v31_8 200 200 := ⟨Int.le_trans (by decide) (rf_le c36 (ir_c (200) (by decide) : ir (200 : Int32) (200) (200)) rv31_8).2, (rv31_8).2⟩
        refine lv_lload hx hb dX10_commonDivisor_67 (lv_at hl 0 rfl) ?_
        exact W.lret (v := v31_4) hx hb hr (fun t ht _ => ⟨⟨v31_4, (), rfl, rv31_4, trivial⟩, hS.F ht⟩) hS.2.2 dX10_commonDivisor_69
      · have rv31_8_36 : ir v31_8 0 199 := ⟨(rv31_8).1, Int.le_trans (rf_lt (rf_nle c36) rv31_8 (ir_c (200) (by decide) : ir (200 : Int32) (200) (200))).1 (by decide)⟩
        refine lv_lload hx hb dX10_commonDivisor_39 (lv_at hl 1 rfl) ?_
        refine lv_lconst (v := 0) hx hb dX10_commonDivisor_41 (by decide) ?_
        refine wl_eq (tgt := 67) hx hb dX10_commonDivisor_42 dX10_commonDivisor_43 (by decide) (fun c42 => ?_) (fun c42 => ?_)
        · have c42 : v31_6.toInt = (0 : Int) := c42
          have rv31_6_42 : lr v31_6 0 0 := by have h8 := rv31_6; have h9 := (lr_c (0) (by decide) : lr (0 : Int64) (0) (0)); constructor <;> omega
          refine lv_lload hx hb dX10_commonDivisor_67 (lv_at hl 0 rfl) ?_
          exact W.lret (v := v31_4) hx hb hr (fun t ht _ => ⟨⟨v31_4, (), rfl, rv31_4, trivial⟩, hS.F ht⟩) hS.2.2 dX10_commonDivisor_69
        · have c42 : v31_6.toInt ≠ (0 : Int) := c42
          refine lv_lload hx hb dX10_commonDivisor_46 (lv_at hl 0 rfl) ?_
          refine lv_lload hx hb dX10_commonDivisor_48 (lv_at hl 1 rfl) ?_
          refine lv_lrem hx hb dX10_commonDivisor_50 (l_ne0 c42) ?_
          refine lv_topl (fun x50 e50 => ?_)
          have r50 : lr x50 0 8 := lr_rem e50 (l_ne0 c42) rv31_4 rv31_6 (by decide) (by decide) (by decide)
          refine lv_lstore (lv' := [(9, .long x50), (4, .long v31_4), (6, .long v31_6), (8, .int v31_8)]) hx hb dX10_commonDivisor_51 hl (by decide) rfl (fun ls hl => ?_)
          refine lv_lload hx hb dX10_commonDivisor_53 (lv_at hl 2 rfl) ?_
          refine lv_lstore (lv' := [(4, .long v31_6), (9, .long x50), (6, .long v31_6), (8, .int v31_8)]) hx hb dX10_commonDivisor_55 hl (by decide) rfl (fun ls hl => ?_)
          refine lv_lload hx hb dX10_commonDivisor_57 (lv_at hl 1 rfl) ?_
          refine lv_lstore (lv' := [(6, .long x50), (4, .long v31_6), (9, .long x50), (8, .int v31_8)]) hx hb dX10_commonDivisor_59 hl (by decide) rfl (fun ls hl => ?_)
          obtain ⟨x61, e61⟩ : ∃ y : Int32, y = v31_8 + 1 := ⟨_, rfl⟩
          have r61 : ir x61 1 200 := ir_w (ir_add e61 rv31_8_36 (ir_c (1) (by decide) : ir (1 : Int32) (1) (1)) (by decide) (by decide)) (by decide) (by decide)
          have t61 : x61.toInt = v31_8.toInt + (1) := it_add e61 rv31_8_36 (ir_c (1) (by decide) : ir (1 : Int32) (1) (1)) (by decide) (by decide)
          refine lv_iinc (v := x61) (lv' := [(8, .int x61), (6, .long x50), (4, .long v31_6), (9, .long x50)]) hx hb dX10_commonDivisor_61 hl (k := 3) rfl (by rw [e61]; rfl) (by decide) rfl (fun ls hl => ?_)
          refine lv_goto (tgt := 31) hx hb dX10_commonDivisor_64 (by decide) ?_
          exact w2 _ _ _ (ih31 _ _ _ v31_6 x50 x61 hS (lv_sub hl [2, 1, 0] rfl) rv31_6 (lr_w (lo' := 0) (hi' := 9) r50 (by decide) (by decide)) (ir_w (lo' := 0) (hi' := 200) r61 (by decide) (by decide)) (by have h9 := r61; omega))
  have J26 : ∀ (H : Heap) (locs : List Loc) (ls : Array Slot) , va_S (fun _ => False) s.heap H locs → lv_has ls 11 [(4, .long p1)] → lr p1 0 9 → lr p2 0 9 → WW H locs (F0 m 26 ls [.long p2]) := by
    intro H locs ls  hS hl rv26_4 rw26_0
    refine w1 _ _ _ ?_
    refine lv_lstore (lv' := [(6, .long p2), (4, .long p1)]) hx hb dX10_commonDivisor_26 hl (by decide) rfl (fun ls hl => ?_)
    refine lv_iconst (v := 0) hx hb dX10_commonDivisor_28 (by decide) ?_
    refine lv_istore (lv' := [(8, .int (0 : Int32)), (6, .long p2), (4, .long p1)]) hx hb dX10_commonDivisor_29 hl (by decide) rfl (fun ls hl => ?_)
    exact w2 _ _ _ (L31 201 _ _ _ p1 p2 (0 : Int32) hS (lv_sub hl [2, 1, 0] rfl) rv26_4 rw26_0 (ir_w (lo' := 0) (hi' := 200) (ir_c (0) (by decide) : ir (0 : Int32) (0) (0)) (by decide) (by decide)) (by have h9 := (ir_c (0) (by decide) : ir (0 : Int32) (0) (0)); omega))
  have J12 : ∀ (H : Heap) (locs : List Loc) (ls : Array Slot) , va_S (fun _ => False) s.heap H locs → lv_has ls 11 [(2, .long p2)] → lr p2 0 9 → lr p1 0 9 → WW H locs (F0 m 12 ls [.long p1]) := by
    intro H locs ls  hS hl rv12_2 rw12_0
    refine w1 _ _ _ ?_
    refine lv_lstore (lv' := [(4, .long p1), (2, .long p2)]) hx hb dX10_commonDivisor_12 hl (by decide) rfl (fun ls hl => ?_)
    refine lv_lload_n hx hb dX10_commonDivisor_14 rfl (lv_at hl 1 rfl) ?_
    refine lv_lconst (v := 0) hx hb dX10_commonDivisor_15 (by decide) ?_
    refine wl_ge (tgt := 25) hx hb dX10_commonDivisor_16 dX10_commonDivisor_17 (by decide) (fun c16 => ?_) (fun c16 => ?_)
    · have c16 : (0 : Int) ≤ p2.toInt := c16
      refine lv_lload_n hx hb dX10_commonDivisor_25 rfl (lv_at hl 1 rfl) ?_
      exact w2 _ _ _ (J26 _ _ _  hS (lv_sub hl [0] rfl) rw12_0 rv12_2)
    · have c16 : p2.toInt < (0 : Int) := c16
      exact absurd c16 (by have h8 := rv12_2; have h9 := (lr_c (0) (by decide) : lr (0 : Int64) (0) (0)); omega)
  refine lv_lload_n hx hb dX10_commonDivisor_0 rfl (lv_at hl 0 rfl) ?_
  refine lv_lconst (v := 0) hx hb dX10_commonDivisor_1 (by decide) ?_
  refine wl_ge (tgt := 11) hx hb dX10_commonDivisor_2 dX10_commonDivisor_3 (by decide) (fun c2 => ?_) (fun c2 => ?_)
  · have c2 : (0 : Int) ≤ p1.toInt := c2
    refine lv_lload_n hx hb dX10_commonDivisor_11 rfl (lv_at hl 0 rfl) ?_
    exact w2 _ _ _ (J12 _ _ _  hS (lv_sub hl [1] rfl) rp2 rp1)
  · have c2 : p1.toInt < (0 : Int) := c2
    exact absurd c2 (by have h8 := rp1; have h9 := (lr_c (0) (by decide) : lr (0 : Int64) (0) (0)); omega)
set_option maxHeartbeats 4000000 in
set_option maxRecDepth 100000 in
theorem m_X10_isMaterial (l : Launch) (p1 : Int32) : pMi l yX10_isMaterial cX10_isMaterial 1 .boolean { frames := 0, cells := 0, slots := 0, locals := 0 } [.int p1] (fun r => ir r 0 1 ∧ (¬ r = 0 → ir p1 0 5)) := by
  refine Met.ofW (cc := cX10_isMaterial) (maxL := 1) (ret := some .boolean) (by decide) rfl ?_
  intro p e s m args below meth c s₁ B hml hv
  obtain ⟨rfl, -⟩ := hv
  have hx := B.exec
  have hb := B.bytes
  have hr := B.returns
  have hts : ∀ w ∈ lw_g, w.before _ s = true := fun w h => atoms_spec (ws := wc_ws yX10_isMaterial cX10_isMaterial 1 (some .boolean)) B.pre w (List.mem_cons_of_mem _ h)
  have hown : s.vm.findClass RX10 = some m.cls := findClass_of_methodNamed B.named
  have hlocks := B.notSynchronized
  have hS : va_S (fun _ => False) s.heap s.heap [] := va_S.rf
  have hl := lv_entry ([.int p1]) (n := 1) (Nat.le_of_ble_eq_true rfl)
  rw [lg_entry_eq]
  generalize (lg_sl ([.int p1]) ++ List.replicate (1 - (lg_sl ([.int p1])).length) Slot.unset).toArray = ls at hl ⊢
  have hl : lv_has ls 1 [(0, .int p1)] := hl
  refine wq_all ?_
  intro WW w1 w2
  refine lv_iload_n hx hb dX10_isMaterial_0 rfl (lv_at hl 0 rfl) ?_
  refine lv_if_lt (tgt := 14) hx hb dX10_isMaterial_1 (by decide) (fun c1 => ?_) (fun c1 => ?_)
  · have rp1_1 : ir p1 (-2147483648) (-1) := ⟨((ir_any p1)).1, Int.le_trans (rf_lt c1 (ir_any p1) (ir_c (0) (by decide) : ir (0 : Int32) (0) (0))).1 (by decide)⟩
    refine lv_iconst (v := 0) hx hb dX10_isMaterial_14 (by decide) ?_
    exact W.zret (v := (0 : Int32)) hx hb hr rfl (fun t ht _ => ⟨⟨(0 : Int32), (), rfl, (⟨⟨by decide, by decide⟩, fun h => absurd rfl h⟩), trivial⟩, hS.F ht⟩) hS.2.2 dX10_isMaterial_15
  · have rp1_1 : ir p1 0 2147483647 := ⟨Int.le_trans (by decide) (rf_le (rf_nlt c1) (ir_c (0) (by decide) : ir (0 : Int32) (0) (0)) (ir_any p1)).2, ((ir_any p1)).2⟩
    refine lv_iload_n hx hb dX10_isMaterial_4 rfl (lv_at hl 0 rfl) ?_
    refine lv_bipush (v := 6) hx hb dX10_isMaterial_5 (by decide) ?_
    refine lv_icmp_ge (tgt := 14) hx hb dX10_isMaterial_7 (by decide) (fun c7 => ?_) (fun c7 => ?_)
    · have rp1_7 : ir p1 6 2147483647 := ⟨Int.le_trans (by decide) (rf_le c7 (ir_c (6) (by decide) : ir (6 : Int32) (6) (6)) rp1_1).2, (rp1_1).2⟩
      refine lv_iconst (v := 0) hx hb dX10_isMaterial_14 (by decide) ?_
      exact W.zret (v := (0 : Int32)) hx hb hr rfl (fun t ht _ => ⟨⟨(0 : Int32), (), rfl, (⟨⟨by decide, by decide⟩, fun h => absurd rfl h⟩), trivial⟩, hS.F ht⟩) hS.2.2 dX10_isMaterial_15
    · have rp1_7 : ir p1 0 5 := ⟨(rp1_1).1, Int.le_trans (rf_lt (rf_nle c7) rp1_1 (ir_c (6) (by decide) : ir (6 : Int32) (6) (6))).1 (by decide)⟩
      refine lv_iconst (v := 1) hx hb dX10_isMaterial_10 (by decide) ?_
      refine lv_goto (tgt := 15) hx hb dX10_isMaterial_11 (by decide) ?_
      exact W.zret (v := (1 : Int32)) hx hb hr rfl (fun t ht _ => ⟨⟨(1 : Int32), (), rfl, (⟨⟨by decide, by decide⟩, fun _ => rp1_7⟩), trivial⟩, hS.F ht⟩) hS.2.2 dX10_isMaterial_15
set_option maxHeartbeats 4000000 in
set_option maxRecDepth 100000 in
theorem m_X10_isMark (l : Launch) (p1 : Int32) : pMi l yX10_isMark cX10_isMark 1 .boolean { frames := 0, cells := 0, slots := 0, locals := 0 } [.int p1] (fun r => ir r 0 1 ∧ (¬ r = 0 → ir p1 1 4)) := by
  refine Met.ofW (cc := cX10_isMark) (maxL := 1) (ret := some .boolean) (by decide) rfl ?_
  intro p e s m args below meth c s₁ B hml hv
  obtain ⟨rfl, -⟩ := hv
  have hx := B.exec
  have hb := B.bytes
  have hr := B.returns
  have hts : ∀ w ∈ lw_g, w.before _ s = true := fun w h => atoms_spec (ws := wc_ws yX10_isMark cX10_isMark 1 (some .boolean)) B.pre w (List.mem_cons_of_mem _ h)
  have hown : s.vm.findClass RX10 = some m.cls := findClass_of_methodNamed B.named
  have hlocks := B.notSynchronized
  have hS : va_S (fun _ => False) s.heap s.heap [] := va_S.rf
  have hl := lv_entry ([.int p1]) (n := 1) (Nat.le_of_ble_eq_true rfl)
  rw [lg_entry_eq]
  generalize (lg_sl ([.int p1]) ++ List.replicate (1 - (lg_sl ([.int p1])).length) Slot.unset).toArray = ls at hl ⊢
  have hl : lv_has ls 1 [(0, .int p1)] := hl
  refine wq_all ?_
  intro WW w1 w2
  refine lv_iload_n hx hb dX10_isMark_0 rfl (lv_at hl 0 rfl) ?_
  refine lv_iconst (v := 1) hx hb dX10_isMark_1 (by decide) ?_
  refine lv_icmp_lt (tgt := 14) hx hb dX10_isMark_2 (by decide) (fun c2 => ?_) (fun c2 => ?_)
  · have rp1_2 : ir p1 (-2147483648) 0 := ⟨((ir_any p1)).1, Int.le_trans (rf_lt c2 (ir_any p1) (ir_c (1) (by decide) : ir (1 : Int32) (1) (1))).1 (by decide)⟩
    refine lv_iconst (v := 0) hx hb dX10_isMark_14 (by decide) ?_
    exact W.zret (v := (0 : Int32)) hx hb hr rfl (fun t ht _ => ⟨⟨(0 : Int32), (), rfl, (⟨⟨by decide, by decide⟩, fun h => absurd rfl h⟩), trivial⟩, hS.F ht⟩) hS.2.2 dX10_isMark_15
  · have rp1_2 : ir p1 1 2147483647 := ⟨Int.le_trans (by decide) (rf_le (rf_nlt c2) (ir_c (1) (by decide) : ir (1 : Int32) (1) (1)) (ir_any p1)).2, ((ir_any p1)).2⟩
    refine lv_iload_n hx hb dX10_isMark_5 rfl (lv_at hl 0 rfl) ?_
    refine lv_iconst (v := 4) hx hb dX10_isMark_6 (by decide) ?_
    refine lv_icmp_gt (tgt := 14) hx hb dX10_isMark_7 (by decide) (fun c7 => ?_) (fun c7 => ?_)
    · have rp1_7 : ir p1 5 2147483647 := ⟨Int.le_trans (by decide) (rf_lt c7 (ir_c (4) (by decide) : ir (4 : Int32) (4) (4)) rp1_2).2, (rp1_2).2⟩
      refine lv_iconst (v := 0) hx hb dX10_isMark_14 (by decide) ?_
      exact W.zret (v := (0 : Int32)) hx hb hr rfl (fun t ht _ => ⟨⟨(0 : Int32), (), rfl, (⟨⟨by decide, by decide⟩, fun h => absurd rfl h⟩), trivial⟩, hS.F ht⟩) hS.2.2 dX10_isMark_15
    · have rp1_7 : ir p1 1 4 := ⟨(rp1_2).1, Int.le_trans (rf_le (rf_nlt c7) rp1_2 (ir_c (4) (by decide) : ir (4 : Int32) (4) (4))).1 (by decide)⟩
      refine lv_iconst (v := 1) hx hb dX10_isMark_10 (by decide) ?_
      refine lv_goto (tgt := 15) hx hb dX10_isMark_11 (by decide) ?_
      exact W.zret (v := (1 : Int32)) hx hb hr rfl (fun t ht _ => ⟨⟨(1 : Int32), (), rfl, (⟨⟨by decide, by decide⟩, fun _ => rp1_7⟩), trivial⟩, hS.F ht⟩) hS.2.2 dX10_isMark_15
set_option maxHeartbeats 4000000 in
set_option maxRecDepth 100000 in
theorem m_X10_isSlip (l : Launch) (p1 : Int32) : pMi l yX10_isSlip cX10_isSlip 1 .boolean { frames := 0, cells := 0, slots := 0, locals := 0 } [.int p1] (fun r => ir r 0 1 ∧ (¬ r = 0 → ir p1 2 12)) := by
  refine Met.ofW (cc := cX10_isSlip) (maxL := 1) (ret := some .boolean) (by decide) rfl ?_
  intro p e s m args below meth c s₁ B hml hv
  obtain ⟨rfl, -⟩ := hv
  have hx := B.exec
  have hb := B.bytes
  have hr := B.returns
  have hts : ∀ w ∈ lw_g, w.before _ s = true := fun w h => atoms_spec (ws := wc_ws yX10_isSlip cX10_isSlip 1 (some .boolean)) B.pre w (List.mem_cons_of_mem _ h)
  have hown : s.vm.findClass RX10 = some m.cls := findClass_of_methodNamed B.named
  have hlocks := B.notSynchronized
  have hS : va_S (fun _ => False) s.heap s.heap [] := va_S.rf
  have hl := lv_entry ([.int p1]) (n := 1) (Nat.le_of_ble_eq_true rfl)
  rw [lg_entry_eq]
  generalize (lg_sl ([.int p1]) ++ List.replicate (1 - (lg_sl ([.int p1])).length) Slot.unset).toArray = ls at hl ⊢
  have hl : lv_has ls 1 [(0, .int p1)] := hl
  refine wq_all ?_
  intro WW w1 w2
  refine lv_iload_n hx hb dX10_isSlip_0 rfl (lv_at hl 0 rfl) ?_
  refine lv_iconst (v := 2) hx hb dX10_isSlip_1 (by decide) ?_
  refine lv_icmp_lt (tgt := 15) hx hb dX10_isSlip_2 (by decide) (fun c2 => ?_) (fun c2 => ?_)
  · have rp1_2 : ir p1 (-2147483648) 1 := ⟨((ir_any p1)).1, Int.le_trans (rf_lt c2 (ir_any p1) (ir_c (2) (by decide) : ir (2 : Int32) (2) (2))).1 (by decide)⟩
    refine lv_iconst (v := 0) hx hb dX10_isSlip_15 (by decide) ?_
    exact W.zret (v := (0 : Int32)) hx hb hr rfl (fun t ht _ => ⟨⟨(0 : Int32), (), rfl, (⟨⟨by decide, by decide⟩, fun h => absurd rfl h⟩), trivial⟩, hS.F ht⟩) hS.2.2 dX10_isSlip_16
  · have rp1_2 : ir p1 2 2147483647 := ⟨Int.le_trans (by decide) (rf_le (rf_nlt c2) (ir_c (2) (by decide) : ir (2 : Int32) (2) (2)) (ir_any p1)).2, ((ir_any p1)).2⟩
    refine lv_iload_n hx hb dX10_isSlip_5 rfl (lv_at hl 0 rfl) ?_
    refine lv_bipush (v := 12) hx hb dX10_isSlip_6 (by decide) ?_
    refine lv_icmp_gt (tgt := 15) hx hb dX10_isSlip_8 (by decide) (fun c8 => ?_) (fun c8 => ?_)
    · have rp1_8 : ir p1 13 2147483647 := ⟨Int.le_trans (by decide) (rf_lt c8 (ir_c (12) (by decide) : ir (12 : Int32) (12) (12)) rp1_2).2, (rp1_2).2⟩
      refine lv_iconst (v := 0) hx hb dX10_isSlip_15 (by decide) ?_
      exact W.zret (v := (0 : Int32)) hx hb hr rfl (fun t ht _ => ⟨⟨(0 : Int32), (), rfl, (⟨⟨by decide, by decide⟩, fun h => absurd rfl h⟩), trivial⟩, hS.F ht⟩) hS.2.2 dX10_isSlip_16
    · have rp1_8 : ir p1 2 12 := ⟨(rp1_2).1, Int.le_trans (rf_le (rf_nlt c8) rp1_2 (ir_c (12) (by decide) : ir (12 : Int32) (12) (12))).1 (by decide)⟩
      refine lv_iconst (v := 1) hx hb dX10_isSlip_11 (by decide) ?_
      refine lv_goto (tgt := 16) hx hb dX10_isSlip_12 (by decide) ?_
      exact W.zret (v := (1 : Int32)) hx hb hr rfl (fun t ht _ => ⟨⟨(1 : Int32), (), rfl, (⟨⟨by decide, by decide⟩, fun _ => rp1_8⟩), trivial⟩, hS.F ht⟩) hS.2.2 dX10_isSlip_16
set_option maxHeartbeats 4000000 in
set_option maxRecDepth 100000 in
theorem m_X10_isTangent (l : Launch) (p1 : Int64) (p2 : Int64) : pMi l yX10_isTangent cX10_isTangent 5 .boolean { frames := 0, cells := 0, slots := 0, locals := 0 } [.long p1, .long p2] (fun r => ir r 0 1 ∧ (¬ r = 0 → lr p1 0 6 ∧ lr p2 0 6)) := by
  refine Met.ofW (cc := cX10_isTangent) (maxL := 5) (ret := some .boolean) (by decide) rfl ?_
  intro p e s m args below meth c s₁ B hml hv
  obtain ⟨rfl, -⟩ := hv
  have hx := B.exec
  have hb := B.bytes
  have hr := B.returns
  have hts : ∀ w ∈ lw_g, w.before _ s = true := fun w h => atoms_spec (ws := wc_ws yX10_isTangent cX10_isTangent 5 (some .boolean)) B.pre w (List.mem_cons_of_mem _ h)
  have hown : s.vm.findClass RX10 = some m.cls := findClass_of_methodNamed B.named
  have hlocks := B.notSynchronized
  have hS : va_S (fun _ => False) s.heap s.heap [] := va_S.rf
  have hl := lv_entry ([.long p1, .long p2]) (n := 5) (Nat.le_of_ble_eq_true rfl)
  rw [lg_entry_eq]
  generalize (lg_sl ([.long p1, .long p2]) ++ List.replicate (5 - (lg_sl ([.long p1, .long p2])).length) Slot.unset).toArray = ls at hl ⊢
  have hl : lv_has ls 5 [(0, .long p1), (2, .long p2)] := hl
  refine wq_all ?_
  intro WW w1 w2
  refine lv_lload_n hx hb dX10_isTangent_0 rfl (lv_at hl 0 rfl) ?_
  refine lv_lconst (v := 1) hx hb dX10_isTangent_1 (by decide) ?_
  refine wl_ne (tgt := 16) hx hb dX10_isTangent_2 dX10_isTangent_3 (by decide) (fun c2 => ?_) (fun c2 => ?_)
  · have c2 : p1.toInt ≠ (1 : Int) := c2
    refine lv_iconst (v := 0) hx hb dX10_isTangent_16 (by decide) ?_
    refine lv_istore (lv' := [(4, .int (0 : Int32)), (0, .long p1), (2, .long p2)]) hx hb dX10_isTangent_17 hl (by decide) rfl (fun ls hl => ?_)
    refine lv_iload hx hb dX10_isTangent_19 (lv_at hl 0 rfl) ?_
    refine lv_if_ne (tgt := 52) hx hb dX10_isTangent_21 (by decide) (fun c21 => ?_) (fun c21 => ?_)
    · exact absurd rfl c21
    · refine lv_lload_n hx hb dX10_isTangent_24 rfl (lv_at hl 1 rfl) ?_
      refine lv_lconst (v := 0) hx hb dX10_isTangent_25 (by decide) ?_
      refine wl_lt (tgt := 56) hx hb dX10_isTangent_26 dX10_isTangent_27 (by decide) (fun c26 => ?_) (fun c26 => ?_)
      · have c26 : p1.toInt < (0 : Int) := c26
        have rp1_26 : lr p1 (-9223372036854775808) (-1) := by have h8 := (lr_any p1); have h9 := (lr_c (0) (by decide) : lr (0 : Int64) (0) (0)); constructor <;> omega
        refine lv_iconst (v := 0) hx hb dX10_isTangent_56 (by decide) ?_
        exact W.zret (v := (0 : Int32)) hx hb hr rfl (fun t ht _ => ⟨⟨(0 : Int32), (), rfl, (⟨⟨by decide, by decide⟩, fun h => absurd rfl h⟩), trivial⟩, hS.F ht⟩) hS.2.2 dX10_isTangent_57
      · have c26 : (0 : Int) ≤ p1.toInt := c26
        have rp1_26 : lr p1 0 9223372036854775807 := by have h8 := (lr_any p1); have h9 := (lr_c (0) (by decide) : lr (0 : Int64) (0) (0)); constructor <;> omega
        refine lv_lload_n hx hb dX10_isTangent_30 rfl (lv_at hl 1 rfl) ?_
        refine lv_ldc2 hx hb hown (hts _ q495) dX10_isTangent_31 ?_
        refine wl_gt (tgt := 56) hx hb dX10_isTangent_34 dX10_isTangent_35 (by decide) (fun c34 => ?_) (fun c34 => ?_)
        · have c34 : (6 : Int) < p1.toInt := c34
          have rp1_34 : lr p1 7 9223372036854775807 := by have h8 := rp1_26; have h9 := (lr_c (6) (by decide) : lr (6 : Int64) (6) (6)); constructor <;> omega
          refine lv_iconst (v := 0) hx hb dX10_isTangent_56 (by decide) ?_
          exact W.zret (v := (0 : Int32)) hx hb hr rfl (fun t ht _ => ⟨⟨(0 : Int32), (), rfl, (⟨⟨by decide, by decide⟩, fun h => absurd rfl h⟩), trivial⟩, hS.F ht⟩) hS.2.2 dX10_isTangent_57
        · have c34 : p1.toInt ≤ (6 : Int) := c34
          have rp1_34 : lr p1 0 6 := by have h8 := rp1_26; have h9 := (lr_c (6) (by decide) : lr (6 : Int64) (6) (6)); constructor <;> omega
          refine lv_lload_n hx hb dX10_isTangent_38 rfl (lv_at hl 2 rfl) ?_
          refine lv_lconst (v := 1) hx hb dX10_isTangent_39 (by decide) ?_
          refine wl_lt (tgt := 56) hx hb dX10_isTangent_40 dX10_isTangent_41 (by decide) (fun c40 => ?_) (fun c40 => ?_)
          · have c40 : p2.toInt < (1 : Int) := c40
            have rp2_40 : lr p2 (-9223372036854775808) 0 := by have h8 := (lr_any p2); have h9 := (lr_c (1) (by decide) : lr (1 : Int64) (1) (1)); constructor <;> omega
            refine lv_iconst (v := 0) hx hb dX10_isTangent_56 (by decide) ?_
            exact W.zret (v := (0 : Int32)) hx hb hr rfl (fun t ht _ => ⟨⟨(0 : Int32), (), rfl, (⟨⟨by decide, by decide⟩, fun h => absurd rfl h⟩), trivial⟩, hS.F ht⟩) hS.2.2 dX10_isTangent_57
          · have c40 : (1 : Int) ≤ p2.toInt := c40
            have rp2_40 : lr p2 1 9223372036854775807 := by have h8 := (lr_any p2); have h9 := (lr_c (1) (by decide) : lr (1 : Int64) (1) (1)); constructor <;> omega
            refine lv_lload_n hx hb dX10_isTangent_44 rfl (lv_at hl 2 rfl) ?_
            refine lv_ldc2 hx hb hown (hts _ q495) dX10_isTangent_45 ?_
            refine wl_gt (tgt := 56) hx hb dX10_isTangent_48 dX10_isTangent_49 (by decide) (fun c48 => ?_) (fun c48 => ?_)
            · have c48 : (6 : Int) < p2.toInt := c48
              have rp2_48 : lr p2 7 9223372036854775807 := by have h8 := rp2_40; have h9 := (lr_c (6) (by decide) : lr (6 : Int64) (6) (6)); constructor <;> omega
              refine lv_iconst (v := 0) hx hb dX10_isTangent_56 (by decide) ?_
              exact W.zret (v := (0 : Int32)) hx hb hr rfl (fun t ht _ => ⟨⟨(0 : Int32), (), rfl, (⟨⟨by decide, by decide⟩, fun h => absurd rfl h⟩), trivial⟩, hS.F ht⟩) hS.2.2 dX10_isTangent_57
            · have c48 : p2.toInt ≤ (6 : Int) := c48
              have rp2_48 : lr p2 1 6 := by have h8 := rp2_40; have h9 := (lr_c (6) (by decide) : lr (6 : Int64) (6) (6)); constructor <;> omega
              refine lv_iconst (v := 1) hx hb dX10_isTangent_52 (by decide) ?_
              refine lv_goto (tgt := 57) hx hb dX10_isTangent_53 (by decide) ?_
              exact W.zret (v := (1 : Int32)) hx hb hr rfl (fun t ht _ => ⟨⟨(1 : Int32), (), rfl, (⟨⟨by decide, by decide⟩, fun _ => ⟨rp1_34, (lr_w (lo' := 0) (hi' := 6) rp2_48 (by decide) (by decide))⟩⟩), trivial⟩, hS.F ht⟩) hS.2.2 dX10_isTangent_57
  · have c2 : p1.toInt = (1 : Int) := c2
    have rp1_2 : lr p1 1 1 := by have h8 := (lr_any p1); have h9 := (lr_c (1) (by decide) : lr (1 : Int64) (1) (1)); constructor <;> omega
    refine lv_lload_n hx hb dX10_isTangent_6 rfl (lv_at hl 1 rfl) ?_
    refine lv_lconst (v := 0) hx hb dX10_isTangent_7 (by decide) ?_
    refine wl_ne (tgt := 16) hx hb dX10_isTangent_8 dX10_isTangent_9 (by decide) (fun c8 => ?_) (fun c8 => ?_)
    · have c8 : p2.toInt ≠ (0 : Int) := c8
      refine lv_iconst (v := 0) hx hb dX10_isTangent_16 (by decide) ?_
      refine lv_istore (lv' := [(4, .int (0 : Int32)), (0, .long p1), (2, .long p2)]) hx hb dX10_isTangent_17 hl (by decide) rfl (fun ls hl => ?_)
      refine lv_iload hx hb dX10_isTangent_19 (lv_at hl 0 rfl) ?_
      refine lv_if_ne (tgt := 52) hx hb dX10_isTangent_21 (by decide) (fun c21 => ?_) (fun c21 => ?_)
      · exact absurd rfl c21
      · refine lv_lload_n hx hb dX10_isTangent_24 rfl (lv_at hl 1 rfl) ?_
        refine lv_lconst (v := 0) hx hb dX10_isTangent_25 (by decide) ?_
        refine wl_lt (tgt := 56) hx hb dX10_isTangent_26 dX10_isTangent_27 (by decide) (fun c26 => ?_) (fun c26 => ?_)
        · have c26 : p1.toInt < (0 : Int) := c26
          exact absurd c26 (by have h8 := rp1_2; have h9 := (lr_c (0) (by decide) : lr (0 : Int64) (0) (0)); omega)
        · have c26 : (0 : Int) ≤ p1.toInt := c26
          refine lv_lload_n hx hb dX10_isTangent_30 rfl (lv_at hl 1 rfl) ?_
          refine lv_ldc2 hx hb hown (hts _ q495) dX10_isTangent_31 ?_
          refine wl_gt (tgt := 56) hx hb dX10_isTangent_34 dX10_isTangent_35 (by decide) (fun c34 => ?_) (fun c34 => ?_)
          · have c34 : (6 : Int) < p1.toInt := c34
            exact absurd c34 (by have h8 := rp1_2; have h9 := (lr_c (6) (by decide) : lr (6 : Int64) (6) (6)); omega)
          · have c34 : p1.toInt ≤ (6 : Int) := c34
            refine lv_lload_n hx hb dX10_isTangent_38 rfl (lv_at hl 2 rfl) ?_
            refine lv_lconst (v := 1) hx hb dX10_isTangent_39 (by decide) ?_
            refine wl_lt (tgt := 56) hx hb dX10_isTangent_40 dX10_isTangent_41 (by decide) (fun c40 => ?_) (fun c40 => ?_)
            · have c40 : p2.toInt < (1 : Int) := c40
              have rp2_40 : lr p2 (-9223372036854775808) 0 := by have h8 := (lr_any p2); have h9 := (lr_c (1) (by decide) : lr (1 : Int64) (1) (1)); constructor <;> omega
              refine lv_iconst (v := 0) hx hb dX10_isTangent_56 (by decide) ?_
              exact W.zret (v := (0 : Int32)) hx hb hr rfl (fun t ht _ => ⟨⟨(0 : Int32), (), rfl, (⟨⟨by decide, by decide⟩, fun h => absurd rfl h⟩), trivial⟩, hS.F ht⟩) hS.2.2 dX10_isTangent_57
            · have c40 : (1 : Int) ≤ p2.toInt := c40
              have rp2_40 : lr p2 1 9223372036854775807 := by have h8 := (lr_any p2); have h9 := (lr_c (1) (by decide) : lr (1 : Int64) (1) (1)); constructor <;> omega
              refine lv_lload_n hx hb dX10_isTangent_44 rfl (lv_at hl 2 rfl) ?_
              refine lv_ldc2 hx hb hown (hts _ q495) dX10_isTangent_45 ?_
              refine wl_gt (tgt := 56) hx hb dX10_isTangent_48 dX10_isTangent_49 (by decide) (fun c48 => ?_) (fun c48 => ?_)
              · have c48 : (6 : Int) < p2.toInt := c48
                have rp2_48 : lr p2 7 9223372036854775807 := by have h8 := rp2_40; have h9 := (lr_c (6) (by decide) : lr (6 : Int64) (6) (6)); constructor <;> omega
                refine lv_iconst (v := 0) hx hb dX10_isTangent_56 (by decide) ?_
                exact W.zret (v := (0 : Int32)) hx hb hr rfl (fun t ht _ => ⟨⟨(0 : Int32), (), rfl, (⟨⟨by decide, by decide⟩, fun h => absurd rfl h⟩), trivial⟩, hS.F ht⟩) hS.2.2 dX10_isTangent_57
              · have c48 : p2.toInt ≤ (6 : Int) := c48
                have rp2_48 : lr p2 1 6 := by have h8 := rp2_40; have h9 := (lr_c (6) (by decide) : lr (6 : Int64) (6) (6)); constructor <;> omega
                refine lv_iconst (v := 1) hx hb dX10_isTangent_52 (by decide) ?_
                refine lv_goto (tgt := 57) hx hb dX10_isTangent_53 (by decide) ?_
                exact W.zret (v := (1 : Int32)) hx hb hr rfl (fun t ht _ => ⟨⟨(1 : Int32), (), rfl, (⟨⟨by decide, by decide⟩, fun _ => ⟨(lr_w (lo' := 0) (hi' := 6) rp1_2 (by decide) (by decide)), (lr_w (lo' := 0) (hi' := 6) rp2_48 (by decide) (by decide))⟩⟩), trivial⟩, hS.F ht⟩) hS.2.2 dX10_isTangent_57
    · have c8 : p2.toInt = (0 : Int) := c8
      have rp2_8 : lr p2 0 0 := by have h8 := (lr_any p2); have h9 := (lr_c (0) (by decide) : lr (0 : Int64) (0) (0)); constructor <;> omega
      refine lv_iconst (v := 1) hx hb dX10_isTangent_12 (by decide) ?_
      refine lv_goto (tgt := 17) hx hb dX10_isTangent_13 (by decide) ?_
      refine lv_istore (lv' := [(4, .int (1 : Int32)), (0, .long p1), (2, .long p2)]) hx hb dX10_isTangent_17 hl (by decide) rfl (fun ls hl => ?_)
      refine lv_iload hx hb dX10_isTangent_19 (lv_at hl 0 rfl) ?_
      refine lv_if_ne (tgt := 52) hx hb dX10_isTangent_21 (by decide) (fun c21 => ?_) (fun c21 => ?_)
      · refine lv_iconst (v := 1) hx hb dX10_isTangent_52 (by decide) ?_
        refine lv_goto (tgt := 57) hx hb dX10_isTangent_53 (by decide) ?_
        exact W.zret (v := (1 : Int32)) hx hb hr rfl (fun t ht _ => ⟨⟨(1 : Int32), (), rfl, (⟨⟨by decide, by decide⟩, fun _ => ⟨(lr_w (lo' := 0) (hi' := 6) rp1_2 (by decide) (by decide)), (lr_w (lo' := 0) (hi' := 6) rp2_8 (by decide) (by decide))⟩⟩), trivial⟩, hS.F ht⟩) hS.2.2 dX10_isTangent_57
      · exact absurd c21 (by decide)
set_option maxHeartbeats 4000000 in
set_option maxRecDepth 100000 in
theorem m_X10_isInSet (l : Launch) (p1 : Int32) (p2 : Int32) : pMi l yX10_isInSet cX10_isInSet 2 .boolean { frames := 0, cells := 0, slots := 0, locals := 0 } [.int p1, .int p2] (fun r => ir r 0 1) := by
  refine Met.ofW (cc := cX10_isInSet) (maxL := 2) (ret := some .boolean) (by decide) rfl ?_
  intro p e s m args below meth c s₁ B hml hv
  obtain ⟨rfl, -⟩ := hv
  have hx := B.exec
  have hb := B.bytes
  have hr := B.returns
  have hts : ∀ w ∈ lw_g, w.before _ s = true := fun w h => atoms_spec (ws := wc_ws yX10_isInSet cX10_isInSet 2 (some .boolean)) B.pre w (List.mem_cons_of_mem _ h)
  have hown : s.vm.findClass RX10 = some m.cls := findClass_of_methodNamed B.named
  have hlocks := B.notSynchronized
  have hS : va_S (fun _ => False) s.heap s.heap [] := va_S.rf
  have hl := lv_entry ([.int p1, .int p2]) (n := 2) (Nat.le_of_ble_eq_true rfl)
  rw [lg_entry_eq]
  generalize (lg_sl ([.int p1, .int p2]) ++ List.replicate (2 - (lg_sl ([.int p1, .int p2])).length) Slot.unset).toArray = ls at hl ⊢
  have hl : lv_has ls 2 [(0, .int p1), (1, .int p2)] := hl
  refine wq_all ?_
  intro WW w1 w2
  refine lv_iload_n hx hb dX10_isInSet_0 rfl (lv_at hl 0 rfl) ?_
  refine lv_iload_n hx hb dX10_isInSet_1 rfl (lv_at hl 1 rfl) ?_
  refine lv_ishr hx hb dX10_isInSet_2 ?_
  refine lv_topi (fun x2 e2 => ?_)
  refine lv_iconst (v := 1) hx hb dX10_isInSet_3 (by decide) ?_
  refine lv_iand hx hb dX10_isInSet_4 ?_
  refine lv_topi (fun x4 e4 => ?_)
  have r4 : ir x4 0 1 := ir_and e4 (ir_w (ir_c (1) (by decide) : ir (1 : Int32) (1) (1)) (by decide) (by decide))
  refine lv_if_eq (tgt := 12) hx hb dX10_isInSet_5 (by decide) (fun c5 => ?_) (fun c5 => ?_)
  · have rx4_5 : ir x4 0 0 := rf_eq c5 (ir_c (0) (by decide) : ir (0 : Int32) (0) (0))
    refine lv_iconst (v := 0) hx hb dX10_isInSet_12 (by decide) ?_
    exact W.zret (v := (0 : Int32)) hx hb hr rfl (fun t ht _ => ⟨⟨(0 : Int32), (), rfl, (⟨by decide, by decide⟩), trivial⟩, hS.F ht⟩) hS.2.2 dX10_isInSet_13
  · have rx4_5 : ir x4 1 1 := rf_ne0 c5 r4
    refine lv_iconst (v := 1) hx hb dX10_isInSet_8 (by decide) ?_
    refine lv_goto (tgt := 13) hx hb dX10_isInSet_9 (by decide) ?_
    exact W.zret (v := (1 : Int32)) hx hb hr rfl (fun t ht _ => ⟨⟨(1 : Int32), (), rfl, (⟨by decide, by decide⟩), trivial⟩, hS.F ht⟩) hS.2.2 dX10_isInSet_13
set_option maxHeartbeats 4000000 in
set_option maxRecDepth 100000 in
theorem m_X10_areSets (l : Launch) (p1 : Int32) (p2 : Int32) (p3 : Int32) : pMi l yX10_areSets cX10_areSets 3 .boolean { frames := 0, cells := 0, slots := 0, locals := 0 } [.int p1, .int p2, .int p3] (fun r => ir r 0 1) := by
  refine Met.ofW (cc := cX10_areSets) (maxL := 3) (ret := some .boolean) (by decide) rfl ?_
  intro p e s m args below meth c s₁ B hml hv
  obtain ⟨rfl, -⟩ := hv
  have hx := B.exec
  have hb := B.bytes
  have hr := B.returns
  have hts : ∀ w ∈ lw_g, w.before _ s = true := fun w h => atoms_spec (ws := wc_ws yX10_areSets cX10_areSets 3 (some .boolean)) B.pre w (List.mem_cons_of_mem _ h)
  have hown : s.vm.findClass RX10 = some m.cls := findClass_of_methodNamed B.named
  have hlocks := B.notSynchronized
  have hS : va_S (fun _ => False) s.heap s.heap [] := va_S.rf
  have hl := lv_entry ([.int p1, .int p2, .int p3]) (n := 3) (Nat.le_of_ble_eq_true rfl)
  rw [lg_entry_eq]
  generalize (lg_sl ([.int p1, .int p2, .int p3]) ++ List.replicate (3 - (lg_sl ([.int p1, .int p2, .int p3])).length) Slot.unset).toArray = ls at hl ⊢
  have hl : lv_has ls 3 [(0, .int p1), (1, .int p2), (2, .int p3)] := hl
  refine wq_all ?_
  intro WW w1 w2
  refine lv_iload_n hx hb dX10_areSets_0 rfl (lv_at hl 0 rfl) ?_
  refine lv_bipush (v := 15) hx hb dX10_areSets_1 (by decide) ?_
  refine lv_iand hx hb dX10_areSets_3 ?_
  refine lv_topi (fun x3 e3 => ?_)
  have r3 : ir x3 0 15 := ir_and e3 (ir_w (ir_c (15) (by decide) : ir (15 : Int32) (15) (15)) (by decide) (by decide))
  refine lv_if_eq (tgt := 25) hx hb dX10_areSets_4 (by decide) (fun c4 => ?_) (fun c4 => ?_)
  · have rx3_4 : ir x3 0 0 := rf_eq c4 (ir_c (0) (by decide) : ir (0 : Int32) (0) (0))
    refine lv_iconst (v := 0) hx hb dX10_areSets_25 (by decide) ?_
    exact W.zret (v := (0 : Int32)) hx hb hr rfl (fun t ht _ => ⟨⟨(0 : Int32), (), rfl, (⟨by decide, by decide⟩), trivial⟩, hS.F ht⟩) hS.2.2 dX10_areSets_26
  · have rx3_4 : ir x3 1 15 := rf_ne0 c4 r3
    refine lv_iload_n hx hb dX10_areSets_7 rfl (lv_at hl 1 rfl) ?_
    refine lv_bipush (v := 63) hx hb dX10_areSets_8 (by decide) ?_
    refine lv_iand hx hb dX10_areSets_10 ?_
    refine lv_topi (fun x10 e10 => ?_)
    have r10 : ir x10 0 63 := ir_and e10 (ir_w (ir_c (63) (by decide) : ir (63 : Int32) (63) (63)) (by decide) (by decide))
    refine lv_if_eq (tgt := 25) hx hb dX10_areSets_11 (by decide) (fun c11 => ?_) (fun c11 => ?_)
    · have rx10_11 : ir x10 0 0 := rf_eq c11 (ir_c (0) (by decide) : ir (0 : Int32) (0) (0))
      refine lv_iconst (v := 0) hx hb dX10_areSets_25 (by decide) ?_
      exact W.zret (v := (0 : Int32)) hx hb hr rfl (fun t ht _ => ⟨⟨(0 : Int32), (), rfl, (⟨by decide, by decide⟩), trivial⟩, hS.F ht⟩) hS.2.2 dX10_areSets_26
    · have rx10_11 : ir x10 1 63 := rf_ne0 c11 r10
      refine lv_iload_n hx hb dX10_areSets_14 rfl (lv_at hl 2 rfl) ?_
      refine lv_bipush (v := 127) hx hb dX10_areSets_15 (by decide) ?_
      refine lv_iand hx hb dX10_areSets_17 ?_
      refine lv_topi (fun x17 e17 => ?_)
      have r17 : ir x17 0 127 := ir_and e17 (ir_w (ir_c (127) (by decide) : ir (127 : Int32) (127) (127)) (by decide) (by decide))
      refine lv_if_eq (tgt := 25) hx hb dX10_areSets_18 (by decide) (fun c18 => ?_) (fun c18 => ?_)
      · have rx17_18 : ir x17 0 0 := rf_eq c18 (ir_c (0) (by decide) : ir (0 : Int32) (0) (0))
        refine lv_iconst (v := 0) hx hb dX10_areSets_25 (by decide) ?_
        exact W.zret (v := (0 : Int32)) hx hb hr rfl (fun t ht _ => ⟨⟨(0 : Int32), (), rfl, (⟨by decide, by decide⟩), trivial⟩, hS.F ht⟩) hS.2.2 dX10_areSets_26
      · have rx17_18 : ir x17 1 127 := rf_ne0 c18 r17
        refine lv_iconst (v := 1) hx hb dX10_areSets_21 (by decide) ?_
        refine lv_goto (tgt := 26) hx hb dX10_areSets_22 (by decide) ?_
        exact W.zret (v := (1 : Int32)) hx hb hr rfl (fun t ht _ => ⟨⟨(1 : Int32), (), rfl, (⟨by decide, by decide⟩), trivial⟩, hS.F ht⟩) hS.2.2 dX10_areSets_26
set_option maxHeartbeats 4000000 in
set_option maxRecDepth 100000 in
theorem m_X10_materialOf (l : Launch) (p1 : Int32) (rp1 : ir p1 0 383) : pMi l yX10_materialOf cX10_materialOf 1 .int { frames := 0, cells := 0, slots := 0, locals := 0 } [.int p1] (fun r => ir r 0 5) := by
  refine Met.ofW (cc := cX10_materialOf) (maxL := 1) (ret := some .int) (by decide) rfl ?_
  intro p e s m args below meth c s₁ B hml hv
  obtain ⟨rfl, -⟩ := hv
  have hx := B.exec
  have hb := B.bytes
  have hr := B.returns
  have hts : ∀ w ∈ lw_g, w.before _ s = true := fun w h => atoms_spec (ws := wc_ws yX10_materialOf cX10_materialOf 1 (some .int)) B.pre w (List.mem_cons_of_mem _ h)
  have hown : s.vm.findClass RX10 = some m.cls := findClass_of_methodNamed B.named
  have hlocks := B.notSynchronized
  have hS : va_S (fun _ => False) s.heap s.heap [] := va_S.rf
  have hl := lv_entry ([.int p1]) (n := 1) (Nat.le_of_ble_eq_true rfl)
  rw [lg_entry_eq]
  generalize (lg_sl ([.int p1]) ++ List.replicate (1 - (lg_sl ([.int p1])).length) Slot.unset).toArray = ls at hl ⊢
  have hl : lv_has ls 1 [(0, .int p1)] := hl
  refine wq_all ?_
  intro WW w1 w2
  refine lv_iload_n hx hb dX10_materialOf_0 rfl (lv_at hl 0 rfl) ?_
  refine lv_bipush (v := 6) hx hb dX10_materialOf_1 (by decide) ?_
  refine lv_ishr hx hb dX10_materialOf_3 ?_
  refine lv_topi (fun x3 e3 => ?_)
  have r3 : ir x3 0 5 := ir_shr6 e3 (ir_w rp1 (by decide) (by decide))
  exact W.iret (v := x3) hx hb hr (fun t ht _ => ⟨⟨x3, (), rfl, r3, trivial⟩, hS.F ht⟩) hS.2.2 dX10_materialOf_4
set_option maxHeartbeats 4000000 in
set_option maxRecDepth 100000 in
theorem m_X10_pOf (l : Launch) (p1 : Int32) : pMi l yX10_pOf cX10_pOf 1 .int { frames := 0, cells := 0, slots := 0, locals := 0 } [.int p1] (fun r => ir r 0 7) := by
  refine Met.ofW (cc := cX10_pOf) (maxL := 1) (ret := some .int) (by decide) rfl ?_
  intro p e s m args below meth c s₁ B hml hv
  obtain ⟨rfl, -⟩ := hv
  have hx := B.exec
  have hb := B.bytes
  have hr := B.returns
  have hts : ∀ w ∈ lw_g, w.before _ s = true := fun w h => atoms_spec (ws := wc_ws yX10_pOf cX10_pOf 1 (some .int)) B.pre w (List.mem_cons_of_mem _ h)
  have hown : s.vm.findClass RX10 = some m.cls := findClass_of_methodNamed B.named
  have hlocks := B.notSynchronized
  have hS : va_S (fun _ => False) s.heap s.heap [] := va_S.rf
  have hl := lv_entry ([.int p1]) (n := 1) (Nat.le_of_ble_eq_true rfl)
  rw [lg_entry_eq]
  generalize (lg_sl ([.int p1]) ++ List.replicate (1 - (lg_sl ([.int p1])).length) Slot.unset).toArray = ls at hl ⊢
  have hl : lv_has ls 1 [(0, .int p1)] := hl
  refine wq_all ?_
  intro WW w1 w2
  refine lv_iload_n hx hb dX10_pOf_0 rfl (lv_at hl 0 rfl) ?_
  refine lv_iconst (v := 3) hx hb dX10_pOf_1 (by decide) ?_
  refine lv_ishr hx hb dX10_pOf_2 ?_
  refine lv_topi (fun x2 e2 => ?_)
  refine lv_bipush (v := 7) hx hb dX10_pOf_3 (by decide) ?_
  refine lv_iand hx hb dX10_pOf_5 ?_
  refine lv_topi (fun x5 e5 => ?_)
  have r5 : ir x5 0 7 := ir_and e5 (ir_w (ir_c (7) (by decide) : ir (7 : Int32) (7) (7)) (by decide) (by decide))
  exact W.iret (v := x5) hx hb hr (fun t ht _ => ⟨⟨x5, (), rfl, r5, trivial⟩, hS.F ht⟩) hS.2.2 dX10_pOf_6
set_option maxHeartbeats 4000000 in
set_option maxRecDepth 100000 in
theorem m_X10_qOf (l : Launch) (p1 : Int32) : pMi l yX10_qOf cX10_qOf 1 .int { frames := 0, cells := 0, slots := 0, locals := 0 } [.int p1] (fun r => ir r 0 7) := by
  refine Met.ofW (cc := cX10_qOf) (maxL := 1) (ret := some .int) (by decide) rfl ?_
  intro p e s m args below meth c s₁ B hml hv
  obtain ⟨rfl, -⟩ := hv
  have hx := B.exec
  have hb := B.bytes
  have hr := B.returns
  have hts : ∀ w ∈ lw_g, w.before _ s = true := fun w h => atoms_spec (ws := wc_ws yX10_qOf cX10_qOf 1 (some .int)) B.pre w (List.mem_cons_of_mem _ h)
  have hown : s.vm.findClass RX10 = some m.cls := findClass_of_methodNamed B.named
  have hlocks := B.notSynchronized
  have hS : va_S (fun _ => False) s.heap s.heap [] := va_S.rf
  have hl := lv_entry ([.int p1]) (n := 1) (Nat.le_of_ble_eq_true rfl)
  rw [lg_entry_eq]
  generalize (lg_sl ([.int p1]) ++ List.replicate (1 - (lg_sl ([.int p1])).length) Slot.unset).toArray = ls at hl ⊢
  have hl : lv_has ls 1 [(0, .int p1)] := hl
  refine wq_all ?_
  intro WW w1 w2
  refine lv_iload_n hx hb dX10_qOf_0 rfl (lv_at hl 0 rfl) ?_
  refine lv_bipush (v := 7) hx hb dX10_qOf_1 (by decide) ?_
  refine lv_iand hx hb dX10_qOf_3 ?_
  refine lv_topi (fun x3 e3 => ?_)
  have r3 : ir x3 0 7 := ir_and e3 (ir_w (ir_c (7) (by decide) : ir (7 : Int32) (7) (7)) (by decide) (by decide))
  exact W.iret (v := x3) hx hb hr (fun t ht _ => ⟨⟨x3, (), rfl, r3, trivial⟩, hS.F ht⟩) hS.2.2 dX10_qOf_4
set_option maxHeartbeats 4000000 in
set_option maxRecDepth 100000 in
theorem m_X10_codeOf (l : Launch) (p1 : Int32) (rp1 : ir p1 0 5) (p2 : Int32) (rp2 : ir p2 0 7) (p3 : Int32) (rp3 : ir p3 0 7) : pMi l yX10_codeOf cX10_codeOf 6 .int { frames := 1, cells := 0, slots := 0, locals := 30 } [.int p1, .int p2, .int p3] (fun r => ir r 0 383) := by
  refine Met.ofW (cc := cX10_codeOf) (maxL := 6) (ret := some .int) (by decide) rfl ?_
  intro p e s m args below meth c s₁ B hml hv
  obtain ⟨rfl, -⟩ := hv
  have hx := B.exec
  have hb := B.bytes
  have hr := B.returns
  have hts : ∀ w ∈ lw_g, w.before _ s = true := fun w h => atoms_spec (ws := wc_ws yX10_codeOf cX10_codeOf 6 (some .int)) B.pre w (List.mem_cons_of_mem _ h)
  have hown : s.vm.findClass RX10 = some m.cls := findClass_of_methodNamed B.named
  have hlocks := B.notSynchronized
  have hS : va_S (fun _ => False) s.heap s.heap [] := va_S.rf
  have hl := lv_entry ([.int p1, .int p2, .int p3]) (n := 6) (Nat.le_of_ble_eq_true rfl)
  rw [lg_entry_eq]
  generalize (lg_sl ([.int p1, .int p2, .int p3]) ++ List.replicate (6 - (lg_sl ([.int p1, .int p2, .int p3])).length) Slot.unset).toArray = ls at hl ⊢
  have hl : lv_has ls 6 [(0, .int p1), (1, .int p2), (2, .int p3)] := hl
  refine wq_all ?_
  intro WW w1 w2
  have J20 : ∀ (H : Heap) (locs : List Loc) (ls : Array Slot) (w20_0 : Int32), va_S (fun _ => False) s.heap H locs → lv_has ls 6 [(0, .int p1), (1, .int p2), (2, .int p3)] → ir p1 0 5 → ir p2 0 7 → ir p3 0 7 → ir w20_0 1 9 → WW H locs (F0 m 20 ls [.int w20_0]) := by
    intro H locs ls w20_0 hS hl rv20_0 rv20_1 rv20_2 rw20_0
    refine w1 _ _ _ ?_
    refine lv_istore (lv' := [(5, .int w20_0), (0, .int p1), (1, .int p2), (2, .int p3)]) hx hb dX10_codeOf_20 hl (by decide) rfl (fun ls hl => ?_)
    refine lv_iload_n hx hb dX10_codeOf_22 rfl (lv_at hl 1 rfl) ?_
    refine lv_bipush (v := 6) hx hb dX10_codeOf_23 (by decide) ?_
    refine lv_ishl hx hb dX10_codeOf_25 ?_
    refine lv_topi (fun x25 e25 => ?_)
    refine lv_iload_n hx hb dX10_codeOf_26 rfl (lv_at hl 2 rfl) ?_
    refine lv_iload hx hb dX10_codeOf_27 (lv_at hl 0 rfl) ?_
    refine lv_idiv hx hb dX10_codeOf_29 (i_ne0 rw20_0 (by decide)) ?_
    refine lv_topi (fun x29 e29 => ?_)
    have r29 : ir x29 0 7 := ir_div e29 rv20_1 rw20_0 (by decide) (by decide)
    refine lv_iconst (v := 3) hx hb dX10_codeOf_30 (by decide) ?_
    refine lv_ishl hx hb dX10_codeOf_31 ?_
    refine lv_topi (fun x31 e31 => ?_)
    refine lv_ior hx hb dX10_codeOf_32 ?_
    refine lv_topi (fun x32 e32 => ?_)
    refine lv_iload_n hx hb dX10_codeOf_33 rfl (lv_at hl 3 rfl) ?_
    refine lv_iload hx hb dX10_codeOf_34 (lv_at hl 0 rfl) ?_
    refine lv_idiv hx hb dX10_codeOf_36 (i_ne0 rw20_0 (by decide)) ?_
    refine lv_topi (fun x36 e36 => ?_)
    have r36 : ir x36 0 7 := ir_div e36 rv20_2 rw20_0 (by decide) (by decide)
    refine lv_ior hx hb dX10_codeOf_37 ?_
    refine lv_topi (fun x37 e37 => ?_)
    have r37 : ir x37 0 383 := ir_code (by rw [e37, e32, e25, e31]) rv20_0 r29 r36
    exact W.iret (v := x37) hx hb hr (fun t ht _ => ⟨⟨x37, (), rfl, r37, trivial⟩, hS.F ht⟩) hS.2.2 dX10_codeOf_38
  refine lv_iload_n hx hb dX10_codeOf_0 rfl (lv_at hl 1 rfl) ?_
  refine lv_i2l hx hb dX10_codeOf_1 rfl ?_
  refine lv_topl (fun x1 e1 => ?_)
  have r1 : lr x1 0 7 := by rw [e1]; exact i2l_r rp2
  refine lv_iload_n hx hb dX10_codeOf_2 rfl (lv_at hl 2 rfl) ?_
  refine lv_i2l hx hb dX10_codeOf_3 rfl ?_
  refine lv_topl (fun x3 e3 => ?_)
  have r3 : lr x3 0 7 := by rw [e3]; exact i2l_r rp3
  refine pp_l (wt_runS (As := [.long x1, .long x3]) (rest := []) ⟨hx, hb, hml, hown, hts⟩ (m_X10_commonDivisor_s l x1 (lr_w (lo' := 0) (hi' := 9) r1 (by decide) (by decide)) x3 (lr_w (lo' := 0) (hi' := 9) r3 (by decide) (by decide))) wm_X10_commonDivisor q375 ⟨rfl, rfl⟩ ⟨Nat.le_of_ble_eq_true rfl, Nat.le_of_ble_eq_true rfl⟩ pS_pre rfl hl.1 rfl (Nat.le_of_ble_eq_true rfl) dX10_codeOf_4 ⟨Nat.zero_le _, Nat.zero_le _⟩) hS (fun x4 H locs hp hS => ?_)
  have r4 : lr x4 0 9 := hp
  refine lv_lstore_n (lv' := [(3, .long x4), (0, .int p1), (1, .int p2), (2, .int p3)]) hx hb dX10_codeOf_7 rfl hl (by decide) rfl (fun ls hl => ?_)
  refine lv_lload_n hx hb dX10_codeOf_8 rfl (lv_at hl 0 rfl) ?_
  refine lv_lconst (v := 1) hx hb dX10_codeOf_9 (by decide) ?_
  refine wl_le (tgt := 19) hx hb dX10_codeOf_10 dX10_codeOf_11 (by decide) (fun c10 => ?_) (fun c10 => ?_)
  · have c10 : x4.toInt ≤ (1 : Int) := c10
    have rx4_10 : lr x4 0 1 := by have h8 := r4; have h9 := (lr_c (1) (by decide) : lr (1 : Int64) (1) (1)); constructor <;> omega
    refine lv_iconst (v := 1) hx hb dX10_codeOf_19 (by decide) ?_
    exact w2 _ _ _ (J20 _ _ _ (1 : Int32) hS (lv_sub hl [1, 2, 3] rfl) rp1 rp2 rp3 (ir_w (lo' := 1) (hi' := 9) (ir_c (1) (by decide) : ir (1 : Int32) (1) (1)) (by decide) (by decide)))
  · have c10 : (1 : Int) < x4.toInt := c10
    have rx4_10 : lr x4 2 9 := by have h8 := r4; have h9 := (lr_c (1) (by decide) : lr (1 : Int64) (1) (1)); constructor <;> omega
    refine lv_lload_n hx hb dX10_codeOf_14 rfl (lv_at hl 0 rfl) ?_
    refine lv_l2i hx hb dX10_codeOf_15 rfl ?_
    refine lv_topi (fun x15 e15 => ?_)
    have r15 : ir x15 2 9 := by rw [e15]; exact l2i_r rx4_10 (by decide) (by decide)
    refine lv_goto (tgt := 20) hx hb dX10_codeOf_16 (by decide) ?_
    exact w2 _ _ _ (J20 _ _ _ x15 hS (lv_sub hl [1, 2, 3] rfl) rp1 rp2 rp3 (ir_w (lo' := 1) (hi' := 9) r15 (by decide) (by decide)))
set_option maxHeartbeats 4000000 in
set_option maxRecDepth 100000 in
theorem m_X4_isBeyond (l : Launch) (p1 : Int64) : pMi l yX4_isBeyond cX4_isBeyond 2 .boolean { frames := 0, cells := 0, slots := 0, locals := 0 } [.long p1] (fun r => ir r 0 1) := by
  refine Met.ofW (cc := cX4_isBeyond) (maxL := 2) (ret := some .boolean) (by decide) rfl ?_
  intro p e s m args below meth c s₁ B hml hv
  obtain ⟨rfl, -⟩ := hv
  have hx := B.exec
  have hb := B.bytes
  have hr := B.returns
  have hts : ∀ w ∈ lw_g, w.before _ s = true := fun w h => atoms_spec (ws := wc_ws yX4_isBeyond cX4_isBeyond 2 (some .boolean)) B.pre w (List.mem_cons_of_mem _ h)
  have hown : s.vm.findClass RX4 = some m.cls := findClass_of_methodNamed B.named
  have hlocks := B.notSynchronized
  have hS : va_S (fun _ => False) s.heap s.heap [] := va_S.rf
  have hl := lv_entry ([.long p1]) (n := 2) (Nat.le_of_ble_eq_true rfl)
  rw [lg_entry_eq]
  generalize (lg_sl ([.long p1]) ++ List.replicate (2 - (lg_sl ([.long p1])).length) Slot.unset).toArray = ls at hl ⊢
  have hl : lv_has ls 2 [(0, .long p1)] := hl
  refine wq_all ?_
  intro WW w1 w2
  refine lv_lload_n hx hb dX4_isBeyond_0 rfl (lv_at hl 0 rfl) ?_
  refine lv_ldc2 hx hb hown (hts _ q579) dX4_isBeyond_1 ?_
  refine wl_gt (tgt := 16) hx hb dX4_isBeyond_4 dX4_isBeyond_5 (by decide) (fun c4 => ?_) (fun c4 => ?_)
  · have c4 : (10000000 : Int) < p1.toInt := c4
    have rp1_4 : lr p1 10000001 9223372036854775807 := by have h8 := (lr_any p1); have h9 := (lr_c (10000000) (by decide) : lr (10000000 : Int64) (10000000) (10000000)); constructor <;> omega
    refine lv_iconst (v := 1) hx hb dX4_isBeyond_16 (by decide) ?_
    refine lv_goto (tgt := 21) hx hb dX4_isBeyond_17 (by decide) ?_
    exact W.zret (v := (1 : Int32)) hx hb hr rfl (fun t ht _ => ⟨⟨(1 : Int32), (), rfl, (⟨by decide, by decide⟩), trivial⟩, hS.F ht⟩) hS.2.2 dX4_isBeyond_21
  · have c4 : p1.toInt ≤ (10000000 : Int) := c4
    have rp1_4 : lr p1 (-9223372036854775808) 10000000 := by have h8 := (lr_any p1); have h9 := (lr_c (10000000) (by decide) : lr (10000000 : Int64) (10000000) (10000000)); constructor <;> omega
    refine lv_lload_n hx hb dX4_isBeyond_8 rfl (lv_at hl 0 rfl) ?_
    refine lv_ldc2 hx hb hown (hts _ q580) dX4_isBeyond_9 ?_
    refine wl_ge (tgt := 20) hx hb dX4_isBeyond_12 dX4_isBeyond_13 (by decide) (fun c12 => ?_) (fun c12 => ?_)
    · have c12 : (-10000000 : Int) ≤ p1.toInt := c12
      have rp1_12 : lr p1 (-10000000) 10000000 := by have h8 := rp1_4; have h9 := (lr_c (-10000000) (by decide) : lr (-10000000 : Int64) (-10000000) (-10000000)); constructor <;> omega
      refine lv_iconst (v := 0) hx hb dX4_isBeyond_20 (by decide) ?_
      exact W.zret (v := (0 : Int32)) hx hb hr rfl (fun t ht _ => ⟨⟨(0 : Int32), (), rfl, (⟨by decide, by decide⟩), trivial⟩, hS.F ht⟩) hS.2.2 dX4_isBeyond_21
    · have c12 : p1.toInt < (-10000000 : Int) := c12
      have rp1_12 : lr p1 (-9223372036854775808) (-10000001) := by have h8 := rp1_4; have h9 := (lr_c (-10000000) (by decide) : lr (-10000000 : Int64) (-10000000) (-10000000)); constructor <;> omega
      refine lv_iconst (v := 1) hx hb dX4_isBeyond_16 (by decide) ?_
      refine lv_goto (tgt := 21) hx hb dX4_isBeyond_17 (by decide) ?_
      exact W.zret (v := (1 : Int32)) hx hb hr rfl (fun t ht _ => ⟨⟨(1 : Int32), (), rfl, (⟨by decide, by decide⟩), trivial⟩, hS.F ht⟩) hS.2.2 dX4_isBeyond_21
set_option maxHeartbeats 4000000 in
set_option maxRecDepth 100000 in
theorem m_X9_isDigit (l : Launch) (p1 : Int32) : pMi l yX9_isDigit cX9_isDigit 1 .boolean { frames := 0, cells := 0, slots := 0, locals := 0 } [.int p1] (fun r => ir r 0 1 ∧ (¬ r = 0 → ir p1 48 57)) := by
  refine Met.ofW (cc := cX9_isDigit) (maxL := 1) (ret := some .boolean) (by decide) rfl ?_
  intro p e s m args below meth c s₁ B hml hv
  obtain ⟨rfl, -⟩ := hv
  have hx := B.exec
  have hb := B.bytes
  have hr := B.returns
  have hts : ∀ w ∈ lw_g, w.before _ s = true := fun w h => atoms_spec (ws := wc_ws yX9_isDigit cX9_isDigit 1 (some .boolean)) B.pre w (List.mem_cons_of_mem _ h)
  have hown : s.vm.findClass RX9 = some m.cls := findClass_of_methodNamed B.named
  have hlocks := B.notSynchronized
  have hS : va_S (fun _ => False) s.heap s.heap [] := va_S.rf
  have hl := lv_entry ([.int p1]) (n := 1) (Nat.le_of_ble_eq_true rfl)
  rw [lg_entry_eq]
  generalize (lg_sl ([.int p1]) ++ List.replicate (1 - (lg_sl ([.int p1])).length) Slot.unset).toArray = ls at hl ⊢
  have hl : lv_has ls 1 [(0, .int p1)] := hl
  refine wq_all ?_
  intro WW w1 w2
  refine lv_iload_n hx hb dX9_isDigit_0 rfl (lv_at hl 0 rfl) ?_
  refine lv_bipush (v := 48) hx hb dX9_isDigit_1 (by decide) ?_
  refine lv_icmp_lt (tgt := 16) hx hb dX9_isDigit_3 (by decide) (fun c3 => ?_) (fun c3 => ?_)
  · have rp1_3 : ir p1 (-2147483648) 47 := ⟨((ir_any p1)).1, Int.le_trans (rf_lt c3 (ir_any p1) (ir_c (48) (by decide) : ir (48 : Int32) (48) (48))).1 (by decide)⟩
    refine lv_iconst (v := 0) hx hb dX9_isDigit_16 (by decide) ?_
    exact W.zret (v := (0 : Int32)) hx hb hr rfl (fun t ht _ => ⟨⟨(0 : Int32), (), rfl, (⟨⟨by decide, by decide⟩, fun h => absurd rfl h⟩), trivial⟩, hS.F ht⟩) hS.2.2 dX9_isDigit_17
  · have rp1_3 : ir p1 48 2147483647 := ⟨Int.le_trans (by decide) (rf_le (rf_nlt c3) (ir_c (48) (by decide) : ir (48 : Int32) (48) (48)) (ir_any p1)).2, ((ir_any p1)).2⟩
    refine lv_iload_n hx hb dX9_isDigit_6 rfl (lv_at hl 0 rfl) ?_
    refine lv_bipush (v := 57) hx hb dX9_isDigit_7 (by decide) ?_
    refine lv_icmp_gt (tgt := 16) hx hb dX9_isDigit_9 (by decide) (fun c9 => ?_) (fun c9 => ?_)
    · have rp1_9 : ir p1 58 2147483647 := ⟨Int.le_trans (by decide) (rf_lt c9 (ir_c (57) (by decide) : ir (57 : Int32) (57) (57)) rp1_3).2, (rp1_3).2⟩
      refine lv_iconst (v := 0) hx hb dX9_isDigit_16 (by decide) ?_
      exact W.zret (v := (0 : Int32)) hx hb hr rfl (fun t ht _ => ⟨⟨(0 : Int32), (), rfl, (⟨⟨by decide, by decide⟩, fun h => absurd rfl h⟩), trivial⟩, hS.F ht⟩) hS.2.2 dX9_isDigit_17
    · have rp1_9 : ir p1 48 57 := ⟨(rp1_3).1, Int.le_trans (rf_le (rf_nlt c9) rp1_3 (ir_c (57) (by decide) : ir (57 : Int32) (57) (57))).1 (by decide)⟩
      refine lv_iconst (v := 1) hx hb dX9_isDigit_12 (by decide) ?_
      refine lv_goto (tgt := 17) hx hb dX9_isDigit_13 (by decide) ?_
      exact W.zret (v := (1 : Int32)) hx hb hr rfl (fun t ht _ => ⟨⟨(1 : Int32), (), rfl, (⟨⟨by decide, by decide⟩, fun _ => rp1_9⟩), trivial⟩, hS.F ht⟩) hS.2.2 dX9_isDigit_17
set_option maxHeartbeats 4000000 in
set_option maxRecDepth 100000 in
theorem m_J13_compare_74951 (l : Launch) (p1 : Int64) (p2 : Int64) : pMi l yJ13_compare_74951 cJ13_compare_74951 4 .int { frames := 0, cells := 0, slots := 0, locals := 0 } [.long p1, .long p2] (fun _ => True) := by
  refine Met.ofW (cc := cJ13_compare_74951) (maxL := 4) (ret := some .int) (by decide) rfl ?_
  intro p e s m args below meth c s₁ B hml hv
  obtain ⟨rfl, -⟩ := hv
  have hx := B.exec
  have hb := B.bytes
  have hr := B.returns
  have hts : ∀ w ∈ lw_g, w.before _ s = true := fun w h => atoms_spec (ws := wc_ws yJ13_compare_74951 cJ13_compare_74951 4 (some .int)) B.pre w (List.mem_cons_of_mem _ h)
  have hown : s.vm.findClass RJ13 = some m.cls := findClass_of_methodNamed B.named
  have hlocks := B.notSynchronized
  have hS : va_S (fun _ => False) s.heap s.heap [] := va_S.rf
  have hl := lv_entry ([.long p1, .long p2]) (n := 4) (Nat.le_of_ble_eq_true rfl)
  rw [lg_entry_eq]
  generalize (lg_sl ([.long p1, .long p2]) ++ List.replicate (4 - (lg_sl ([.long p1, .long p2])).length) Slot.unset).toArray = ls at hl ⊢
  have hl : lv_has ls 4 [(0, .long p1), (2, .long p2)] := hl
  refine wq_all ?_
  intro WW w1 w2
  refine lv_lload_n hx hb dJ13_compare_74951_0 rfl (lv_at hl 0 rfl) ?_
  refine lv_lload_n hx hb dJ13_compare_74951_1 rfl (lv_at hl 1 rfl) ?_
  refine wl_ge (tgt := 10) hx hb dJ13_compare_74951_2 dJ13_compare_74951_3 (by decide) (fun c2 => ?_) (fun c2 => ?_)
  · refine lv_lload_n hx hb dJ13_compare_74951_10 rfl (lv_at hl 0 rfl) ?_
    refine lv_lload_n hx hb dJ13_compare_74951_11 rfl (lv_at hl 1 rfl) ?_
    refine wl_ne (tgt := 20) hx hb dJ13_compare_74951_12 dJ13_compare_74951_13 (by decide) (fun c12 => ?_) (fun c12 => ?_)
    · refine lv_iconst (v := 1) hx hb dJ13_compare_74951_20 (by decide) ?_
      exact W.iret (v := (1 : Int32)) hx hb hr (fun t ht _ => ⟨⟨(1 : Int32), (), rfl, trivial, trivial⟩, hS.F ht⟩) hS.2.2 dJ13_compare_74951_21
    · refine lv_iconst (v := 0) hx hb dJ13_compare_74951_16 (by decide) ?_
      refine lv_goto (tgt := 21) hx hb dJ13_compare_74951_17 (by decide) ?_
      exact W.iret (v := (0 : Int32)) hx hb hr (fun t ht _ => ⟨⟨(0 : Int32), (), rfl, trivial, trivial⟩, hS.F ht⟩) hS.2.2 dJ13_compare_74951_21
  · have rp1_2 : lr p1 (-9223372036854775808) 9223372036854775806 := by have h8 := (lr_any p1); have h9 := (lr_any p2); constructor <;> omega
    have rp2_2 : lr p2 (-9223372036854775807) 9223372036854775807 := by have h8 := (lr_any p2); have h9 := rp1_2; constructor <;> omega
    refine lv_iconst (v := -1) hx hb dJ13_compare_74951_6 (by decide) ?_
    refine lv_goto (tgt := 21) hx hb dJ13_compare_74951_7 (by decide) ?_
    exact W.iret (v := (-1 : Int32)) hx hb hr (fun t ht _ => ⟨⟨(-1 : Int32), (), rfl, trivial, trivial⟩, hS.F ht⟩) hS.2.2 dJ13_compare_74951_21
