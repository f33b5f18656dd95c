set_option maxHeartbeats 4000000 in
set_option maxRecDepth 100000 in
theorem m_J6_numberOfTrailingZeros_0f7a4 (l : Launch) (p1 : Int32) : pMi l yJ6_numberOfTrailingZeros_0f7a4 cJ6_numberOfTrailingZeros_0f7a4 2 .int { frames := 0, cells := 0, slots := 0, locals := 0 } [.int p1] (fun _ => True) := by
  refine Met.ofW (cc := cJ6_numberOfTrailingZeros_0f7a4) (maxL := 2) (ret := some .int) (by decide) rfl ?_
  intro p e s m args below meth c s₁ B hml hv
  obtain ⟨rfl, -⟩ := hv
  have hx := B.exec
  have hb := B.bytes
  have hr := B.returns
  have hts : ∀ w ∈ lw_g, w.before _ s = true := fun w h => atoms_spec (ws := wc_ws yJ6_numberOfTrailingZeros_0f7a4 cJ6_numberOfTrailingZeros_0f7a4 2 (some .int)) B.pre w (List.mem_cons_of_mem _ h)
  have hown : s.vm.findClass RJ6 = some m.cls := findClass_of_methodNamed B.named
  have hlocks := B.notSynchronized
  have hS : va_S (fun _ => False) s.heap s.heap [] := va_S.rf
  have hl := lv_entry ([.int p1]) (n := 2) (Nat.le_of_ble_eq_true rfl)
  rw [lg_entry_eq]
  generalize (lg_sl ([.int p1]) ++ List.replicate (2 - (lg_sl ([.int p1])).length) Slot.unset).toArray = ls at hl ⊢
  have hl : lv_has ls 2 [(0, .int p1)] := hl
  refine wq_all ?_
  intro WW w1 w2
  have J74 : ∀ (H : Heap) (locs : List Loc) (ls : Array Slot) (v74_0 : Int32) (v74_1 : Int32), va_S (fun _ => False) s.heap H locs → lv_has ls 2 [(0, .int v74_0), (1, .int v74_1)] → ir v74_1 1 31 → WW H locs (F0 m 74 ls []) := by
    intro H locs ls v74_0 v74_1 hS hl rv74_1
    refine w1 _ _ _ ?_
    refine lv_iload_n hx hb dJ6_numberOfTrailingZeros_0f7a4_74 rfl (lv_at hl 1 rfl) ?_
    refine lv_iload_n hx hb dJ6_numberOfTrailingZeros_0f7a4_75 rfl (lv_at hl 0 rfl) ?_
    refine lv_iconst (v := 1) hx hb dJ6_numberOfTrailingZeros_0f7a4_76 (by decide) ?_
    refine lv_iushr hx hb dJ6_numberOfTrailingZeros_0f7a4_77 rfl ?_
    refine lv_topi (fun x77 e77 => ?_)
    refine lv_iadd hx hb dJ6_numberOfTrailingZeros_0f7a4_78 ?_
    refine lv_topi (fun x78 e78 => ?_)
    exact W.iret (v := x78) hx hb hr (fun t ht _ => ⟨⟨x78, (), rfl, trivial, trivial⟩, hS.F ht⟩) hS.2.2 dJ6_numberOfTrailingZeros_0f7a4_79
  have J62 : ∀ (H : Heap) (locs : List Loc) (ls : Array Slot) (v62_0 : Int32) (v62_1 : Int32), va_S (fun _ => False) s.heap H locs → lv_has ls 2 [(0, .int v62_0), (1, .int v62_1)] → ir v62_1 1 29 → WW H locs (F0 m 62 ls []) := by
    intro H locs ls v62_0 v62_1 hS hl rv62_1
    refine w1 _ _ _ ?_
    refine lv_iload_n hx hb dJ6_numberOfTrailingZeros_0f7a4_62 rfl (lv_at hl 0 rfl) ?_
    refine lv_iconst (v := 4) hx hb dJ6_numberOfTrailingZeros_0f7a4_63 (by decide) ?_
    refine lv_icmp_le (tgt := 74) hx hb dJ6_numberOfTrailingZeros_0f7a4_64 (by decide) (fun c64 => ?_) (fun c64 => ?_)
    · have rv62_0_64 : ir v62_0 (-2147483648) 4 := ⟨((ir_any v62_0)).1, Int.le_trans (rf_le c64 (ir_any v62_0) (ir_c (4) (by decide) : ir (4 : Int32) (4) (4))).1 (by decide)⟩
      exact w2 _ _ _ (J74 _ _ _ v62_0 v62_1 hS (lv_sub hl [0, 1] rfl) (ir_w (lo' := 1) (hi' := 31) rv62_1 (by decide) (by decide)))
    · have rv62_0_64 : ir v62_0 5 2147483647 := ⟨Int.le_trans (by decide) (rf_lt (rf_nle c64) (ir_c (4) (by decide) : ir (4 : Int32) (4) (4)) (ir_any v62_0)).2, ((ir_any v62_0)).2⟩
      obtain ⟨x67, e67⟩ : ∃ y : Int32, y = v62_1 + 2 := ⟨_, rfl⟩
      have r67 : ir x67 3 31 := ir_w (ir_add e67 rv62_1 (ir_c (2) (by decide) : ir (2 : Int32) (2) (2)) (by decide) (by decide)) (by decide) (by decide)
      have t67 : x67.toInt = v62_1.toInt + (2) := it_add e67 rv62_1 (ir_c (2) (by decide) : ir (2 : Int32) (2) (2)) (by decide) (by decide)
      refine lv_iinc (v := x67) (lv' := [(1, .int x67), (0, .int v62_0)]) hx hb dJ6_numberOfTrailingZeros_0f7a4_67 hl (k := 1) rfl (by rw [e67]; rfl) (by decide) rfl (fun ls hl => ?_)
      refine lv_iload_n hx hb dJ6_numberOfTrailingZeros_0f7a4_70 rfl (lv_at hl 1 rfl) ?_
      refine lv_iconst (v := 2) hx hb dJ6_numberOfTrailingZeros_0f7a4_71 (by decide) ?_
      refine lv_iushr hx hb dJ6_numberOfTrailingZeros_0f7a4_72 rfl ?_
      refine lv_topi (fun x72 e72 => ?_)
      refine lv_istore_n (lv' := [(0, .int x72), (1, .int x67)]) hx hb dJ6_numberOfTrailingZeros_0f7a4_73 rfl hl (by decide) rfl (fun ls hl => ?_)
      exact w2 _ _ _ (J74 _ _ _ x72 x67 hS (lv_sub hl [0, 1] rfl) (ir_w (lo' := 1) (hi' := 31) r67 (by decide) (by decide)))
  have J49 : ∀ (H : Heap) (locs : List Loc) (ls : Array Slot) (v49_0 : Int32) (v49_1 : Int32), va_S (fun _ => False) s.heap H locs → lv_has ls 2 [(0, .int v49_0), (1, .int v49_1)] → ir v49_1 1 25 → WW H locs (F0 m 49 ls []) := by
    intro H locs ls v49_0 v49_1 hS hl rv49_1
    refine w1 _ _ _ ?_
    refine lv_iload_n hx hb dJ6_numberOfTrailingZeros_0f7a4_49 rfl (lv_at hl 0 rfl) ?_
    refine lv_bipush (v := 16) hx hb dJ6_numberOfTrailingZeros_0f7a4_50 (by decide) ?_
    refine lv_icmp_le (tgt := 62) hx hb dJ6_numberOfTrailingZeros_0f7a4_52 (by decide) (fun c52 => ?_) (fun c52 => ?_)
    · have rv49_0_52 : ir v49_0 (-2147483648) 16 := ⟨((ir_any v49_0)).1, Int.le_trans (rf_le c52 (ir_any v49_0) (ir_c (16) (by decide) : ir (16 : Int32) (16) (16))).1 (by decide)⟩
      exact w2 _ _ _ (J62 _ _ _ v49_0 v49_1 hS (lv_sub hl [0, 1] rfl) (ir_w (lo' := 1) (hi' := 29) rv49_1 (by decide) (by decide)))
    · have rv49_0_52 : ir v49_0 17 2147483647 := ⟨Int.le_trans (by decide) (rf_lt (rf_nle c52) (ir_c (16) (by decide) : ir (16 : Int32) (16) (16)) (ir_any v49_0)).2, ((ir_any v49_0)).2⟩
      obtain ⟨x55, e55⟩ : ∃ y : Int32, y = v49_1 + 4 := ⟨_, rfl⟩
      have r55 : ir x55 5 29 := ir_w (ir_add e55 rv49_1 (ir_c (4) (by decide) : ir (4 : Int32) (4) (4)) (by decide) (by decide)) (by decide) (by decide)
      have t55 : x55.toInt = v49_1.toInt + (4) := it_add e55 rv49_1 (ir_c (4) (by decide) : ir (4 : Int32) (4) (4)) (by decide) (by decide)
      refine lv_iinc (v := x55) (lv' := [(1, .int x55), (0, .int v49_0)]) hx hb dJ6_numberOfTrailingZeros_0f7a4_55 hl (k := 1) rfl (by rw [e55]; rfl) (by decide) rfl (fun ls hl => ?_)
      refine lv_iload_n hx hb dJ6_numberOfTrailingZeros_0f7a4_58 rfl (lv_at hl 1 rfl) ?_
      refine lv_iconst (v := 4) hx hb dJ6_numberOfTrailingZeros_0f7a4_59 (by decide) ?_
      refine lv_iushr hx hb dJ6_numberOfTrailingZeros_0f7a4_60 rfl ?_
      refine lv_topi (fun x60 e60 => ?_)
      refine lv_istore_n (lv' := [(0, .int x60), (1, .int x55)]) hx hb dJ6_numberOfTrailingZeros_0f7a4_61 rfl hl (by decide) rfl (fun ls hl => ?_)
      exact w2 _ _ _ (J62 _ _ _ x60 x55 hS (lv_sub hl [0, 1] rfl) (ir_w (lo' := 1) (hi' := 29) r55 (by decide) (by decide)))
  have J34 : ∀ (H : Heap) (locs : List Loc) (ls : Array Slot) (v34_0 : Int32) (v34_1 : Int32), va_S (fun _ => False) s.heap H locs → lv_has ls 2 [(0, .int v34_0), (1, .int v34_1)] → ir v34_1 1 17 → WW H locs (F0 m 34 ls []) := by
    intro H locs ls v34_0 v34_1 hS hl rv34_1
    refine w1 _ _ _ ?_
    refine lv_iload_n hx hb dJ6_numberOfTrailingZeros_0f7a4_34 rfl (lv_at hl 0 rfl) ?_
    refine lv_sipush (v := 256) hx hb dJ6_numberOfTrailingZeros_0f7a4_35 (by decide) ?_
    refine lv_icmp_le (tgt := 49) hx hb dJ6_numberOfTrailingZeros_0f7a4_38 (by decide) (fun c38 => ?_) (fun c38 => ?_)
    · have rv34_0_38 : ir v34_0 (-2147483648) 256 := ⟨((ir_any v34_0)).1, Int.le_trans (rf_le c38 (ir_any v34_0) (ir_c (256) (by decide) : ir (256 : Int32) (256) (256))).1 (by decide)⟩
      exact w2 _ _ _ (J49 _ _ _ v34_0 v34_1 hS (lv_sub hl [0, 1] rfl) (ir_w (lo' := 1) (hi' := 25) rv34_1 (by decide) (by decide)))
    · have rv34_0_38 : ir v34_0 257 2147483647 := ⟨Int.le_trans (by decide) (rf_lt (rf_nle c38) (ir_c (256) (by decide) : ir (256 : Int32) (256) (256)) (ir_any v34_0)).2, ((ir_any v34_0)).2⟩
      obtain ⟨x41, e41⟩ : ∃ y : Int32, y = v34_1 + 8 := ⟨_, rfl⟩
      have r41 : ir x41 9 25 := ir_w (ir_add e41 rv34_1 (ir_c (8) (by decide) : ir (8 : Int32) (8) (8)) (by decide) (by decide)) (by decide) (by decide)
      have t41 : x41.toInt = v34_1.toInt + (8) := it_add e41 rv34_1 (ir_c (8) (by decide) : ir (8 : Int32) (8) (8)) (by decide) (by decide)
      refine lv_iinc (v := x41) (lv' := [(1, .int x41), (0, .int v34_0)]) hx hb dJ6_numberOfTrailingZeros_0f7a4_41 hl (k := 1) rfl (by rw [e41]; rfl) (by decide) rfl (fun ls hl => ?_)
      refine lv_iload_n hx hb dJ6_numberOfTrailingZeros_0f7a4_44 rfl (lv_at hl 1 rfl) ?_
      refine lv_bipush (v := 8) hx hb dJ6_numberOfTrailingZeros_0f7a4_45 (by decide) ?_
      refine lv_iushr hx hb dJ6_numberOfTrailingZeros_0f7a4_47 rfl ?_
      refine lv_topi (fun x47 e47 => ?_)
      refine lv_istore_n (lv' := [(0, .int x47), (1, .int x41)]) hx hb dJ6_numberOfTrailingZeros_0f7a4_48 rfl hl (by decide) rfl (fun ls hl => ?_)
      exact w2 _ _ _ (J49 _ _ _ x47 x41 hS (lv_sub hl [0, 1] rfl) (ir_w (lo' := 1) (hi' := 25) r41 (by decide) (by decide)))
  refine lv_iload_n hx hb dJ6_numberOfTrailingZeros_0f7a4_0 rfl (lv_at hl 0 rfl) ?_
  refine lv_iconst (v := -1) hx hb dJ6_numberOfTrailingZeros_0f7a4_1 (by decide) ?_
  refine lv_ixor hx hb dJ6_numberOfTrailingZeros_0f7a4_2 ?_
  refine lv_topi (fun x2 e2 => ?_)
  refine lv_iload_n hx hb dJ6_numberOfTrailingZeros_0f7a4_3 rfl (lv_at hl 0 rfl) ?_
  refine lv_iconst (v := 1) hx hb dJ6_numberOfTrailingZeros_0f7a4_4 (by decide) ?_
  refine lv_isub hx hb dJ6_numberOfTrailingZeros_0f7a4_5 ?_
  refine lv_topi (fun x5 e5 => ?_)
  refine lv_iand hx hb dJ6_numberOfTrailingZeros_0f7a4_6 ?_
  refine lv_topi (fun x6 e6 => ?_)
  refine lv_istore_n (lv' := [(0, .int x6)]) hx hb dJ6_numberOfTrailingZeros_0f7a4_7 rfl hl (by decide) rfl (fun ls hl => ?_)
  refine lv_iload_n hx hb dJ6_numberOfTrailingZeros_0f7a4_8 rfl (lv_at hl 0 rfl) ?_
  refine lv_if_gt (tgt := 17) hx hb dJ6_numberOfTrailingZeros_0f7a4_9 (by decide) (fun c9 => ?_) (fun c9 => ?_)
  · have rx6_9 : ir x6 1 2147483647 := ⟨Int.le_trans (by decide) (rf_lt c9 (ir_c (0) (by decide) : ir (0 : Int32) (0) (0)) (ir_any x6)).2, ((ir_any x6)).2⟩
    refine lv_iconst (v := 1) hx hb dJ6_numberOfTrailingZeros_0f7a4_17 (by decide) ?_
    refine lv_istore_n (lv' := [(1, .int (1 : Int32)), (0, .int x6)]) hx hb dJ6_numberOfTrailingZeros_0f7a4_18 rfl hl (by decide) rfl (fun ls hl => ?_)
    refine lv_iload_n hx hb dJ6_numberOfTrailingZeros_0f7a4_19 rfl (lv_at hl 1 rfl) ?_
    refine lv_ldcw hx hb hown (hts _ q701) dJ6_numberOfTrailingZeros_0f7a4_20 ?_
    refine lv_icmp_le (tgt := 34) hx hb dJ6_numberOfTrailingZeros_0f7a4_23 (by decide) (fun c23 => ?_) (fun c23 => ?_)
    · have rx6_23 : ir x6 1 65536 := ⟨(rx6_9).1, Int.le_trans (rf_le c23 rx6_9 (ir_c (65536) (by decide) : ir (65536 : Int32) (65536) (65536))).1 (by decide)⟩
      exact w2 _ _ _ (J34 _ _ _ x6 (1 : Int32) hS (lv_sub hl [1, 0] rfl) (ir_w (lo' := 1) (hi' := 17) (ir_c (1) (by decide) : ir (1 : Int32) (1) (1)) (by decide) (by decide)))
    · have rx6_23 : ir x6 65537 2147483647 := ⟨Int.le_trans (by decide) (rf_lt (rf_nle c23) (ir_c (65536) (by decide) : ir (65536 : Int32) (65536) (65536)) rx6_9).2, (rx6_9).2⟩
      obtain ⟨x26, e26⟩ : ∃ y : Int32, y = (1 : Int32) + 16 := ⟨_, rfl⟩
      have r26 : ir x26 17 17 := ir_w (ir_add e26 (ir_c (1) (by decide) : ir (1 : Int32) (1) (1)) (ir_c (16) (by decide) : ir (16 : Int32) (16) (16)) (by decide) (by decide)) (by decide) (by decide)
      have t26 : x26.toInt = (1 : Int32).toInt + (16) := it_add e26 (ir_c (1) (by decide) : ir (1 : Int32) (1) (1)) (ir_c (16) (by decide) : ir (16 : Int32) (16) (16)) (by decide) (by decide)
      refine lv_iinc (v := x26) (lv' := [(1, .int x26), (0, .int x6)]) hx hb dJ6_numberOfTrailingZeros_0f7a4_26 hl (k := 0) rfl (by rw [e26]; rfl) (by decide) rfl (fun ls hl => ?_)
      refine lv_iload_n hx hb dJ6_numberOfTrailingZeros_0f7a4_29 rfl (lv_at hl 1 rfl) ?_
      refine lv_bipush (v := 16) hx hb dJ6_numberOfTrailingZeros_0f7a4_30 (by decide) ?_
      refine lv_iushr hx hb dJ6_numberOfTrailingZeros_0f7a4_32 rfl ?_
      refine lv_topi (fun x32 e32 => ?_)
      refine lv_istore_n (lv' := [(0, .int x32), (1, .int x26)]) hx hb dJ6_numberOfTrailingZeros_0f7a4_33 rfl hl (by decide) rfl (fun ls hl => ?_)
      exact w2 _ _ _ (J34 _ _ _ x32 x26 hS (lv_sub hl [0, 1] rfl) (ir_w (lo' := 1) (hi' := 17) r26 (by decide) (by decide)))
  · have rx6_9 : ir x6 (-2147483648) 0 := ⟨((ir_any x6)).1, Int.le_trans (rf_le (rf_nlt c9) (ir_any x6) (ir_c (0) (by decide) : ir (0 : Int32) (0) (0))).1 (by decide)⟩
    refine lv_iload_n hx hb dJ6_numberOfTrailingZeros_0f7a4_12 rfl (lv_at hl 0 rfl) ?_
    refine lv_bipush (v := 32) hx hb dJ6_numberOfTrailingZeros_0f7a4_13 (by decide) ?_
    refine lv_iand hx hb dJ6_numberOfTrailingZeros_0f7a4_15 ?_
    refine lv_topi (fun x15 e15 => ?_)
    have r15 : ir x15 0 32 := ir_and e15 (ir_w (ir_c (32) (by decide) : ir (32 : Int32) (32) (32)) (by decide) (by decide))
    exact W.iret (v := x15) hx hb hr (fun t ht _ => ⟨⟨x15, (), rfl, trivial, trivial⟩, hS.F ht⟩) hS.2.2 dJ6_numberOfTrailingZeros_0f7a4_16
set_option maxHeartbeats 4000000 in
set_option maxRecDepth 100000 in
theorem m_J6_reverseBytes_0f7a4 (l : Launch) (p1 : Int32) : pMi l yJ6_reverseBytes_0f7a4 cJ6_reverseBytes_0f7a4 1 .int { frames := 0, cells := 0, slots := 0, locals := 0 } [.int p1] (fun _ => True) := by
  refine Met.ofW (cc := cJ6_reverseBytes_0f7a4) (maxL := 1) (ret := some .int) (by decide) rfl ?_
  intro p e s m args below meth c s₁ B hml hv
  obtain ⟨rfl, -⟩ := hv
  have hx := B.exec
  have hb := B.bytes
  have hr := B.returns
  have hts : ∀ w ∈ lw_g, w.before _ s = true := fun w h => atoms_spec (ws := wc_ws yJ6_reverseBytes_0f7a4 cJ6_reverseBytes_0f7a4 1 (some .int)) B.pre w (List.mem_cons_of_mem _ h)
  have hown : s.vm.findClass RJ6 = some m.cls := findClass_of_methodNamed B.named
  have hlocks := B.notSynchronized
  have hS : va_S (fun _ => False) s.heap s.heap [] := va_S.rf
  have hl := lv_entry ([.int p1]) (n := 1) (Nat.le_of_ble_eq_true rfl)
  rw [lg_entry_eq]
  generalize (lg_sl ([.int p1]) ++ List.replicate (1 - (lg_sl ([.int p1])).length) Slot.unset).toArray = ls at hl ⊢
  have hl : lv_has ls 1 [(0, .int p1)] := hl
  refine wq_all ?_
  intro WW w1 w2
  refine lv_iload_n hx hb dJ6_reverseBytes_0f7a4_0 rfl (lv_at hl 0 rfl) ?_
  refine lv_bipush (v := 24) hx hb dJ6_reverseBytes_0f7a4_1 (by decide) ?_
  refine lv_ishl hx hb dJ6_reverseBytes_0f7a4_3 ?_
  refine lv_topi (fun x3 e3 => ?_)
  refine lv_iload_n hx hb dJ6_reverseBytes_0f7a4_4 rfl (lv_at hl 0 rfl) ?_
  refine lv_ldcw hx hb hown (hts _ q716) dJ6_reverseBytes_0f7a4_5 ?_
  refine lv_iand hx hb dJ6_reverseBytes_0f7a4_8 ?_
  refine lv_topi (fun x8 e8 => ?_)
  have r8 : ir x8 0 65280 := ir_and e8 (ir_w (ir_c (65280) (by decide) : ir (65280 : Int32) (65280) (65280)) (by decide) (by decide))
  refine lv_bipush (v := 8) hx hb dJ6_reverseBytes_0f7a4_9 (by decide) ?_
  refine lv_ishl hx hb dJ6_reverseBytes_0f7a4_11 ?_
  refine lv_topi (fun x11 e11 => ?_)
  refine lv_ior hx hb dJ6_reverseBytes_0f7a4_12 ?_
  refine lv_topi (fun x12 e12 => ?_)
  refine lv_iload_n hx hb dJ6_reverseBytes_0f7a4_13 rfl (lv_at hl 0 rfl) ?_
  refine lv_bipush (v := 8) hx hb dJ6_reverseBytes_0f7a4_14 (by decide) ?_
  refine lv_iushr hx hb dJ6_reverseBytes_0f7a4_16 rfl ?_
  refine lv_topi (fun x16 e16 => ?_)
  refine lv_ldcw hx hb hown (hts _ q716) dJ6_reverseBytes_0f7a4_17 ?_
  refine lv_iand hx hb dJ6_reverseBytes_0f7a4_20 ?_
  refine lv_topi (fun x20 e20 => ?_)
  have r20 : ir x20 0 65280 := ir_and e20 (ir_w (ir_c (65280) (by decide) : ir (65280 : Int32) (65280) (65280)) (by decide) (by decide))
  refine lv_ior hx hb dJ6_reverseBytes_0f7a4_21 ?_
  refine lv_topi (fun x21 e21 => ?_)
  refine lv_iload_n hx hb dJ6_reverseBytes_0f7a4_22 rfl (lv_at hl 0 rfl) ?_
  refine lv_bipush (v := 24) hx hb dJ6_reverseBytes_0f7a4_23 (by decide) ?_
  refine lv_iushr hx hb dJ6_reverseBytes_0f7a4_25 rfl ?_
  refine lv_topi (fun x25 e25 => ?_)
  refine lv_ior hx hb dJ6_reverseBytes_0f7a4_26 ?_
  refine lv_topi (fun x26 e26 => ?_)
  exact W.iret (v := x26) hx hb hr (fun t ht _ => ⟨⟨x26, (), rfl, trivial, trivial⟩, hS.F ht⟩) hS.2.2 dJ6_reverseBytes_0f7a4_27
set_option maxHeartbeats 4000000 in
set_option maxRecDepth 100000 in
theorem m_J6_reverse_0f7a4 (l : Launch) (p1 : Int32) : pMi l yJ6_reverse_0f7a4 cJ6_reverse_0f7a4 1 .int { frames := 1, cells := 0, slots := 0, locals := 20 } [.int p1] (fun _ => True) := by
  refine Met.ofW (cc := cJ6_reverse_0f7a4) (maxL := 1) (ret := some .int) (by decide) rfl ?_
  intro p e s m args below meth c s₁ B hml hv
  obtain ⟨rfl, -⟩ := hv
  have hx := B.exec
  have hb := B.bytes
  have hr := B.returns
  have hts : ∀ w ∈ lw_g, w.before _ s = true := fun w h => atoms_spec (ws := wc_ws yJ6_reverse_0f7a4 cJ6_reverse_0f7a4 1 (some .int)) B.pre w (List.mem_cons_of_mem _ h)
  have hown : s.vm.findClass RJ6 = some m.cls := findClass_of_methodNamed B.named
  have hlocks := B.notSynchronized
  have hS : va_S (fun _ => False) s.heap s.heap [] := va_S.rf
  have hl := lv_entry ([.int p1]) (n := 1) (Nat.le_of_ble_eq_true rfl)
  rw [lg_entry_eq]
  generalize (lg_sl ([.int p1]) ++ List.replicate (1 - (lg_sl ([.int p1])).length) Slot.unset).toArray = ls at hl ⊢
  have hl : lv_has ls 1 [(0, .int p1)] := hl
  refine wq_all ?_
  intro WW w1 w2
  refine lv_iload_n hx hb dJ6_reverse_0f7a4_0 rfl (lv_at hl 0 rfl) ?_
  refine lv_ldcw hx hb hown (hts _ q710) dJ6_reverse_0f7a4_1 ?_
  refine lv_iand hx hb dJ6_reverse_0f7a4_4 ?_
  refine lv_topi (fun x4 e4 => ?_)
  have r4 : ir x4 0 1431655765 := ir_and e4 (ir_w (ir_c (1431655765) (by decide) : ir (1431655765 : Int32) (1431655765) (1431655765)) (by decide) (by decide))
  refine lv_iconst (v := 1) hx hb dJ6_reverse_0f7a4_5 (by decide) ?_
  refine lv_ishl hx hb dJ6_reverse_0f7a4_6 ?_
  refine lv_topi (fun x6 e6 => ?_)
  refine lv_iload_n hx hb dJ6_reverse_0f7a4_7 rfl (lv_at hl 0 rfl) ?_
  refine lv_iconst (v := 1) hx hb dJ6_reverse_0f7a4_8 (by decide) ?_
  refine lv_iushr hx hb dJ6_reverse_0f7a4_9 rfl ?_
  refine lv_topi (fun x9 e9 => ?_)
  refine lv_ldcw hx hb hown (hts _ q710) dJ6_reverse_0f7a4_10 ?_
  refine lv_iand hx hb dJ6_reverse_0f7a4_13 ?_
  refine lv_topi (fun x13 e13 => ?_)
  have r13 : ir x13 0 1431655765 := ir_and e13 (ir_w (ir_c (1431655765) (by decide) : ir (1431655765 : Int32) (1431655765) (1431655765)) (by decide) (by decide))
  refine lv_ior hx hb dJ6_reverse_0f7a4_14 ?_
  refine lv_topi (fun x14 e14 => ?_)
  refine lv_istore_n (lv' := [(0, .int x14)]) hx hb dJ6_reverse_0f7a4_15 rfl hl (by decide) rfl (fun ls hl => ?_)
  refine lv_iload_n hx hb dJ6_reverse_0f7a4_16 rfl (lv_at hl 0 rfl) ?_
  refine lv_ldcw hx hb hown (hts _ q711) dJ6_reverse_0f7a4_17 ?_
  refine lv_iand hx hb dJ6_reverse_0f7a4_20 ?_
  refine lv_topi (fun x20 e20 => ?_)
  have r20 : ir x20 0 858993459 := ir_and e20 (ir_w (ir_c (858993459) (by decide) : ir (858993459 : Int32) (858993459) (858993459)) (by decide) (by decide))
  refine lv_iconst (v := 2) hx hb dJ6_reverse_0f7a4_21 (by decide) ?_
  refine lv_ishl hx hb dJ6_reverse_0f7a4_22 ?_
  refine lv_topi (fun x22 e22 => ?_)
  refine lv_iload_n hx hb dJ6_reverse_0f7a4_23 rfl (lv_at hl 0 rfl) ?_
  refine lv_iconst (v := 2) hx hb dJ6_reverse_0f7a4_24 (by decide) ?_
  refine lv_iushr hx hb dJ6_reverse_0f7a4_25 rfl ?_
  refine lv_topi (fun x25 e25 => ?_)
  refine lv_ldcw hx hb hown (hts _ q711) dJ6_reverse_0f7a4_26 ?_
  refine lv_iand hx hb dJ6_reverse_0f7a4_29 ?_
  refine lv_topi (fun x29 e29 => ?_)
  have r29 : ir x29 0 858993459 := ir_and e29 (ir_w (ir_c (858993459) (by decide) : ir (858993459 : Int32) (858993459) (858993459)) (by decide) (by decide))
  refine lv_ior hx hb dJ6_reverse_0f7a4_30 ?_
  refine lv_topi (fun x30 e30 => ?_)
  refine lv_istore_n (lv' := [(0, .int x30)]) hx hb dJ6_reverse_0f7a4_31 rfl hl (by decide) rfl (fun ls hl => ?_)
  refine lv_iload_n hx hb dJ6_reverse_0f7a4_32 rfl (lv_at hl 0 rfl) ?_
  refine lv_ldcw hx hb hown (hts _ q712) dJ6_reverse_0f7a4_33 ?_
  refine lv_iand hx hb dJ6_reverse_0f7a4_36 ?_
  refine lv_topi (fun x36 e36 => ?_)
  have r36 : ir x36 0 252645135 := ir_and e36 (ir_w (ir_c (252645135) (by decide) : ir (252645135 : Int32) (252645135) (252645135)) (by decide) (by decide))
  refine lv_iconst (v := 4) hx hb dJ6_reverse_0f7a4_37 (by decide) ?_
  refine lv_ishl hx hb dJ6_reverse_0f7a4_38 ?_
  refine lv_topi (fun x38 e38 => ?_)
  refine lv_iload_n hx hb dJ6_reverse_0f7a4_39 rfl (lv_at hl 0 rfl) ?_
  refine lv_iconst (v := 4) hx hb dJ6_reverse_0f7a4_40 (by decide) ?_
  refine lv_iushr hx hb dJ6_reverse_0f7a4_41 rfl ?_
  refine lv_topi (fun x41 e41 => ?_)
  refine lv_ldcw hx hb hown (hts _ q712) dJ6_reverse_0f7a4_42 ?_
  refine lv_iand hx hb dJ6_reverse_0f7a4_45 ?_
  refine lv_topi (fun x45 e45 => ?_)
  have r45 : ir x45 0 252645135 := ir_and e45 (ir_w (ir_c (252645135) (by decide) : ir (252645135 : Int32) (252645135) (252645135)) (by decide) (by decide))
  refine lv_ior hx hb dJ6_reverse_0f7a4_46 ?_
  refine lv_topi (fun x46 e46 => ?_)
  refine lv_istore_n (lv' := [(0, .int x46)]) hx hb dJ6_reverse_0f7a4_47 rfl hl (by decide) rfl (fun ls hl => ?_)
  refine lv_iload_n hx hb dJ6_reverse_0f7a4_48 rfl (lv_at hl 0 rfl) ?_
  refine pp_i (wt_runS (As := [.int x46]) (rest := []) ⟨hx, hb, hml, hown, hts⟩ (m_J6_reverseBytes_0f7a4 l x46) wm_J6_reverseBytes_0f7a4 q713 ⟨rfl, rfl⟩ ⟨Nat.le_of_ble_eq_true rfl, Nat.le_of_ble_eq_true rfl⟩ pS_pre rfl hl.1 rfl (Nat.le_of_ble_eq_true rfl) dJ6_reverse_0f7a4_49 ⟨Nat.zero_le _, Nat.zero_le _⟩) hS (fun x49 H locs hp hS => ?_)
  exact W.iret (v := x49) hx hb hr (fun t ht _ => ⟨⟨x49, (), rfl, trivial, trivial⟩, hS.F ht⟩) hS.2.2 dJ6_reverse_0f7a4_52
set_option maxHeartbeats 4000000 in
set_option maxRecDepth 100000 in
theorem m_X7_seek_3 (l : Launch) (N : c_N) (h0 : Nat) (k0 : N.2.2.1 h0 = some 7) (p1 : Nat) (kp1 : N.2.2.1 p1 = some 6) (p2 : Nat) (kp2 : N.2.2.1 p2 = some 5) (p3 : Int32) (rp3 : ir p3 3 3) (p4 : Int32) (p5 : Int32) (rp5 : ir p5 0 1) : cMi l yX7_seek cX7_seek 9 .int { frames := 6, cells := 0, slots := 0, locals := 160 } [.ref h0, .ref p1, .ref p2, .int p3, .int p4, .int p5] N [4, 25] cT0 (fun _ => True) := by
  refine Met.ofW (cc := cX7_seek) (maxL := 9) (ret := some .int) (by decide) rfl ?_
  intro p e s m args below meth c s₁ B hml hv
  obtain ⟨rfl, ⟨hK, hW, hT, hnn⟩, hB⟩ := hv
  have hx := B.exec
  have hb := B.bytes
  have hr := B.returns
  have hts : ∀ w ∈ lw_g, w.before _ s = true := fun w h => atoms_spec (ws := wc_ws yX7_seek cX7_seek 9 (some .int)) B.pre w (List.mem_cons_of_mem _ h)
  have hown : s.vm.findClass RX7 = some m.cls := findClass_of_methodNamed B.named
  have hlocks := B.notSynchronized
  have hS : va_S (cE N [4, 25]) s.heap s.heap [] := va_S.rf
  have hl := lv_entry ([.ref h0, .ref p1, .ref p2, .int p3, .int p4, .int p5]) (n := 9) (Nat.le_of_ble_eq_true rfl)
  rw [lg_entry_eq]
  generalize (lg_sl ([.ref h0, .ref p1, .ref p2, .int p3, .int p4, .int p5]) ++ List.replicate (9 - (lg_sl ([.ref h0, .ref p1, .ref p2, .int p3, .int p4, .int p5])).length) Slot.unset).toArray = ls at hl ⊢
  have hl : lv_has ls 9 [(0, .ref h0), (1, .ref p1), (2, .ref p2), (3, .int p3), (4, .int p4), (5, .int p5)] := hl
  refine wq_all ?_
  intro WW w1 w2
  refine lv_iconst (v := 0) hx hb dX7_seek_0 (by decide) ?_
  refine lv_istore (lv' := [(6, .int (0 : Int32)), (0, .ref h0), (1, .ref p1), (2, .ref p2), (3, .int p3), (4, .int p4), (5, .int p5)]) hx hb dX7_seek_1 hl (by decide) rfl (fun ls hl => ?_)
  refine lv_iload_n hx hb dX7_seek_3 rfl (lv_at hl 4 rfl) ?_
  refine lv_iload hx hb dX7_seek_4 (lv_at hl 5 rfl) ?_
  refine lv_icmp_ge (tgt := 14) hx hb dX7_seek_6 (by decide) (fun c6 => ?_) (fun c6 => ?_)
  · have rp4_6 : ir p4 (-2147483648) 3 := ⟨((ir_any p4)).1, Int.le_trans (rf_le c6 (ir_any p4) rp3).1 (by decide)⟩
    refine lv_iload hx hb dX7_seek_14 (lv_at hl 0 rfl) ?_
    exact W.iret (v := (0 : Int32)) hx hb hr (fun t ht _ => ⟨⟨(0 : Int32), (), rfl, trivial, cW_at ht hW⟩, hS.F ht⟩) hS.2.2 dX7_seek_16
  · have rp4_6 : ir p4 4 2147483647 := ⟨Int.le_trans (by decide) (rf_lt (rf_nle c6) rp3 (ir_any p4)).2, ((ir_any p4)).2⟩
    refine lv_iload_n hx hb dX7_seek_9 rfl (lv_at hl 4 rfl) ?_
    refine lv_iconst (v := 3) hx hb dX7_seek_10 (by decide) ?_
    refine lv_icmp_lt (tgt := 17) hx hb dX7_seek_11 (by decide) (fun c11 => ?_) (fun c11 => ?_)
    · exact absurd (rf_lt c11 rp3 (ir_c (3) (by decide) : ir (3 : Int32) (3) (3))) (by have h8 := rp3; have h9 := (ir_c (3) (by decide) : ir (3 : Int32) (3) (3)); omega)
    · refine lv_iload hx hb dX7_seek_14 (lv_at hl 0 rfl) ?_
      exact W.iret (v := (0 : Int32)) hx hb hr (fun t ht _ => ⟨⟨(0 : Int32), (), rfl, trivial, cW_at ht hW⟩, hS.F ht⟩) hS.2.2 dX7_seek_16
set_option maxHeartbeats 4000000 in
set_option maxRecDepth 100000 in
theorem m_X7_seek_2 (l : Launch) (N : c_N) (h0 : Nat) (k0 : N.2.2.1 h0 = some 7) (p1 : Nat) (kp1 : N.2.2.1 p1 = some 6) (p2 : Nat) (kp2 : N.2.2.1 p2 = some 5) (p3 : Int32) (rp3 : ir p3 2 2) (p4 : Int32) (p5 : Int32) (rp5 : ir p5 0 1) : cMi l yX7_seek cX7_seek 9 .int { frames := 7, cells := 0, slots := 0, locals := 188 } [.ref h0, .ref p1, .ref p2, .int p3, .int p4, .int p5] N [4, 25] cT0 (fun _ => True) := by
  refine Met.ofW (cc := cX7_seek) (maxL := 9) (ret := some .int) (by decide) rfl ?_
  intro p e s m args below meth c s₁ B hml hv
  obtain ⟨rfl, ⟨hK, hW, hT, hnn⟩, hB⟩ := hv
  have hx := B.exec
  have hb := B.bytes
  have hr := B.returns
  have hts : ∀ w ∈ lw_g, w.before _ s = true := fun w h => atoms_spec (ws := wc_ws yX7_seek cX7_seek 9 (some .int)) B.pre w (List.mem_cons_of_mem _ h)
  have hown : s.vm.findClass RX7 = some m.cls := findClass_of_methodNamed B.named
  have hlocks := B.notSynchronized
  have hS : va_S (cE N [4, 25]) s.heap s.heap [] := va_S.rf
  have hl := lv_entry ([.ref h0, .ref p1, .ref p2, .int p3, .int p4, .int p5]) (n := 9) (Nat.le_of_ble_eq_true rfl)
  rw [lg_entry_eq]
  generalize (lg_sl ([.ref h0, .ref p1, .ref p2, .int p3, .int p4, .int p5]) ++ List.replicate (9 - (lg_sl ([.ref h0, .ref p1, .ref p2, .int p3, .int p4, .int p5])).length) Slot.unset).toArray = ls at hl ⊢
  have hl : lv_has ls 9 [(0, .ref h0), (1, .ref p1), (2, .ref p2), (3, .int p3), (4, .int p4), (5, .int p5)] := hl
  refine wq_all ?_
  intro WW w1 w2
  have L20 : ∀ (n : Nat) (H : Heap) (locs : List Loc) (ls : Array Slot) (v20_6 : Int32) (v20_7 : Int32), cW N H → va_S (cE N [4, 25]) s.heap H locs → lv_has ls 9 [(0, .ref h0), (1, .ref p1), (2, .ref p2), (3, .int p3), (4, .int p4), (5, .int p5), (6, .int v20_6), (7, .int v20_7)] → ir p3 2 2 → ir p4 3 2147483647 → ir p5 0 1 → ir v20_7 0 42 → 42 - v20_7.toInt < (n : Int) → WW H locs (F0 m 20 ls []) := by
    intro n
    induction n with
    | zero =>
      intro H locs ls v20_6 v20_7 hW hS hl rv20_3 rv20_4 rv20_5 rv20_7 mu20
      exfalso
      omega
    | succ n ih20 =>
      intro H locs ls v20_6 v20_7 hW hS hl rv20_3 rv20_4 rv20_5 rv20_7 mu20
      have J147 : ∀ (H : Heap) (locs : List Loc) (ls : Array Slot) (v147_6 : Int32) (u147_0 : Int32), cW N H → va_S (cE N [4, 25]) s.heap H locs → lv_has ls 9 [(0, .ref h0), (1, .ref p1), (2, .ref p2), (3, .int p3), (4, .int p4), (5, .int p5), (6, .int v147_6), (7, .int v20_7)] → ir p3 2 2 → ir p4 3 2147483647 → ir p5 0 1 → ir v20_7 0 41 → ir u147_0 1 42 → wt_pin N.1 vwCl p1 6 3 (.int u147_0) H → WW H locs (F0 m 147 ls []) := by
        intro H locs ls v147_6 u147_0 hW hS hl rv147_3 rv147_4 rv147_5 rv147_7 ru147_0 np1_3
        refine w1 _ _ _ ?_
        obtain ⟨x147, e147⟩ : ∃ y : Int32, y = v20_7 + 1 := ⟨_, rfl⟩
        have r147 : ir x147 1 42 := ir_w (ir_add e147 rv147_7 (ir_c (1) (by decide) : ir (1 : Int32) (1) (1)) (by decide) (by decide)) (by decide) (by decide)
        have t147 : x147.toInt = v20_7.toInt + (1) := it_add e147 rv147_7 (ir_c (1) (by decide) : ir (1 : Int32) (1) (1)) (by decide) (by decide)
        refine lv_iinc (v := x147) (lv' := [(7, .int x147), (0, .ref h0), (1, .ref p1), (2, .ref p2), (3, .int p3), (4, .int p4), (5, .int p5), (6, .int v147_6)]) hx hb dX7_seek_147 hl (k := 7) rfl (by rw [e147]; rfl) (by decide) rfl (fun ls hl => ?_)
        refine lv_goto (tgt := 20) hx hb dX7_seek_150 (by decide) ?_
        exact w2 _ _ _ (ih20 _ _ _ v147_6 x147 hW hS (lv_sub hl [1, 2, 3, 4, 5, 6, 7, 0] rfl) rv147_3 rv147_4 rv147_5 (ir_w (lo' := 0) (hi' := 42) r147 (by decide) (by decide)) (by have h9 := r147; omega))
      have J134 : ∀ (H : Heap) (locs : List Loc) (ls : Array Slot) (v134_6 : Int32) (u134_0 : Int32), cW N H → va_S (cE N [4, 25]) s.heap H locs → lv_has ls 9 [(0, .ref h0), (1, .ref p1), (2, .ref p2), (3, .int p3), (4, .int p4), (5, .int p5), (6, .int v134_6), (7, .int v20_7)] → ir p3 2 2 → ir p4 3 2147483647 → ir p5 0 1 → ir v20_7 0 41 → ir u134_0 1 42 → wt_pin N.1 vwCl p1 6 3 (.int u134_0) H → WW H locs (F0 m 134 ls []) := by
        intro H locs ls v134_6 u134_0 hW hS hl rv134_3 rv134_4 rv134_5 rv134_7 ru134_0 np1_3
        refine w1 _ _ _ ?_
        refine lv_iload hx hb dX7_seek_134 (lv_at hl 5 rfl) ?_
        refine lv_if_eq (tgt := 147) hx hb dX7_seek_136 (by decide) (fun c136 => ?_) (fun c136 => ?_)
        · have rp5_136 : ir p5 0 0 := rf_eq c136 (ir_c (0) (by decide) : ir (0 : Int32) (0) (0))
          exact w2 _ _ _ (J147 _ _ _ v134_6 u134_0 hW hS (lv_sub hl [0, 1, 2, 3, 4, 5, 6, 7] rfl) rv134_3 rv134_4 (ir_w (lo' := 0) (hi' := 1) rp5_136 (by decide) (by decide)) rv134_7 ru134_0 np1_3)
        · have rp5_136 : ir p5 1 1 := rf_ne0 c136 rv134_5
          refine lv_iload hx hb dX7_seek_139 (lv_at hl 6 rfl) ?_
          refine lv_if_le (tgt := 147) hx hb dX7_seek_141 (by decide) (fun c141 => ?_) (fun c141 => ?_)
          · have rv134_6_141 : ir v134_6 (-2147483648) 0 := ⟨((ir_any v134_6)).1, Int.le_trans (rf_le c141 (ir_any v134_6) (ir_c (0) (by decide) : ir (0 : Int32) (0) (0))).1 (by decide)⟩
            exact w2 _ _ _ (J147 _ _ _ v134_6 u134_0 hW hS (lv_sub hl [0, 1, 2, 3, 4, 5, 6, 7] rfl) rv134_3 rv134_4 (ir_w (lo' := 0) (hi' := 1) rp5_136 (by decide) (by decide)) rv134_7 ru134_0 np1_3)
          · have rv134_6_141 : ir v134_6 1 2147483647 := ⟨Int.le_trans (by decide) (rf_lt (rf_nle c141) (ir_c (0) (by decide) : ir (0 : Int32) (0) (0)) (ir_any v134_6)).2, ((ir_any v134_6)).2⟩
            refine lv_iload hx hb dX7_seek_144 (lv_at hl 6 rfl) ?_
            exact W.iret (v := v134_6) hx hb hr (fun t ht _ => ⟨⟨v134_6, (), rfl, trivial, cW_at ht hW⟩, hS.F ht⟩) hS.2.2 dX7_seek_146
      have J99 : ∀ (H : Heap) (locs : List Loc) (ls : Array Slot) (w99_0 : Int32) (u99_0 : Int32), cW N H → va_S (cE N [4, 25]) s.heap H locs → lv_has ls 9 [(0, .ref h0), (1, .ref p1), (2, .ref p2), (3, .int p3), (4, .int p4), (5, .int p5), (7, .int v20_7)] → ir p3 2 2 → ir p4 3 3 → ir p5 0 1 → ir v20_7 0 41 → ir w99_0 0 1 → ir u99_0 1 42 → wt_pin N.1 vwCl p1 6 3 (.int u99_0) H → WW H locs (F0 m 99 ls [.int w99_0, .int v20_6]) := by
        intro H locs ls w99_0 u99_0 hW hS hl rv99_3 rv99_4 rv99_5 rv99_7 rw99_0 ru99_0 np1_3
        refine w1 _ _ _ ?_
        refine lv_iadd hx hb dX7_seek_99 ?_
        refine lv_topi (fun x99 e99 => ?_)
        refine lv_istore (lv' := [(6, .int x99), (0, .ref h0), (1, .ref p1), (2, .ref p2), (3, .int p3), (4, .int p4), (5, .int p5), (7, .int v20_7)]) hx hb dX7_seek_100 hl (by decide) rfl (fun ls hl => ?_)
        refine lv_goto (tgt := 134) hx hb dX7_seek_102 (by decide) ?_
        exact w2 _ _ _ (J134 _ _ _ x99 u99_0 hW hS (lv_sub hl [1, 2, 3, 4, 5, 6, 0, 7] rfl) rv99_3 (ir_w (lo' := 3) (hi' := 2147483647) rv99_4 (by decide) (by decide)) rv99_5 rv99_7 ru99_0 np1_3)
      have J64 : ∀ (H : Heap) (locs : List Loc) (ls : Array Slot) (v64_8 : Int32) (u64_0 : Int32), cW N H → va_S (cE N [4, 25]) s.heap H locs → lv_has ls 9 [(0, .ref h0), (1, .ref p1), (2, .ref p2), (3, .int p3), (4, .int p4), (5, .int p5), (6, .int v20_6), (7, .int v20_7), (8, .int v64_8)] → ir p3 2 2 → ir p4 3 2147483647 → ir p5 0 1 → ir v20_7 0 41 → ir v64_8 0 41 → ir u64_0 1 42 → wt_pin N.1 vwCl p1 6 3 (.int u64_0) H → WW H locs (F0 m 64 ls []) := by
        intro H locs ls v64_8 u64_0 hW hS hl rv64_3 rv64_4 rv64_5 rv64_7 rv64_8 ru64_0 np1_3
        refine w1 _ _ _ ?_
        refine lv_aload_n hx hb dX7_seek_64 rfl (lv_at hl 0 rfl) ?_
        refine wt_get hx hb hts cfX7 hown hK hW (cg7 k0) rfl 1 (by decide) q239 dX7_seek_65 (fun v hv => ?_)
        obtain ⟨x65, rfl, k65⟩ : gr N 25 v := hv
        refine lv_iload_n hx hb dX7_seek_68 rfl (lv_at hl 3 rfl) ?_
        refine lv_iload hx hb dX7_seek_69 (lv_at hl 8 rfl) ?_
        refine wt_iastp hx hb hK hW hS 0 (cg25 k65) (ce k65 (by decide)) rfl (ir_in (ir_w (lo' := 0) (hi' := 2) rv64_3 (by decide) (by decide)) (by decide) (by decide)) (gi_mk rv64_8) dX7_seek_71 (fun H locs hW hS oq => ?_)
        have np1_3 := np1_3.kept (oq _ (ne_kind kp1 k65 (by decide)))
        refine lv_iload_n hx hb dX7_seek_72 rfl (lv_at hl 3 rfl) ?_
        refine lv_iconst (v := 1) hx hb dX7_seek_73 (by decide) ?_
        refine lv_iadd hx hb dX7_seek_74 ?_
        refine lv_topi (fun x74 e74 => ?_)
        have t74 : x74.toInt = p3.toInt + (1) := it_add e74 rv64_3 (ir_c (1) (by decide) : ir (1 : Int32) (1) (1)) (by decide) (by decide)
        have r74 : ir x74 3 3 := ir_w (ir_add e74 rv64_3 (ir_c (1) (by decide) : ir (1 : Int32) (1) (1)) (by decide) (by decide)) (by decide) (by decide)
        refine lv_iload hx hb dX7_seek_75 (lv_at hl 4 rfl) ?_
        refine lv_icmp_ne (tgt := 105) hx hb dX7_seek_77 (by decide) (fun c77 => ?_) (fun c77 => ?_)
        · refine lv_aload_n hx hb dX7_seek_105 rfl (lv_at hl 0 rfl) ?_
          refine lv_aload_n hx hb dX7_seek_106 rfl (lv_at hl 1 rfl) ?_
          refine lv_iload_n hx hb dX7_seek_107 rfl (lv_at hl 3 rfl) ?_
          refine lv_iload hx hb dX7_seek_108 (lv_at hl 8 rfl) ?_
          refine cc_i (wt_runV (As := [.ref p1, .int p3, .int v64_8]) (rest := []) ⟨hx, hb, hml, hown, hts⟩ (m_X7_extend l N h0 k0 p1 kp1 p3 (ir_w (lo' := 0) (hi' := 2) rv64_3 (by decide) (by decide)) v64_8 rv64_8) wm_X7_extend q780 ⟨rfl, rfl⟩ ⟨Nat.le_of_ble_eq_true rfl, Nat.le_of_ble_eq_true rfl⟩ (cS_preV hK hW hT hnn hS (cg7 k0) rfl rfl trivial) rfl hl.1 rfl (Nat.le_of_ble_eq_true rfl) dX7_seek_110 ⟨Nat.zero_le _, Nat.zero_le _⟩) hS (by decide) (fun x110 H locs hp hW hS oq => ?_)
          have np1_3 := np1_3.kept (oq _ np1_3.lt (cE_not kp1 (by decide)))
          have r110 : ir x110 0 1 := hp
          refine lv_if_eq (tgt := 134) hx hb dX7_seek_113 (by decide) (fun c113 => ?_) (fun c113 => ?_)
          · have rx110_113 : ir x110 0 0 := rf_eq c113 (ir_c (0) (by decide) : ir (0 : Int32) (0) (0))
            exact w2 _ _ _ (J134 _ _ _ v20_6 u64_0 hW hS (lv_sub hl [0, 1, 2, 3, 4, 5, 6, 7] rfl) rv64_3 rv64_4 rv64_5 rv64_7 ru64_0 np1_3)
          · have rx110_113 : ir x110 1 1 := rf_ne0 c113 r110
            refine lv_iload hx hb dX7_seek_116 (lv_at hl 6 rfl) ?_
            refine lv_aload_n hx hb dX7_seek_118 rfl (lv_at hl 0 rfl) ?_
            refine lv_aload_n hx hb dX7_seek_119 rfl (lv_at hl 1 rfl) ?_
            refine lv_aload_n hx hb dX7_seek_120 rfl (lv_at hl 2 rfl) ?_
            refine lv_iload_n hx hb dX7_seek_121 rfl (lv_at hl 3 rfl) ?_
            refine lv_iconst (v := 1) hx hb dX7_seek_122 (by decide) ?_
            refine lv_iadd hx hb dX7_seek_123 ?_
            refine lv_topi (fun x123 e123 => ?_)
            have t123 : x123.toInt = p3.toInt + (1) := it_add e123 rv64_3 (ir_c (1) (by decide) : ir (1 : Int32) (1) (1)) (by decide) (by decide)
            have r123 : ir x123 3 3 := rf_eq (e123.trans e74.symm) r74
            refine lv_iload hx hb dX7_seek_124 (lv_at hl 4 rfl) ?_
            refine lv_iload hx hb dX7_seek_126 (lv_at hl 5 rfl) ?_
            refine cc_i (wt_runV (As := [.ref p1, .ref p2, .int x123, .int p4, .int p5]) (rest := [.int v20_6]) ⟨hx, hb, hml, hown, hts⟩ (m_X7_seek_3 l N h0 k0 p1 kp1 p2 kp2 x123 r123 p4 p5 rv64_5) wm_X7_seek q785 ⟨rfl, rfl⟩ ⟨Nat.le_of_ble_eq_true rfl, Nat.le_of_ble_eq_true rfl⟩ (cS_preV hK hW hT hnn hS (cg7 k0) rfl rfl trivial) rfl hl.1 rfl (Nat.le_of_ble_eq_true rfl) dX7_seek_128 ⟨Nat.zero_le _, Nat.zero_le _⟩) hS (by decide) (fun x128 H locs hp hW hS oq => ?_)
            have np1_3 := np1_3.kept (oq _ np1_3.lt (cE_not kp1 (by decide)))
            refine lv_iadd hx hb dX7_seek_131 ?_
            refine lv_topi (fun x131 e131 => ?_)
            refine lv_istore (lv' := [(6, .int x131), (0, .ref h0), (1, .ref p1), (2, .ref p2), (3, .int p3), (4, .int p4), (5, .int p5), (7, .int v20_7), (8, .int v64_8)]) hx hb dX7_seek_132 hl (by decide) rfl (fun ls hl => ?_)
            exact w2 _ _ _ (J134 _ _ _ x131 u64_0 hW hS (lv_sub hl [1, 2, 3, 4, 5, 6, 0, 7] rfl) rv64_3 rv64_4 rv64_5 rv64_7 ru64_0 np1_3)
        · have rp4_77 : ir p4 3 3 := rf_eq c77.symm r74
          refine lv_iload hx hb dX7_seek_80 (lv_at hl 6 rfl) ?_
          refine lv_aload_n hx hb dX7_seek_82 rfl (lv_at hl 0 rfl) ?_
          refine lv_aload_n hx hb dX7_seek_83 rfl (lv_at hl 1 rfl) ?_
          refine lv_aload_n hx hb dX7_seek_84 rfl (lv_at hl 2 rfl) ?_
          refine lv_iload_n hx hb dX7_seek_85 rfl (lv_at hl 3 rfl) ?_
          refine lv_iload hx hb dX7_seek_86 (lv_at hl 8 rfl) ?_
          refine cc_i (wt_runV (As := [.ref p1, .ref p2, .int p3, .int v64_8]) (rest := [.int v20_6]) ⟨hx, hb, hml, hown, hts⟩ (m_X7_holds l N h0 k0 p1 kp1 p2 kp2 p3 (ir_w (lo' := 0) (hi' := 2) rv64_3 (by decide) (by decide)) v64_8 rv64_8) wm_X7_holds q766 ⟨rfl, rfl⟩ ⟨Nat.le_of_ble_eq_true rfl, Nat.le_of_ble_eq_true rfl⟩ (cS_preV hK hW hT hnn hS (cg7 k0) rfl rfl trivial) rfl hl.1 rfl (Nat.le_of_ble_eq_true rfl) dX7_seek_88 ⟨Nat.zero_le _, Nat.zero_le _⟩) hS (by decide) (fun x88 H locs hp hW hS oq => ?_)
          have np1_3 := np1_3.kept (oq _ np1_3.lt (cE_not kp1 (by decide)))
          have r88 : ir x88 0 1 := hp
          refine lv_if_eq (tgt := 98) hx hb dX7_seek_91 (by decide) (fun c91 => ?_) (fun c91 => ?_)
          · have rx88_91 : ir x88 0 0 := rf_eq c91 (ir_c (0) (by decide) : ir (0 : Int32) (0) (0))
            refine lv_iconst (v := 0) hx hb dX7_seek_98 (by decide) ?_
            exact w2 _ _ _ (J99 _ _ _ (0 : Int32) u64_0 hW hS (lv_sub hl [0, 1, 2, 3, 4, 5, 7] rfl) rv64_3 rp4_77 rv64_5 rv64_7 (ir_w (lo' := 0) (hi' := 1) (ir_c (0) (by decide) : ir (0 : Int32) (0) (0)) (by decide) (by decide)) ru64_0 np1_3)
          · have rx88_91 : ir x88 1 1 := rf_ne0 c91 r88
            refine lv_iconst (v := 1) hx hb dX7_seek_94 (by decide) ?_
            refine lv_goto (tgt := 99) hx hb dX7_seek_95 (by decide) ?_
            exact w2 _ _ _ (J99 _ _ _ (1 : Int32) u64_0 hW hS (lv_sub hl [0, 1, 2, 3, 4, 5, 7] rfl) rv64_3 rp4_77 rv64_5 rv64_7 (ir_w (lo' := 0) (hi' := 1) (ir_c (1) (by decide) : ir (1 : Int32) (1) (1)) (by decide) (by decide)) ru64_0 np1_3)
      refine w1 _ _ _ ?_
      refine lv_iload hx hb dX7_seek_20 (lv_at hl 7 rfl) ?_
      refine lv_aload_n hx hb dX7_seek_22 rfl (lv_at hl 1 rfl) ?_
      refine wt_getp hx hb hts cfX6 hown hK hW (cg6 kp1) rfl 3 (by decide) (Or.inr ⟨_, lw_n_use hnn q215⟩) dX7_seek_23 (fun v hv np1_3 => ?_)
      obtain ⟨x23, rfl, r23⟩ : gi 0 42 v := hv
      refine lv_icmp_ge (tgt := 153) hx hb dX7_seek_26 (by decide) (fun c26 => ?_) (fun c26 => ?_)
      · refine lv_iload hx hb dX7_seek_153 (lv_at hl 6 rfl) ?_
        exact W.iret (v := v20_6) hx hb hr (fun t ht _ => ⟨⟨v20_6, (), rfl, trivial, cW_at ht hW⟩, hS.F ht⟩) hS.2.2 dX7_seek_155
      · have rv20_7_26 : ir v20_7 0 41 := ⟨(rv20_7).1, Int.le_trans (rf_lt (rf_nle c26) rv20_7 r23).1 (by decide)⟩
        have rx23_26 : ir x23 1 42 := ⟨Int.le_trans (by decide) (rf_lt (rf_nle c26) rv20_7 r23).2, (r23).2⟩
        refine lv_aload_n hx hb dX7_seek_29 rfl (lv_at hl 1 rfl) ?_
        refine wt_getN hx hb hts cfX6 hown hK hW (cg6 kp1) rfl 2 (by decide) hnn q212 dX7_seek_30 (fun v hv => ?_)
        obtain ⟨x30, rfl, k30⟩ : gr N 24 v := hv
        refine lv_iload hx hb dX7_seek_33 (lv_at hl 7 rfl) ?_
        refine wt_iald hx hb hK hW 0 (cg24 k30) rfl (ir_in rv20_7_26 (by decide) (by decide)) dX7_seek_35 (fun v hv => ?_)
        obtain ⟨x35, rfl, r35⟩ : gi 0 41 v := hv
        refine lv_istore (lv' := [(8, .int x35), (0, .ref h0), (1, .ref p1), (2, .ref p2), (3, .int p3), (4, .int p4), (5, .int p5), (6, .int v20_6), (7, .int v20_7)]) hx hb dX7_seek_36 hl (by decide) rfl (fun ls hl => ?_)
        refine lv_iload_n hx hb dX7_seek_38 rfl (lv_at hl 4 rfl) ?_
        refine lv_if_le (tgt := 64) hx hb dX7_seek_39 (by decide) (fun c39 => ?_) (fun c39 => ?_)
        · exact absurd (rf_le c39 rv20_3 (ir_c (0) (by decide) : ir (0 : Int32) (0) (0))) (by have h8 := rv20_3; have h9 := (ir_c (0) (by decide) : ir (0 : Int32) (0) (0)); omega)
        · refine lv_iload hx hb dX7_seek_42 (lv_at hl 0 rfl) ?_
          refine lv_bipush (v := 7) hx hb dX7_seek_44 (by decide) ?_
          refine lv_idiv hx hb dX7_seek_46 (by decide) ?_
          refine lv_topi (fun x46 e46 => ?_)
          have r46 : ir x46 0 5 := by have t := ir_divc e46 r35 (by decide) 7 (by decide) (by decide) (by decide); have h9 := r35; constructor <;> omega
          refine lv_aload_n hx hb dX7_seek_47 rfl (lv_at hl 1 rfl) ?_
          refine wt_get hx hb hts cfX7 hown hK hW (cg7 k0) rfl 1 (by decide) q239 dX7_seek_48 (fun v hv => ?_)
          obtain ⟨x48, rfl, k48⟩ : gr N 25 v := hv
          refine lv_iload_n hx hb dX7_seek_51 rfl (lv_at hl 4 rfl) ?_
          refine lv_iconst (v := 1) hx hb dX7_seek_52 (by decide) ?_
          refine lv_isub hx hb dX7_seek_53 ?_
          refine lv_topi (fun x53 e53 => ?_)
          have t53 : x53.toInt = p3.toInt - (1) := it_sub e53 rv20_3 (ir_c (1) (by decide) : ir (1 : Int32) (1) (1)) (by decide) (by decide)
          have r53 : ir x53 1 1 := ir_w (ir_sub e53 rv20_3 (ir_c (1) (by decide) : ir (1 : Int32) (1) (1)) (by decide) (by decide)) (by decide) (by decide)
          refine wt_iald hx hb hK hW 0 (cg25 k48) rfl (ir_in (ir_w (lo' := 0) (hi' := 2) r53 (by decide) (by decide)) (by decide) (by decide)) dX7_seek_54 (fun v hv => ?_)
          obtain ⟨x54, rfl, r54⟩ : gi 0 41 v := hv
          refine lv_bipush (v := 7) hx hb dX7_seek_55 (by decide) ?_
          refine lv_idiv hx hb dX7_seek_57 (by decide) ?_
          refine lv_topi (fun x57 e57 => ?_)
          have r57 : ir x57 0 5 := by have t := ir_divc e57 r54 (by decide) 7 (by decide) (by decide) (by decide); have h9 := r54; constructor <;> omega
          refine lv_icmp_ne (tgt := 64) hx hb dX7_seek_58 (by decide) (fun c58 => ?_) (fun c58 => ?_)
          · exact w2 _ _ _ (J64 _ _ _ x35 x23 hW hS (lv_sub hl [1, 2, 3, 4, 5, 6, 7, 8, 0] rfl) rv20_3 rv20_4 rv20_5 rv20_7_26 r35 rx23_26 np1_3)
          · refine lv_goto (tgt := 147) hx hb dX7_seek_61 (by decide) ?_
            exact w2 _ _ _ (J147 _ _ _ v20_6 x23 hW hS (lv_sub hl [1, 2, 3, 4, 5, 6, 7, 8] rfl) rv20_3 rv20_4 rv20_5 rv20_7_26 rx23_26 np1_3)
  refine lv_iconst (v := 0) hx hb dX7_seek_0 (by decide) ?_
  refine lv_istore (lv' := [(6, .int (0 : Int32)), (0, .ref h0), (1, .ref p1), (2, .ref p2), (3, .int p3), (4, .int p4), (5, .int p5)]) hx hb dX7_seek_1 hl (by decide) rfl (fun ls hl => ?_)
  refine lv_iload_n hx hb dX7_seek_3 rfl (lv_at hl 4 rfl) ?_
  refine lv_iload hx hb dX7_seek_4 (lv_at hl 5 rfl) ?_
  refine lv_icmp_ge (tgt := 14) hx hb dX7_seek_6 (by decide) (fun c6 => ?_) (fun c6 => ?_)
  · have rp4_6 : ir p4 (-2147483648) 2 := ⟨((ir_any p4)).1, Int.le_trans (rf_le c6 (ir_any p4) rp3).1 (by decide)⟩
    refine lv_iload hx hb dX7_seek_14 (lv_at hl 0 rfl) ?_
    exact W.iret (v := (0 : Int32)) hx hb hr (fun t ht _ => ⟨⟨(0 : Int32), (), rfl, trivial, cW_at ht hW⟩, hS.F ht⟩) hS.2.2 dX7_seek_16
  · have rp4_6 : ir p4 3 2147483647 := ⟨Int.le_trans (by decide) (rf_lt (rf_nle c6) rp3 (ir_any p4)).2, ((ir_any p4)).2⟩
    refine lv_iload_n hx hb dX7_seek_9 rfl (lv_at hl 4 rfl) ?_
    refine lv_iconst (v := 3) hx hb dX7_seek_10 (by decide) ?_
    refine lv_icmp_lt (tgt := 17) hx hb dX7_seek_11 (by decide) (fun c11 => ?_) (fun c11 => ?_)
    · refine lv_iconst (v := 0) hx hb dX7_seek_17 (by decide) ?_
      refine lv_istore (lv' := [(7, .int (0 : Int32)), (6, .int (0 : Int32)), (0, .ref h0), (1, .ref p1), (2, .ref p2), (3, .int p3), (4, .int p4), (5, .int p5)]) hx hb dX7_seek_18 hl (by decide) rfl (fun ls hl => ?_)
      exact w2 _ _ _ (L20 43 _ _ _ (0 : Int32) (0 : Int32) hW hS (lv_sub hl [2, 3, 4, 5, 6, 7, 1, 0] rfl) rp3 rp4_6 rp5 (ir_w (lo' := 0) (hi' := 42) (ir_c (0) (by decide) : ir (0 : Int32) (0) (0)) (by decide) (by decide)) (by have h9 := (ir_c (0) (by decide) : ir (0 : Int32) (0) (0)); omega))
    · exact absurd (rf_le (rf_nlt c11) (ir_c (3) (by decide) : ir (3 : Int32) (3) (3)) rp3) (by have h8 := (ir_c (3) (by decide) : ir (3 : Int32) (3) (3)); have h9 := rp3; omega)
set_option maxHeartbeats 4000000 in
set_option maxRecDepth 100000 in
theorem m_X7_seek_1 (l : Launch) (N : c_N) (h0 : Nat) (k0 : N.2.2.1 h0 = some 7) (p1 : Nat) (kp1 : N.2.2.1 p1 = some 6) (p2 : Nat) (kp2 : N.2.2.1 p2 = some 5) (p3 : Int32) (rp3 : ir p3 1 1) (p4 : Int32) (p5 : Int32) (rp5 : ir p5 0 1) : cMi l yX7_seek cX7_seek 9 .int { frames := 8, cells := 0, slots := 0, locals := 216 } [.ref h0, .ref p1, .ref p2, .int p3, .int p4, .int p5] N [4, 25] cT0 (fun _ => True) := by
  refine Met.ofW (cc := cX7_seek) (maxL := 9) (ret := some .int) (by decide) rfl ?_
  intro p e s m args below meth c s₁ B hml hv
  obtain ⟨rfl, ⟨hK, hW, hT, hnn⟩, hB⟩ := hv
  have hx := B.exec
  have hb := B.bytes
  have hr := B.returns
  have hts : ∀ w ∈ lw_g, w.before _ s = true := fun w h => atoms_spec (ws := wc_ws yX7_seek cX7_seek 9 (some .int)) B.pre w (List.mem_cons_of_mem _ h)
  have hown : s.vm.findClass RX7 = some m.cls := findClass_of_methodNamed B.named
  have hlocks := B.notSynchronized
  have hS : va_S (cE N [4, 25]) s.heap s.heap [] := va_S.rf
  have hl := lv_entry ([.ref h0, .ref p1, .ref p2, .int p3, .int p4, .int p5]) (n := 9) (Nat.le_of_ble_eq_true rfl)
  rw [lg_entry_eq]
  generalize (lg_sl ([.ref h0, .ref p1, .ref p2, .int p3, .int p4, .int p5]) ++ List.replicate (9 - (lg_sl ([.ref h0, .ref p1, .ref p2, .int p3, .int p4, .int p5])).length) Slot.unset).toArray = ls at hl ⊢
  have hl : lv_has ls 9 [(0, .ref h0), (1, .ref p1), (2, .ref p2), (3, .int p3), (4, .int p4), (5, .int p5)] := hl
  refine wq_all ?_
  intro WW w1 w2
  have L20 : ∀ (n : Nat) (H : Heap) (locs : List Loc) (ls : Array Slot) (v20_6 : Int32) (v20_7 : Int32), cW N H → va_S (cE N [4, 25]) s.heap H locs → lv_has ls 9 [(0, .ref h0), (1, .ref p1), (2, .ref p2), (3, .int p3), (4, .int p4), (5, .int p5), (6, .int v20_6), (7, .int v20_7)] → ir p3 1 1 → ir p4 2 2147483647 → ir p5 0 1 → ir v20_7 0 42 → 42 - v20_7.toInt < (n : Int) → WW H locs (F0 m 20 ls []) := by
    intro n
    induction n with
    | zero =>
      intro H locs ls v20_6 v20_7 hW hS hl rv20_3 rv20_4 rv20_5 rv20_7 mu20
      exfalso
      omega
    | succ n ih20 =>
      intro H locs ls v20_6 v20_7 hW hS hl rv20_3 rv20_4 rv20_5 rv20_7 mu20
      have J147 : ∀ (H : Heap) (locs : List Loc) (ls : Array Slot) (v147_6 : Int32) (u147_0 : Int32), cW N H → va_S (cE N [4, 25]) s.heap H locs → lv_has ls 9 [(0, .ref h0), (1, .ref p1), (2, .ref p2), (3, .int p3), (4, .int p4), (5, .int p5), (6, .int v147_6), (7, .int v20_7)] → ir p3 1 1 → ir p4 2 2147483647 → ir p5 0 1 → ir v20_7 0 41 → ir u147_0 1 42 → wt_pin N.1 vwCl p1 6 3 (.int u147_0) H → WW H locs (F0 m 147 ls []) := by
        intro H locs ls v147_6 u147_0 hW hS hl rv147_3 rv147_4 rv147_5 rv147_7 ru147_0 np1_3
        refine w1 _ _ _ ?_
        obtain ⟨x147, e147⟩ : ∃ y : Int32, y = v20_7 + 1 := ⟨_, rfl⟩
        have r147 : ir x147 1 42 := ir_w (ir_add e147 rv147_7 (ir_c (1) (by decide) : ir (1 : Int32) (1) (1)) (by decide) (by decide)) (by decide) (by decide)
        have t147 : x147.toInt = v20_7.toInt + (1) := it_add e147 rv147_7 (ir_c (1) (by decide) : ir (1 : Int32) (1) (1)) (by decide) (by decide)
        refine lv_iinc (v := x147) (lv' := [(7, .int x147), (0, .ref h0), (1, .ref p1), (2, .ref p2), (3, .int p3), (4, .int p4), (5, .int p5), (6, .int v147_6)]) hx hb dX7_seek_147 hl (k := 7) rfl (by rw [e147]; rfl) (by decide) rfl (fun ls hl => ?_)
        refine lv_goto (tgt := 20) hx hb dX7_seek_150 (by decide) ?_
        exact w2 _ _ _ (ih20 _ _ _ v147_6 x147 hW hS (lv_sub hl [1, 2, 3, 4, 5, 6, 7, 0] rfl) rv147_3 rv147_4 rv147_5 (ir_w (lo' := 0) (hi' := 42) r147 (by decide) (by decide)) (by have h9 := r147; omega))
      have J134 : ∀ (H : Heap) (locs : List Loc) (ls : Array Slot) (v134_6 : Int32) (u134_0 : Int32), cW N H → va_S (cE N [4, 25]) s.heap H locs → lv_has ls 9 [(0, .ref h0), (1, .ref p1), (2, .ref p2), (3, .int p3), (4, .int p4), (5, .int p5), (6, .int v134_6), (7, .int v20_7)] → ir p3 1 1 → ir p4 2 2147483647 → ir p5 0 1 → ir v20_7 0 41 → ir u134_0 1 42 → wt_pin N.1 vwCl p1 6 3 (.int u134_0) H → WW H locs (F0 m 134 ls []) := by
        intro H locs ls v134_6 u134_0 hW hS hl rv134_3 rv134_4 rv134_5 rv134_7 ru134_0 np1_3
        refine w1 _ _ _ ?_
        refine lv_iload hx hb dX7_seek_134 (lv_at hl 5 rfl) ?_
        refine lv_if_eq (tgt := 147) hx hb dX7_seek_136 (by decide) (fun c136 => ?_) (fun c136 => ?_)
        · have rp5_136 : ir p5 0 0 := rf_eq c136 (ir_c (0) (by decide) : ir (0 : Int32) (0) (0))
          exact w2 _ _ _ (J147 _ _ _ v134_6 u134_0 hW hS (lv_sub hl [0, 1, 2, 3, 4, 5, 6, 7] rfl) rv134_3 rv134_4 (ir_w (lo' := 0) (hi' := 1) rp5_136 (by decide) (by decide)) rv134_7 ru134_0 np1_3)
        · have rp5_136 : ir p5 1 1 := rf_ne0 c136 rv134_5
          refine lv_iload hx hb dX7_seek_139 (lv_at hl 6 rfl) ?_
          refine lv_if_le (tgt := 147) hx hb dX7_seek_141 (by decide) (fun c141 => ?_) (fun c141 => ?_)
          · have rv134_6_141 : ir v134_6 (-2147483648) 0 := ⟨((ir_any v134_6)).1, Int.le_trans (rf_le c141 (ir_any v134_6) (ir_c (0) (by decide) : ir (0 : Int32) (0) (0))).1 (by decide)⟩
            exact w2 _ _ _ (J147 _ _ _ v134_6 u134_0 hW hS (lv_sub hl [0, 1, 2, 3, 4, 5, 6, 7] rfl) rv134_3 rv134_4 (ir_w (lo' := 0) (hi' := 1) rp5_136 (by decide) (by decide)) rv134_7 ru134_0 np1_3)
          · have rv134_6_141 : ir v134_6 1 2147483647 := ⟨Int.le_trans (by decide) (rf_lt (rf_nle c141) (ir_c (0) (by decide) : ir (0 : Int32) (0) (0)) (ir_any v134_6)).2, ((ir_any v134_6)).2⟩
            refine lv_iload hx hb dX7_seek_144 (lv_at hl 6 rfl) ?_
            exact W.iret (v := v134_6) hx hb hr (fun t ht _ => ⟨⟨v134_6, (), rfl, trivial, cW_at ht hW⟩, hS.F ht⟩) hS.2.2 dX7_seek_146
      have J99 : ∀ (H : Heap) (locs : List Loc) (ls : Array Slot) (w99_0 : Int32) (u99_0 : Int32), cW N H → va_S (cE N [4, 25]) s.heap H locs → lv_has ls 9 [(0, .ref h0), (1, .ref p1), (2, .ref p2), (3, .int p3), (4, .int p4), (5, .int p5), (7, .int v20_7)] → ir p3 1 1 → ir p4 2 2 → ir p5 0 1 → ir v20_7 0 41 → ir w99_0 0 1 → ir u99_0 1 42 → wt_pin N.1 vwCl p1 6 3 (.int u99_0) H → WW H locs (F0 m 99 ls [.int w99_0, .int v20_6]) := by
        intro H locs ls w99_0 u99_0 hW hS hl rv99_3 rv99_4 rv99_5 rv99_7 rw99_0 ru99_0 np1_3
        refine w1 _ _ _ ?_
        refine lv_iadd hx hb dX7_seek_99 ?_
        refine lv_topi (fun x99 e99 => ?_)
        refine lv_istore (lv' := [(6, .int x99), (0, .ref h0), (1, .ref p1), (2, .ref p2), (3, .int p3), (4, .int p4), (5, .int p5), (7, .int v20_7)]) hx hb dX7_seek_100 hl (by decide) rfl (fun ls hl => ?_)
        refine lv_goto (tgt := 134) hx hb dX7_seek_102 (by decide) ?_
        exact w2 _ _ _ (J134 _ _ _ x99 u99_0 hW hS (lv_sub hl [1, 2, 3, 4, 5, 6, 0, 7] rfl) rv99_3 (ir_w (lo' := 2) (hi' := 2147483647) rv99_4 (by decide) (by decide)) rv99_5 rv99_7 ru99_0 np1_3)
      have J64 : ∀ (H : Heap) (locs : List Loc) (ls : Array Slot) (v64_8 : Int32) (u64_0 : Int32), cW N H → va_S (cE N [4, 25]) s.heap H locs → lv_has ls 9 [(0, .ref h0), (1, .ref p1), (2, .ref p2), (3, .int p3), (4, .int p4), (5, .int p5), (6, .int v20_6), (7, .int v20_7), (8, .int v64_8)] → ir p3 1 1 → ir p4 2 2147483647 → ir p5 0 1 → ir v20_7 0 41 → ir v64_8 0 41 → ir u64_0 1 42 → wt_pin N.1 vwCl p1 6 3 (.int u64_0) H → WW H locs (F0 m 64 ls []) := by
        intro H locs ls v64_8 u64_0 hW hS hl rv64_3 rv64_4 rv64_5 rv64_7 rv64_8 ru64_0 np1_3
        refine w1 _ _ _ ?_
        refine lv_aload_n hx hb dX7_seek_64 rfl (lv_at hl 0 rfl) ?_
        refine wt_get hx hb hts cfX7 hown hK hW (cg7 k0) rfl 1 (by decide) q239 dX7_seek_65 (fun v hv => ?_)
        obtain ⟨x65, rfl, k65⟩ : gr N 25 v := hv
        refine lv_iload_n hx hb dX7_seek_68 rfl (lv_at hl 3 rfl) ?_
        refine lv_iload hx hb dX7_seek_69 (lv_at hl 8 rfl) ?_
        refine wt_iastp hx hb hK hW hS 0 (cg25 k65) (ce k65 (by decide)) rfl (ir_in (ir_w (lo' := 0) (hi' := 2) rv64_3 (by decide) (by decide)) (by decide) (by decide)) (gi_mk rv64_8) dX7_seek_71 (fun H locs hW hS oq => ?_)
        have np1_3 := np1_3.kept (oq _ (ne_kind kp1 k65 (by decide)))
        refine lv_iload_n hx hb dX7_seek_72 rfl (lv_at hl 3 rfl) ?_
        refine lv_iconst (v := 1) hx hb dX7_seek_73 (by decide) ?_
        refine lv_iadd hx hb dX7_seek_74 ?_
        refine lv_topi (fun x74 e74 => ?_)
        have t74 : x74.toInt = p3.toInt + (1) := it_add e74 rv64_3 (ir_c (1) (by decide) : ir (1 : Int32) (1) (1)) (by decide) (by decide)
        have r74 : ir x74 2 2 := ir_w (ir_add e74 rv64_3 (ir_c (1) (by decide) : ir (1 : Int32) (1) (1)) (by decide) (by decide)) (by decide) (by decide)
        refine lv_iload hx hb dX7_seek_75 (lv_at hl 4 rfl) ?_
        refine lv_icmp_ne (tgt := 105) hx hb dX7_seek_77 (by decide) (fun c77 => ?_) (fun c77 => ?_)
        · refine lv_aload_n hx hb dX7_seek_105 rfl (lv_at hl 0 rfl) ?_
          refine lv_aload_n hx hb dX7_seek_106 rfl (lv_at hl 1 rfl) ?_
          refine lv_iload_n hx hb dX7_seek_107 rfl (lv_at hl 3 rfl) ?_
          refine lv_iload hx hb dX7_seek_108 (lv_at hl 8 rfl) ?_
          refine cc_i (wt_runV (As := [.ref p1, .int p3, .int v64_8]) (rest := []) ⟨hx, hb, hml, hown, hts⟩ (m_X7_extend l N h0 k0 p1 kp1 p3 (ir_w (lo' := 0) (hi' := 2) rv64_3 (by decide) (by decide)) v64_8 rv64_8) wm_X7_extend q780 ⟨rfl, rfl⟩ ⟨Nat.le_of_ble_eq_true rfl, Nat.le_of_ble_eq_true rfl⟩ (cS_preV hK hW hT hnn hS (cg7 k0) rfl rfl trivial) rfl hl.1 rfl (Nat.le_of_ble_eq_true rfl) dX7_seek_110 ⟨Nat.zero_le _, Nat.zero_le _⟩) hS (by decide) (fun x110 H locs hp hW hS oq => ?_)
          have np1_3 := np1_3.kept (oq _ np1_3.lt (cE_not kp1 (by decide)))
          have r110 : ir x110 0 1 := hp
          refine lv_if_eq (tgt := 134) hx hb dX7_seek_113 (by decide) (fun c113 => ?_) (fun c113 => ?_)
          · have rx110_113 : ir x110 0 0 := rf_eq c113 (ir_c (0) (by decide) : ir (0 : Int32) (0) (0))
            exact w2 _ _ _ (J134 _ _ _ v20_6 u64_0 hW hS (lv_sub hl [0, 1, 2, 3, 4, 5, 6, 7] rfl) rv64_3 rv64_4 rv64_5 rv64_7 ru64_0 np1_3)
          · have rx110_113 : ir x110 1 1 := rf_ne0 c113 r110
            refine lv_iload hx hb dX7_seek_116 (lv_at hl 6 rfl) ?_
            refine lv_aload_n hx hb dX7_seek_118 rfl (lv_at hl 0 rfl) ?_
            refine lv_aload_n hx hb dX7_seek_119 rfl (lv_at hl 1 rfl) ?_
            refine lv_aload_n hx hb dX7_seek_120 rfl (lv_at hl 2 rfl) ?_
            refine lv_iload_n hx hb dX7_seek_121 rfl (lv_at hl 3 rfl) ?_
            refine lv_iconst (v := 1) hx hb dX7_seek_122 (by decide) ?_
            refine lv_iadd hx hb dX7_seek_123 ?_
            refine lv_topi (fun x123 e123 => ?_)
            have t123 : x123.toInt = p3.toInt + (1) := it_add e123 rv64_3 (ir_c (1) (by decide) : ir (1 : Int32) (1) (1)) (by decide) (by decide)
            have r123 : ir x123 2 2 := rf_eq (e123.trans e74.symm) r74
            refine lv_iload hx hb dX7_seek_124 (lv_at hl 4 rfl) ?_
            refine lv_iload hx hb dX7_seek_126 (lv_at hl 5 rfl) ?_
            refine cc_i (wt_runV (As := [.ref p1, .ref p2, .int x123, .int p4, .int p5]) (rest := [.int v20_6]) ⟨hx, hb, hml, hown, hts⟩ (m_X7_seek_2 l N h0 k0 p1 kp1 p2 kp2 x123 r123 p4 p5 rv64_5) wm_X7_seek q785 ⟨rfl, rfl⟩ ⟨Nat.le_of_ble_eq_true rfl, Nat.le_of_ble_eq_true rfl⟩ (cS_preV hK hW hT hnn hS (cg7 k0) rfl rfl trivial) rfl hl.1 rfl (Nat.le_of_ble_eq_true rfl) dX7_seek_128 ⟨Nat.zero_le _, Nat.zero_le _⟩) hS (by decide) (fun x128 H locs hp hW hS oq => ?_)
            have np1_3 := np1_3.kept (oq _ np1_3.lt (cE_not kp1 (by decide)))
            refine lv_iadd hx hb dX7_seek_131 ?_
            refine lv_topi (fun x131 e131 => ?_)
            refine lv_istore (lv' := [(6, .int x131), (0, .ref h0), (1, .ref p1), (2, .ref p2), (3, .int p3), (4, .int p4), (5, .int p5), (7, .int v20_7), (8, .int v64_8)]) hx hb dX7_seek_132 hl (by decide) rfl (fun ls hl => ?_)
            exact w2 _ _ _ (J134 _ _ _ x131 u64_0 hW hS (lv_sub hl [1, 2, 3, 4, 5, 6, 0, 7] rfl) rv64_3 rv64_4 rv64_5 rv64_7 ru64_0 np1_3)
        · have rp4_77 : ir p4 2 2 := rf_eq c77.symm r74
          refine lv_iload hx hb dX7_seek_80 (lv_at hl 6 rfl) ?_
          refine lv_aload_n hx hb dX7_seek_82 rfl (lv_at hl 0 rfl) ?_
          refine lv_aload_n hx hb dX7_seek_83 rfl (lv_at hl 1 rfl) ?_
          refine lv_aload_n hx hb dX7_seek_84 rfl (lv_at hl 2 rfl) ?_
          refine lv_iload_n hx hb dX7_seek_85 rfl (lv_at hl 3 rfl) ?_
          refine lv_iload hx hb dX7_seek_86 (lv_at hl 8 rfl) ?_
          refine cc_i (wt_runV (As := [.ref p1, .ref p2, .int p3, .int v64_8]) (rest := [.int v20_6]) ⟨hx, hb, hml, hown, hts⟩ (m_X7_holds l N h0 k0 p1 kp1 p2 kp2 p3 (ir_w (lo' := 0) (hi' := 2) rv64_3 (by decide) (by decide)) v64_8 rv64_8) wm_X7_holds q766 ⟨rfl, rfl⟩ ⟨Nat.le_of_ble_eq_true rfl, Nat.le_of_ble_eq_true rfl⟩ (cS_preV hK hW hT hnn hS (cg7 k0) rfl rfl trivial) rfl hl.1 rfl (Nat.le_of_ble_eq_true rfl) dX7_seek_88 ⟨Nat.zero_le _, Nat.zero_le _⟩) hS (by decide) (fun x88 H locs hp hW hS oq => ?_)
          have np1_3 := np1_3.kept (oq _ np1_3.lt (cE_not kp1 (by decide)))
          have r88 : ir x88 0 1 := hp
          refine lv_if_eq (tgt := 98) hx hb dX7_seek_91 (by decide) (fun c91 => ?_) (fun c91 => ?_)
          · have rx88_91 : ir x88 0 0 := rf_eq c91 (ir_c (0) (by decide) : ir (0 : Int32) (0) (0))
            refine lv_iconst (v := 0) hx hb dX7_seek_98 (by decide) ?_
            exact w2 _ _ _ (J99 _ _ _ (0 : Int32) u64_0 hW hS (lv_sub hl [0, 1, 2, 3, 4, 5, 7] rfl) rv64_3 rp4_77 rv64_5 rv64_7 (ir_w (lo' := 0) (hi' := 1) (ir_c (0) (by decide) : ir (0 : Int32) (0) (0)) (by decide) (by decide)) ru64_0 np1_3)
          · have rx88_91 : ir x88 1 1 := rf_ne0 c91 r88
            refine lv_iconst (v := 1) hx hb dX7_seek_94 (by decide) ?_
            refine lv_goto (tgt := 99) hx hb dX7_seek_95 (by decide) ?_
            exact w2 _ _ _ (J99 _ _ _ (1 : Int32) u64_0 hW hS (lv_sub hl [0, 1, 2, 3, 4, 5, 7] rfl) rv64_3 rp4_77 rv64_5 rv64_7 (ir_w (lo' := 0) (hi' := 1) (ir_c (1) (by decide) : ir (1 : Int32) (1) (1)) (by decide) (by decide)) ru64_0 np1_3)
      refine w1 _ _ _ ?_
      refine lv_iload hx hb dX7_seek_20 (lv_at hl 7 rfl) ?_
      refine lv_aload_n hx hb dX7_seek_22 rfl (lv_at hl 1 rfl) ?_
      refine wt_getp hx hb hts cfX6 hown hK hW (cg6 kp1) rfl 3 (by decide) (Or.inr ⟨_, lw_n_use hnn q215⟩) dX7_seek_23 (fun v hv np1_3 => ?_)
      obtain ⟨x23, rfl, r23⟩ : gi 0 42 v := hv
      refine lv_icmp_ge (tgt := 153) hx hb dX7_seek_26 (by decide) (fun c26 => ?_) (fun c26 => ?_)
      · refine lv_iload hx hb dX7_seek_153 (lv_at hl 6 rfl) ?_
        exact W.iret (v := v20_6) hx hb hr (fun t ht _ => ⟨⟨v20_6, (), rfl, trivial, cW_at ht hW⟩, hS.F ht⟩) hS.2.2 dX7_seek_155
      · have rv20_7_26 : ir v20_7 0 41 := ⟨(rv20_7).1, Int.le_trans (rf_lt (rf_nle c26) rv20_7 r23).1 (by decide)⟩
        have rx23_26 : ir x23 1 42 := ⟨Int.le_trans (by decide) (rf_lt (rf_nle c26) rv20_7 r23).2, (r23).2⟩
        refine lv_aload_n hx hb dX7_seek_29 rfl (lv_at hl 1 rfl) ?_
        refine wt_getN hx hb hts cfX6 hown hK hW (cg6 kp1) rfl 2 (by decide) hnn q212 dX7_seek_30 (fun v hv => ?_)
        obtain ⟨x30, rfl, k30⟩ : gr N 24 v := hv
        refine lv_iload hx hb dX7_seek_33 (lv_at hl 7 rfl) ?_
        refine wt_iald hx hb hK hW 0 (cg24 k30) rfl (ir_in rv20_7_26 (by decide) (by decide)) dX7_seek_35 (fun v hv => ?_)
        obtain ⟨x35, rfl, r35⟩ : gi 0 41 v := hv
        refine lv_istore (lv' := [(8, .int x35), (0, .ref h0), (1, .ref p1), (2, .ref p2), (3, .int p3), (4, .int p4), (5, .int p5), (6, .int v20_6), (7, .int v20_7)]) hx hb dX7_seek_36 hl (by decide) rfl (fun ls hl => ?_)
        refine lv_iload_n hx hb dX7_seek_38 rfl (lv_at hl 4 rfl) ?_
        refine lv_if_le (tgt := 64) hx hb dX7_seek_39 (by decide) (fun c39 => ?_) (fun c39 => ?_)
        · exact absurd (rf_le c39 rv20_3 (ir_c (0) (by decide) : ir (0 : Int32) (0) (0))) (by have h8 := rv20_3; have h9 := (ir_c (0) (by decide) : ir (0 : Int32) (0) (0)); omega)
        · refine lv_iload hx hb dX7_seek_42 (lv_at hl 0 rfl) ?_
          refine lv_bipush (v := 7) hx hb dX7_seek_44 (by decide) ?_
          refine lv_idiv hx hb dX7_seek_46 (by decide) ?_
          refine lv_topi (fun x46 e46 => ?_)
          have r46 : ir x46 0 5 := by have t := ir_divc e46 r35 (by decide) 7 (by decide) (by decide) (by decide); have h9 := r35; constructor <;> omega
          refine lv_aload_n hx hb dX7_seek_47 rfl (lv_at hl 1 rfl) ?_
          refine wt_get hx hb hts cfX7 hown hK hW (cg7 k0) rfl 1 (by decide) q239 dX7_seek_48 (fun v hv => ?_)
          obtain ⟨x48, rfl, k48⟩ : gr N 25 v := hv
          refine lv_iload_n hx hb dX7_seek_51 rfl (lv_at hl 4 rfl) ?_
          refine lv_iconst (v := 1) hx hb dX7_seek_52 (by decide) ?_
          refine lv_isub hx hb dX7_seek_53 ?_
          refine lv_topi (fun x53 e53 => ?_)
          have t53 : x53.toInt = p3.toInt - (1) := it_sub e53 rv20_3 (ir_c (1) (by decide) : ir (1 : Int32) (1) (1)) (by decide) (by decide)
          have r53 : ir x53 0 0 := ir_w (ir_sub e53 rv20_3 (ir_c (1) (by decide) : ir (1 : Int32) (1) (1)) (by decide) (by decide)) (by decide) (by decide)
          refine wt_iald hx hb hK hW 0 (cg25 k48) rfl (ir_in (ir_w (lo' := 0) (hi' := 2) r53 (by decide) (by decide)) (by decide) (by decide)) dX7_seek_54 (fun v hv => ?_)
          obtain ⟨x54, rfl, r54⟩ : gi 0 41 v := hv
          refine lv_bipush (v := 7) hx hb dX7_seek_55 (by decide) ?_
          refine lv_idiv hx hb dX7_seek_57 (by decide) ?_
          refine lv_topi (fun x57 e57 => ?_)
          have r57 : ir x57 0 5 := by have t := ir_divc e57 r54 (by decide) 7 (by decide) (by decide) (by decide); have h9 := r54; constructor <;> omega
          refine lv_icmp_ne (tgt := 64) hx hb dX7_seek_58 (by decide) (fun c58 => ?_) (fun c58 => ?_)
          · exact w2 _ _ _ (J64 _ _ _ x35 x23 hW hS (lv_sub hl [1, 2, 3, 4, 5, 6, 7, 8, 0] rfl) rv20_3 rv20_4 rv20_5 rv20_7_26 r35 rx23_26 np1_3)
          · refine lv_goto (tgt := 147) hx hb dX7_seek_61 (by decide) ?_
            exact w2 _ _ _ (J147 _ _ _ v20_6 x23 hW hS (lv_sub hl [1, 2, 3, 4, 5, 6, 7, 8] rfl) rv20_3 rv20_4 rv20_5 rv20_7_26 rx23_26 np1_3)
  refine lv_iconst (v := 0) hx hb dX7_seek_0 (by decide) ?_
  refine lv_istore (lv' := [(6, .int (0 : Int32)), (0, .ref h0), (1, .ref p1), (2, .ref p2), (3, .int p3), (4, .int p4), (5, .int p5)]) hx hb dX7_seek_1 hl (by decide) rfl (fun ls hl => ?_)
  refine lv_iload_n hx hb dX7_seek_3 rfl (lv_at hl 4 rfl) ?_
  refine lv_iload hx hb dX7_seek_4 (lv_at hl 5 rfl) ?_
  refine lv_icmp_ge (tgt := 14) hx hb dX7_seek_6 (by decide) (fun c6 => ?_) (fun c6 => ?_)
  · have rp4_6 : ir p4 (-2147483648) 1 := ⟨((ir_any p4)).1, Int.le_trans (rf_le c6 (ir_any p4) rp3).1 (by decide)⟩
    refine lv_iload hx hb dX7_seek_14 (lv_at hl 0 rfl) ?_
    exact W.iret (v := (0 : Int32)) hx hb hr (fun t ht _ => ⟨⟨(0 : Int32), (), rfl, trivial, cW_at ht hW⟩, hS.F ht⟩) hS.2.2 dX7_seek_16
  · have rp4_6 : ir p4 2 2147483647 := ⟨Int.le_trans (by decide) (rf_lt (rf_nle c6) rp3 (ir_any p4)).2, ((ir_any p4)).2⟩
    refine lv_iload_n hx hb dX7_seek_9 rfl (lv_at hl 4 rfl) ?_
    refine lv_iconst (v := 3) hx hb dX7_seek_10 (by decide) ?_
    refine lv_icmp_lt (tgt := 17) hx hb dX7_seek_11 (by decide) (fun c11 => ?_) (fun c11 => ?_)
    · refine lv_iconst (v := 0) hx hb dX7_seek_17 (by decide) ?_
      refine lv_istore (lv' := [(7, .int (0 : Int32)), (6, .int (0 : Int32)), (0, .ref h0), (1, .ref p1), (2, .ref p2), (3, .int p3), (4, .int p4), (5, .int p5)]) hx hb dX7_seek_18 hl (by decide) rfl (fun ls hl => ?_)
      exact w2 _ _ _ (L20 43 _ _ _ (0 : Int32) (0 : Int32) hW hS (lv_sub hl [2, 3, 4, 5, 6, 7, 1, 0] rfl) rp3 rp4_6 rp5 (ir_w (lo' := 0) (hi' := 42) (ir_c (0) (by decide) : ir (0 : Int32) (0) (0)) (by decide) (by decide)) (by have h9 := (ir_c (0) (by decide) : ir (0 : Int32) (0) (0)); omega))
    · exact absurd (rf_le (rf_nlt c11) (ir_c (3) (by decide) : ir (3 : Int32) (3) (3)) rp3) (by have h8 := (ir_c (3) (by decide) : ir (3 : Int32) (3) (3)); have h9 := rp3; omega)
set_option maxHeartbeats 4000000 in
set_option maxRecDepth 100000 in
theorem m_X7_seek_0 (l : Launch) (N : c_N) (h0 : Nat) (k0 : N.2.2.1 h0 = some 7) (p1 : Nat) (kp1 : N.2.2.1 p1 = some 6) (p2 : Nat) (kp2 : N.2.2.1 p2 = some 5) (p3 : Int32) (rp3 : ir p3 0 0) (p4 : Int32) (p5 : Int32) (rp5 : ir p5 0 1) : cMi l yX7_seek cX7_seek 9 .int { frames := 9, cells := 0, slots := 0, locals := 244 } [.ref h0, .ref p1, .ref p2, .int p3, .int p4, .int p5] N [4, 25] cT0 (fun _ => True) := by
  refine Met.ofW (cc := cX7_seek) (maxL := 9) (ret := some .int) (by decide) rfl ?_
  intro p e s m args below meth c s₁ B hml hv
  obtain ⟨rfl, ⟨hK, hW, hT, hnn⟩, hB⟩ := hv
  have hx := B.exec
  have hb := B.bytes
  have hr := B.returns
  have hts : ∀ w ∈ lw_g, w.before _ s = true := fun w h => atoms_spec (ws := wc_ws yX7_seek cX7_seek 9 (some .int)) B.pre w (List.mem_cons_of_mem _ h)
  have hown : s.vm.findClass RX7 = some m.cls := findClass_of_methodNamed B.named
  have hlocks := B.notSynchronized
  have hS : va_S (cE N [4, 25]) s.heap s.heap [] := va_S.rf
  have hl := lv_entry ([.ref h0, .ref p1, .ref p2, .int p3, .int p4, .int p5]) (n := 9) (Nat.le_of_ble_eq_true rfl)
  rw [lg_entry_eq]
  generalize (lg_sl ([.ref h0, .ref p1, .ref p2, .int p3, .int p4, .int p5]) ++ List.replicate (9 - (lg_sl ([.ref h0, .ref p1, .ref p2, .int p3, .int p4, .int p5])).length) Slot.unset).toArray = ls at hl ⊢
  have hl : lv_has ls 9 [(0, .ref h0), (1, .ref p1), (2, .ref p2), (3, .int p3), (4, .int p4), (5, .int p5)] := hl
  refine wq_all ?_
  intro WW w1 w2
  have L20 : ∀ (n : Nat) (H : Heap) (locs : List Loc) (ls : Array Slot) (v20_6 : Int32) (v20_7 : Int32), cW N H → va_S (cE N [4, 25]) s.heap H locs → lv_has ls 9 [(0, .ref h0), (1, .ref p1), (2, .ref p2), (3, .int p3), (4, .int p4), (5, .int p5), (6, .int v20_6), (7, .int v20_7)] → ir p3 0 0 → ir p4 1 2147483647 → ir p5 0 1 → ir v20_7 0 42 → 42 - v20_7.toInt < (n : Int) → WW H locs (F0 m 20 ls []) := by
    intro n
    induction n with
    | zero =>
      intro H locs ls v20_6 v20_7 hW hS hl rv20_3 rv20_4 rv20_5 rv20_7 mu20
      exfalso
      omega
    | succ n ih20 =>
      intro H locs ls v20_6 v20_7 hW hS hl rv20_3 rv20_4 rv20_5 rv20_7 mu20
      have J147 : ∀ (H : Heap) (locs : List Loc) (ls : Array Slot) (v147_6 : Int32) (u147_0 : Int32), cW N H → va_S (cE N [4, 25]) s.heap H locs → lv_has ls 9 [(0, .ref h0), (1, .ref p1), (2, .ref p2), (3, .int p3), (4, .int p4), (5, .int p5), (6, .int v147_6), (7, .int v20_7)] → ir p3 0 0 → ir p4 1 2147483647 → ir p5 0 1 → ir v20_7 0 41 → ir u147_0 1 42 → wt_pin N.1 vwCl p1 6 3 (.int u147_0) H → WW H locs (F0 m 147 ls []) := by
        intro H locs ls v147_6 u147_0 hW hS hl rv147_3 rv147_4 rv147_5 rv147_7 ru147_0 np1_3
        refine w1 _ _ _ ?_
        obtain ⟨x147, e147⟩ : ∃ y : Int32, y = v20_7 + 1 := ⟨_, rfl⟩
        have r147 : ir x147 1 42 := ir_w (ir_add e147 rv147_7 (ir_c (1) (by decide) : ir (1 : Int32) (1) (1)) (by decide) (by decide)) (by decide) (by decide)
        have t147 : x147.toInt = v20_7.toInt + (1) := it_add e147 rv147_7 (ir_c (1) (by decide) : ir (1 : Int32) (1) (1)) (by decide) (by decide)
        refine lv_iinc (v := x147) (lv' := [(7, .int x147), (0, .ref h0), (1, .ref p1), (2, .ref p2), (3, .int p3), (4, .int p4), (5, .int p5), (6, .int v147_6)]) hx hb dX7_seek_147 hl (k := 7) rfl (by rw [e147]; rfl) (by decide) rfl (fun ls hl => ?_)
        refine lv_goto (tgt := 20) hx hb dX7_seek_150 (by decide) ?_
        exact w2 _ _ _ (ih20 _ _ _ v147_6 x147 hW hS (lv_sub hl [1, 2, 3, 4, 5, 6, 7, 0] rfl) rv147_3 rv147_4 rv147_5 (ir_w (lo' := 0) (hi' := 42) r147 (by decide) (by decide)) (by have h9 := r147; omega))
      have J134 : ∀ (H : Heap) (locs : List Loc) (ls : Array Slot) (v134_6 : Int32) (u134_0 : Int32), cW N H → va_S (cE N [4, 25]) s.heap H locs → lv_has ls 9 [(0, .ref h0), (1, .ref p1), (2, .ref p2), (3, .int p3), (4, .int p4), (5, .int p5), (6, .int v134_6), (7, .int v20_7)] → ir p3 0 0 → ir p4 1 2147483647 → ir p5 0 1 → ir v20_7 0 41 → ir u134_0 1 42 → wt_pin N.1 vwCl p1 6 3 (.int u134_0) H → WW H locs (F0 m 134 ls []) := by
        intro H locs ls v134_6 u134_0 hW hS hl rv134_3 rv134_4 rv134_5 rv134_7 ru134_0 np1_3
        refine w1 _ _ _ ?_
        refine lv_iload hx hb dX7_seek_134 (lv_at hl 5 rfl) ?_
        refine lv_if_eq (tgt := 147) hx hb dX7_seek_136 (by decide) (fun c136 => ?_) (fun c136 => ?_)
        · have rp5_136 : ir p5 0 0 := rf_eq c136 (ir_c (0) (by decide) : ir (0 : Int32) (0) (0))
          exact w2 _ _ _ (J147 _ _ _ v134_6 u134_0 hW hS (lv_sub hl [0, 1, 2, 3, 4, 5, 6, 7] rfl) rv134_3 rv134_4 (ir_w (lo' := 0) (hi' := 1) rp5_136 (by decide) (by decide)) rv134_7 ru134_0 np1_3)
        · have rp5_136 : ir p5 1 1 := rf_ne0 c136 rv134_5
          refine lv_iload hx hb dX7_seek_139 (lv_at hl 6 rfl) ?_
          refine lv_if_le (tgt := 147) hx hb dX7_seek_141 (by decide) (fun c141 => ?_) (fun c141 => ?_)
          · have rv134_6_141 : ir v134_6 (-2147483648) 0 := ⟨((ir_any v134_6)).1, Int.le_trans (rf_le c141 (ir_any v134_6) (ir_c (0) (by decide) : ir (0 : Int32) (0) (0))).1 (by decide)⟩
            exact w2 _ _ _ (J147 _ _ _ v134_6 u134_0 hW hS (lv_sub hl [0, 1, 2, 3, 4, 5, 6, 7] rfl) rv134_3 rv134_4 (ir_w (lo' := 0) (hi' := 1) rp5_136 (by decide) (by decide)) rv134_7 ru134_0 np1_3)
          · have rv134_6_141 : ir v134_6 1 2147483647 := ⟨Int.le_trans (by decide) (rf_lt (rf_nle c141) (ir_c (0) (by decide) : ir (0 : Int32) (0) (0)) (ir_any v134_6)).2, ((ir_any v134_6)).2⟩
            refine lv_iload hx hb dX7_seek_144 (lv_at hl 6 rfl) ?_
            exact W.iret (v := v134_6) hx hb hr (fun t ht _ => ⟨⟨v134_6, (), rfl, trivial, cW_at ht hW⟩, hS.F ht⟩) hS.2.2 dX7_seek_146
      have J99 : ∀ (H : Heap) (locs : List Loc) (ls : Array Slot) (w99_0 : Int32) (u99_0 : Int32), cW N H → va_S (cE N [4, 25]) s.heap H locs → lv_has ls 9 [(0, .ref h0), (1, .ref p1), (2, .ref p2), (3, .int p3), (4, .int p4), (5, .int p5), (7, .int v20_7)] → ir p3 0 0 → ir p4 1 1 → ir p5 0 1 → ir v20_7 0 41 → ir w99_0 0 1 → ir u99_0 1 42 → wt_pin N.1 vwCl p1 6 3 (.int u99_0) H → WW H locs (F0 m 99 ls [.int w99_0, .int v20_6]) := by
        intro H locs ls w99_0 u99_0 hW hS hl rv99_3 rv99_4 rv99_5 rv99_7 rw99_0 ru99_0 np1_3
        refine w1 _ _ _ ?_
        refine lv_iadd hx hb dX7_seek_99 ?_
        refine lv_topi (fun x99 e99 => ?_)
        refine lv_istore (lv' := [(6, .int x99), (0, .ref h0), (1, .ref p1), (2, .ref p2), (3, .int p3), (4, .int p4), (5, .int p5), (7, .int v20_7)]) hx hb dX7_seek_100 hl (by decide) rfl (fun ls hl => ?_)
        refine lv_goto (tgt := 134) hx hb dX7_seek_102 (by decide) ?_
        exact w2 _ _ _ (J134 _ _ _ x99 u99_0 hW hS (lv_sub hl [1, 2, 3, 4, 5, 6, 0, 7] rfl) rv99_3 (ir_w (lo' := 1) (hi' := 2147483647) rv99_4 (by decide) (by decide)) rv99_5 rv99_7 ru99_0 np1_3)
      have J64 : ∀ (H : Heap) (locs : List Loc) (ls : Array Slot) (v64_8 : Int32) (u64_0 : Int32), cW N H → va_S (cE N [4, 25]) s.heap H locs → lv_has ls 9 [(0, .ref h0), (1, .ref p1), (2, .ref p2), (3, .int p3), (4, .int p4), (5, .int p5), (6, .int v20_6), (7, .int v20_7), (8, .int v64_8)] → ir p3 0 0 → ir p4 1 2147483647 → ir p5 0 1 → ir v20_7 0 41 → ir v64_8 0 41 → ir u64_0 1 42 → wt_pin N.1 vwCl p1 6 3 (.int u64_0) H → WW H locs (F0 m 64 ls []) := by
        intro H locs ls v64_8 u64_0 hW hS hl rv64_3 rv64_4 rv64_5 rv64_7 rv64_8 ru64_0 np1_3
        refine w1 _ _ _ ?_
        refine lv_aload_n hx hb dX7_seek_64 rfl (lv_at hl 0 rfl) ?_
        refine wt_get hx hb hts cfX7 hown hK hW (cg7 k0) rfl 1 (by decide) q239 dX7_seek_65 (fun v hv => ?_)
        obtain ⟨x65, rfl, k65⟩ : gr N 25 v := hv
        refine lv_iload_n hx hb dX7_seek_68 rfl (lv_at hl 3 rfl) ?_
        refine lv_iload hx hb dX7_seek_69 (lv_at hl 8 rfl) ?_
        refine wt_iastp hx hb hK hW hS 0 (cg25 k65) (ce k65 (by decide)) rfl (ir_in (ir_w (lo' := 0) (hi' := 2) rv64_3 (by decide) (by decide)) (by decide) (by decide)) (gi_mk rv64_8) dX7_seek_71 (fun H locs hW hS oq => ?_)
        have np1_3 := np1_3.kept (oq _ (ne_kind kp1 k65 (by decide)))
        refine lv_iload_n hx hb dX7_seek_72 rfl (lv_at hl 3 rfl) ?_
        refine lv_iconst (v := 1) hx hb dX7_seek_73 (by decide) ?_
        refine lv_iadd hx hb dX7_seek_74 ?_
        refine lv_topi (fun x74 e74 => ?_)
        have t74 : x74.toInt = p3.toInt + (1) := it_add e74 rv64_3 (ir_c (1) (by decide) : ir (1 : Int32) (1) (1)) (by decide) (by decide)
        have r74 : ir x74 1 1 := ir_w (ir_add e74 rv64_3 (ir_c (1) (by decide) : ir (1 : Int32) (1) (1)) (by decide) (by decide)) (by decide) (by decide)
        refine lv_iload hx hb dX7_seek_75 (lv_at hl 4 rfl) ?_
        refine lv_icmp_ne (tgt := 105) hx hb dX7_seek_77 (by decide) (fun c77 => ?_) (fun c77 => ?_)
        · refine lv_aload_n hx hb dX7_seek_105 rfl (lv_at hl 0 rfl) ?_
          refine lv_aload_n hx hb dX7_seek_106 rfl (lv_at hl 1 rfl) ?_
          refine lv_iload_n hx hb dX7_seek_107 rfl (lv_at hl 3 rfl) ?_
          refine lv_iload hx hb dX7_seek_108 (lv_at hl 8 rfl) ?_
          refine cc_i (wt_runV (As := [.ref p1, .int p3, .int v64_8]) (rest := []) ⟨hx, hb, hml, hown, hts⟩ (m_X7_extend l N h0 k0 p1 kp1 p3 (ir_w (lo' := 0) (hi' := 2) rv64_3 (by decide) (by decide)) v64_8 rv64_8) wm_X7_extend q780 ⟨rfl, rfl⟩ ⟨Nat.le_of_ble_eq_true rfl, Nat.le_of_ble_eq_true rfl⟩ (cS_preV hK hW hT hnn hS (cg7 k0) rfl rfl trivial) rfl hl.1 rfl (Nat.le_of_ble_eq_true rfl) dX7_seek_110 ⟨Nat.zero_le _, Nat.zero_le _⟩) hS (by decide) (fun x110 H locs hp hW hS oq => ?_)
          have np1_3 := np1_3.kept (oq _ np1_3.lt (cE_not kp1 (by decide)))
          have r110 : ir x110 0 1 := hp
          refine lv_if_eq (tgt := 134) hx hb dX7_seek_113 (by decide) (fun c113 => ?_) (fun c113 => ?_)
          · have rx110_113 : ir x110 0 0 := rf_eq c113 (ir_c (0) (by decide) : ir (0 : Int32) (0) (0))
            exact w2 _ _ _ (J134 _ _ _ v20_6 u64_0 hW hS (lv_sub hl [0, 1, 2, 3, 4, 5, 6, 7] rfl) rv64_3 rv64_4 rv64_5 rv64_7 ru64_0 np1_3)
          · have rx110_113 : ir x110 1 1 := rf_ne0 c113 r110
            refine lv_iload hx hb dX7_seek_116 (lv_at hl 6 rfl) ?_
            refine lv_aload_n hx hb dX7_seek_118 rfl (lv_at hl 0 rfl) ?_
            refine lv_aload_n hx hb dX7_seek_119 rfl (lv_at hl 1 rfl) ?_
            refine lv_aload_n hx hb dX7_seek_120 rfl (lv_at hl 2 rfl) ?_
            refine lv_iload_n hx hb dX7_seek_121 rfl (lv_at hl 3 rfl) ?_
            refine lv_iconst (v := 1) hx hb dX7_seek_122 (by decide) ?_
            refine lv_iadd hx hb dX7_seek_123 ?_
            refine lv_topi (fun x123 e123 => ?_)
            have t123 : x123.toInt = p3.toInt + (1) := it_add e123 rv64_3 (ir_c (1) (by decide) : ir (1 : Int32) (1) (1)) (by decide) (by decide)
            have r123 : ir x123 1 1 := rf_eq (e123.trans e74.symm) r74
            refine lv_iload hx hb dX7_seek_124 (lv_at hl 4 rfl) ?_
            refine lv_iload hx hb dX7_seek_126 (lv_at hl 5 rfl) ?_
            refine cc_i (wt_runV (As := [.ref p1, .ref p2, .int x123, .int p4, .int p5]) (rest := [.int v20_6]) ⟨hx, hb, hml, hown, hts⟩ (m_X7_seek_1 l N h0 k0 p1 kp1 p2 kp2 x123 r123 p4 p5 rv64_5) wm_X7_seek q785 ⟨rfl, rfl⟩ ⟨Nat.le_of_ble_eq_true rfl, Nat.le_of_ble_eq_true rfl⟩ (cS_preV hK hW hT hnn hS (cg7 k0) rfl rfl trivial) rfl hl.1 rfl (Nat.le_of_ble_eq_true rfl) dX7_seek_128 ⟨Nat.zero_le _, Nat.zero_le _⟩) hS (by decide) (fun x128 H locs hp hW hS oq => ?_)
            have np1_3 := np1_3.kept (oq _ np1_3.lt (cE_not kp1 (by decide)))
            refine lv_iadd hx hb dX7_seek_131 ?_
            refine lv_topi (fun x131 e131 => ?_)
            refine lv_istore (lv' := [(6, .int x131), (0, .ref h0), (1, .ref p1), (2, .ref p2), (3, .int p3), (4, .int p4), (5, .int p5), (7, .int v20_7), (8, .int v64_8)]) hx hb dX7_seek_132 hl (by decide) rfl (fun ls hl => ?_)
            exact w2 _ _ _ (J134 _ _ _ x131 u64_0 hW hS (lv_sub hl [1, 2, 3, 4, 5, 6, 0, 7] rfl) rv64_3 rv64_4 rv64_5 rv64_7 ru64_0 np1_3)
        · have rp4_77 : ir p4 1 1 := rf_eq c77.symm r74
          refine lv_iload hx hb dX7_seek_80 (lv_at hl 6 rfl) ?_
          refine lv_aload_n hx hb dX7_seek_82 rfl (lv_at hl 0 rfl) ?_
          refine lv_aload_n hx hb dX7_seek_83 rfl (lv_at hl 1 rfl) ?_
          refine lv_aload_n hx hb dX7_seek_84 rfl (lv_at hl 2 rfl) ?_
          refine lv_iload_n hx hb dX7_seek_85 rfl (lv_at hl 3 rfl) ?_
          refine lv_iload hx hb dX7_seek_86 (lv_at hl 8 rfl) ?_
          refine cc_i (wt_runV (As := [.ref p1, .ref p2, .int p3, .int v64_8]) (rest := [.int v20_6]) ⟨hx, hb, hml, hown, hts⟩ (m_X7_holds l N h0 k0 p1 kp1 p2 kp2 p3 (ir_w (lo' := 0) (hi' := 2) rv64_3 (by decide) (by decide)) v64_8 rv64_8) wm_X7_holds q766 ⟨rfl, rfl⟩ ⟨Nat.le_of_ble_eq_true rfl, Nat.le_of_ble_eq_true rfl⟩ (cS_preV hK hW hT hnn hS (cg7 k0) rfl rfl trivial) rfl hl.1 rfl (Nat.le_of_ble_eq_true rfl) dX7_seek_88 ⟨Nat.zero_le _, Nat.zero_le _⟩) hS (by decide) (fun x88 H locs hp hW hS oq => ?_)
          have np1_3 := np1_3.kept (oq _ np1_3.lt (cE_not kp1 (by decide)))
          have r88 : ir x88 0 1 := hp
          refine lv_if_eq (tgt := 98) hx hb dX7_seek_91 (by decide) (fun c91 => ?_) (fun c91 => ?_)
          · have rx88_91 : ir x88 0 0 := rf_eq c91 (ir_c (0) (by decide) : ir (0 : Int32) (0) (0))
            refine lv_iconst (v := 0) hx hb dX7_seek_98 (by decide) ?_
            exact w2 _ _ _ (J99 _ _ _ (0 : Int32) u64_0 hW hS (lv_sub hl [0, 1, 2, 3, 4, 5, 7] rfl) rv64_3 rp4_77 rv64_5 rv64_7 (ir_w (lo' := 0) (hi' := 1) (ir_c (0) (by decide) : ir (0 : Int32) (0) (0)) (by decide) (by decide)) ru64_0 np1_3)
          · have rx88_91 : ir x88 1 1 := rf_ne0 c91 r88
            refine lv_iconst (v := 1) hx hb dX7_seek_94 (by decide) ?_
            refine lv_goto (tgt := 99) hx hb dX7_seek_95 (by decide) ?_
            exact w2 _ _ _ (J99 _ _ _ (1 : Int32) u64_0 hW hS (lv_sub hl [0, 1, 2, 3, 4, 5, 7] rfl) rv64_3 rp4_77 rv64_5 rv64_7 (ir_w (lo' := 0) (hi' := 1) (ir_c (1) (by decide) : ir (1 : Int32) (1) (1)) (by decide) (by decide)) ru64_0 np1_3)
      refine w1 _ _ _ ?_
      refine lv_iload hx hb dX7_seek_20 (lv_at hl 7 rfl) ?_
      refine lv_aload_n hx hb dX7_seek_22 rfl (lv_at hl 1 rfl) ?_
      refine wt_getp hx hb hts cfX6 hown hK hW (cg6 kp1) rfl 3 (by decide) (Or.inr ⟨_, lw_n_use hnn q215⟩) dX7_seek_23 (fun v hv np1_3 => ?_)
      obtain ⟨x23, rfl, r23⟩ : gi 0 42 v := hv
      refine lv_icmp_ge (tgt := 153) hx hb dX7_seek_26 (by decide) (fun c26 => ?_) (fun c26 => ?_)
      · refine lv_iload hx hb dX7_seek_153 (lv_at hl 6 rfl) ?_
        exact W.iret (v := v20_6) hx hb hr (fun t ht _ => ⟨⟨v20_6, (), rfl, trivial, cW_at ht hW⟩, hS.F ht⟩) hS.2.2 dX7_seek_155
      · have rv20_7_26 : ir v20_7 0 41 := ⟨(rv20_7).1, Int.le_trans (rf_lt (rf_nle c26) rv20_7 r23).1 (by decide)⟩
        have rx23_26 : ir x23 1 42 := ⟨Int.le_trans (by decide) (rf_lt (rf_nle c26) rv20_7 r23).2, (r23).2⟩
        refine lv_aload_n hx hb dX7_seek_29 rfl (lv_at hl 1 rfl) ?_
        refine wt_getN hx hb hts cfX6 hown hK hW (cg6 kp1) rfl 2 (by decide) hnn q212 dX7_seek_30 (fun v hv => ?_)
        obtain ⟨x30, rfl, k30⟩ : gr N 24 v := hv
        refine lv_iload hx hb dX7_seek_33 (lv_at hl 7 rfl) ?_
        refine wt_iald hx hb hK hW 0 (cg24 k30) rfl (ir_in rv20_7_26 (by decide) (by decide)) dX7_seek_35 (fun v hv => ?_)
        obtain ⟨x35, rfl, r35⟩ : gi 0 41 v := hv
        refine lv_istore (lv' := [(8, .int x35), (0, .ref h0), (1, .ref p1), (2, .ref p2), (3, .int p3), (4, .int p4), (5, .int p5), (6, .int v20_6), (7, .int v20_7)]) hx hb dX7_seek_36 hl (by decide) rfl (fun ls hl => ?_)
        refine lv_iload_n hx hb dX7_seek_38 rfl (lv_at hl 4 rfl) ?_
        refine lv_if_le (tgt := 64) hx hb dX7_seek_39 (by decide) (fun c39 => ?_) (fun c39 => ?_)
        · exact w2 _ _ _ (J64 _ _ _ x35 x23 hW hS (lv_sub hl [1, 2, 3, 4, 5, 6, 7, 8, 0] rfl) rv20_3 rv20_4 rv20_5 rv20_7_26 r35 rx23_26 np1_3)
        · exact absurd (rf_lt (rf_nle c39) (ir_c (0) (by decide) : ir (0 : Int32) (0) (0)) rv20_3) (by have h8 := (ir_c (0) (by decide) : ir (0 : Int32) (0) (0)); have h9 := rv20_3; omega)
  refine lv_iconst (v := 0) hx hb dX7_seek_0 (by decide) ?_
  refine lv_istore (lv' := [(6, .int (0 : Int32)), (0, .ref h0), (1, .ref p1), (2, .ref p2), (3, .int p3), (4, .int p4), (5, .int p5)]) hx hb dX7_seek_1 hl (by decide) rfl (fun ls hl => ?_)
  refine lv_iload_n hx hb dX7_seek_3 rfl (lv_at hl 4 rfl) ?_
  refine lv_iload hx hb dX7_seek_4 (lv_at hl 5 rfl) ?_
  refine lv_icmp_ge (tgt := 14) hx hb dX7_seek_6 (by decide) (fun c6 => ?_) (fun c6 => ?_)
  · have rp4_6 : ir p4 (-2147483648) 0 := ⟨((ir_any p4)).1, Int.le_trans (rf_le c6 (ir_any p4) rp3).1 (by decide)⟩
    refine lv_iload hx hb dX7_seek_14 (lv_at hl 0 rfl) ?_
    exact W.iret (v := (0 : Int32)) hx hb hr (fun t ht _ => ⟨⟨(0 : Int32), (), rfl, trivial, cW_at ht hW⟩, hS.F ht⟩) hS.2.2 dX7_seek_16
  · have rp4_6 : ir p4 1 2147483647 := ⟨Int.le_trans (by decide) (rf_lt (rf_nle c6) rp3 (ir_any p4)).2, ((ir_any p4)).2⟩
    refine lv_iload_n hx hb dX7_seek_9 rfl (lv_at hl 4 rfl) ?_
    refine lv_iconst (v := 3) hx hb dX7_seek_10 (by decide) ?_
    refine lv_icmp_lt (tgt := 17) hx hb dX7_seek_11 (by decide) (fun c11 => ?_) (fun c11 => ?_)
    · refine lv_iconst (v := 0) hx hb dX7_seek_17 (by decide) ?_
      refine lv_istore (lv' := [(7, .int (0 : Int32)), (6, .int (0 : Int32)), (0, .ref h0), (1, .ref p1), (2, .ref p2), (3, .int p3), (4, .int p4), (5, .int p5)]) hx hb dX7_seek_18 hl (by decide) rfl (fun ls hl => ?_)
      exact w2 _ _ _ (L20 43 _ _ _ (0 : Int32) (0 : Int32) hW hS (lv_sub hl [2, 3, 4, 5, 6, 7, 1, 0] rfl) rp3 rp4_6 rp5 (ir_w (lo' := 0) (hi' := 42) (ir_c (0) (by decide) : ir (0 : Int32) (0) (0)) (by decide) (by decide)) (by have h9 := (ir_c (0) (by decide) : ir (0 : Int32) (0) (0)); omega))
    · exact absurd (rf_le (rf_nlt c11) (ir_c (3) (by decide) : ir (3 : Int32) (3) (3)) rp3) (by have h8 := (ir_c (3) (by decide) : ir (3 : Int32) (3) (3)); have h9 := rp3; omega)
set_option maxHeartbeats 4000000 in
set_option maxRecDepth 100000 in
theorem m_X10_codeOfChoice (l : Launch) (N : c_N) (p1 : Int32) (rp1 : ir p1 0 41) : cMi l yX10_codeOfChoice cX10_codeOfChoice 2 .int { frames := 2, cells := 0, slots := 0, locals := 55 } [.int p1] N [] cT0 (fun r => ir r 0 383) := by
  refine Met.ofW (cc := cX10_codeOfChoice) (maxL := 2) (ret := some .int) (by decide) rfl ?_
  intro p e s m args below meth c s₁ B hml hv
  obtain ⟨rfl, ⟨hK, hW, hT, hnn⟩, hB⟩ := hv
  have hx := B.exec
  have hb := B.bytes
  have hr := B.returns
  have hts : ∀ w ∈ lw_g, w.before _ s = true := fun w h => atoms_spec (ws := wc_ws yX10_codeOfChoice cX10_codeOfChoice 2 (some .int)) B.pre w (List.mem_cons_of_mem _ h)
  have hown : s.vm.findClass RX10 = some m.cls := findClass_of_methodNamed B.named
  have hlocks := B.notSynchronized
  have hS : va_S (cE N []) s.heap s.heap [] := va_S.rf
  have hl := lv_entry ([.int p1]) (n := 2) (Nat.le_of_ble_eq_true rfl)
  rw [lg_entry_eq]
  generalize (lg_sl ([.int p1]) ++ List.replicate (2 - (lg_sl ([.int p1])).length) Slot.unset).toArray = ls at hl ⊢
  have hl : lv_has ls 2 [(0, .int p1)] := hl
  obtain ⟨s_THICK_P, hZ_THICK_P, hT_THICK_P⟩ := hT.1
  obtain ⟨s_THICK_Q, hZ_THICK_Q, hT_THICK_Q⟩ := hT.2.1
  refine wq_all ?_
  intro WW w1 w2
  refine lv_iload_n hx hb dX10_codeOfChoice_0 rfl (lv_at hl 0 rfl) ?_
  refine lv_bipush (v := 7) hx hb dX10_codeOfChoice_1 (by decide) ?_
  refine lv_irem hx hb dX10_codeOfChoice_3 (by decide) ?_
  refine lv_topi (fun x3 e3 => ?_)
  have r3 : ir x3 0 6 := ir_remr e3 rp1 (by decide) 7 (by decide) (by decide) (by decide) (by decide)
  refine lv_istore_n (lv' := [(1, .int x3), (0, .int p1)]) hx hb dX10_codeOfChoice_4 rfl hl (by decide) rfl (fun ls hl => ?_)
  refine lv_iload_n hx hb dX10_codeOfChoice_5 rfl (lv_at hl 1 rfl) ?_
  refine lv_bipush (v := 7) hx hb dX10_codeOfChoice_6 (by decide) ?_
  refine lv_idiv hx hb dX10_codeOfChoice_8 (by decide) ?_
  refine lv_topi (fun x8 e8 => ?_)
  have r8 : ir x8 0 5 := by have t := ir_divc e8 rp1 (by decide) 7 (by decide) (by decide) (by decide); have h9 := rp1; constructor <;> omega
  refine va_gets hx hb hZ_THICK_P (hS.up cE_cA) hown (hts _ q789) (fun _ h9 => h9) dX10_codeOfChoice_9 ?_
  refine lv_iload_n hx hb dX10_codeOfChoice_12 rfl (lv_at hl 0 rfl) ?_
  refine va_ti hx hb hT_THICK_P (hS.up cE_cA) (ir_in r3 (by decide) (by decide)) rfl dX10_codeOfChoice_13 ?_
  refine lv_topi (fun x13 e13 => ?_)
  have r13 : ir x13 1 3 := by rw [e13]; exact tkP_r (ir_in r3 (by decide) (by decide))
  refine va_gets hx hb hZ_THICK_Q (hS.up cE_cA) hown (hts _ q790) (fun _ h9 => h9) dX10_codeOfChoice_14 ?_
  refine lv_iload_n hx hb dX10_codeOfChoice_17 rfl (lv_at hl 0 rfl) ?_
  refine va_ti hx hb hT_THICK_Q (hS.up cE_cA) (ir_in r3 (by decide) (by decide)) rfl dX10_codeOfChoice_18 ?_
  refine lv_topi (fun x18 e18 => ?_)
  have r18 : ir x18 1 3 := by rw [e18]; exact tkQ_r (ir_in r3 (by decide) (by decide))
  refine cp_i (wt_runS (As := [.int x8, .int x13, .int x18]) (rest := []) ⟨hx, hb, hml, hown, hts⟩ (m_X10_codeOf l x8 r8 x13 (ir_w (lo' := 0) (hi' := 7) r13 (by decide) (by decide)) x18 (ir_w (lo' := 0) (hi' := 7) r18 (by decide) (by decide))) wm_X10_codeOf q496 ⟨rfl, rfl⟩ ⟨Nat.le_of_ble_eq_true rfl, Nat.le_of_ble_eq_true rfl⟩ pS_pre rfl hl.1 rfl (Nat.le_of_ble_eq_true rfl) dX10_codeOfChoice_19 ⟨Nat.zero_le _, Nat.zero_le _⟩) hW hS (fun x19 H locs hp hW hS oq => ?_)
  have r19 : ir x19 0 383 := hp
  exact W.iret (v := x19) hx hb hr (fun t ht _ => ⟨⟨x19, (), rfl, r19, cW_at ht hW⟩, hS.F ht⟩) hS.2.2 dX10_codeOfChoice_22
set_option maxHeartbeats 4000000 in
set_option maxRecDepth 100000 in
theorem m_X10_isBeginning (l : Launch) (N : c_N) (h0 : Nat) (k0 : N.2.2.1 h0 = some 10) (p1 : Int32) : cMi l yX10_isBeginning cX10_isBeginning 2 .boolean { frames := 0, cells := 0, slots := 0, locals := 0 } [.ref h0, .int p1] N [] cT0 (fun r => ir r 0 1 ∧ (¬ r = 0 → ir p1 0 24)) := by
  refine Met.ofW (cc := cX10_isBeginning) (maxL := 2) (ret := some .boolean) (by decide) rfl ?_
  intro p e s m args below meth c s₁ B hml hv
  obtain ⟨rfl, ⟨hK, hW, hT, hnn⟩, hB⟩ := hv
  have hx := B.exec
  have hb := B.bytes
  have hr := B.returns
  have hts : ∀ w ∈ lw_g, w.before _ s = true := fun w h => atoms_spec (ws := wc_ws yX10_isBeginning cX10_isBeginning 2 (some .boolean)) B.pre w (List.mem_cons_of_mem _ h)
  have hown : s.vm.findClass RX10 = some m.cls := findClass_of_methodNamed B.named
  have hlocks := B.notSynchronized
  have hS : va_S (cE N []) s.heap s.heap [] := va_S.rf
  have hl := lv_entry ([.ref h0, .int p1]) (n := 2) (Nat.le_of_ble_eq_true rfl)
  rw [lg_entry_eq]
  generalize (lg_sl ([.ref h0, .int p1]) ++ List.replicate (2 - (lg_sl ([.ref h0, .int p1])).length) Slot.unset).toArray = ls at hl ⊢
  have hl : lv_has ls 2 [(0, .ref h0), (1, .int p1)] := hl
  refine wq_all ?_
  intro WW w1 w2
  refine lv_iload_n hx hb dX10_isBeginning_0 rfl (lv_at hl 1 rfl) ?_
  refine lv_if_lt (tgt := 19) hx hb dX10_isBeginning_1 (by decide) (fun c1 => ?_) (fun c1 => ?_)
  · have rp1_1 : ir p1 (-2147483648) (-1) := ⟨((ir_any p1)).1, Int.le_trans (rf_lt c1 (ir_any p1) (ir_c (0) (by decide) : ir (0 : Int32) (0) (0))).1 (by decide)⟩
    refine lv_iconst (v := 0) hx hb dX10_isBeginning_19 (by decide) ?_
    exact W.zret (v := (0 : Int32)) hx hb hr rfl (fun t ht _ => ⟨⟨(0 : Int32), (), rfl, (⟨⟨by decide, by decide⟩, fun h => absurd rfl h⟩), cW_at ht hW⟩, hS.F ht⟩) hS.2.2 dX10_isBeginning_20
  · have rp1_1 : ir p1 0 2147483647 := ⟨Int.le_trans (by decide) (rf_le (rf_nlt c1) (ir_c (0) (by decide) : ir (0 : Int32) (0) (0)) (ir_any p1)).2, ((ir_any p1)).2⟩
    refine lv_iload_n hx hb dX10_isBeginning_4 rfl (lv_at hl 1 rfl) ?_
    refine lv_aload_n hx hb dX10_isBeginning_5 rfl (lv_at hl 0 rfl) ?_
    refine wt_get hx hb hts cfX10 hown hK hW (cg10 k0) rfl 1 (by decide) q294 dX10_isBeginning_6 (fun v hv => ?_)
    obtain ⟨x6, rfl, k6⟩ : gr N 3 v := hv
    refine wt_getp hx hb hts cfX3 hown hK hW (cg3 k6) rfl 1 (by decide) (Or.inr ⟨_, lw_n_use hnn q46⟩) dX10_isBeginning_9 (fun v hv nx6_1 => ?_)
    obtain ⟨x9, rfl, r9⟩ : gi 0 24 v := hv
    refine lv_icmp_gt (tgt := 19) hx hb dX10_isBeginning_12 (by decide) (fun c12 => ?_) (fun c12 => ?_)
    · have rp1_12 : ir p1 1 2147483647 := ⟨Int.le_trans (by decide) (rf_lt c12 r9 rp1_1).2, (rp1_1).2⟩
      refine lv_iconst (v := 0) hx hb dX10_isBeginning_19 (by decide) ?_
      exact W.zret (v := (0 : Int32)) hx hb hr rfl (fun t ht _ => ⟨⟨(0 : Int32), (), rfl, (⟨⟨by decide, by decide⟩, fun h => absurd rfl h⟩), cW_at ht hW⟩, hS.F ht⟩) hS.2.2 dX10_isBeginning_20
    · have rp1_12 : ir p1 0 24 := ⟨(rp1_1).1, Int.le_trans (rf_le (rf_nlt c12) rp1_1 r9).1 (by decide)⟩
      refine lv_iconst (v := 1) hx hb dX10_isBeginning_15 (by decide) ?_
      refine lv_goto (tgt := 20) hx hb dX10_isBeginning_16 (by decide) ?_
      exact W.zret (v := (1 : Int32)) hx hb hr rfl (fun t ht _ => ⟨⟨(1 : Int32), (), rfl, (⟨⟨by decide, by decide⟩, fun _ => rp1_12⟩), cW_at ht hW⟩, hS.F ht⟩) hS.2.2 dX10_isBeginning_20
set_option maxHeartbeats 4000000 in
set_option maxRecDepth 100000 in
theorem m_X10_beginning (l : Launch) (N : c_N) (h0 : Nat) (k0 : N.2.2.1 h0 = some 10) (p1 : Int32) (p2 : Int32) (rp2 : ir p2 1 4) : cMr l yX10_beginning cX10_beginning 3 (.object "ThinCoats$Matrix") { frames := 5, cells := 0, slots := 0, locals := 133 } [.ref h0, .int p1, .int p2] N [2, 4, 8] cT0 4 := by
  refine Met.ofW (cc := cX10_beginning) (maxL := 3) (ret := some (.object "ThinCoats$Matrix")) (by decide) rfl ?_
  intro p e s m args below meth c s₁ B hml hv
  obtain ⟨rfl, ⟨hK, hW, hT, hnn⟩, hB⟩ := hv
  have hx := B.exec
  have hb := B.bytes
  have hr := B.returns
  have hts : ∀ w ∈ lw_g, w.before _ s = true := fun w h => atoms_spec (ws := wc_ws yX10_beginning cX10_beginning 3 (some (.object "ThinCoats$Matrix"))) B.pre w (List.mem_cons_of_mem _ h)
  have hown : s.vm.findClass RX10 = some m.cls := findClass_of_methodNamed B.named
  have hlocks := B.notSynchronized
  have hS : va_S (cE N [2, 4, 8]) s.heap s.heap [] := va_S.rf
  have hl := lv_entry ([.ref h0, .int p1, .int p2]) (n := 3) (Nat.le_of_ble_eq_true rfl)
  rw [lg_entry_eq]
  generalize (lg_sl ([.ref h0, .int p1, .int p2]) ++ List.replicate (3 - (lg_sl ([.ref h0, .int p1, .int p2])).length) Slot.unset).toArray = ls at hl ⊢
  have hl : lv_has ls 3 [(0, .ref h0), (1, .int p1), (2, .int p2)] := hl
  refine wq_all ?_
  intro WW w1 w2
  refine lv_aload_n hx hb dX10_beginning_0 rfl (lv_at hl 0 rfl) ?_
  refine wt_get hx hb hts cfX10 hown hK hW (cg10 k0) rfl 6 (by decide) q299 dX10_beginning_1 (fun v hv => ?_)
  obtain ⟨x1, rfl, k1⟩ : gr N 31 v := hv
  refine lv_iconst (v := 0) hx hb dX10_beginning_4 (by decide) ?_
  refine wt_aald hx hb hK hW 3 (cg31 k1) rfl (ir_in (ir_w (lo' := 0) (hi' := 3) (ir_c (0) (by decide) : ir (0 : Int32) (0) (0)) (by decide) (by decide)) (by decide) (by decide)) dX10_beginning_5 (fun v hv => ?_)
  obtain ⟨x5, rfl, k5⟩ : gr N 2 v := hv
  refine lv_aload_n hx hb dX10_beginning_6 rfl (lv_at hl 0 rfl) ?_
  refine wt_get hx hb hts cfX10 hown hK hW (cg10 k0) rfl 1 (by decide) q294 dX10_beginning_7 (fun v hv => ?_)
  obtain ⟨x7, rfl, k7⟩ : gr N 3 v := hv
  refine lv_aload_n hx hb dX10_beginning_10 rfl (lv_at hl 0 rfl) ?_
  refine wt_get hx hb hts cfX10 hown hK hW (cg10 k0) rfl 3 (by decide) q296 dX10_beginning_11 (fun v hv => ?_)
  obtain ⟨x11, rfl, k11⟩ : gr N 5 v := hv
  refine lv_iload_n hx hb dX10_beginning_14 rfl (lv_at hl 2 rfl) ?_
  refine lv_iload_n hx hb dX10_beginning_15 rfl (lv_at hl 1 rfl) ?_
  refine cc_v (wt_runV (As := [.ref x7, .ref x11, .int p2, .int p1]) (rest := []) ⟨hx, hb, hml, hown, hts⟩ (m_X2_climb l N x5 k5 x7 k7 x11 k11 p2 rp2 p1) wm_X2_climb q547 ⟨rfl, rfl⟩ ⟨Nat.le_of_ble_eq_true rfl, Nat.le_of_ble_eq_true rfl⟩ (cS_preV hK hW hT hnn hS (cg2 k5) rfl rfl trivial) rfl hl.1 rfl (Nat.le_of_ble_eq_true rfl) dX10_beginning_16 ⟨Nat.zero_le _, Nat.zero_le _⟩) hS (by decide) (fun H locs hW hS oq hB2 => ?_)
  refine lv_aload_n hx hb dX10_beginning_19 rfl (lv_at hl 0 rfl) ?_
  refine wt_get hx hb hts cfX10 hown hK hW (cg10 k0) rfl 6 (by decide) q299 dX10_beginning_20 (fun v hv => ?_)
  obtain ⟨x20, rfl, k20⟩ : gr N 31 v := hv
  refine lv_iconst (v := 0) hx hb dX10_beginning_23 (by decide) ?_
  refine wt_aald hx hb hK hW 3 (cg31 k20) rfl (ir_in (ir_w (lo' := 0) (hi' := 3) (ir_c (0) (by decide) : ir (0 : Int32) (0) (0)) (by decide) (by decide)) (by decide) (by decide)) dX10_beginning_24 (fun v hv => ?_)
  obtain ⟨x24, rfl, k24⟩ : gr N 2 v := hv
  refine cc_r (wt_runV (As := []) (rest := []) ⟨hx, hb, hml, hown, hts⟩ (m_X2_whole l N x24 k24) wm_X2_whole q585 ⟨rfl, rfl⟩ ⟨Nat.le_of_ble_eq_true rfl, Nat.le_of_ble_eq_true rfl⟩ (cS_preV hK hW hT hnn hS (cg2 k24) rfl rfl trivial) rfl hl.1 rfl (Nat.le_of_ble_eq_true rfl) dX10_beginning_25 ⟨Nat.zero_le _, Nat.zero_le _⟩) hS (by decide) (fun x25 H locs k25 hW hS oq => ?_)
  exact W.aret hx hb hr (Or.inl ⟨_, rfl⟩) (Or.inr ⟨_, rfl⟩) (fun t ht _ => ⟨⟨(), x25, rfl, trivial, k25, cW_at ht hW⟩, hS.F ht⟩) hS.2.2 dX10_beginning_28
set_option maxHeartbeats 4000000 in
set_option maxRecDepth 100000 in
theorem m_X10_isOfKind (l : Launch) (N : c_N) (h0 : Nat) (k0 : N.2.2.1 h0 = some 10) (p1 : Nat) (kp1 : N.2.2.1 p1 = some 4) (p2 : Int32) : cMi l yX10_isOfKind cX10_isOfKind 3 .boolean { frames := 2, cells := 0, slots := 0, locals := 51 } [.ref h0, .ref p1, .int p2] N [0] cT0 (fun r => ir r 0 1) := by
  refine Met.ofW (cc := cX10_isOfKind) (maxL := 3) (ret := some .boolean) (by decide) rfl ?_
  intro p e s m args below meth c s₁ B hml hv
  obtain ⟨rfl, ⟨hK, hW, hT, hnn⟩, hB⟩ := hv
  have hx := B.exec
  have hb := B.bytes
  have hr := B.returns
  have hts : ∀ w ∈ lw_g, w.before _ s = true := fun w h => atoms_spec (ws := wc_ws yX10_isOfKind cX10_isOfKind 3 (some .boolean)) B.pre w (List.mem_cons_of_mem _ h)
  have hown : s.vm.findClass RX10 = some m.cls := findClass_of_methodNamed B.named
  have hlocks := B.notSynchronized
  have hS : va_S (cE N [0]) s.heap s.heap [] := va_S.rf
  have hl := lv_entry ([.ref h0, .ref p1, .int p2]) (n := 3) (Nat.le_of_ble_eq_true rfl)
  rw [lg_entry_eq]
  generalize (lg_sl ([.ref h0, .ref p1, .int p2]) ++ List.replicate (3 - (lg_sl ([.ref h0, .ref p1, .int p2])).length) Slot.unset).toArray = ls at hl ⊢
  have hl : lv_has ls 3 [(0, .ref h0), (1, .ref p1), (2, .int p2)] := hl
  refine wq_all ?_
  intro WW w1 w2
  have J12 : ∀ (H : Heap) (locs : List Loc) (ls : Array Slot) , cW N H → va_S (cE N [0]) s.heap H locs → lv_has ls 3 [(1, .ref p1), (2, .int p2)] → WW H locs (F0 m 12 ls []) := by
    intro H locs ls  hW hS hl
    refine w1 _ _ _ ?_
    refine lv_iload_n hx hb dX10_isOfKind_12 rfl (lv_at hl 1 rfl) ?_
    refine lv_iconst (v := 2) hx hb dX10_isOfKind_13 (by decide) ?_
    refine lv_icmp_ne (tgt := 28) hx hb dX10_isOfKind_14 (by decide) (fun c14 => ?_) (fun c14 => ?_)
    · refine lv_iconst (v := 0) hx hb dX10_isOfKind_28 (by decide) ?_
      exact W.zret (v := (0 : Int32)) hx hb hr rfl (fun t ht _ => ⟨⟨(0 : Int32), (), rfl, (⟨by decide, by decide⟩), cW_at ht hW⟩, hS.F ht⟩) hS.2.2 dX10_isOfKind_29
    · have rp2_14 : ir p2 2 2 := rf_eq c14 (ir_c (2) (by decide) : ir (2 : Int32) (2) (2))
      refine lv_aload_n hx hb dX10_isOfKind_17 rfl (lv_at hl 0 rfl) ?_
      refine wt_getp hx hb hts cfX4 hown hK hW (cg4 kp1) rfl 4 (by decide) (Or.inr ⟨_, lw_n_use hnn q197⟩) dX10_isOfKind_18 (fun v hv np1_4 => ?_)
      obtain ⟨x18, rfl, r18⟩ : gi 0 1 v := hv
      refine lv_if_eq (tgt := 28) hx hb dX10_isOfKind_21 (by decide) (fun c21 => ?_) (fun c21 => ?_)
      · have rx18_21 : ir x18 0 0 := rf_eq c21 (ir_c (0) (by decide) : ir (0 : Int32) (0) (0))
        refine lv_iconst (v := 0) hx hb dX10_isOfKind_28 (by decide) ?_
        exact W.zret (v := (0 : Int32)) hx hb hr rfl (fun t ht _ => ⟨⟨(0 : Int32), (), rfl, (⟨by decide, by decide⟩), cW_at ht hW⟩, hS.F ht⟩) hS.2.2 dX10_isOfKind_29
      · have rx18_21 : ir x18 1 1 := rf_ne0 c21 r18
        refine lv_iconst (v := 1) hx hb dX10_isOfKind_24 (by decide) ?_
        refine lv_goto (tgt := 29) hx hb dX10_isOfKind_25 (by decide) ?_
        exact W.zret (v := (1 : Int32)) hx hb hr rfl (fun t ht _ => ⟨⟨(1 : Int32), (), rfl, (⟨by decide, by decide⟩), cW_at ht hW⟩, hS.F ht⟩) hS.2.2 dX10_isOfKind_29
  have J61 : ∀ (H : Heap) (locs : List Loc) (ls : Array Slot) (u61_0 : Int32), cW N H → va_S (cE N [0]) s.heap H locs → lv_has ls 3 [(0, .ref h0)] → ir u61_0 0 0 → wt_pin N.1 vwCl p1 4 4 (.int u61_0) H → WW H locs (F0 m 61 ls []) := by
    intro H locs ls u61_0 hW hS hl ru61_0 np1_4
    refine w1 _ _ _ ?_
    refine lv_aload_n hx hb dX10_isOfKind_61 rfl (lv_at hl 0 rfl) ?_
    refine wt_get hx hb hts cfX10 hown hK hW (cg10 k0) rfl 9 (by decide) q302 dX10_isOfKind_62 (fun v hv => ?_)
    obtain ⟨x62, rfl, k62⟩ : gr N 0 v := hv
    refine wt_getp hx hb hts cfX0 hown hK hW (cg0 k62) rfl 0 (by decide) (Or.inr ⟨_, lw_n_use hnn q259⟩) dX10_isOfKind_65 (fun v hv nx62_0 => ?_)
    obtain ⟨x65, rfl⟩ : gl v := hv
    refine lv_lconst (v := 0) hx hb dX10_isOfKind_68 (by decide) ?_
    refine wl_ne (tgt := 77) hx hb dX10_isOfKind_69 dX10_isOfKind_70 (by decide) (fun c69 => ?_) (fun c69 => ?_)
    · have c69 : x65.toInt ≠ (0 : Int) := c69
      refine lv_iconst (v := 0) hx hb dX10_isOfKind_77 (by decide) ?_
      exact W.zret (v := (0 : Int32)) hx hb hr rfl (fun t ht _ => ⟨⟨(0 : Int32), (), rfl, (⟨by decide, by decide⟩), cW_at ht hW⟩, hS.F ht⟩) hS.2.2 dX10_isOfKind_78
    · have c69 : x65.toInt = (0 : Int) := c69
      have rx65_69 : lr x65 0 0 := by have h8 := (lr_any x65); have h9 := (lr_c (0) (by decide) : lr (0 : Int64) (0) (0)); constructor <;> omega
      refine lv_iconst (v := 1) hx hb dX10_isOfKind_73 (by decide) ?_
      refine lv_goto (tgt := 78) hx hb dX10_isOfKind_74 (by decide) ?_
      exact W.zret (v := (1 : Int32)) hx hb hr rfl (fun t ht _ => ⟨⟨(1 : Int32), (), rfl, (⟨by decide, by decide⟩), cW_at ht hW⟩, hS.F ht⟩) hS.2.2 dX10_isOfKind_78
  refine lv_iload_n hx hb dX10_isOfKind_0 rfl (lv_at hl 2 rfl) ?_
  refine lv_iconst (v := 2) hx hb dX10_isOfKind_1 (by decide) ?_
  refine lv_icmp_eq (tgt := 12) hx hb dX10_isOfKind_2 (by decide) (fun c2 => ?_) (fun c2 => ?_)
  · have rp2_2 : ir p2 2 2 := rf_eq c2 (ir_c (2) (by decide) : ir (2 : Int32) (2) (2))
    exact w2 _ _ _ (J12 _ _ _  hW hS (lv_sub hl [1, 2] rfl) )
  · refine lv_aload_n hx hb dX10_isOfKind_5 rfl (lv_at hl 1 rfl) ?_
    refine wt_getp hx hb hts cfX4 hown hK hW (cg4 kp1) rfl 4 (by decide) (Or.inr ⟨_, lw_n_use hnn q197⟩) dX10_isOfKind_6 (fun v hv np1_4 => ?_)
    obtain ⟨x6, rfl, r6⟩ : gi 0 1 v := hv
    refine lv_if_eq (tgt := 30) hx hb dX10_isOfKind_9 (by decide) (fun c9 => ?_) (fun c9 => ?_)
    · have rx6_9 : ir x6 0 0 := rf_eq c9 (ir_c (0) (by decide) : ir (0 : Int32) (0) (0))
      refine lv_iload_n hx hb dX10_isOfKind_30 rfl (lv_at hl 2 rfl) ?_
      refine lv_if_ne (tgt := 49) hx hb dX10_isOfKind_31 (by decide) (fun c31 => ?_) (fun c31 => ?_)
      · refine lv_aload_n hx hb dX10_isOfKind_49 rfl (lv_at hl 0 rfl) ?_
        refine wt_get hx hb hts cfX10 hown hK hW (cg10 k0) rfl 3 (by decide) q296 dX10_isOfKind_50 (fun v hv => ?_)
        obtain ⟨x50, rfl, k50⟩ : gr N 5 v := hv
        refine lv_aload_n hx hb dX10_isOfKind_53 rfl (lv_at hl 1 rfl) ?_
        refine lv_aload_n hx hb dX10_isOfKind_54 rfl (lv_at hl 0 rfl) ?_
        refine wt_get hx hb hts cfX10 hown hK hW (cg10 k0) rfl 9 (by decide) q302 dX10_isOfKind_55 (fun v hv => ?_)
        obtain ⟨x55, rfl, k55⟩ : gr N 0 v := hv
        refine cc_v (wt_runV (As := [.ref p1, .ref x55]) (rest := []) ⟨hx, hb, hml, hown, hts⟩ (m_X5_measureThrough l N x50 k50 p1 kp1 x55 k55) wm_X5_measureThrough q611 ⟨rfl, rfl⟩ ⟨Nat.le_of_ble_eq_true rfl, Nat.le_of_ble_eq_true rfl⟩ (cS_preV hK hW hT hnn hS (cg5 k50) rfl rfl trivial) rfl hl.1 rfl (Nat.le_of_ble_eq_true rfl) dX10_isOfKind_58 ⟨Nat.zero_le _, Nat.zero_le _⟩) hS (by decide) (fun H locs hW hS oq hB2 => ?_)
        have np1_4 := np1_4.kept (oq _ np1_4.lt (cE_not kp1 (by decide)))
        exact w2 _ _ _ (J61 _ _ _ x6 hW hS (lv_sub hl [0] rfl) rx6_9 np1_4)
      · have rp2_31 : ir p2 0 0 := rf_eq c31 (ir_c (0) (by decide) : ir (0 : Int32) (0) (0))
        refine lv_aload_n hx hb dX10_isOfKind_34 rfl (lv_at hl 0 rfl) ?_
        refine wt_get hx hb hts cfX10 hown hK hW (cg10 k0) rfl 3 (by decide) q296 dX10_isOfKind_35 (fun v hv => ?_)
        obtain ⟨x35, rfl, k35⟩ : gr N 5 v := hv
        refine lv_aload_n hx hb dX10_isOfKind_38 rfl (lv_at hl 1 rfl) ?_
        refine lv_aload_n hx hb dX10_isOfKind_39 rfl (lv_at hl 0 rfl) ?_
        refine wt_get hx hb hts cfX10 hown hK hW (cg10 k0) rfl 9 (by decide) q302 dX10_isOfKind_40 (fun v hv => ?_)
        obtain ⟨x40, rfl, k40⟩ : gr N 0 v := hv
        refine cc_v (wt_runV (As := [.ref p1, .ref x40]) (rest := []) ⟨hx, hb, hml, hown, hts⟩ (m_X5_measureBack l N x35 k35 p1 kp1 x40 k40) wm_X5_measureBack q599 ⟨rfl, rfl⟩ ⟨Nat.le_of_ble_eq_true rfl, Nat.le_of_ble_eq_true rfl⟩ (cS_preV hK hW hT hnn hS (cg5 k35) rfl rfl trivial) rfl hl.1 rfl (Nat.le_of_ble_eq_true rfl) dX10_isOfKind_43 ⟨Nat.zero_le _, Nat.zero_le _⟩) hS (by decide) (fun H locs hW hS oq hB2 => ?_)
        have np1_4 := np1_4.kept (oq _ np1_4.lt (cE_not kp1 (by decide)))
        refine lv_goto (tgt := 61) hx hb dX10_isOfKind_46 (by decide) ?_
        exact w2 _ _ _ (J61 _ _ _ x6 hW hS (lv_sub hl [0] rfl) rx6_9 np1_4)
    · have rx6_9 : ir x6 1 1 := rf_ne0 c9 r6
      exact w2 _ _ _ (J12 _ _ _  hW hS (lv_sub hl [1, 2] rfl) )
set_option maxHeartbeats 4000000 in
set_option maxRecDepth 100000 in
theorem m_X10_measureGreatest (l : Launch) (N : c_N) (h0 : Nat) (k0 : N.2.2.1 h0 = some 10) (p1 : Int32) : cMi l yX10_measureGreatest cX10_measureGreatest 4 .boolean { frames := 5, cells := 0, slots := 0, locals := 133 } [.ref h0, .int p1] N [0, 2, 4, 8] cT0 (fun r => ir r 0 1) := by
  refine Met.ofW (cc := cX10_measureGreatest) (maxL := 4) (ret := some .boolean) (by decide) rfl ?_
  intro p e s m args below meth c s₁ B hml hv
  obtain ⟨rfl, ⟨hK, hW, hT, hnn⟩, hB⟩ := hv
  have hx := B.exec
  have hb := B.bytes
  have hr := B.returns
  have hts : ∀ w ∈ lw_g, w.before _ s = true := fun w h => atoms_spec (ws := wc_ws yX10_measureGreatest cX10_measureGreatest 4 (some .boolean)) B.pre w (List.mem_cons_of_mem _ h)
  have hown : s.vm.findClass RX10 = some m.cls := findClass_of_methodNamed B.named
  have hlocks := B.notSynchronized
  have hS : va_S (cE N [0, 2, 4, 8]) s.heap s.heap [] := va_S.rf
  have hl := lv_entry ([.ref h0, .int p1]) (n := 4) (Nat.le_of_ble_eq_true rfl)
  rw [lg_entry_eq]
  generalize (lg_sl ([.ref h0, .int p1]) ++ List.replicate (4 - (lg_sl ([.ref h0, .int p1])).length) Slot.unset).toArray = ls at hl ⊢
  have hl : lv_has ls 4 [(0, .ref h0), (1, .int p1)] := hl
  refine wq_all ?_
  intro WW w1 w2
  have L13 : ∀ (n : Nat) (H : Heap) (locs : List Loc) (ls : Array Slot) (v13_2 : Int32) (v13_3 : Int32), cW N H → va_S (cE N [0, 2, 4, 8]) s.heap H locs → lv_has ls 4 [(0, .ref h0), (1, .int p1), (2, .int v13_2), (3, .int v13_3)] → ir v13_2 0 1 → ir v13_3 0 4 → 4 - v13_3.toInt < (n : Int) → WW H locs (F0 m 13 ls []) := by
    intro n
    induction n with
    | zero =>
      intro H locs ls v13_2 v13_3 hW hS hl rv13_2 rv13_3 mu13
      exfalso
      omega
    | succ n ih13 =>
      intro H locs ls v13_2 v13_3 hW hS hl rv13_2 rv13_3 mu13
      have J121 : ∀ (H : Heap) (locs : List Loc) (ls : Array Slot) (v121_2 : Int32), cW N H → va_S (cE N [0, 2, 4, 8]) s.heap H locs → lv_has ls 4 [(0, .ref h0), (1, .int p1), (2, .int v121_2), (3, .int v13_3)] → ir v121_2 0 1 → ir v13_3 0 3 → WW H locs (F0 m 121 ls []) := by
        intro H locs ls v121_2 hW hS hl rv121_2 rv121_3
        refine w1 _ _ _ ?_
        obtain ⟨x121, e121⟩ : ∃ y : Int32, y = v13_3 + 1 := ⟨_, rfl⟩
        have r121 : ir x121 1 4 := ir_w (ir_add e121 rv121_3 (ir_c (1) (by decide) : ir (1 : Int32) (1) (1)) (by decide) (by decide)) (by decide) (by decide)
        have t121 : x121.toInt = v13_3.toInt + (1) := it_add e121 rv121_3 (ir_c (1) (by decide) : ir (1 : Int32) (1) (1)) (by decide) (by decide)
        refine lv_iinc (v := x121) (lv' := [(3, .int x121), (0, .ref h0), (1, .int p1), (2, .int v121_2)]) hx hb dX10_measureGreatest_121 hl (k := 3) rfl (by rw [e121]; rfl) (by decide) rfl (fun ls hl => ?_)
        refine lv_goto (tgt := 13) hx hb dX10_measureGreatest_124 (by decide) ?_
        exact w2 _ _ _ (ih13 _ _ _ v121_2 x121 hW hS (lv_sub hl [1, 2, 3, 0] rfl) rv121_2 (ir_w (lo' := 0) (hi' := 4) r121 (by decide) (by decide)) (by have h9 := r121; omega))
      refine w1 _ _ _ ?_
      refine lv_iload_n hx hb dX10_measureGreatest_13 rfl (lv_at hl 3 rfl) ?_
      refine lv_iconst (v := 4) hx hb dX10_measureGreatest_14 (by decide) ?_
      refine lv_icmp_ge (tgt := 127) hx hb dX10_measureGreatest_15 (by decide) (fun c15 => ?_) (fun c15 => ?_)
      · have rv13_3_15 : ir v13_3 4 4 := ⟨Int.le_trans (by decide) (rf_le c15 (ir_c (4) (by decide) : ir (4 : Int32) (4) (4)) rv13_3).2, (rv13_3).2⟩
        refine lv_iload_n hx hb dX10_measureGreatest_127 rfl (lv_at hl 2 rfl) ?_
        exact W.zret (v := v13_2) hx hb hr (nar01 rv13_2) (fun t ht _ => ⟨⟨v13_2, (), rfl, rv13_2, cW_at ht hW⟩, hS.F ht⟩) hS.2.2 dX10_measureGreatest_128
      · have rv13_3_15 : ir v13_3 0 3 := ⟨(rv13_3).1, Int.le_trans (rf_lt (rf_nle c15) rv13_3 (ir_c (4) (by decide) : ir (4 : Int32) (4) (4))).1 (by decide)⟩
        refine lv_iload_n hx hb dX10_measureGreatest_18 rfl (lv_at hl 1 rfl) ?_
        refine lv_iload_n hx hb dX10_measureGreatest_19 rfl (lv_at hl 3 rfl) ?_
        refine cp_i (wt_runS (As := [.int p1, .int v13_3]) (rest := []) ⟨hx, hb, hml, hown, hts⟩ (m_X10_isInSet l p1 v13_3) wm_X10_isInSet q808 ⟨rfl, rfl⟩ ⟨Nat.le_of_ble_eq_true rfl, Nat.le_of_ble_eq_true rfl⟩ pS_pre rfl hl.1 rfl (Nat.le_of_ble_eq_true rfl) dX10_measureGreatest_20 ⟨Nat.zero_le _, Nat.zero_le _⟩) hW hS (fun x20 H locs hp hW hS oq => ?_)
        have r20 : ir x20 0 1 := hp
        refine lv_if_ne (tgt := 29) hx hb dX10_measureGreatest_23 (by decide) (fun c23 => ?_) (fun c23 => ?_)
        · have rx20_23 : ir x20 1 1 := rf_ne0 c23 r20
          refine lv_aload_n hx hb dX10_measureGreatest_29 rfl (lv_at hl 0 rfl) ?_
          refine wt_get hx hb hts cfX10 hown hK hW (cg10 k0) rfl 6 (by decide) q299 dX10_measureGreatest_30 (fun v hv => ?_)
          obtain ⟨x30, rfl, k30⟩ : gr N 31 v := hv
          refine lv_iload_n hx hb dX10_measureGreatest_33 rfl (lv_at hl 3 rfl) ?_
          refine wt_aald hx hb hK hW 3 (cg31 k30) rfl (ir_in rv13_3_15 (by decide) (by decide)) dX10_measureGreatest_34 (fun v hv => ?_)
          obtain ⟨x34, rfl, k34⟩ : gr N 2 v := hv
          refine lv_aload_n hx hb dX10_measureGreatest_35 rfl (lv_at hl 0 rfl) ?_
          refine wt_get hx hb hts cfX10 hown hK hW (cg10 k0) rfl 1 (by decide) q294 dX10_measureGreatest_36 (fun v hv => ?_)
          obtain ⟨x36, rfl, k36⟩ : gr N 3 v := hv
          refine lv_aload_n hx hb dX10_measureGreatest_39 rfl (lv_at hl 0 rfl) ?_
          refine wt_get hx hb hts cfX10 hown hK hW (cg10 k0) rfl 3 (by decide) q296 dX10_measureGreatest_40 (fun v hv => ?_)
          obtain ⟨x40, rfl, k40⟩ : gr N 5 v := hv
          refine lv_iload_n hx hb dX10_measureGreatest_43 rfl (lv_at hl 3 rfl) ?_
          refine lv_iconst (v := 1) hx hb dX10_measureGreatest_44 (by decide) ?_
          refine lv_iadd hx hb dX10_measureGreatest_45 ?_
          refine lv_topi (fun x45 e45 => ?_)
          have t45 : x45.toInt = v13_3.toInt + (1) := it_add e45 rv13_3_15 (ir_c (1) (by decide) : ir (1 : Int32) (1) (1)) (by decide) (by decide)
          have r45 : ir x45 1 4 := ir_w (ir_add e45 rv13_3_15 (ir_c (1) (by decide) : ir (1 : Int32) (1) (1)) (by decide) (by decide)) (by decide) (by decide)
          refine lv_aload_n hx hb dX10_measureGreatest_46 rfl (lv_at hl 0 rfl) ?_
          refine wt_get hx hb hts cfX10 hown hK hW (cg10 k0) rfl 1 (by decide) q294 dX10_measureGreatest_47 (fun v hv => ?_)
          obtain ⟨x47, rfl, k47⟩ : gr N 3 v := hv
          refine wt_getp hx hb hts cfX3 hown hK hW (cg3 k47) rfl 1 (by decide) (Or.inr ⟨_, lw_n_use hnn q46⟩) dX10_measureGreatest_50 (fun v hv nx47_1 => ?_)
          obtain ⟨x50, rfl, r50⟩ : gi 0 24 v := hv
          refine cc_v (wt_runV (As := [.ref x36, .ref x40, .int x45, .int x50]) (rest := []) ⟨hx, hb, hml, hown, hts⟩ (m_X2_climb l N x34 k34 x36 k36 x40 k40 x45 r45 x50) wm_X2_climb q547 ⟨rfl, rfl⟩ ⟨Nat.le_of_ble_eq_true rfl, Nat.le_of_ble_eq_true rfl⟩ (cS_preV hK hW hT hnn hS (cg2 k34) rfl rfl trivial) rfl hl.1 rfl (Nat.le_of_ble_eq_true rfl) dX10_measureGreatest_53 ⟨Nat.zero_le _, Nat.zero_le _⟩) hS (by decide) (fun H locs hW hS oq hB2 => ?_)
          have nx47_1 := nx47_1.kept (oq _ nx47_1.lt (cE_not k47 (by decide)))
          refine lv_aload_n hx hb dX10_measureGreatest_56 rfl (lv_at hl 0 rfl) ?_
          refine wt_get hx hb hts cfX10 hown hK hW (cg10 k0) rfl 6 (by decide) q299 dX10_measureGreatest_57 (fun v hv => ?_)
          obtain ⟨x57, rfl, k57⟩ : gr N 31 v := hv
          refine lv_iload_n hx hb dX10_measureGreatest_60 rfl (lv_at hl 3 rfl) ?_
          refine wt_aald hx hb hK hW 3 (cg31 k57) rfl (ir_in rv13_3_15 (by decide) (by decide)) dX10_measureGreatest_61 (fun v hv => ?_)
          obtain ⟨x61, rfl, k61⟩ : gr N 2 v := hv
          refine cc_r (wt_runV (As := []) (rest := []) ⟨hx, hb, hml, hown, hts⟩ (m_X2_whole l N x61 k61) wm_X2_whole q585 ⟨rfl, rfl⟩ ⟨Nat.le_of_ble_eq_true rfl, Nat.le_of_ble_eq_true rfl⟩ (cS_preV hK hW hT hnn hS (cg2 k61) rfl rfl trivial) rfl hl.1 rfl (Nat.le_of_ble_eq_true rfl) dX10_measureGreatest_62 ⟨Nat.zero_le _, Nat.zero_le _⟩) hS (by decide) (fun x62 H locs k62 hW hS oq => ?_)
          have nx47_1 := nx47_1.kept (oq _ nx47_1.lt (cE_not k47 (by decide)))
          refine wt_getp hx hb hts cfX4 hown hK hW (cg4 k62) rfl 4 (by decide) (Or.inr ⟨_, lw_n_use hnn q197⟩) dX10_measureGreatest_65 (fun v hv nx62_4 => ?_)
          obtain ⟨x65, rfl, r65⟩ : gi 0 1 v := hv
          refine lv_if_eq (tgt := 76) hx hb dX10_measureGreatest_68 (by decide) (fun c68 => ?_) (fun c68 => ?_)
          · have rx65_68 : ir x65 0 0 := rf_eq c68 (ir_c (0) (by decide) : ir (0 : Int32) (0) (0))
            refine lv_aload_n hx hb dX10_measureGreatest_76 rfl (lv_at hl 0 rfl) ?_
            refine wt_get hx hb hts cfX10 hown hK hW (cg10 k0) rfl 3 (by decide) q296 dX10_measureGreatest_77 (fun v hv => ?_)
            obtain ⟨x77, rfl, k77⟩ : gr N 5 v := hv
            refine lv_aload_n hx hb dX10_measureGreatest_80 rfl (lv_at hl 0 rfl) ?_
            refine wt_get hx hb hts cfX10 hown hK hW (cg10 k0) rfl 6 (by decide) q299 dX10_measureGreatest_81 (fun v hv => ?_)
            obtain ⟨x81, rfl, k81⟩ : gr N 31 v := hv
            refine lv_iload_n hx hb dX10_measureGreatest_84 rfl (lv_at hl 3 rfl) ?_
            refine wt_aald hx hb hK hW 3 (cg31 k81) rfl (ir_in rv13_3_15 (by decide) (by decide)) dX10_measureGreatest_85 (fun v hv => ?_)
            obtain ⟨x85, rfl, k85⟩ : gr N 2 v := hv
            refine cc_r (wt_runV (As := []) (rest := [.ref x77]) ⟨hx, hb, hml, hown, hts⟩ (m_X2_whole l N x85 k85) wm_X2_whole q585 ⟨rfl, rfl⟩ ⟨Nat.le_of_ble_eq_true rfl, Nat.le_of_ble_eq_true rfl⟩ (cS_preV hK hW hT hnn hS (cg2 k85) rfl rfl trivial) rfl hl.1 rfl (Nat.le_of_ble_eq_true rfl) dX10_measureGreatest_86 ⟨Nat.zero_le _, Nat.zero_le _⟩) hS (by decide) (fun x86 H locs k86 hW hS oq => ?_)
            have nx47_1 := nx47_1.kept (oq _ nx47_1.lt (cE_not k47 (by decide)))
            have nx62_4 := nx62_4.kept (oq _ nx62_4.lt (cE_not k62 (by decide)))
            refine lv_aload_n hx hb dX10_measureGreatest_89 rfl (lv_at hl 0 rfl) ?_
            refine wt_get hx hb hts cfX10 hown hK hW (cg10 k0) rfl 9 (by decide) q302 dX10_measureGreatest_90 (fun v hv => ?_)
            obtain ⟨x90, rfl, k90⟩ : gr N 0 v := hv
            refine cc_v (wt_runV (As := [.ref x86, .ref x90]) (rest := []) ⟨hx, hb, hml, hown, hts⟩ (m_X5_measureBack l N x77 k77 x86 k86 x90 k90) wm_X5_measureBack q599 ⟨rfl, rfl⟩ ⟨Nat.le_of_ble_eq_true rfl, Nat.le_of_ble_eq_true rfl⟩ (cS_preV hK hW hT hnn hS (cg5 k77) rfl rfl trivial) rfl hl.1 rfl (Nat.le_of_ble_eq_true rfl) dX10_measureGreatest_93 ⟨Nat.zero_le _, Nat.zero_le _⟩) hS (by decide) (fun H locs hW hS oq hB2 => ?_)
            have nx47_1 := nx47_1.kept (oq _ nx47_1.lt (cE_not k47 (by decide)))
            have nx62_4 := nx62_4.kept (oq _ nx62_4.lt (cE_not k62 (by decide)))
            refine lv_aload_n hx hb dX10_measureGreatest_96 rfl (lv_at hl 0 rfl) ?_
            refine wt_get hx hb hts cfX10 hown hK hW (cg10 k0) rfl 9 (by decide) q302 dX10_measureGreatest_97 (fun v hv => ?_)
            obtain ⟨x97, rfl, k97⟩ : gr N 0 v := hv
            refine lv_aload_n hx hb dX10_measureGreatest_100 rfl (lv_at hl 0 rfl) ?_
            refine wt_get hx hb hts cfX10 hown hK hW (cg10 k0) rfl 10 (by decide) q303 dX10_measureGreatest_101 (fun v hv => ?_)
            obtain ⟨x101, rfl, k101⟩ : gr N 0 v := hv
            refine cc_i (wt_runV (As := [.ref x101]) (rest := []) ⟨hx, hb, hml, hown, hts⟩ (m_X0_compareWith l N x97 k97 x101 k101) wm_X0_compareWith q660 ⟨rfl, rfl⟩ ⟨Nat.le_of_ble_eq_true rfl, Nat.le_of_ble_eq_true rfl⟩ (cS_preV hK hW hT hnn hS (cg0 k97) rfl rfl trivial) rfl hl.1 rfl (Nat.le_of_ble_eq_true rfl) dX10_measureGreatest_104 ⟨Nat.zero_le _, Nat.zero_le _⟩) hS (by decide) (fun x104 H locs hp hW hS oq => ?_)
            have nx47_1 := nx47_1.kept (oq _ nx47_1.lt (cE_not k47 (by decide)))
            have nx62_4 := nx62_4.kept (oq _ nx62_4.lt (cE_not k62 (by decide)))
            refine lv_if_le (tgt := 121) hx hb dX10_measureGreatest_107 (by decide) (fun c107 => ?_) (fun c107 => ?_)
            · have rx104_107 : ir x104 (-2147483648) 0 := ⟨((ir_any x104)).1, Int.le_trans (rf_le c107 (ir_any x104) (ir_c (0) (by decide) : ir (0 : Int32) (0) (0))).1 (by decide)⟩
              exact w2 _ _ _ (J121 _ _ _ v13_2 hW hS (lv_sub hl [0, 1, 2, 3] rfl) rv13_2 rv13_3_15)
            · have rx104_107 : ir x104 1 2147483647 := ⟨Int.le_trans (by decide) (rf_lt (rf_nle c107) (ir_c (0) (by decide) : ir (0 : Int32) (0) (0)) (ir_any x104)).2, ((ir_any x104)).2⟩
              refine lv_aload_n hx hb dX10_measureGreatest_110 rfl (lv_at hl 0 rfl) ?_
              refine wt_get hx hb hts cfX10 hown hK hW (cg10 k0) rfl 10 (by decide) q303 dX10_measureGreatest_111 (fun v hv => ?_)
              obtain ⟨x111, rfl, k111⟩ : gr N 0 v := hv
              refine lv_aload_n hx hb dX10_measureGreatest_114 rfl (lv_at hl 0 rfl) ?_
              refine wt_get hx hb hts cfX10 hown hK hW (cg10 k0) rfl 9 (by decide) q302 dX10_measureGreatest_115 (fun v hv => ?_)
              obtain ⟨x115, rfl, k115⟩ : gr N 0 v := hv
              refine cc_v (wt_runV (As := [.ref x115]) (rest := []) ⟨hx, hb, hml, hown, hts⟩ (m_X0_copyOf l N x111 k111 x115 k115) wm_X0_copyOf q667 ⟨rfl, rfl⟩ ⟨Nat.le_of_ble_eq_true rfl, Nat.le_of_ble_eq_true rfl⟩ (cS_preV hK hW hT hnn hS (cg0 k111) rfl rfl trivial) rfl hl.1 rfl (Nat.le_of_ble_eq_true rfl) dX10_measureGreatest_118 ⟨Nat.zero_le _, Nat.zero_le _⟩) hS (by decide) (fun H locs hW hS oq hB2 => ?_)
              have nx47_1 := nx47_1.kept (oq _ nx47_1.lt (cE_not k47 (by decide)))
              have nx62_4 := nx62_4.kept (oq _ nx62_4.lt (cE_not k62 (by decide)))
              exact w2 _ _ _ (J121 _ _ _ v13_2 hW hS (lv_sub hl [0, 1, 2, 3] rfl) rv13_2 rv13_3_15)
          · have rx65_68 : ir x65 1 1 := rf_ne0 c68 r65
            refine lv_iconst (v := 0) hx hb dX10_measureGreatest_71 (by decide) ?_
            refine lv_istore_n (lv' := [(2, .int (0 : Int32)), (0, .ref h0), (1, .int p1), (3, .int v13_3)]) hx hb dX10_measureGreatest_72 rfl hl (by decide) rfl (fun ls hl => ?_)
            refine lv_goto (tgt := 121) hx hb dX10_measureGreatest_73 (by decide) ?_
            exact w2 _ _ _ (J121 _ _ _ (0 : Int32) hW hS (lv_sub hl [1, 2, 0, 3] rfl) (ir_w (lo' := 0) (hi' := 1) (ir_c (0) (by decide) : ir (0 : Int32) (0) (0)) (by decide) (by decide)) rv13_3_15)
        · have rx20_23 : ir x20 0 0 := rf_eq c23 (ir_c (0) (by decide) : ir (0 : Int32) (0) (0))
          refine lv_goto (tgt := 121) hx hb dX10_measureGreatest_26 (by decide) ?_
          exact w2 _ _ _ (J121 _ _ _ v13_2 hW hS (lv_sub hl [0, 1, 2, 3] rfl) rv13_2 rv13_3_15)
  refine lv_iconst (v := 1) hx hb dX10_measureGreatest_0 (by decide) ?_
  refine lv_istore_n (lv' := [(2, .int (1 : Int32)), (0, .ref h0), (1, .int p1)]) hx hb dX10_measureGreatest_1 rfl hl (by decide) rfl (fun ls hl => ?_)
  refine lv_aload_n hx hb dX10_measureGreatest_2 rfl (lv_at hl 1 rfl) ?_
  refine wt_get hx hb hts cfX10 hown hK hW (cg10 k0) rfl 10 (by decide) q303 dX10_measureGreatest_3 (fun v hv => ?_)
  obtain ⟨x3, rfl, k3⟩ : gr N 0 v := hv
  refine lv_lconst (v := 0) hx hb dX10_measureGreatest_6 (by decide) ?_
  refine lv_lconst (v := 1) hx hb dX10_measureGreatest_7 (by decide) ?_
  refine cc_v (wt_runV (As := [.long (0 : Int64), .long (1 : Int64)]) (rest := []) ⟨hx, hb, hml, hown, hts⟩ (m_X0_set l N x3 k3 (0 : Int64) (1 : Int64)) wm_X0_set q675 ⟨rfl, rfl⟩ ⟨Nat.le_of_ble_eq_true rfl, Nat.le_of_ble_eq_true rfl⟩ (cS_preV hK hW hT hnn hS (cg0 k3) rfl rfl trivial) rfl hl.1 rfl (Nat.le_of_ble_eq_true rfl) dX10_measureGreatest_8 ⟨Nat.zero_le _, Nat.zero_le _⟩) hS (by decide) (fun H locs hW hS oq hB2 => ?_)
  refine lv_iconst (v := 0) hx hb dX10_measureGreatest_11 (by decide) ?_
  refine lv_istore_n (lv' := [(3, .int (0 : Int32)), (2, .int (1 : Int32)), (0, .ref h0), (1, .int p1)]) hx hb dX10_measureGreatest_12 rfl hl (by decide) rfl (fun ls hl => ?_)
  exact w2 _ _ _ (L13 5 _ _ _ (1 : Int32) (0 : Int32) hW hS (lv_sub hl [2, 3, 1, 0] rfl) (ir_w (lo' := 0) (hi' := 1) (ir_c (1) (by decide) : ir (1 : Int32) (1) (1)) (by decide) (by decide)) (ir_w (lo' := 0) (hi' := 4) (ir_c (0) (by decide) : ir (0 : Int32) (0) (0)) (by decide) (by decide)) (by have h9 := (ir_c (0) (by decide) : ir (0 : Int32) (0) (0)); omega))
set_option maxHeartbeats 4000000 in
set_option maxRecDepth 100000 in
theorem m_X10_isBetterWith (l : Launch) (N : c_N) (h0 : Nat) (k0 : N.2.2.1 h0 = some 10) (p1 : Int32) (rp1 : ir p1 0 24) (p2 : Int32) (rp2 : ir p2 0 41) (p3 : Int32) (p4 : Int32) (rp4 : ir p4 0 1) : cMi l yX10_isBetterWith cX10_isBetterWith 7 .boolean { frames := 4, cells := 0, slots := 0, locals := 106 } [.ref h0, .int p1, .int p2, .int p3, .int p4] N [0, 4] cT0 (fun r => ir r 0 1) := by
  refine Met.ofW (cc := cX10_isBetterWith) (maxL := 7) (ret := some .boolean) (by decide) rfl ?_
  intro p e s m args below meth c s₁ B hml hv
  obtain ⟨rfl, ⟨hK, hW, hT, hnn⟩, hB⟩ := hv
  have hx := B.exec
  have hb := B.bytes
  have hr := B.returns
  have hts : ∀ w ∈ lw_g, w.before _ s = true := fun w h => atoms_spec (ws := wc_ws yX10_isBetterWith cX10_isBetterWith 7 (some .boolean)) B.pre w (List.mem_cons_of_mem _ h)
  have hown : s.vm.findClass RX10 = some m.cls := findClass_of_methodNamed B.named
  have hlocks := B.notSynchronized
  have hS : va_S (cE N [0, 4]) s.heap s.heap [] := va_S.rf
  have hl := lv_entry ([.ref h0, .int p1, .int p2, .int p3, .int p4]) (n := 7) (Nat.le_of_ble_eq_true rfl)
  rw [lg_entry_eq]
  generalize (lg_sl ([.ref h0, .int p1, .int p2, .int p3, .int p4]) ++ List.replicate (7 - (lg_sl ([.ref h0, .int p1, .int p2, .int p3, .int p4])).length) Slot.unset).toArray = ls at hl ⊢
  have hl : lv_has ls 7 [(0, .ref h0), (1, .int p1), (2, .int p2), (3, .int p3), (4, .int p4)] := hl
  refine wq_all ?_
  intro WW w1 w2
  have L31 : ∀ (n : Nat) (H : Heap) (locs : List Loc) (ls : Array Slot) (v31_5 : Int32), cW N H → va_S (cE N [0, 4]) s.heap H locs → lv_has ls 7 [(0, .ref h0), (1, .int p1), (2, .int p2), (3, .int p3), (4, .int p4), (5, .int v31_5)] → ir p1 0 24 → ir p2 0 41 → ir p4 0 1 → ir v31_5 0 4 → 4 - v31_5.toInt < (n : Int) → WW H locs (F0 m 31 ls []) := by
    intro n
    induction n with
    | zero =>
      intro H locs ls v31_5 hW hS hl rv31_1 rv31_2 rv31_4 rv31_5 mu31
      exfalso
      omega
    | succ n ih31 =>
      intro H locs ls v31_5 hW hS hl rv31_1 rv31_2 rv31_4 rv31_5 mu31
      have J142 : ∀ (H : Heap) (locs : List Loc) (ls : Array Slot) , cW N H → va_S (cE N [0, 4]) s.heap H locs → lv_has ls 7 [(0, .ref h0), (1, .int p1), (2, .int p2), (3, .int p3), (4, .int p4), (5, .int v31_5)] → ir p1 0 24 → ir p2 0 41 → ir p4 0 1 → ir v31_5 0 3 → WW H locs (F0 m 142 ls []) := by
        intro H locs ls  hW hS hl rv142_1 rv142_2 rv142_4 rv142_5
        refine w1 _ _ _ ?_
        obtain ⟨x142, e142⟩ : ∃ y : Int32, y = v31_5 + 1 := ⟨_, rfl⟩
        have r142 : ir x142 1 4 := ir_w (ir_add e142 rv142_5 (ir_c (1) (by decide) : ir (1 : Int32) (1) (1)) (by decide) (by decide)) (by decide) (by decide)
        have t142 : x142.toInt = v31_5.toInt + (1) := it_add e142 rv142_5 (ir_c (1) (by decide) : ir (1 : Int32) (1) (1)) (by decide) (by decide)
        refine lv_iinc (v := x142) (lv' := [(5, .int x142), (0, .ref h0), (1, .int p1), (2, .int p2), (3, .int p3), (4, .int p4)]) hx hb dX10_isBetterWith_142 hl (k := 5) rfl (by rw [e142]; rfl) (by decide) rfl (fun ls hl => ?_)
        refine lv_goto (tgt := 31) hx hb dX10_isBetterWith_145 (by decide) ?_
        exact w2 _ _ _ (ih31 _ _ _ x142 hW hS (lv_sub hl [1, 2, 3, 4, 5, 0] rfl) rv142_1 rv142_2 rv142_4 (ir_w (lo' := 0) (hi' := 4) r142 (by decide) (by decide)) (by have h9 := r142; omega))
      have J117 : ∀ (H : Heap) (locs : List Loc) (ls : Array Slot) , cW N H → va_S (cE N [0, 4]) s.heap H locs → lv_has ls 7 [(0, .ref h0), (1, .int p1), (2, .int p2), (3, .int p3), (4, .int p4), (5, .int v31_5)] → ir p1 0 24 → ir p2 0 41 → ir p4 0 1 → ir v31_5 0 3 → WW H locs (F0 m 117 ls []) := by
        intro H locs ls  hW hS hl rv117_1 rv117_2 rv117_4 rv117_5
        refine w1 _ _ _ ?_
        refine lv_aload_n hx hb dX10_isBetterWith_117 rfl (lv_at hl 0 rfl) ?_
        refine wt_get hx hb hts cfX10 hown hK hW (cg10 k0) rfl 9 (by decide) q302 dX10_isBetterWith_118 (fun v hv => ?_)
        obtain ⟨x118, rfl, k118⟩ : gr N 0 v := hv
        refine lv_aload_n hx hb dX10_isBetterWith_121 rfl (lv_at hl 0 rfl) ?_
        refine wt_get hx hb hts cfX10 hown hK hW (cg10 k0) rfl 11 (by decide) q304 dX10_isBetterWith_122 (fun v hv => ?_)
        obtain ⟨x122, rfl, k122⟩ : gr N 0 v := hv
        refine cc_i (wt_runV (As := [.ref x122]) (rest := []) ⟨hx, hb, hml, hown, hts⟩ (m_X0_compareWith l N x118 k118 x122 k122) wm_X0_compareWith q660 ⟨rfl, rfl⟩ ⟨Nat.le_of_ble_eq_true rfl, Nat.le_of_ble_eq_true rfl⟩ (cS_preV hK hW hT hnn hS (cg0 k118) rfl rfl trivial) rfl hl.1 rfl (Nat.le_of_ble_eq_true rfl) dX10_isBetterWith_125 ⟨Nat.zero_le _, Nat.zero_le _⟩) hS (by decide) (fun x125 H locs hp hW hS oq => ?_)
        refine lv_if_le (tgt := 142) hx hb dX10_isBetterWith_128 (by decide) (fun c128 => ?_) (fun c128 => ?_)
        · have rx125_128 : ir x125 (-2147483648) 0 := ⟨((ir_any x125)).1, Int.le_trans (rf_le c128 (ir_any x125) (ir_c (0) (by decide) : ir (0 : Int32) (0) (0))).1 (by decide)⟩
          exact w2 _ _ _ (J142 _ _ _  hW hS (lv_sub hl [0, 1, 2, 3, 4, 5] rfl) rv117_1 rv117_2 rv117_4 rv117_5)
        · have rx125_128 : ir x125 1 2147483647 := ⟨Int.le_trans (by decide) (rf_lt (rf_nle c128) (ir_c (0) (by decide) : ir (0 : Int32) (0) (0)) (ir_any x125)).2, ((ir_any x125)).2⟩
          refine lv_aload_n hx hb dX10_isBetterWith_131 rfl (lv_at hl 0 rfl) ?_
          refine wt_get hx hb hts cfX10 hown hK hW (cg10 k0) rfl 11 (by decide) q304 dX10_isBetterWith_132 (fun v hv => ?_)
          obtain ⟨x132, rfl, k132⟩ : gr N 0 v := hv
          refine lv_aload_n hx hb dX10_isBetterWith_135 rfl (lv_at hl 0 rfl) ?_
          refine wt_get hx hb hts cfX10 hown hK hW (cg10 k0) rfl 9 (by decide) q302 dX10_isBetterWith_136 (fun v hv => ?_)
          obtain ⟨x136, rfl, k136⟩ : gr N 0 v := hv
          refine cc_v (wt_runV (As := [.ref x136]) (rest := []) ⟨hx, hb, hml, hown, hts⟩ (m_X0_copyOf l N x132 k132 x136 k136) wm_X0_copyOf q667 ⟨rfl, rfl⟩ ⟨Nat.le_of_ble_eq_true rfl, Nat.le_of_ble_eq_true rfl⟩ (cS_preV hK hW hT hnn hS (cg0 k132) rfl rfl trivial) rfl hl.1 rfl (Nat.le_of_ble_eq_true rfl) dX10_isBetterWith_139 ⟨Nat.zero_le _, Nat.zero_le _⟩) hS (by decide) (fun H locs hW hS oq hB2 => ?_)
          exact w2 _ _ _ (J142 _ _ _  hW hS (lv_sub hl [0, 1, 2, 3, 4, 5] rfl) rv117_1 rv117_2 rv117_4 rv117_5)
      refine w1 _ _ _ ?_
      refine lv_iload hx hb dX10_isBetterWith_31 (lv_at hl 5 rfl) ?_
      refine lv_iconst (v := 4) hx hb dX10_isBetterWith_33 (by decide) ?_
      refine lv_icmp_ge (tgt := 148) hx hb dX10_isBetterWith_34 (by decide) (fun c34 => ?_) (fun c34 => ?_)
      · have rv31_5_34 : ir v31_5 4 4 := ⟨Int.le_trans (by decide) (rf_le c34 (ir_c (4) (by decide) : ir (4 : Int32) (4) (4)) rv31_5).2, (rv31_5).2⟩
        refine lv_iconst (v := 1) hx hb dX10_isBetterWith_148 (by decide) ?_
        exact W.zret (v := (1 : Int32)) hx hb hr rfl (fun t ht _ => ⟨⟨(1 : Int32), (), rfl, (⟨by decide, by decide⟩), cW_at ht hW⟩, hS.F ht⟩) hS.2.2 dX10_isBetterWith_149
      · have rv31_5_34 : ir v31_5 0 3 := ⟨(rv31_5).1, Int.le_trans (rf_lt (rf_nle c34) rv31_5 (ir_c (4) (by decide) : ir (4 : Int32) (4) (4))).1 (by decide)⟩
        refine lv_iload_n hx hb dX10_isBetterWith_37 rfl (lv_at hl 3 rfl) ?_
        refine lv_iload hx hb dX10_isBetterWith_38 (lv_at hl 5 rfl) ?_
        refine cp_i (wt_runS (As := [.int p3, .int v31_5]) (rest := []) ⟨hx, hb, hml, hown, hts⟩ (m_X10_isInSet l p3 v31_5) wm_X10_isInSet q808 ⟨rfl, rfl⟩ ⟨Nat.le_of_ble_eq_true rfl, Nat.le_of_ble_eq_true rfl⟩ pS_pre rfl hl.1 rfl (Nat.le_of_ble_eq_true rfl) dX10_isBetterWith_40 ⟨Nat.zero_le _, Nat.zero_le _⟩) hW hS (fun x40 H locs hp hW hS oq => ?_)
        have r40 : ir x40 0 1 := hp
        refine lv_if_ne (tgt := 49) hx hb dX10_isBetterWith_43 (by decide) (fun c43 => ?_) (fun c43 => ?_)
        · have rx40_43 : ir x40 1 1 := rf_ne0 c43 r40
          refine lv_aload_n hx hb dX10_isBetterWith_49 rfl (lv_at hl 0 rfl) ?_
          refine wt_get hx hb hts cfX10 hown hK hW (cg10 k0) rfl 6 (by decide) q299 dX10_isBetterWith_50 (fun v hv => ?_)
          obtain ⟨x50, rfl, k50⟩ : gr N 31 v := hv
          refine lv_iload hx hb dX10_isBetterWith_53 (lv_at hl 5 rfl) ?_
          refine wt_aald hx hb hK hW 3 (cg31 k50) rfl (ir_in rv31_5_34 (by decide) (by decide)) dX10_isBetterWith_55 (fun v hv => ?_)
          obtain ⟨x55, rfl, k55⟩ : gr N 2 v := hv
          refine lv_iload_n hx hb dX10_isBetterWith_56 rfl (lv_at hl 1 rfl) ?_
          refine lv_aload_n hx hb dX10_isBetterWith_57 rfl (lv_at hl 0 rfl) ?_
          refine wt_get hx hb hts cfX10 hown hK hW (cg10 k0) rfl 4 (by decide) q297 dX10_isBetterWith_58 (fun v hv => ?_)
          obtain ⟨x58, rfl, k58⟩ : gr N 6 v := hv
          refine lv_iload hx hb dX10_isBetterWith_61 (lv_at hl 5 rfl) ?_
          refine lv_iload_n hx hb dX10_isBetterWith_63 rfl (lv_at hl 2 rfl) ?_
          refine cc_r (wt_runV (As := [.int v31_5, .int p2]) (rest := [.int p1, .ref x55]) ⟨hx, hb, hml, hown, hts⟩ (m_X6_matrixOf l N x58 k58 v31_5 rv31_5_34 p2 rv31_2) wm_X6_matrixOf q799 ⟨rfl, rfl⟩ ⟨Nat.le_of_ble_eq_true rfl, Nat.le_of_ble_eq_true rfl⟩ (cS_preV hK hW hT hnn hS (cg6 k58) rfl rfl trivial) rfl hl.1 rfl (Nat.le_of_ble_eq_true rfl) dX10_isBetterWith_64 ⟨Nat.zero_le _, Nat.zero_le _⟩) hS (by decide) (fun x64 H locs k64 hW hS oq => ?_)
          refine lv_iload_n hx hb dX10_isBetterWith_67 rfl (lv_at hl 1 rfl) ?_
          refine cc_r (wt_runV (As := [.int p1, .ref x64, .int p1]) (rest := []) ⟨hx, hb, hml, hown, hts⟩ (m_X2_changed l N x55 k55 p1 rv31_1 x64 k64 p1 (ir_w (lo' := 0) (hi' := 25) rv31_1 (by decide) (by decide))) wm_X2_changed q727 ⟨rfl, rfl⟩ ⟨Nat.le_of_ble_eq_true rfl, Nat.le_of_ble_eq_true rfl⟩ (cS_preV hK hW hT hnn hS (cg2 k55) rfl rfl trivial) rfl hl.1 rfl (Nat.le_of_ble_eq_true rfl) dX10_isBetterWith_68 ⟨Nat.zero_le _, Nat.zero_le _⟩) hS (by decide) (fun x68 H locs k68 hW hS oq => ?_)
          refine lv_astore (lv' := [(6, .ref x68), (0, .ref h0), (1, .int p1), (2, .int p2), (3, .int p3), (4, .int p4), (5, .int v31_5)]) hx hb dX10_isBetterWith_71 hl (by decide) rfl (fun ls hl => ?_)
          refine lv_aload hx hb dX10_isBetterWith_73 (lv_at hl 0 rfl) ?_
          refine wt_getp hx hb hts cfX4 hown hK hW (cg4 k68) rfl 4 (by decide) (Or.inr ⟨_, lw_n_use hnn q197⟩) dX10_isBetterWith_75 (fun v hv nx68_4 => ?_)
          obtain ⟨x75, rfl, r75⟩ : gi 0 1 v := hv
          refine lv_if_eq (tgt := 83) hx hb dX10_isBetterWith_78 (by decide) (fun c78 => ?_) (fun c78 => ?_)
          · have rx75_78 : ir x75 0 0 := rf_eq c78 (ir_c (0) (by decide) : ir (0 : Int32) (0) (0))
            refine lv_aload_n hx hb dX10_isBetterWith_83 rfl (lv_at hl 1 rfl) ?_
            refine wt_get hx hb hts cfX10 hown hK hW (cg10 k0) rfl 3 (by decide) q296 dX10_isBetterWith_84 (fun v hv => ?_)
            obtain ⟨x84, rfl, k84⟩ : gr N 5 v := hv
            refine lv_aload hx hb dX10_isBetterWith_87 (lv_at hl 0 rfl) ?_
            refine lv_aload_n hx hb dX10_isBetterWith_89 rfl (lv_at hl 1 rfl) ?_
            refine wt_get hx hb hts cfX10 hown hK hW (cg10 k0) rfl 9 (by decide) q302 dX10_isBetterWith_90 (fun v hv => ?_)
            obtain ⟨x90, rfl, k90⟩ : gr N 0 v := hv
            refine cc_v (wt_runV (As := [.ref x68, .ref x90]) (rest := []) ⟨hx, hb, hml, hown, hts⟩ (m_X5_measureBack l N x84 k84 x68 k68 x90 k90) wm_X5_measureBack q599 ⟨rfl, rfl⟩ ⟨Nat.le_of_ble_eq_true rfl, Nat.le_of_ble_eq_true rfl⟩ (cS_preV hK hW hT hnn hS (cg5 k84) rfl rfl trivial) rfl hl.1 rfl (Nat.le_of_ble_eq_true rfl) dX10_isBetterWith_93 ⟨Nat.zero_le _, Nat.zero_le _⟩) hS (by decide) (fun H locs hW hS oq hB2 => ?_)
            have nx68_4 := nx68_4.kept (oq _ nx68_4.lt (cE_not k68 (by decide)))
            refine lv_iload hx hb dX10_isBetterWith_96 (lv_at hl 5 rfl) ?_
            refine lv_if_eq (tgt := 117) hx hb dX10_isBetterWith_98 (by decide) (fun c98 => ?_) (fun c98 => ?_)
            · have rp4_98 : ir p4 0 0 := rf_eq c98 (ir_c (0) (by decide) : ir (0 : Int32) (0) (0))
              exact w2 _ _ _ (J117 _ _ _  hW hS (lv_sub hl [1, 2, 3, 4, 5, 6] rfl) rv31_1 rv31_2 (ir_w (lo' := 0) (hi' := 1) rp4_98 (by decide) (by decide)) rv31_5_34)
            · have rp4_98 : ir p4 1 1 := rf_ne0 c98 rv31_4
              refine lv_aload_n hx hb dX10_isBetterWith_101 rfl (lv_at hl 1 rfl) ?_
              refine wt_get hx hb hts cfX10 hown hK hW (cg10 k0) rfl 9 (by decide) q302 dX10_isBetterWith_102 (fun v hv => ?_)
              obtain ⟨x102, rfl, k102⟩ : gr N 0 v := hv
              refine lv_aload_n hx hb dX10_isBetterWith_105 rfl (lv_at hl 1 rfl) ?_
              refine wt_get hx hb hts cfX10 hown hK hW (cg10 k0) rfl 10 (by decide) q303 dX10_isBetterWith_106 (fun v hv => ?_)
              obtain ⟨x106, rfl, k106⟩ : gr N 0 v := hv
              refine cc_i (wt_runV (As := [.ref x106]) (rest := []) ⟨hx, hb, hml, hown, hts⟩ (m_X0_compareWith l N x102 k102 x106 k106) wm_X0_compareWith q660 ⟨rfl, rfl⟩ ⟨Nat.le_of_ble_eq_true rfl, Nat.le_of_ble_eq_true rfl⟩ (cS_preV hK hW hT hnn hS (cg0 k102) rfl rfl trivial) rfl hl.1 rfl (Nat.le_of_ble_eq_true rfl) dX10_isBetterWith_109 ⟨Nat.zero_le _, Nat.zero_le _⟩) hS (by decide) (fun x109 H locs hp hW hS oq => ?_)
              have nx68_4 := nx68_4.kept (oq _ nx68_4.lt (cE_not k68 (by decide)))
              refine lv_if_lt (tgt := 117) hx hb dX10_isBetterWith_112 (by decide) (fun c112 => ?_) (fun c112 => ?_)
              · have rx109_112 : ir x109 (-2147483648) (-1) := ⟨((ir_any x109)).1, Int.le_trans (rf_lt c112 (ir_any x109) (ir_c (0) (by decide) : ir (0 : Int32) (0) (0))).1 (by decide)⟩
                exact w2 _ _ _ (J117 _ _ _  hW hS (lv_sub hl [1, 2, 3, 4, 5, 6] rfl) rv31_1 rv31_2 (ir_w (lo' := 0) (hi' := 1) rp4_98 (by decide) (by decide)) rv31_5_34)
              · have rx109_112 : ir x109 0 2147483647 := ⟨Int.le_trans (by decide) (rf_le (rf_nlt c112) (ir_c (0) (by decide) : ir (0 : Int32) (0) (0)) (ir_any x109)).2, ((ir_any x109)).2⟩
                refine lv_iconst (v := 0) hx hb dX10_isBetterWith_115 (by decide) ?_
                exact W.zret (v := (0 : Int32)) hx hb hr rfl (fun t ht _ => ⟨⟨(0 : Int32), (), rfl, (⟨by decide, by decide⟩), cW_at ht hW⟩, hS.F ht⟩) hS.2.2 dX10_isBetterWith_116
          · have rx75_78 : ir x75 1 1 := rf_ne0 c78 r75
            refine lv_iconst (v := 0) hx hb dX10_isBetterWith_81 (by decide) ?_
            exact W.zret (v := (0 : Int32)) hx hb hr rfl (fun t ht _ => ⟨⟨(0 : Int32), (), rfl, (⟨by decide, by decide⟩), cW_at ht hW⟩, hS.F ht⟩) hS.2.2 dX10_isBetterWith_82
        · have rx40_43 : ir x40 0 0 := rf_eq c43 (ir_c (0) (by decide) : ir (0 : Int32) (0) (0))
          refine lv_goto (tgt := 142) hx hb dX10_isBetterWith_46 (by decide) ?_
          exact w2 _ _ _ (J142 _ _ _  hW hS (lv_sub hl [0, 1, 2, 3, 4, 5] rfl) rv31_1 rv31_2 rv31_4 rv31_5_34)
  have J28 : ∀ (H : Heap) (locs : List Loc) (ls : Array Slot) , cW N H → va_S (cE N [0, 4]) s.heap H locs → lv_has ls 7 [(0, .ref h0), (1, .int p1), (2, .int p2), (3, .int p3), (4, .int p4)] → ir p1 0 24 → ir p2 0 41 → ir p4 0 1 → WW H locs (F0 m 28 ls []) := by
    intro H locs ls  hW hS hl rv28_1 rv28_2 rv28_4
    refine w1 _ _ _ ?_
    refine lv_iconst (v := 0) hx hb dX10_isBetterWith_28 (by decide) ?_
    refine lv_istore (lv' := [(5, .int (0 : Int32)), (0, .ref h0), (1, .int p1), (2, .int p2), (3, .int p3), (4, .int p4)]) hx hb dX10_isBetterWith_29 hl (by decide) rfl (fun ls hl => ?_)
    exact w2 _ _ _ (L31 5 _ _ _ (0 : Int32) hW hS (lv_sub hl [1, 2, 3, 4, 5, 0] rfl) rv28_1 rv28_2 rv28_4 (ir_w (lo' := 0) (hi' := 4) (ir_c (0) (by decide) : ir (0 : Int32) (0) (0)) (by decide) (by decide)) (by have h9 := (ir_c (0) (by decide) : ir (0 : Int32) (0) (0)); omega))
  refine lv_aload_n hx hb dX10_isBetterWith_0 rfl (lv_at hl 0 rfl) ?_
  refine wt_get hx hb hts cfX10 hown hK hW (cg10 k0) rfl 11 (by decide) q304 dX10_isBetterWith_1 (fun v hv => ?_)
  obtain ⟨x1, rfl, k1⟩ : gr N 0 v := hv
  refine lv_lconst (v := 0) hx hb dX10_isBetterWith_4 (by decide) ?_
  refine lv_lconst (v := 1) hx hb dX10_isBetterWith_5 (by decide) ?_
  refine cc_v (wt_runV (As := [.long (0 : Int64), .long (1 : Int64)]) (rest := []) ⟨hx, hb, hml, hown, hts⟩ (m_X0_set l N x1 k1 (0 : Int64) (1 : Int64)) wm_X0_set q675 ⟨rfl, rfl⟩ ⟨Nat.le_of_ble_eq_true rfl, Nat.le_of_ble_eq_true rfl⟩ (cS_preV hK hW hT hnn hS (cg0 k1) rfl rfl trivial) rfl hl.1 rfl (Nat.le_of_ble_eq_true rfl) dX10_isBetterWith_6 ⟨Nat.zero_le _, Nat.zero_le _⟩) hS (by decide) (fun H locs hW hS oq hB2 => ?_)
  refine lv_iload hx hb dX10_isBetterWith_9 (lv_at hl 4 rfl) ?_
  refine lv_if_eq (tgt := 28) hx hb dX10_isBetterWith_11 (by decide) (fun c11 => ?_) (fun c11 => ?_)
  · have rp4_11 : ir p4 0 0 := rf_eq c11 (ir_c (0) (by decide) : ir (0 : Int32) (0) (0))
    exact w2 _ _ _ (J28 _ _ _  hW hS (lv_sub hl [0, 1, 2, 3, 4] rfl) rp1 rp2 (ir_w (lo' := 0) (hi' := 1) rp4_11 (by decide) (by decide)))
  · have rp4_11 : ir p4 1 1 := rf_ne0 c11 rp4
    refine lv_aload_n hx hb dX10_isBetterWith_14 rfl (lv_at hl 0 rfl) ?_
    refine wt_get hx hb hts cfX10 hown hK hW (cg10 k0) rfl 10 (by decide) q303 dX10_isBetterWith_15 (fun v hv => ?_)
    obtain ⟨x15, rfl, k15⟩ : gr N 0 v := hv
    refine wt_getp hx hb hts cfX0 hown hK hW (cg0 k15) rfl 0 (by decide) (Or.inr ⟨_, lw_n_use hnn q259⟩) dX10_isBetterWith_18 (fun v hv nx15_0 => ?_)
    obtain ⟨x18, rfl⟩ : gl v := hv
    refine lv_lconst (v := 0) hx hb dX10_isBetterWith_21 (by decide) ?_
    refine wl_ne (tgt := 28) hx hb dX10_isBetterWith_22 dX10_isBetterWith_23 (by decide) (fun c22 => ?_) (fun c22 => ?_)
    · have c22 : x18.toInt ≠ (0 : Int) := c22
      exact w2 _ _ _ (J28 _ _ _  hW hS (lv_sub hl [0, 1, 2, 3, 4] rfl) rp1 rp2 (ir_w (lo' := 0) (hi' := 1) rp4_11 (by decide) (by decide)))
    · have c22 : x18.toInt = (0 : Int) := c22
      have rx18_22 : lr x18 0 0 := by have h8 := (lr_any x18); have h9 := (lr_c (0) (by decide) : lr (0 : Int64) (0) (0)); constructor <;> omega
      refine lv_iconst (v := 0) hx hb dX10_isBetterWith_26 (by decide) ?_
      exact W.zret (v := (0 : Int32)) hx hb hr rfl (fun t ht _ => ⟨⟨(0 : Int32), (), rfl, (⟨by decide, by decide⟩), cW_at ht hW⟩, hS.F ht⟩) hS.2.2 dX10_isBetterWith_27
set_option maxHeartbeats 4000000 in
set_option maxRecDepth 100000 in
theorem m_X10_spareAt (l : Launch) (N : c_N) (h0 : Nat) (k0 : N.2.2.1 h0 = some 10) (p1 : Int32) (rp1 : ir p1 1 4) (p2 : Int32) : cMi l yX10_spareAt cX10_spareAt 7 .int { frames := 5, cells := 0, slots := 0, locals := 133 } [.ref h0, .int p1, .int p2] N [0, 2, 4, 8] cT0 (fun _ => True) := by
  refine Met.ofW (cc := cX10_spareAt) (maxL := 7) (ret := some .int) (by decide) rfl ?_
  intro p e s m args below meth c s₁ B hml hv
  obtain ⟨rfl, ⟨hK, hW, hT, hnn⟩, hB⟩ := hv
  have hx := B.exec
  have hb := B.bytes
  have hr := B.returns
  have hts : ∀ w ∈ lw_g, w.before _ s = true := fun w h => atoms_spec (ws := wc_ws yX10_spareAt cX10_spareAt 7 (some .int)) B.pre w (List.mem_cons_of_mem _ h)
  have hown : s.vm.findClass RX10 = some m.cls := findClass_of_methodNamed B.named
  have hlocks := B.notSynchronized
  have hS : va_S (cE N [0, 2, 4, 8]) s.heap s.heap [] := va_S.rf
  have hl := lv_entry ([.ref h0, .int p1, .int p2]) (n := 7) (Nat.le_of_ble_eq_true rfl)
  rw [lg_entry_eq]
  generalize (lg_sl ([.ref h0, .int p1, .int p2]) ++ List.replicate (7 - (lg_sl ([.ref h0, .int p1, .int p2])).length) Slot.unset).toArray = ls at hl ⊢
  have hl : lv_has ls 7 [(0, .ref h0), (1, .int p1), (2, .int p2)] := hl
  refine wq_all ?_
  intro WW w1 w2
  have L60 : ∀ (n : Nat) (H : Heap) (locs : List Loc) (ls : Array Slot) (v60_3 : Nat) (v60_4 : Int32) (v60_5 : Int32), cW N H → va_S (cE N [0, 2, 4, 8]) s.heap H locs → lv_has ls 7 [(0, .ref h0), (2, .int p2), (3, .ref v60_3), (4, .int v60_4), (5, .int v60_5)] → N.2.2.1 v60_3 = some 2 → ir v60_5 0 24 → 24 - v60_5.toInt < (n : Int) → WW H locs (F0 m 60 ls []) := by
    intro n
    induction n with
    | zero =>
      intro H locs ls v60_3 v60_4 v60_5 hW hS hl kv60_3 rv60_5 mu60
      exfalso
      omega
    | succ n ih60 =>
      intro H locs ls v60_3 v60_4 v60_5 hW hS hl kv60_3 rv60_5 mu60
      have J144 : ∀ (H : Heap) (locs : List Loc) (ls : Array Slot) (v144_4 : Int32), cW N H → va_S (cE N [0, 2, 4, 8]) s.heap H locs → lv_has ls 7 [(0, .ref h0), (2, .int p2), (3, .ref v60_3), (4, .int v144_4), (5, .int v60_5)] → ir v60_5 0 23 → WW H locs (F0 m 144 ls []) := by
        intro H locs ls v144_4 hW hS hl rv144_5
        refine w1 _ _ _ ?_
        obtain ⟨x144, e144⟩ : ∃ y : Int32, y = v60_5 + 1 := ⟨_, rfl⟩
        have r144 : ir x144 1 24 := ir_w (ir_add e144 rv144_5 (ir_c (1) (by decide) : ir (1 : Int32) (1) (1)) (by decide) (by decide)) (by decide) (by decide)
        have t144 : x144.toInt = v60_5.toInt + (1) := it_add e144 rv144_5 (ir_c (1) (by decide) : ir (1 : Int32) (1) (1)) (by decide) (by decide)
        refine lv_iinc (v := x144) (lv' := [(5, .int x144), (0, .ref h0), (2, .int p2), (3, .ref v60_3), (4, .int v144_4)]) hx hb dX10_spareAt_144 hl (k := 4) rfl (by rw [e144]; rfl) (by decide) rfl (fun ls hl => ?_)
        refine lv_goto (tgt := 60) hx hb dX10_spareAt_147 (by decide) ?_
        exact w2 _ _ _ (ih60 _ _ _ v60_3 v144_4 x144 hW hS (lv_sub hl [1, 2, 3, 4, 0] rfl) kv60_3 (ir_w (lo' := 0) (hi' := 24) r144 (by decide) (by decide)) (by have h9 := r144; omega))
      refine w1 _ _ _ ?_
      refine lv_iload hx hb dX10_spareAt_60 (lv_at hl 4 rfl) ?_
      refine lv_aload_n hx hb dX10_spareAt_62 rfl (lv_at hl 0 rfl) ?_
      refine wt_get hx hb hts cfX10 hown hK hW (cg10 k0) rfl 1 (by decide) q294 dX10_spareAt_63 (fun v hv => ?_)
      obtain ⟨x63, rfl, k63⟩ : gr N 3 v := hv
      refine wt_getp hx hb hts cfX3 hown hK hW (cg3 k63) rfl 1 (by decide) (Or.inr ⟨_, lw_n_use hnn q46⟩) dX10_spareAt_66 (fun v hv nx63_1 => ?_)
      obtain ⟨x66, rfl, r66⟩ : gi 0 24 v := hv
      refine lv_icmp_ge (tgt := 150) hx hb dX10_spareAt_69 (by decide) (fun c69 => ?_) (fun c69 => ?_)
      · refine lv_iload hx hb dX10_spareAt_150 (lv_at hl 3 rfl) ?_
        exact W.iret (v := v60_4) hx hb hr (fun t ht _ => ⟨⟨v60_4, (), rfl, trivial, cW_at ht hW⟩, hS.F ht⟩) hS.2.2 dX10_spareAt_152
      · have rv60_5_69 : ir v60_5 0 23 := ⟨(rv60_5).1, Int.le_trans (rf_lt (rf_nle c69) rv60_5 r66).1 (by decide)⟩
        have rx66_69 : ir x66 1 24 := ⟨Int.le_trans (by decide) (rf_lt (rf_nle c69) rv60_5 r66).2, (r66).2⟩
        refine lv_iload_n hx hb dX10_spareAt_72 rfl (lv_at hl 1 rfl) ?_
        refine lv_iload hx hb dX10_spareAt_73 (lv_at hl 4 rfl) ?_
        refine cp_i (wt_runS (As := [.int p2, .int v60_5]) (rest := []) ⟨hx, hb, hml, hown, hts⟩ (m_X10_isInSet l p2 v60_5) wm_X10_isInSet q808 ⟨rfl, rfl⟩ ⟨Nat.le_of_ble_eq_true rfl, Nat.le_of_ble_eq_true rfl⟩ pS_pre rfl hl.1 rfl (Nat.le_of_ble_eq_true rfl) dX10_spareAt_75 ⟨Nat.zero_le _, Nat.zero_le _⟩) hW hS (fun x75 H locs hp hW hS oq => ?_)
        have nx63_1 := nx63_1.kept (oq _ nx63_1.lt (cE_not k63 (by decide)))
        have r75 : ir x75 0 1 := hp
        refine lv_if_ne (tgt := 84) hx hb dX10_spareAt_78 (by decide) (fun c78 => ?_) (fun c78 => ?_)
        · have rx75_78 : ir x75 1 1 := rf_ne0 c78 r75
          refine lv_aload_n hx hb dX10_spareAt_84 rfl (lv_at hl 2 rfl) ?_
          refine lv_iload hx hb dX10_spareAt_85 (lv_at hl 4 rfl) ?_
          refine lv_null hx hb dX10_spareAt_87 ?_
          refine lv_iload hx hb dX10_spareAt_88 (lv_at hl 4 rfl) ?_
          refine lv_iconst (v := 1) hx hb dX10_spareAt_90 (by decide) ?_
          refine lv_iadd hx hb dX10_spareAt_91 ?_
          refine lv_topi (fun x91 e91 => ?_)
          have t91 : x91.toInt = v60_5.toInt + (1) := it_add e91 rv60_5_69 (ir_c (1) (by decide) : ir (1 : Int32) (1) (1)) (by decide) (by decide)
          have r91 : ir x91 1 24 := ir_w (ir_add e91 rv60_5_69 (ir_c (1) (by decide) : ir (1 : Int32) (1) (1)) (by decide) (by decide)) (by decide) (by decide)
          refine cc_r (wt_runV (As := [.int v60_5, .null, .int x91]) (rest := []) ⟨hx, hb, hml, hown, hts⟩ (m_X2_changed_n l N v60_3 kv60_3 v60_5 (ir_w (lo' := 0) (hi' := 24) rv60_5_69 (by decide) (by decide)) x91 (ir_w (lo' := 0) (hi' := 25) r91 (by decide) (by decide))) wm_X2_changed q727 ⟨rfl, rfl⟩ ⟨Nat.le_of_ble_eq_true rfl, Nat.le_of_ble_eq_true rfl⟩ (cS_preV hK hW hT hnn hS (cg2 kv60_3) rfl rfl trivial) rfl hl.1 rfl (Nat.le_of_ble_eq_true rfl) dX10_spareAt_92 ⟨Nat.zero_le _, Nat.zero_le _⟩) hS (by decide) (fun x92 H locs k92 hW hS oq => ?_)
          have nx63_1 := nx63_1.kept (oq _ nx63_1.lt (cE_not k63 (by decide)))
          refine lv_astore (lv' := [(6, .ref x92), (0, .ref h0), (2, .int p2), (3, .ref v60_3), (4, .int v60_4), (5, .int v60_5)]) hx hb dX10_spareAt_95 hl (by decide) rfl (fun ls hl => ?_)
          refine lv_aload hx hb dX10_spareAt_97 (lv_at hl 0 rfl) ?_
          refine wt_getp hx hb hts cfX4 hown hK hW (cg4 k92) rfl 4 (by decide) (Or.inr ⟨_, lw_n_use hnn q197⟩) dX10_spareAt_99 (fun v hv nx92_4 => ?_)
          obtain ⟨x99, rfl, r99⟩ : gi 0 1 v := hv
          refine lv_if_eq (tgt := 108) hx hb dX10_spareAt_102 (by decide) (fun c102 => ?_) (fun c102 => ?_)
          · have rx99_102 : ir x99 0 0 := rf_eq c102 (ir_c (0) (by decide) : ir (0 : Int32) (0) (0))
            refine lv_aload_n hx hb dX10_spareAt_108 rfl (lv_at hl 1 rfl) ?_
            refine wt_get hx hb hts cfX10 hown hK hW (cg10 k0) rfl 3 (by decide) q296 dX10_spareAt_109 (fun v hv => ?_)
            obtain ⟨x109, rfl, k109⟩ : gr N 5 v := hv
            refine lv_aload hx hb dX10_spareAt_112 (lv_at hl 0 rfl) ?_
            refine lv_aload_n hx hb dX10_spareAt_114 rfl (lv_at hl 1 rfl) ?_
            refine wt_get hx hb hts cfX10 hown hK hW (cg10 k0) rfl 9 (by decide) q302 dX10_spareAt_115 (fun v hv => ?_)
            obtain ⟨x115, rfl, k115⟩ : gr N 0 v := hv
            refine cc_v (wt_runV (As := [.ref x92, .ref x115]) (rest := []) ⟨hx, hb, hml, hown, hts⟩ (m_X5_measureBack l N x109 k109 x92 k92 x115 k115) wm_X5_measureBack q599 ⟨rfl, rfl⟩ ⟨Nat.le_of_ble_eq_true rfl, Nat.le_of_ble_eq_true rfl⟩ (cS_preV hK hW hT hnn hS (cg5 k109) rfl rfl trivial) rfl hl.1 rfl (Nat.le_of_ble_eq_true rfl) dX10_spareAt_118 ⟨Nat.zero_le _, Nat.zero_le _⟩) hS (by decide) (fun H locs hW hS oq hB2 => ?_)
            have nx63_1 := nx63_1.kept (oq _ nx63_1.lt (cE_not k63 (by decide)))
            have nx92_4 := nx92_4.kept (oq _ nx92_4.lt (cE_not k92 (by decide)))
            refine lv_aload_n hx hb dX10_spareAt_121 rfl (lv_at hl 1 rfl) ?_
            refine wt_get hx hb hts cfX10 hown hK hW (cg10 k0) rfl 9 (by decide) q302 dX10_spareAt_122 (fun v hv => ?_)
            obtain ⟨x122, rfl, k122⟩ : gr N 0 v := hv
            refine lv_aload_n hx hb dX10_spareAt_125 rfl (lv_at hl 1 rfl) ?_
            refine wt_get hx hb hts cfX10 hown hK hW (cg10 k0) rfl 10 (by decide) q303 dX10_spareAt_126 (fun v hv => ?_)
            obtain ⟨x126, rfl, k126⟩ : gr N 0 v := hv
            refine cc_i (wt_runV (As := [.ref x126]) (rest := []) ⟨hx, hb, hml, hown, hts⟩ (m_X0_compareWith l N x122 k122 x126 k126) wm_X0_compareWith q660 ⟨rfl, rfl⟩ ⟨Nat.le_of_ble_eq_true rfl, Nat.le_of_ble_eq_true rfl⟩ (cS_preV hK hW hT hnn hS (cg0 k122) rfl rfl trivial) rfl hl.1 rfl (Nat.le_of_ble_eq_true rfl) dX10_spareAt_129 ⟨Nat.zero_le _, Nat.zero_le _⟩) hS (by decide) (fun x129 H locs hp hW hS oq => ?_)
            have nx63_1 := nx63_1.kept (oq _ nx63_1.lt (cE_not k63 (by decide)))
            have nx92_4 := nx92_4.kept (oq _ nx92_4.lt (cE_not k92 (by decide)))
            refine lv_if_ne (tgt := 144) hx hb dX10_spareAt_132 (by decide) (fun c132 => ?_) (fun c132 => ?_)
            · exact w2 _ _ _ (J144 _ _ _ v60_4 hW hS (lv_sub hl [1, 2, 3, 4, 5] rfl) rv60_5_69)
            · have rx129_132 : ir x129 0 0 := rf_eq c132 (ir_c (0) (by decide) : ir (0 : Int32) (0) (0))
              refine lv_iload hx hb dX10_spareAt_135 (lv_at hl 4 rfl) ?_
              refine lv_iconst (v := 1) hx hb dX10_spareAt_137 (by decide) ?_
              refine lv_iload hx hb dX10_spareAt_138 (lv_at hl 5 rfl) ?_
              refine lv_ishl hx hb dX10_spareAt_140 ?_
              refine lv_topi (fun x140 e140 => ?_)
              refine lv_ior hx hb dX10_spareAt_141 ?_
              refine lv_topi (fun x141 e141 => ?_)
              refine lv_istore (lv' := [(4, .int x141), (6, .ref x92), (0, .ref h0), (2, .int p2), (3, .ref v60_3), (5, .int v60_5)]) hx hb dX10_spareAt_142 hl (by decide) rfl (fun ls hl => ?_)
              exact w2 _ _ _ (J144 _ _ _ x141 hW hS (lv_sub hl [2, 3, 4, 0, 5] rfl) rv60_5_69)
          · have rx99_102 : ir x99 1 1 := rf_ne0 c102 r99
            refine lv_goto (tgt := 144) hx hb dX10_spareAt_105 (by decide) ?_
            exact w2 _ _ _ (J144 _ _ _ v60_4 hW hS (lv_sub hl [1, 2, 3, 4, 5] rfl) rv60_5_69)
        · have rx75_78 : ir x75 0 0 := rf_eq c78 (ir_c (0) (by decide) : ir (0 : Int32) (0) (0))
          refine lv_goto (tgt := 144) hx hb dX10_spareAt_81 (by decide) ?_
          exact w2 _ _ _ (J144 _ _ _ v60_4 hW hS (lv_sub hl [0, 1, 2, 3, 4] rfl) rv60_5_69)
  refine lv_aload_n hx hb dX10_spareAt_0 rfl (lv_at hl 0 rfl) ?_
  refine wt_get hx hb hts cfX10 hown hK hW (cg10 k0) rfl 6 (by decide) q299 dX10_spareAt_1 (fun v hv => ?_)
  obtain ⟨x1, rfl, k1⟩ : gr N 31 v := hv
  refine lv_iconst (v := 0) hx hb dX10_spareAt_4 (by decide) ?_
  refine wt_aald hx hb hK hW 3 (cg31 k1) rfl (ir_in (ir_w (lo' := 0) (hi' := 3) (ir_c (0) (by decide) : ir (0 : Int32) (0) (0)) (by decide) (by decide)) (by decide) (by decide)) dX10_spareAt_5 (fun v hv => ?_)
  obtain ⟨x5, rfl, k5⟩ : gr N 2 v := hv
  refine lv_astore_n (lv' := [(3, .ref x5), (0, .ref h0), (1, .int p1), (2, .int p2)]) hx hb dX10_spareAt_6 rfl hl (by decide) rfl (fun ls hl => ?_)
  refine lv_aload_n hx hb dX10_spareAt_7 rfl (lv_at hl 0 rfl) ?_
  refine lv_aload_n hx hb dX10_spareAt_8 rfl (lv_at hl 1 rfl) ?_
  refine wt_get hx hb hts cfX10 hown hK hW (cg10 k0) rfl 1 (by decide) q294 dX10_spareAt_9 (fun v hv => ?_)
  obtain ⟨x9, rfl, k9⟩ : gr N 3 v := hv
  refine lv_aload_n hx hb dX10_spareAt_12 rfl (lv_at hl 1 rfl) ?_
  refine wt_get hx hb hts cfX10 hown hK hW (cg10 k0) rfl 3 (by decide) q296 dX10_spareAt_13 (fun v hv => ?_)
  obtain ⟨x13, rfl, k13⟩ : gr N 5 v := hv
  refine lv_iload_n hx hb dX10_spareAt_16 rfl (lv_at hl 2 rfl) ?_
  refine lv_aload_n hx hb dX10_spareAt_17 rfl (lv_at hl 1 rfl) ?_
  refine wt_get hx hb hts cfX10 hown hK hW (cg10 k0) rfl 1 (by decide) q294 dX10_spareAt_18 (fun v hv => ?_)
  obtain ⟨x18, rfl, k18⟩ : gr N 3 v := hv
  refine wt_getp hx hb hts cfX3 hown hK hW (cg3 k18) rfl 1 (by decide) (Or.inr ⟨_, lw_n_use hnn q46⟩) dX10_spareAt_21 (fun v hv nx18_1 => ?_)
  obtain ⟨x21, rfl, r21⟩ : gi 0 24 v := hv
  refine cc_v (wt_runV (As := [.ref x9, .ref x13, .int p1, .int x21]) (rest := []) ⟨hx, hb, hml, hown, hts⟩ (m_X2_climb l N x5 k5 x9 k9 x13 k13 p1 rp1 x21) wm_X2_climb q547 ⟨rfl, rfl⟩ ⟨Nat.le_of_ble_eq_true rfl, Nat.le_of_ble_eq_true rfl⟩ (cS_preV hK hW hT hnn hS (cg2 k5) rfl rfl trivial) rfl hl.1 rfl (Nat.le_of_ble_eq_true rfl) dX10_spareAt_24 ⟨Nat.zero_le _, Nat.zero_le _⟩) hS (by decide) (fun H locs hW hS oq hB2 => ?_)
  have nx18_1 := nx18_1.kept (oq _ nx18_1.lt (cE_not k18 (by decide)))
  refine lv_aload_n hx hb dX10_spareAt_27 rfl (lv_at hl 0 rfl) ?_
  refine cc_r (wt_runV (As := []) (rest := []) ⟨hx, hb, hml, hown, hts⟩ (m_X2_whole l N x5 k5) wm_X2_whole q585 ⟨rfl, rfl⟩ ⟨Nat.le_of_ble_eq_true rfl, Nat.le_of_ble_eq_true rfl⟩ (cS_preV hK hW hT hnn hS (cg2 k5) rfl rfl trivial) rfl hl.1 rfl (Nat.le_of_ble_eq_true rfl) dX10_spareAt_28 ⟨Nat.zero_le _, Nat.zero_le _⟩) hS (by decide) (fun x28 H locs k28 hW hS oq => ?_)
  have nx18_1 := nx18_1.kept (oq _ nx18_1.lt (cE_not k18 (by decide)))
  refine wt_getp hx hb hts cfX4 hown hK hW (cg4 k28) rfl 4 (by decide) (Or.inr ⟨_, lw_n_use hnn q197⟩) dX10_spareAt_31 (fun v hv nx28_4 => ?_)
  obtain ⟨x31, rfl, r31⟩ : gi 0 1 v := hv
  refine lv_if_eq (tgt := 39) hx hb dX10_spareAt_34 (by decide) (fun c34 => ?_) (fun c34 => ?_)
  · have rx31_34 : ir x31 0 0 := rf_eq c34 (ir_c (0) (by decide) : ir (0 : Int32) (0) (0))
    refine lv_aload_n hx hb dX10_spareAt_39 rfl (lv_at hl 1 rfl) ?_
    refine wt_get hx hb hts cfX10 hown hK hW (cg10 k0) rfl 3 (by decide) q296 dX10_spareAt_40 (fun v hv => ?_)
    obtain ⟨x40, rfl, k40⟩ : gr N 5 v := hv
    refine lv_aload_n hx hb dX10_spareAt_43 rfl (lv_at hl 0 rfl) ?_
    refine cc_r (wt_runV (As := []) (rest := [.ref x40]) ⟨hx, hb, hml, hown, hts⟩ (m_X2_whole l N x5 k5) wm_X2_whole q585 ⟨rfl, rfl⟩ ⟨Nat.le_of_ble_eq_true rfl, Nat.le_of_ble_eq_true rfl⟩ (cS_preV hK hW hT hnn hS (cg2 k5) rfl rfl trivial) rfl hl.1 rfl (Nat.le_of_ble_eq_true rfl) dX10_spareAt_44 ⟨Nat.zero_le _, Nat.zero_le _⟩) hS (by decide) (fun x44 H locs k44 hW hS oq => ?_)
    have nx18_1 := nx18_1.kept (oq _ nx18_1.lt (cE_not k18 (by decide)))
    have nx28_4 := nx28_4.kept (oq _ nx28_4.lt (cE_not k28 (by decide)))
    refine lv_aload_n hx hb dX10_spareAt_47 rfl (lv_at hl 1 rfl) ?_
    refine wt_get hx hb hts cfX10 hown hK hW (cg10 k0) rfl 10 (by decide) q303 dX10_spareAt_48 (fun v hv => ?_)
    obtain ⟨x48, rfl, k48⟩ : gr N 0 v := hv
    refine cc_v (wt_runV (As := [.ref x44, .ref x48]) (rest := []) ⟨hx, hb, hml, hown, hts⟩ (m_X5_measureBack l N x40 k40 x44 k44 x48 k48) wm_X5_measureBack q599 ⟨rfl, rfl⟩ ⟨Nat.le_of_ble_eq_true rfl, Nat.le_of_ble_eq_true rfl⟩ (cS_preV hK hW hT hnn hS (cg5 k40) rfl rfl trivial) rfl hl.1 rfl (Nat.le_of_ble_eq_true rfl) dX10_spareAt_51 ⟨Nat.zero_le _, Nat.zero_le _⟩) hS (by decide) (fun H locs hW hS oq hB2 => ?_)
    have nx18_1 := nx18_1.kept (oq _ nx18_1.lt (cE_not k18 (by decide)))
    have nx28_4 := nx28_4.kept (oq _ nx28_4.lt (cE_not k28 (by decide)))
    refine lv_iconst (v := 0) hx hb dX10_spareAt_54 (by decide) ?_
    refine lv_istore (lv' := [(4, .int (0 : Int32)), (3, .ref x5), (0, .ref h0), (1, .int p1), (2, .int p2)]) hx hb dX10_spareAt_55 hl (by decide) rfl (fun ls hl => ?_)
    refine lv_iconst (v := 0) hx hb dX10_spareAt_57 (by decide) ?_
    refine lv_istore (lv' := [(5, .int (0 : Int32)), (4, .int (0 : Int32)), (3, .ref x5), (0, .ref h0), (1, .int p1), (2, .int p2)]) hx hb dX10_spareAt_58 hl (by decide) rfl (fun ls hl => ?_)
    exact w2 _ _ _ (L60 25 _ _ _ x5 (0 : Int32) (0 : Int32) hW hS (lv_sub hl [3, 5, 2, 1, 0] rfl) k5 (ir_w (lo' := 0) (hi' := 24) (ir_c (0) (by decide) : ir (0 : Int32) (0) (0)) (by decide) (by decide)) (by have h9 := (ir_c (0) (by decide) : ir (0 : Int32) (0) (0)); omega))
  · have rx31_34 : ir x31 1 1 := rf_ne0 c34 r31
    refine lv_iconst (v := 0) hx hb dX10_spareAt_37 (by decide) ?_
    exact W.iret (v := (0 : Int32)) hx hb hr (fun t ht _ => ⟨⟨(0 : Int32), (), rfl, trivial, cW_at ht hW⟩, hS.F ht⟩) hS.2.2 dX10_spareAt_38
set_option maxHeartbeats 4000000 in
set_option maxRecDepth 100000 in
theorem m_X10_showByte (l : Launch) (N : c_N) (h0 : Nat) (k0 : N.2.2.1 h0 = some 10) (p1 : Int32) : cMv l yX10_showByte cX10_showByte 2 { frames := 0, cells := 0, slots := 0, locals := 0 } [.ref h0, .int p1] N [10, 26] cT0 cT0 := by
  refine Met.ofW (cc := cX10_showByte) (maxL := 2) (ret := none) (by decide) rfl ?_
  intro p e s m args below meth c s₁ B hml hv
  obtain ⟨rfl, ⟨hK, hW, hT, hnn⟩, hB⟩ := hv
  have hx := B.exec
  have hb := B.bytes
  have hr := B.returns
  have hts : ∀ w ∈ lw_g, w.before _ s = true := fun w h => atoms_spec (ws := wc_ws yX10_showByte cX10_showByte 2 none) B.pre w (List.mem_cons_of_mem _ h)
  have hown : s.vm.findClass RX10 = some m.cls := findClass_of_methodNamed B.named
  have hlocks := B.notSynchronized
  have hS : va_S (cE N [10, 26]) s.heap s.heap [] := va_S.rf
  have hl := lv_entry ([.ref h0, .int p1]) (n := 2) (Nat.le_of_ble_eq_true rfl)
  rw [lg_entry_eq]
  generalize (lg_sl ([.ref h0, .int p1]) ++ List.replicate (2 - (lg_sl ([.ref h0, .int p1])).length) Slot.unset).toArray = ls at hl ⊢
  have hl : lv_has ls 2 [(0, .ref h0), (1, .int p1)] := hl
  refine wq_all ?_
  intro WW w1 w2
  refine lv_aload_n hx hb dX10_showByte_0 rfl (lv_at hl 0 rfl) ?_
  refine wt_getp hx hb hts cfX10 hown hK hW (cg10 k0) rfl 13 (by decide) (Or.inl (hts _ q306)) dX10_showByte_1 (fun v hv nh0_13 => ?_)
  obtain ⟨x1, rfl, r1⟩ : gi 0 96 v := hv
  refine lv_aload_n hx hb dX10_showByte_4 rfl (lv_at hl 0 rfl) ?_
  refine wt_get hx hb hts cfX10 hown hK hW (cg10 k0) rfl 12 (by decide) q305 dX10_showByte_5 (fun v hv => ?_)
  obtain ⟨x5, rfl, k5⟩ : gr N 26 v := hv
  refine wt_alen (v := 96) hx hb hK hW 0 (cg26 k5) rfl (by decide) dX10_showByte_8 ?_
  refine lv_icmp_ge (tgt := 32) hx hb dX10_showByte_9 (by decide) (fun c9 => ?_) (fun c9 => ?_)
  · have rx1_9 : ir x1 96 96 := ⟨Int.le_trans (by decide) (rf_le c9 (ir_c (96) (by decide) : ir (96 : Int32) (96) (96)) r1).2, (r1).2⟩
    exact W.vret hx hb hr (fun t ht _ => ⟨⟨(), rfl, trivial, cW_at ht hW, trivial⟩, hS.F ht⟩) hS.2.2 dX10_showByte_32
  · have rx1_9 : ir x1 0 95 := ⟨(r1).1, Int.le_trans (rf_lt (rf_nle c9) r1 (ir_c (96) (by decide) : ir (96 : Int32) (96) (96))).1 (by decide)⟩
    refine lv_aload_n hx hb dX10_showByte_12 rfl (lv_at hl 0 rfl) ?_
    refine wt_get hx hb hts cfX10 hown hK hW (cg10 k0) rfl 12 (by decide) q305 dX10_showByte_13 (fun v hv => ?_)
    obtain ⟨x13, rfl, k13⟩ : gr N 26 v := hv
    refine lv_aload_n hx hb dX10_showByte_16 rfl (lv_at hl 0 rfl) ?_
    refine wt_rel hx hb hts cfX10 hown hK nh0_13 rfl (by decide) (Or.inl (hts _ q306)) dX10_showByte_17 ?_
    refine lv_iload_n hx hb dX10_showByte_20 rfl (lv_at hl 1 rfl) ?_
    refine wt_iastp hx hb hK hW hS 0 (cg26 k13) (ce k13 (by decide)) rfl (ir_in rx1_9 (by decide) (by decide)) ga_mk dX10_showByte_21 (fun H locs hW hS oq => ?_)
    have nh0_13 := nh0_13.kept (oq _ (ne_kind k0 k13 (by decide)))
    refine lv_aload_n hx hb dX10_showByte_22 rfl (lv_at hl 0 rfl) ?_
    refine lv_dup hx hb dX10_showByte_23 rfl ?_
    refine wt_rel hx hb hts cfX10 hown hK nh0_13 rfl (by decide) (Or.inl (hts _ q306)) dX10_showByte_24 ?_
    refine lv_iconst (v := 1) hx hb dX10_showByte_27 (by decide) ?_
    refine lv_iadd hx hb dX10_showByte_28 ?_
    refine lv_topi (fun x28 e28 => ?_)
    have t28 : x28.toInt = x1.toInt + (1) := it_add e28 rx1_9 (ir_c (1) (by decide) : ir (1 : Int32) (1) (1)) (by decide) (by decide)
    have r28 : ir x28 1 96 := ir_w (ir_add e28 rx1_9 (ir_c (1) (by decide) : ir (1 : Int32) (1) (1)) (by decide) (by decide)) (by decide) (by decide)
    refine wt_putp hx hb hts cfX10 tyX10 tyX10_ok nmX10 hown hK hW hS (cg10 k0) (ce k0 (by decide)) rfl 13 (by decide) (Or.inl (hts _ q306)) rfl rfl rfl (gi_mk (ir_w (lo' := 0) (hi' := 96) r28 (by decide) (by decide))) dX10_showByte_29 (fun H locs hW hS oq o2 np => ?_)
    have nh0_13 : wt_pin N.1 vwCl h0 10 13 (.int x28) H := np
    exact W.vret hx hb hr (fun t ht _ => ⟨⟨(), rfl, trivial, cW_at ht hW, trivial⟩, hS.F ht⟩) hS.2.2 dX10_showByte_32
