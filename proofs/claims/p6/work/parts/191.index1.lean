set_option maxHeartbeats 4000000 in
set_option maxRecDepth 100000 in
theorem m_X10_commonDivisor_g (l : Launch) (p1 : Int64) (rp1 : lr p1 0 9) (p2 : Int64) (rp2 : lr p2 0 9) : pMl l yX10_commonDivisor cX10_commonDivisor 11 .long { frames := 0, cells := 0, slots := 0, locals := 0 } [.long p1, .long p2] (fun r => r.toInt = ((Int.gcd p1.toInt p2.toInt : Nat) : Int)) := by
  refine Met.ofW (cc := cX10_commonDivisor) (maxL := 11) (ret := some .long) (by decide) rfl ?_
  intro p e s m args below meth c s₁ B hml hv
  obtain ⟨rfl, -⟩ := hv
  have hx := B.exec
  have hb := B.bytes
  have hr := B.returns
  have hts : ∀ w ∈ lw_g, w.before _ s = true := fun w h => atoms_spec (ws := wc_ws yX10_commonDivisor cX10_commonDivisor 11 (some .long)) B.pre w (List.mem_cons_of_mem _ h)
  have hown : s.vm.findClass RX10 = some m.cls := findClass_of_methodNamed B.named
  have hlocks := B.notSynchronized
  have hS : va_S (fun _ => False) s.heap s.heap [] := va_S.rf
  have hl := lv_entry ([.long p1, .long p2]) (n := 11) (Nat.le_of_ble_eq_true rfl)
  rw [lg_entry_eq]
  generalize (lg_sl ([.long p1, .long p2]) ++ List.replicate (11 - (lg_sl ([.long p1, .long p2])).length) Slot.unset).toArray = ls at hl ⊢
  have hl : lv_has ls 11 [(0, .long p1), (2, .long p2)] := hl
  refine wq_all ?_
  intro WW w1 w2
  have L31 : ∀ (n : Nat) (H : Heap) (locs : List Loc) (ls : Array Slot) (v31_4 : Int64) (v31_6 : Int64) (v31_8 : Int32), va_S (fun _ => False) s.heap H locs → lv_has ls 11 [(4, .long v31_4), (6, .long v31_6), (8, .int v31_8)] → lr v31_4 0 9 → lr v31_6 0 9 → ir v31_8 0 200 → v31_6.toInt + v31_8.toInt ≤ 9 → Int.gcd v31_4.toInt v31_6.toInt = Int.gcd p1.toInt p2.toInt → 200 - v31_8.toInt < (n : Int) → WW H locs (F0 m 31 ls []) := by
    intro n
    induction n with
    | zero =>
      intro H locs ls v31_4 v31_6 v31_8 hS hl rv31_4 rv31_6 rv31_8 rw31_0 rw31_1 mu31
      exfalso
      omega
    | succ n ih31 =>
      intro H locs ls v31_4 v31_6 v31_8 hS hl rv31_4 rv31_6 rv31_8 rw31_0 rw31_1 mu31
      refine w1 _ _ _ ?_
      refine lv_iload hx hb dX10_commonDivisor_31 (lv_at hl 2 rfl) ?_
      refine lv_sipush (v := 200) hx hb dX10_commonDivisor_33 (by decide) ?_
      refine lv_icmp_ge (tgt := 67) hx hb dX10_commonDivisor_36 (by decide) (fun c36 => ?_) (fun c36 => ?_)
      · have rv31_8_36 : ir v31_8 200 200 := ⟨Int.le_trans (by decide) (rf_le c36 (ir_c (200) (by decide) : ir (200 : Int32) (200) (200)) rv31_8).2, (rv31_8).2⟩
        refine lv_lload hx hb dX10_commonDivisor_67 (lv_at hl 0 rfl) ?_
        exact W.lret (v := v31_4) hx hb hr (fun t ht _ => ⟨⟨v31_4, (), rfl, (by have h6 := rv31_4; have h7 := rv31_6; have h8 := rv31_8_36; first | exact gcd_end rw31_1 (by omega) (by omega) | (exfalso; omega)), trivial⟩, hS.F ht⟩) hS.2.2 dX10_commonDivisor_69
      · have rv31_8_36 : ir v31_8 0 199 := ⟨(rv31_8).1, Int.le_trans (rf_lt (rf_nle c36) rv31_8 (ir_c (200) (by decide) : ir (200 : Int32) (200) (200))).1 (by decide)⟩
        refine lv_lload hx hb dX10_commonDivisor_39 (lv_at hl 1 rfl) ?_
        refine lv_lconst (v := 0) hx hb dX10_commonDivisor_41 (by decide) ?_
        refine wl_eq (tgt := 67) hx hb dX10_commonDivisor_42 dX10_commonDivisor_43 (by decide) (fun c42 => ?_) (fun c42 => ?_)
        · have c42 : v31_6.toInt = (0 : Int) := c42
          have rv31_6_42 : lr v31_6 0 0 := by have h8 := rv31_6; have h9 := (lr_c (0) (by decide) : lr (0 : Int64) (0) (0)); constructor <;> omega
          refine lv_lload hx hb dX10_commonDivisor_67 (lv_at hl 0 rfl) ?_
          exact W.lret (v := v31_4) hx hb hr (fun t ht _ => ⟨⟨v31_4, (), rfl, (by have h6 := rv31_4; have h7 := rv31_6_42; have h8 := rv31_8_36; first | exact gcd_end rw31_1 (by omega) (by omega) | (exfalso; omega)), trivial⟩, hS.F ht⟩) hS.2.2 dX10_commonDivisor_69
        · have c42 : v31_6.toInt ≠ (0 : Int) := c42
          refine lv_lload hx hb dX10_commonDivisor_46 (lv_at hl 0 rfl) ?_
          refine lv_lload hx hb dX10_commonDivisor_48 (lv_at hl 1 rfl) ?_
          refine lv_lrem hx hb dX10_commonDivisor_50 (l_ne0 c42) ?_
          refine lv_topl (fun x50 e50 => ?_)
          have r50 : lr x50 0 8 := lr_rem e50 (l_ne0 c42) rv31_4 rv31_6 (by decide) (by decide) (by decide)
          refine lv_lstore (lv' := [(9, .long x50), (4, .long v31_4), (6, .long v31_6), (8, .int v31_8)]) hx hb dX10_commonDivisor_51 hl (by decide) rfl (fun ls hl => ?_)
          refine lv_lload hx hb dX10_commonDivisor_53 (lv_at hl 2 rfl) ?_
          refine lv_lstore (lv' := [(4, .long v31_6), (9, .long x50), (6, .long v31_6), (8, .int v31_8)]) hx hb dX10_commonDivisor_55 hl (by decide) rfl (fun ls hl => ?_)
          refine lv_lload hx hb dX10_commonDivisor_57 (lv_at hl 1 rfl) ?_
          refine lv_lstore (lv' := [(6, .long x50), (4, .long v31_6), (9, .long x50), (8, .int v31_8)]) hx hb dX10_commonDivisor_59 hl (by decide) rfl (fun ls hl => ?_)
          obtain ⟨x61, e61⟩ : ∃ y : Int32, y = v31_8 + 1 := ⟨_, rfl⟩
          have r61 : ir x61 1 200 := ir_w (ir_add e61 rv31_8_36 (ir_c (1) (by decide) : ir (1 : Int32) (1) (1)) (by decide) (by decide)) (by decide) (by decide)
          have t61 : x61.toInt = v31_8.toInt + (1) := it_add e61 rv31_8_36 (ir_c (1) (by decide) : ir (1 : Int32) (1) (1)) (by decide) (by decide)
          refine lv_iinc (v := x61) (lv' := [(8, .int x61), (6, .long x50), (4, .long v31_6), (9, .long x50)]) hx hb dX10_commonDivisor_61 hl (k := 3) rfl (by rw [e61]; rfl) (by decide) rfl (fun ls hl => ?_)
          refine lv_goto (tgt := 31) hx hb dX10_commonDivisor_64 (by decide) ?_
          exact w2 _ _ _ (ih31 _ _ _ v31_6 x50 x61 hS (lv_sub hl [2, 1, 0] rfl) rv31_6 (lr_w (lo' := 0) (hi' := 9) r50 (by decide) (by decide)) (ir_w (lo' := 0) (hi' := 200) r61 (by decide) (by decide)) (by have h6 := r50; have h7 := r61; have h5 := l_rem_lt e50 (l_ne0 c42) rv31_4 rv31_6 (by decide) (by decide); omega) ((gcd_step rv31_4 rv31_6 (l_rem e50 (l_ne0 c42))).trans rw31_1) (by have h9 := r61; omega))
  have J26 : ∀ (H : Heap) (locs : List Loc) (ls : Array Slot) , va_S (fun _ => False) s.heap H locs → lv_has ls 11 [(4, .long p1)] → lr p1 0 9 → lr p2 0 9 → WW H locs (F0 m 26 ls [.long p2]) := by
    intro H locs ls  hS hl rv26_4 rw26_0
    refine w1 _ _ _ ?_
    refine lv_lstore (lv' := [(6, .long p2), (4, .long p1)]) hx hb dX10_commonDivisor_26 hl (by decide) rfl (fun ls hl => ?_)
    refine lv_iconst (v := 0) hx hb dX10_commonDivisor_28 (by decide) ?_
    refine lv_istore (lv' := [(8, .int (0 : Int32)), (6, .long p2), (4, .long p1)]) hx hb dX10_commonDivisor_29 hl (by decide) rfl (fun ls hl => ?_)
    exact w2 _ _ _ (L31 201 _ _ _ p1 p2 (0 : Int32) hS (lv_sub hl [2, 1, 0] rfl) rv26_4 rw26_0 (ir_w (lo' := 0) (hi' := 200) (ir_c (0) (by decide) : ir (0 : Int32) (0) (0)) (by decide) (by decide)) (by have h6 := rw26_0; have h7 := (ir_c (0) (by decide) : ir (0 : Int32) (0) (0)); omega) rfl (by have h9 := (ir_c (0) (by decide) : ir (0 : Int32) (0) (0)); omega))
  have J12 : ∀ (H : Heap) (locs : List Loc) (ls : Array Slot) , va_S (fun _ => False) s.heap H locs → lv_has ls 11 [(2, .long p2)] → lr p2 0 9 → lr p1 0 9 → WW H locs (F0 m 12 ls [.long p1]) := by
    intro H locs ls  hS hl rv12_2 rw12_0
    refine w1 _ _ _ ?_
    refine lv_lstore (lv' := [(4, .long p1), (2, .long p2)]) hx hb dX10_commonDivisor_12 hl (by decide) rfl (fun ls hl => ?_)
    refine lv_lload_n hx hb dX10_commonDivisor_14 rfl (lv_at hl 1 rfl) ?_
    refine lv_lconst (v := 0) hx hb dX10_commonDivisor_15 (by decide) ?_
    refine wl_ge (tgt := 25) hx hb dX10_commonDivisor_16 dX10_commonDivisor_17 (by decide) (fun c16 => ?_) (fun c16 => ?_)
    · have c16 : (0 : Int) ≤ p2.toInt := c16
      refine lv_lload_n hx hb dX10_commonDivisor_25 rfl (lv_at hl 1 rfl) ?_
      exact w2 _ _ _ (J26 _ _ _  hS (lv_sub hl [0] rfl) rw12_0 rv12_2)
    · have c16 : p2.toInt < (0 : Int) := c16
      exact absurd c16 (by have h8 := rv12_2; have h9 := (lr_c (0) (by decide) : lr (0 : Int64) (0) (0)); omega)
  refine lv_lload_n hx hb dX10_commonDivisor_0 rfl (lv_at hl 0 rfl) ?_
  refine lv_lconst (v := 0) hx hb dX10_commonDivisor_1 (by decide) ?_
  refine wl_ge (tgt := 11) hx hb dX10_commonDivisor_2 dX10_commonDivisor_3 (by decide) (fun c2 => ?_) (fun c2 => ?_)
  · have c2 : (0 : Int) ≤ p1.toInt := c2
    refine lv_lload_n hx hb dX10_commonDivisor_11 rfl (lv_at hl 0 rfl) ?_
    exact w2 _ _ _ (J12 _ _ _  hS (lv_sub hl [1] rfl) rp2 rp1)
  · have c2 : p1.toInt < (0 : Int) := c2
    exact absurd c2 (by have h8 := rp1; have h9 := (lr_c (0) (by decide) : lr (0 : Int64) (0) (0)); omega)
set_option maxHeartbeats 4000000 in
set_option maxRecDepth 100000 in
theorem m_X5_changeIndex (l : Launch) (N : c_N) (h0 : Nat) (k0 : N.2.2.1 h0 = some 5) (p1 : Int32) (rp1 : ir p1 0 5) (p2 : Int32) (rp2 : ir p2 1 9) (p3 : Int32) (rp3 : ir p3 1 9) (aU aV : Nat) (kU : N.2.2.1 aU = some 27) (kV : N.2.2.1 aV = some 28) (uq : ∀ a b t : Nat, 27 ≤ t → t ≤ 28 → N.2.2.1 a = some t → N.2.2.1 b = some t → a = b) (hX : ∀ j : Nat, j < 6 → ir (N.2.2.2 aU j) 1 9 ∧ ir (N.2.2.2 aV j) 1 9) : Met l yX5_changeIndex (wc_ws yX5_changeIndex cX5_changeIndex 7 (some .boolean)) { frames := 1, cells := 0, slots := 0, locals := 30 } (va_Pc [.ref h0, .int p1, .int p2, .int p3] (cSp N cT0)) (va_Qi (fun r (X : Nat → Nat → Int32) => ixp N aU aV p1 p2 p3 r X) (fun X t => cW (nX N X) t.heap) (cE N [27, 28])) 0 0 (cE N [27, 28]) := by
  refine Met.ofW (cc := cX5_changeIndex) (maxL := 7) (ret := some .boolean) (by decide) rfl ?_
  intro p e s m args below meth c s₁ B hml hv
  obtain ⟨rfl, ⟨hK, hW, hT, hnn⟩, hB⟩ := hv
  have hx := B.exec
  have hb := B.bytes
  have hr := B.returns
  have hts : ∀ w ∈ lw_g, w.before _ s = true := fun w h => atoms_spec (ws := wc_ws yX5_changeIndex cX5_changeIndex 7 (some .boolean)) B.pre w (List.mem_cons_of_mem _ h)
  have hown : s.vm.findClass RX5 = some m.cls := findClass_of_methodNamed B.named
  have hlocks := B.notSynchronized
  have hS : va_S (cE N [27, 28]) s.heap s.heap [] := va_S.rf
  have hl := lv_entry ([.ref h0, .int p1, .int p2, .int p3]) (n := 7) (Nat.le_of_ble_eq_true rfl)
  rw [lg_entry_eq]
  generalize (lg_sl ([.ref h0, .int p1, .int p2, .int p3]) ++ List.replicate (7 - (lg_sl ([.ref h0, .int p1, .int p2, .int p3])).length) Slot.unset).toArray = ls at hl ⊢
  have hl : lv_has ls 7 [(0, .ref h0), (1, .int p1), (2, .int p2), (3, .int p3)] := hl
  refine wq_all ?_
  intro WW w1 w2
  refine lv_iload_n hx hb dX5_changeIndex_0 rfl (lv_at hl 2 rfl) ?_
  refine lv_aload_n hx hb dX5_changeIndex_1 rfl (lv_at hl 0 rfl) ?_
  refine wt_get hx hb hts cfX5 hown hK hW (cg5 k0) rfl 1 (by decide) q140 dX5_changeIndex_2 (fun v hv => ?_)
  obtain ⟨x2, rfl, k2⟩ : gr N 28 v := hv
  refine lv_iload_n hx hb dX5_changeIndex_5 rfl (lv_at hl 1 rfl) ?_
  refine wt_iald hx hb hK hW 0 (cg28 k2) rfl (ir_in rp1 (by decide) (by decide)) dX5_changeIndex_6 (fun v hv => ?_)
  have hv : v = .int _ := hv
  subst hv
  refine lv_topi (fun x6 e6 => ?_)
  refine lv_imul hx hb dX5_changeIndex_7 ?_
  refine lv_topi (fun x7 e7 => ?_)
  refine lv_iload_n hx hb dX5_changeIndex_8 rfl (lv_at hl 3 rfl) ?_
  refine lv_aload_n hx hb dX5_changeIndex_9 rfl (lv_at hl 0 rfl) ?_
  refine wt_get hx hb hts cfX5 hown hK hW (cg5 k0) rfl 0 (by decide) q137 dX5_changeIndex_10 (fun v hv => ?_)
  obtain ⟨x10, rfl, k10⟩ : gr N 27 v := hv
  refine lv_iload_n hx hb dX5_changeIndex_13 rfl (lv_at hl 1 rfl) ?_
  refine wt_iald hx hb hK hW 0 (cg27 k10) rfl (ir_in rp1 (by decide) (by decide)) dX5_changeIndex_14 (fun v hv => ?_)
  have hv : v = .int _ := hv
  subst hv
  refine lv_topi (fun x14 e14 => ?_)
  refine lv_imul hx hb dX5_changeIndex_15 ?_
  refine lv_topi (fun x15 e15 => ?_)
  refine lv_icmp_ne (tgt := 21) hx hb dX5_changeIndex_16 (by decide) (fun c16 => ?_) (fun c16 => ?_)
  · refine lv_iload_n hx hb dX5_changeIndex_21 rfl (lv_at hl 2 rfl) ?_
    refine lv_i2l hx hb dX5_changeIndex_22 rfl ?_
    refine lv_topl (fun x22 e22 => ?_)
    have r22 : lr x22 1 9 := by rw [e22]; exact i2l_r rp2
    refine lv_iload_n hx hb dX5_changeIndex_23 rfl (lv_at hl 3 rfl) ?_
    refine lv_i2l hx hb dX5_changeIndex_24 rfl ?_
    refine lv_topl (fun x24 e24 => ?_)
    have r24 : lr x24 1 9 := by rw [e24]; exact i2l_r rp3
    refine cp_l (wt_runSN (As := [.long x22, .long x24]) (rest := []) ⟨hx, hb, hml, hown, hts⟩ hnn (m_X10_commonDivisor_g l x22 (lr_w (lo' := 0) (hi' := 9) r22 (by decide) (by decide)) x24 (lr_w (lo' := 0) (hi' := 9) r24 (by decide) (by decide))) wm_X10_commonDivisor q444 ⟨rfl, rfl⟩ ⟨Nat.le_of_ble_eq_true rfl, Nat.le_of_ble_eq_true rfl⟩ pS_pre rfl hl.1 rfl (Nat.le_of_ble_eq_true rfl) dX5_changeIndex_25 ⟨Nat.zero_le _, Nat.zero_le _⟩) hW hS (fun x25 H locs hp hW hS oq => ?_)
    have y25 : x25.toInt = ((Int.gcd x22.toInt x24.toInt : Nat) : Int) := hp
    have z25 := gI_by e22 e24 y25 rp2 rp3
    refine lv_lstore (lv' := [(4, .long x25), (0, .ref h0), (1, .int p1), (2, .int p2), (3, .int p3)]) hx hb dX5_changeIndex_28 hl (by decide) rfl (fun ls hl => ?_)
    refine lv_lload hx hb dX5_changeIndex_30 (lv_at hl 0 rfl) ?_
    refine lv_lconst (v := 1) hx hb dX5_changeIndex_32 (by decide) ?_
    refine wl_le (tgt := 43) hx hb dX5_changeIndex_33 dX5_changeIndex_34 (by decide) (fun c33 => ?_) (fun c33 => ?_)
    · have c33 : x25.toInt ≤ (1 : Int) := c33
      have rx25_33 : lr x25 1 1 := by have h8 := z25.2; have h9 := (lr_c (1) (by decide) : lr (1 : Int64) (1) (1)); constructor <;> omega
      refine lv_iconst (v := 1) hx hb dX5_changeIndex_43 (by decide) ?_
      refine lv_istore (lv' := [(6, .int (1 : Int32)), (4, .long x25), (0, .ref h0), (1, .int p1), (2, .int p2), (3, .int p3)]) hx hb dX5_changeIndex_44 hl (by decide) rfl (fun ls hl => ?_)
      refine lv_aload_n hx hb dX5_changeIndex_46 rfl (lv_at hl 2 rfl) ?_
      refine wt_get hx hb hts cfX5 hown hK hW (cg5 k0) rfl 0 (by decide) q137 dX5_changeIndex_47 (fun v hv => ?_)
      obtain ⟨x47, rfl, k47⟩ : gr N 27 v := hv
      refine lv_iload_n hx hb dX5_changeIndex_50 rfl (lv_at hl 3 rfl) ?_
      refine lv_iload_n hx hb dX5_changeIndex_51 rfl (lv_at hl 4 rfl) ?_
      refine lv_iload hx hb dX5_changeIndex_52 (lv_at hl 0 rfl) ?_
      refine lv_idiv hx hb dX5_changeIndex_54 (by decide) ?_
      refine lv_topi (fun x54 e54 => ?_)
      have r54 : ir x54 1 9 := by have t := ir_divc e54 rp2 (by decide) 1 (by decide) (by decide) (by decide); have h9 := rp2; constructor <;> omega
      refine wt_iastU hx hb hK hW hS 0 (cg27 k47) (ce k47 (by decide)) rfl (ir_in rp1 (by decide) (by decide)) dX5_changeIndex_55 (fun H locs hW hS => ?_)
      have hW := cW_ix hW (Or.inl k47)
      refine lv_aload_n hx hb dX5_changeIndex_56 rfl (lv_at hl 2 rfl) ?_
      refine wt_get hx hb hts cfX5 hown hK hW (cg5 k0) rfl 1 (by decide) q140 dX5_changeIndex_57 (fun v hv => ?_)
      obtain ⟨x57, rfl, k57⟩ : gr N 28 v := hv
      refine lv_iload_n hx hb dX5_changeIndex_60 rfl (lv_at hl 3 rfl) ?_
      refine lv_iload_n hx hb dX5_changeIndex_61 rfl (lv_at hl 5 rfl) ?_
      refine lv_iload hx hb dX5_changeIndex_62 (lv_at hl 0 rfl) ?_
      refine lv_idiv hx hb dX5_changeIndex_64 (by decide) ?_
      refine lv_topi (fun x64 e64 => ?_)
      have r64 : ir x64 1 9 := by have t := ir_divc e64 rp3 (by decide) 1 (by decide) (by decide) (by decide); have h9 := rp3; constructor <;> omega
      refine wt_iastU hx hb hK hW hS 0 (cg28 k57) (ce k57 (by decide)) rfl (ir_in rp1 (by decide) (by decide)) dX5_changeIndex_65 (fun H locs hW hS => ?_)
      have hW := cW_ix hW (Or.inr k57)
      refine lv_iconst (v := 1) hx hb dX5_changeIndex_66 (by decide) ?_
      have q2 : x2 = aV := uq _ _ 28 (by decide) (by decide) k2 kV
      have q10 : x10 = aU := uq _ _ 27 (by decide) (by decide) k10 kU
      have q57 : x57 = aV := uq _ _ 28 (by decide) (by decide) k57 kV
      have q47 : x47 = aU := uq _ _ 27 (by decide) (by decide) k47 kU
      have qg : (1 : Int32) = gI p2 p3 := gI_one e22 e24 y25 rp2 rp3 (by first | exact c33 | omega)
      exact W.zret (v := (1 : Int32)) hx hb hr rfl (fun t ht _ => ⟨⟨(1 : Int32), uX (uX N.2.2.2 x47 p1.toNatClampNeg x54) x57 p1.toNatClampNeg x64, rfl, ⟨fun h => absurd (by rw [e7, e15, e6, e14, q2, q10]; exact h) c16, fun _ => ⟨rfl, by rw [q47, q57, e54, e64, qg]⟩⟩, cW_at (N := nX N (uX (uX N.2.2.2 x47 p1.toNatClampNeg x54) x57 p1.toNatClampNeg x64)) ht hW⟩, hS.F ht⟩) hS.2.2 dX5_changeIndex_67
    · have c33 : (1 : Int) < x25.toInt := c33
      have rx25_33 : lr x25 2 9 := by have h8 := z25.2; have h9 := (lr_c (1) (by decide) : lr (1 : Int64) (1) (1)); constructor <;> omega
      refine lv_lload hx hb dX5_changeIndex_37 (lv_at hl 0 rfl) ?_
      refine lv_l2i hx hb dX5_changeIndex_39 rfl ?_
      refine lv_topi (fun x39 e39 => ?_)
      have r39 : ir x39 2 9 := by rw [e39]; exact l2i_r rx25_33 (by decide) (by decide)
      refine lv_goto (tgt := 44) hx hb dX5_changeIndex_40 (by decide) ?_
      refine lv_istore (lv' := [(6, .int x39), (4, .long x25), (0, .ref h0), (1, .int p1), (2, .int p2), (3, .int p3)]) hx hb dX5_changeIndex_44 hl (by decide) rfl (fun ls hl => ?_)
      refine lv_aload_n hx hb dX5_changeIndex_46 rfl (lv_at hl 2 rfl) ?_
      refine wt_get hx hb hts cfX5 hown hK hW (cg5 k0) rfl 0 (by decide) q137 dX5_changeIndex_47 (fun v hv => ?_)
      obtain ⟨x47, rfl, k47⟩ : gr N 27 v := hv
      refine lv_iload_n hx hb dX5_changeIndex_50 rfl (lv_at hl 3 rfl) ?_
      refine lv_iload_n hx hb dX5_changeIndex_51 rfl (lv_at hl 4 rfl) ?_
      refine lv_iload hx hb dX5_changeIndex_52 (lv_at hl 0 rfl) ?_
      refine lv_idiv hx hb dX5_changeIndex_54 (i_ne0 r39 (by decide)) ?_
      refine lv_topi (fun x54 e54 => ?_)
      have r54 : ir x54 0 9 := ir_div e54 rp2 r39 (by decide) (by decide)
      refine wt_iastU hx hb hK hW hS 0 (cg27 k47) (ce k47 (by decide)) rfl (ir_in rp1 (by decide) (by decide)) dX5_changeIndex_55 (fun H locs hW hS => ?_)
      have hW := cW_ix hW (Or.inl k47)
      refine lv_aload_n hx hb dX5_changeIndex_56 rfl (lv_at hl 2 rfl) ?_
      refine wt_get hx hb hts cfX5 hown hK hW (cg5 k0) rfl 1 (by decide) q140 dX5_changeIndex_57 (fun v hv => ?_)
      obtain ⟨x57, rfl, k57⟩ : gr N 28 v := hv
      refine lv_iload_n hx hb dX5_changeIndex_60 rfl (lv_at hl 3 rfl) ?_
      refine lv_iload_n hx hb dX5_changeIndex_61 rfl (lv_at hl 5 rfl) ?_
      refine lv_iload hx hb dX5_changeIndex_62 (lv_at hl 0 rfl) ?_
      refine lv_idiv hx hb dX5_changeIndex_64 (i_ne0 r39 (by decide)) ?_
      refine lv_topi (fun x64 e64 => ?_)
      have r64 : ir x64 0 9 := ir_div e64 rp3 r39 (by decide) (by decide)
      refine wt_iastU hx hb hK hW hS 0 (cg28 k57) (ce k57 (by decide)) rfl (ir_in rp1 (by decide) (by decide)) dX5_changeIndex_65 (fun H locs hW hS => ?_)
      have hW := cW_ix hW (Or.inr k57)
      refine lv_iconst (v := 1) hx hb dX5_changeIndex_66 (by decide) ?_
      have q2 : x2 = aV := uq _ _ 28 (by decide) (by decide) k2 kV
      have q10 : x10 = aU := uq _ _ 27 (by decide) (by decide) k10 kU
      have q57 : x57 = aV := uq _ _ 28 (by decide) (by decide) k57 kV
      have q47 : x47 = aU := uq _ _ 27 (by decide) (by decide) k47 kU
      have qg : x39 = gI p2 p3 := e39.trans z25.1
      exact W.zret (v := (1 : Int32)) hx hb hr rfl (fun t ht _ => ⟨⟨(1 : Int32), uX (uX N.2.2.2 x47 p1.toNatClampNeg x54) x57 p1.toNatClampNeg x64, rfl, ⟨fun h => absurd (by rw [e7, e15, e6, e14, q2, q10]; exact h) c16, fun _ => ⟨rfl, by rw [q47, q57, e54, e64, qg]⟩⟩, cW_at (N := nX N (uX (uX N.2.2.2 x47 p1.toNatClampNeg x54) x57 p1.toNatClampNeg x64)) ht hW⟩, hS.F ht⟩) hS.2.2 dX5_changeIndex_67
  · refine lv_iconst (v := 0) hx hb dX5_changeIndex_19 (by decide) ?_
    have q2 : x2 = aV := uq _ _ 28 (by decide) (by decide) k2 kV
    have q10 : x10 = aU := uq _ _ 27 (by decide) (by decide) k10 kU
    exact W.zret (v := (0 : Int32)) hx hb hr rfl (fun t ht _ => ⟨⟨(0 : Int32), N.2.2.2, rfl, ⟨fun _ => ⟨rfl, rfl⟩, fun h => absurd (by rw [← q2, ← q10, ← e6, ← e14, ← e7, ← e15]; exact c16) h⟩, cW_at (N := nX N N.2.2.2) ht hW⟩, hS.F ht⟩) hS.2.2 dX5_changeIndex_20
set_option maxHeartbeats 4000000 in
set_option maxRecDepth 100000 in
theorem m_X10_isMaterial_e (l : Launch) (p1 : Int32) : pMi l yX10_isMaterial cX10_isMaterial 1 .boolean { frames := 0, cells := 0, slots := 0, locals := 0 } [.int p1] (fun r => (r = 1 ∧ ir p1 0 5) ∨ (r = 0 ∧ ¬ ir p1 0 5)) := by
  refine Met.ofW (cc := cX10_isMaterial) (maxL := 1) (ret := some .boolean) (by decide) rfl ?_
  intro p e s m args below meth c s₁ B hml hv
  obtain ⟨rfl, -⟩ := hv
  have hx := B.exec
  have hb := B.bytes
  have hr := B.returns
  have hts : ∀ w ∈ lw_g, w.before _ s = true := fun w h => atoms_spec (ws := wc_ws yX10_isMaterial cX10_isMaterial 1 (some .boolean)) B.pre w (List.mem_cons_of_mem _ h)
  have hown : s.vm.findClass RX10 = some m.cls := findClass_of_methodNamed B.named
  have hlocks := B.notSynchronized
  have hS : va_S (fun _ => False) s.heap s.heap [] := va_S.rf
  have hl := lv_entry ([.int p1]) (n := 1) (Nat.le_of_ble_eq_true rfl)
  rw [lg_entry_eq]
  generalize (lg_sl ([.int p1]) ++ List.replicate (1 - (lg_sl ([.int p1])).length) Slot.unset).toArray = ls at hl ⊢
  have hl : lv_has ls 1 [(0, .int p1)] := hl
  refine wq_all ?_
  intro WW w1 w2
  refine lv_iload_n hx hb dX10_isMaterial_0 rfl (lv_at hl 0 rfl) ?_
  refine lv_if_lt (tgt := 14) hx hb dX10_isMaterial_1 (by decide) (fun c1 => ?_) (fun c1 => ?_)
  · have rp1_1 : ir p1 (-2147483648) (-1) := ⟨((ir_any p1)).1, Int.le_trans (rf_lt c1 (ir_any p1) (ir_c (0) (by decide) : ir (0 : Int32) (0) (0))).1 (by decide)⟩
    refine lv_iconst (v := 0) hx hb dX10_isMaterial_14 (by decide) ?_
    exact W.zret (v := (0 : Int32)) hx hb hr rfl (fun t ht _ => ⟨⟨(0 : Int32), (), rfl, (Or.inr ⟨rfl, by have h9 := rp1_1; omega⟩), trivial⟩, hS.F ht⟩) hS.2.2 dX10_isMaterial_15
  · have rp1_1 : ir p1 0 2147483647 := ⟨Int.le_trans (by decide) (rf_le (rf_nlt c1) (ir_c (0) (by decide) : ir (0 : Int32) (0) (0)) (ir_any p1)).2, ((ir_any p1)).2⟩
    refine lv_iload_n hx hb dX10_isMaterial_4 rfl (lv_at hl 0 rfl) ?_
    refine lv_bipush (v := 6) hx hb dX10_isMaterial_5 (by decide) ?_
    refine lv_icmp_ge (tgt := 14) hx hb dX10_isMaterial_7 (by decide) (fun c7 => ?_) (fun c7 => ?_)
    · have rp1_7 : ir p1 6 2147483647 := ⟨Int.le_trans (by decide) (rf_le c7 (ir_c (6) (by decide) : ir (6 : Int32) (6) (6)) rp1_1).2, (rp1_1).2⟩
      refine lv_iconst (v := 0) hx hb dX10_isMaterial_14 (by decide) ?_
      exact W.zret (v := (0 : Int32)) hx hb hr rfl (fun t ht _ => ⟨⟨(0 : Int32), (), rfl, (Or.inr ⟨rfl, by have h9 := rp1_7; omega⟩), trivial⟩, hS.F ht⟩) hS.2.2 dX10_isMaterial_15
    · have rp1_7 : ir p1 0 5 := ⟨(rp1_1).1, Int.le_trans (rf_lt (rf_nle c7) rp1_1 (ir_c (6) (by decide) : ir (6 : Int32) (6) (6))).1 (by decide)⟩
      refine lv_iconst (v := 1) hx hb dX10_isMaterial_10 (by decide) ?_
      refine lv_goto (tgt := 15) hx hb dX10_isMaterial_11 (by decide) ?_
      exact W.zret (v := (1 : Int32)) hx hb hr rfl (fun t ht _ => ⟨⟨(1 : Int32), (), rfl, (Or.inl ⟨rfl, rp1_7⟩), trivial⟩, hS.F ht⟩) hS.2.2 dX10_isMaterial_15
set_option maxHeartbeats 4000000 in
set_option maxRecDepth 100000 in
theorem m_X10_index (l : Launch) (N : c_N) (h0 : Nat) (k0 : N.2.2.1 h0 = some 10) (p1 : Int32) (p2 : Int32) (p3 : Int32) (aU aV : Nat) (kU : N.2.2.1 aU = some 27) (kV : N.2.2.1 aV = some 28) (uq : ∀ a b t : Nat, 27 ≤ t → t ≤ 28 → N.2.2.1 a = some t → N.2.2.1 b = some t → a = b) (hX : ∀ j : Nat, j < 6 → ir (N.2.2.2 aU j) 1 9 ∧ ir (N.2.2.2 aV j) 1 9) : Met l yX10_index (wc_ws yX10_index cX10_index 4 (some .boolean)) { frames := 2, cells := 0, slots := 0, locals := 56 } (va_Pc [.ref h0, .int p1, .int p2, .int p3] (cSp N cT0)) (va_Qi (fun r (X : Nat → Nat → Int32) => ixq N aU aV p1 p2 p3 r X) (fun X t => cW (nX N X) t.heap) (cE N [27, 28])) 0 0 (cE N [27, 28]) := by
  refine Met.ofW (cc := cX10_index) (maxL := 4) (ret := some .boolean) (by decide) rfl ?_
  intro p e s m args below meth c s₁ B hml hv
  obtain ⟨rfl, ⟨hK, hW, hT, hnn⟩, hB⟩ := hv
  have hx := B.exec
  have hb := B.bytes
  have hr := B.returns
  have hts : ∀ w ∈ lw_g, w.before _ s = true := fun w h => atoms_spec (ws := wc_ws yX10_index cX10_index 4 (some .boolean)) B.pre w (List.mem_cons_of_mem _ h)
  have hown : s.vm.findClass RX10 = some m.cls := findClass_of_methodNamed B.named
  have hlocks := B.notSynchronized
  have hS : va_S (cE N [27, 28]) s.heap s.heap [] := va_S.rf
  have hl := lv_entry ([.ref h0, .int p1, .int p2, .int p3]) (n := 4) (Nat.le_of_ble_eq_true rfl)
  rw [lg_entry_eq]
  generalize (lg_sl ([.ref h0, .int p1, .int p2, .int p3]) ++ List.replicate (4 - (lg_sl ([.ref h0, .int p1, .int p2, .int p3])).length) Slot.unset).toArray = ls at hl ⊢
  have hl : lv_has ls 4 [(0, .ref h0), (1, .int p1), (2, .int p2), (3, .int p3)] := hl
  refine wq_all ?_
  intro WW w1 w2
  refine lv_iload_n hx hb dX10_index_0 rfl (lv_at hl 1 rfl) ?_
  refine cp_i (wt_runS (As := [.int p1]) (rest := []) ⟨hx, hb, hml, hown, hts⟩ (m_X10_isMaterial_e l p1) wm_X10_isMaterial q437 ⟨rfl, rfl⟩ ⟨Nat.le_of_ble_eq_true rfl, Nat.le_of_ble_eq_true rfl⟩ pS_pre rfl hl.1 rfl (Nat.le_of_ble_eq_true rfl) dX10_index_1 ⟨Nat.zero_le _, Nat.zero_le _⟩) hW hS (fun x1 H locs hp hW hS oq => ?_)
  rcases hp with ⟨y1, z1⟩ | ⟨y1, z1⟩
  · subst y1
    refine lv_if_eq (tgt := 29) hx hb dX10_index_4 (by decide) (fun c4 => ?_) (fun c4 => ?_)
    · exact absurd c4 (by decide)
    · refine lv_iload_n hx hb dX10_index_7 rfl (lv_at hl 2 rfl) ?_
      refine lv_iconst (v := 1) hx hb dX10_index_8 (by decide) ?_
      refine lv_icmp_lt (tgt := 29) hx hb dX10_index_9 (by decide) (fun c9 => ?_) (fun c9 => ?_)
      · have rp2_9 : ir p2 (-2147483648) 0 := ⟨((ir_any p2)).1, Int.le_trans (rf_lt c9 (ir_any p2) (ir_c (1) (by decide) : ir (1 : Int32) (1) (1))).1 (by decide)⟩
        refine lv_iconst (v := 0) hx hb dX10_index_29 (by decide) ?_
        exact W.zret (v := (0 : Int32)) hx hb hr rfl (fun t ht _ => ⟨⟨(0 : Int32), N.2.2.2, rfl, ⟨fun h => absurd h (by have h6 := z1; have h7 := rp2_9; have h8 := (ir_any p3); omega), fun _ => ⟨rfl, rfl⟩⟩, cW_at (N := nX N N.2.2.2) ht hW⟩, hS.F ht⟩) hS.2.2 dX10_index_30
      · have rp2_9 : ir p2 1 2147483647 := ⟨Int.le_trans (by decide) (rf_le (rf_nlt c9) (ir_c (1) (by decide) : ir (1 : Int32) (1) (1)) (ir_any p2)).2, ((ir_any p2)).2⟩
        refine lv_iload_n hx hb dX10_index_12 rfl (lv_at hl 2 rfl) ?_
        refine lv_bipush (v := 9) hx hb dX10_index_13 (by decide) ?_
        refine lv_icmp_gt (tgt := 29) hx hb dX10_index_15 (by decide) (fun c15 => ?_) (fun c15 => ?_)
        · have rp2_15 : ir p2 10 2147483647 := ⟨Int.le_trans (by decide) (rf_lt c15 (ir_c (9) (by decide) : ir (9 : Int32) (9) (9)) rp2_9).2, (rp2_9).2⟩
          refine lv_iconst (v := 0) hx hb dX10_index_29 (by decide) ?_
          exact W.zret (v := (0 : Int32)) hx hb hr rfl (fun t ht _ => ⟨⟨(0 : Int32), N.2.2.2, rfl, ⟨fun h => absurd h (by have h6 := z1; have h7 := rp2_15; have h8 := (ir_any p3); omega), fun _ => ⟨rfl, rfl⟩⟩, cW_at (N := nX N N.2.2.2) ht hW⟩, hS.F ht⟩) hS.2.2 dX10_index_30
        · have rp2_15 : ir p2 1 9 := ⟨(rp2_9).1, Int.le_trans (rf_le (rf_nlt c15) rp2_9 (ir_c (9) (by decide) : ir (9 : Int32) (9) (9))).1 (by decide)⟩
          refine lv_iload_n hx hb dX10_index_18 rfl (lv_at hl 3 rfl) ?_
          refine lv_iconst (v := 1) hx hb dX10_index_19 (by decide) ?_
          refine lv_icmp_lt (tgt := 29) hx hb dX10_index_20 (by decide) (fun c20 => ?_) (fun c20 => ?_)
          · have rp3_20 : ir p3 (-2147483648) 0 := ⟨((ir_any p3)).1, Int.le_trans (rf_lt c20 (ir_any p3) (ir_c (1) (by decide) : ir (1 : Int32) (1) (1))).1 (by decide)⟩
            refine lv_iconst (v := 0) hx hb dX10_index_29 (by decide) ?_
            exact W.zret (v := (0 : Int32)) hx hb hr rfl (fun t ht _ => ⟨⟨(0 : Int32), N.2.2.2, rfl, ⟨fun h => absurd h (by have h6 := z1; have h7 := rp2_15; have h8 := rp3_20; omega), fun _ => ⟨rfl, rfl⟩⟩, cW_at (N := nX N N.2.2.2) ht hW⟩, hS.F ht⟩) hS.2.2 dX10_index_30
          · have rp3_20 : ir p3 1 2147483647 := ⟨Int.le_trans (by decide) (rf_le (rf_nlt c20) (ir_c (1) (by decide) : ir (1 : Int32) (1) (1)) (ir_any p3)).2, ((ir_any p3)).2⟩
            refine lv_iload_n hx hb dX10_index_23 rfl (lv_at hl 3 rfl) ?_
            refine lv_bipush (v := 9) hx hb dX10_index_24 (by decide) ?_
            refine lv_icmp_le (tgt := 31) hx hb dX10_index_26 (by decide) (fun c26 => ?_) (fun c26 => ?_)
            · have rp3_26 : ir p3 1 9 := ⟨(rp3_20).1, Int.le_trans (rf_le c26 rp3_20 (ir_c (9) (by decide) : ir (9 : Int32) (9) (9))).1 (by decide)⟩
              refine lv_aload_n hx hb dX10_index_31 rfl (lv_at hl 0 rfl) ?_
              refine wt_get hx hb hts cfX10 hown hK hW (cg10 k0) rfl 3 (by decide) q296 dX10_index_32 (fun v hv => ?_)
              obtain ⟨x32, rfl, k32⟩ : gr N 5 v := hv
              refine lv_iload_n hx hb dX10_index_35 rfl (lv_at hl 1 rfl) ?_
              refine lv_iload_n hx hb dX10_index_36 rfl (lv_at hl 2 rfl) ?_
              refine lv_iload_n hx hb dX10_index_37 rfl (lv_at hl 3 rfl) ?_
              refine cx_i (wt_runV (As := [.int p1, .int p2, .int p3]) (rest := []) ⟨hx, hb, hml, hown, hts⟩ (m_X5_changeIndex l N x32 k32 p1 z1 p2 rp2_15 p3 rp3_26 aU aV kU kV uq hX) wm_X5_changeIndex q440 ⟨rfl, rfl⟩ ⟨Nat.le_of_ble_eq_true rfl, Nat.le_of_ble_eq_true rfl⟩ (cS_preV hK hW hT hnn hS (cg5 k32) rfl rfl trivial) rfl hl.1 rfl (Nat.le_of_ble_eq_true rfl) dX10_index_38 ⟨Nat.zero_le _, Nat.zero_le _⟩) hS (by decide) (fun x38 X1 H locs hp hW hS => ?_)
              have n38 := ixp_01 hp
              exact W.zret (v := x38) hx hb hr (nar01 n38) (fun t ht _ => ⟨⟨x38, X1, rfl, ⟨fun _ => hp, fun h => absurd ⟨z1, rp2_15, rp3_26⟩ h⟩, cW_at (N := nX N X1) ht hW⟩, hS.F ht⟩) hS.2.2 dX10_index_41
            · have rp3_26 : ir p3 10 2147483647 := ⟨Int.le_trans (by decide) (rf_lt (rf_nle c26) (ir_c (9) (by decide) : ir (9 : Int32) (9) (9)) rp3_20).2, (rp3_20).2⟩
              refine lv_iconst (v := 0) hx hb dX10_index_29 (by decide) ?_
              exact W.zret (v := (0 : Int32)) hx hb hr rfl (fun t ht _ => ⟨⟨(0 : Int32), N.2.2.2, rfl, ⟨fun h => absurd h (by have h6 := z1; have h7 := rp2_15; have h8 := rp3_26; omega), fun _ => ⟨rfl, rfl⟩⟩, cW_at (N := nX N N.2.2.2) ht hW⟩, hS.F ht⟩) hS.2.2 dX10_index_30
  · subst y1
    refine lv_if_eq (tgt := 29) hx hb dX10_index_4 (by decide) (fun c4 => ?_) (fun c4 => ?_)
    · refine lv_iconst (v := 0) hx hb dX10_index_29 (by decide) ?_
      exact W.zret (v := (0 : Int32)) hx hb hr rfl (fun t ht _ => ⟨⟨(0 : Int32), N.2.2.2, rfl, ⟨fun h => absurd h (by have h6 := (ir_any p1); have h7 := (ir_any p2); have h8 := (ir_any p3); omega), fun _ => ⟨rfl, rfl⟩⟩, cW_at (N := nX N N.2.2.2) ht hW⟩, hS.F ht⟩) hS.2.2 dX10_index_30
    · exact absurd rfl c4
