set_option maxHeartbeats 4000000 in
set_option maxRecDepth 100000 in
theorem m_X10_feed (l : Launch) (N : c_N) (h0 : Nat) (k0 : N.2.2.1 h0 = some 10) (p1 : Int32) (p2 : Int32) (p3 : Int32) (p4 : Int32) (p5 : Int32) : cMi l yX10_feed cX10_feed 6 .int { frames := 1, cells := 0, slots := 0, locals := 22 } [.ref h0, .int p1, .int p2, .int p3, .int p4, .int p5] N [9, 21] cT0 (fun _ => True) := by
  refine Met.ofW (cc := cX10_feed) (maxL := 6) (ret := some .int) (by decide) rfl ?_
  intro p e s m args below meth c s₁ B hml hv
  obtain ⟨rfl, ⟨hK, hW, hT, hnn⟩, hB⟩ := hv
  have hx := B.exec
  have hb := B.bytes
  have hr := B.returns
  have hts : ∀ w ∈ lw_g, w.before _ s = true := fun w h => atoms_spec (ws := wc_ws yX10_feed cX10_feed 6 (some .int)) B.pre w (List.mem_cons_of_mem _ h)
  have hown : s.vm.findClass RX10 = some m.cls := findClass_of_methodNamed B.named
  have hlocks := B.notSynchronized
  have hS : va_S (cE N [9, 21]) s.heap s.heap [] := va_S.rf
  have hl := lv_entry ([.ref h0, .int p1, .int p2, .int p3, .int p4, .int p5]) (n := 6) (Nat.le_of_ble_eq_true rfl)
  rw [lg_entry_eq]
  generalize (lg_sl ([.ref h0, .int p1, .int p2, .int p3, .int p4, .int p5]) ++ List.replicate (6 - (lg_sl ([.ref h0, .int p1, .int p2, .int p3, .int p4, .int p5])).length) Slot.unset).toArray = ls at hl ⊢
  have hl : lv_has ls 6 [(0, .ref h0), (1, .int p1), (2, .int p2), (3, .int p3), (4, .int p4), (5, .int p5)] := hl
  refine wq_all ?_
  intro WW w1 w2
  refine lv_aload_n hx hb dX10_feed_0 rfl (lv_at hl 0 rfl) ?_
  refine wt_get hx hb hts cfX10 hown hK hW (cg10 k0) rfl 0 (by decide) q293 dX10_feed_1 (fun v hv => ?_)
  obtain ⟨x1, rfl, k1⟩ : gr N 9 v := hv
  refine wt_getp hx hb hts cfX9 hown hK hW (cg9 k1) rfl 1 (by decide) (Or.inr ⟨_, lw_n_use hnn q55⟩) dX10_feed_4 (fun v hv nx1_1 => ?_)
  obtain ⟨x4, rfl, r4⟩ : gi 0 200 v := hv
  refine lv_bipush (v := 20) hx hb dX10_feed_7 (by decide) ?_
  refine lv_iadd hx hb dX10_feed_9 ?_
  refine lv_topi (fun x9 e9 => ?_)
  have t9 : x9.toInt = x4.toInt + (20) := it_add e9 r4 (ir_c (20) (by decide) : ir (20 : Int32) (20) (20)) (by decide) (by decide)
  have r9 : ir x9 20 220 := ir_w (ir_add e9 r4 (ir_c (20) (by decide) : ir (20 : Int32) (20) (20)) (by decide) (by decide)) (by decide) (by decide)
  refine lv_sipush (v := 200) hx hb dX10_feed_10 (by decide) ?_
  refine lv_icmp_le (tgt := 18) hx hb dX10_feed_13 (by decide) (fun c13 => ?_) (fun c13 => ?_)
  · have rx9_13 : ir x9 20 200 := ⟨(r9).1, Int.le_trans (rf_le c13 r9 (ir_c (200) (by decide) : ir (200 : Int32) (200) (200))).1 (by decide)⟩
    have rx4_13_1 : ir x4 0 180 := by have h6 := t9; have h7 := r4; have h8 := (ir_c (20) (by decide) : ir (20 : Int32) (20) (20)); have h9 := rx9_13; constructor <;> omega
    refine lv_aload_n hx hb dX10_feed_18 rfl (lv_at hl 0 rfl) ?_
    refine wt_get hx hb hts cfX10 hown hK hW (cg10 k0) rfl 0 (by decide) q293 dX10_feed_19 (fun v hv => ?_)
    obtain ⟨x19, rfl, k19⟩ : gr N 9 v := hv
    refine lv_iload_n hx hb dX10_feed_22 rfl (lv_at hl 1 rfl) ?_
    refine cc_v (wt_runV (As := [.int p1]) (rest := []) ⟨hx, hb, hml, hown, hts⟩ (m_X9_append l N x19 k19 p1) wm_X9_append q340 ⟨rfl, rfl⟩ ⟨Nat.le_of_ble_eq_true rfl, Nat.le_of_ble_eq_true rfl⟩ (cS_preV hK hW hT hnn hS (cg9 k19) rfl rfl trivial) rfl hl.1 rfl (Nat.le_of_ble_eq_true rfl) dX10_feed_23 ⟨Nat.zero_le _, Nat.zero_le _⟩) hS (by decide) (fun H locs hW hS oq hB2 => ?_)
    refine lv_aload_n hx hb dX10_feed_26 rfl (lv_at hl 0 rfl) ?_
    refine wt_get hx hb hts cfX10 hown hK hW (cg10 k0) rfl 0 (by decide) q293 dX10_feed_27 (fun v hv => ?_)
    obtain ⟨x27, rfl, k27⟩ : gr N 9 v := hv
    refine lv_iload_n hx hb dX10_feed_30 rfl (lv_at hl 2 rfl) ?_
    refine cc_v (wt_runV (As := [.int p2]) (rest := []) ⟨hx, hb, hml, hown, hts⟩ (m_X9_append l N x27 k27 p2) wm_X9_append q340 ⟨rfl, rfl⟩ ⟨Nat.le_of_ble_eq_true rfl, Nat.le_of_ble_eq_true rfl⟩ (cS_preV hK hW hT hnn hS (cg9 k27) rfl rfl trivial) rfl hl.1 rfl (Nat.le_of_ble_eq_true rfl) dX10_feed_31 ⟨Nat.zero_le _, Nat.zero_le _⟩) hS (by decide) (fun H locs hW hS oq hB2 => ?_)
    refine lv_aload_n hx hb dX10_feed_34 rfl (lv_at hl 0 rfl) ?_
    refine wt_get hx hb hts cfX10 hown hK hW (cg10 k0) rfl 0 (by decide) q293 dX10_feed_35 (fun v hv => ?_)
    obtain ⟨x35, rfl, k35⟩ : gr N 9 v := hv
    refine lv_iload_n hx hb dX10_feed_38 rfl (lv_at hl 3 rfl) ?_
    refine cc_v (wt_runV (As := [.int p3]) (rest := []) ⟨hx, hb, hml, hown, hts⟩ (m_X9_append l N x35 k35 p3) wm_X9_append q340 ⟨rfl, rfl⟩ ⟨Nat.le_of_ble_eq_true rfl, Nat.le_of_ble_eq_true rfl⟩ (cS_preV hK hW hT hnn hS (cg9 k35) rfl rfl trivial) rfl hl.1 rfl (Nat.le_of_ble_eq_true rfl) dX10_feed_39 ⟨Nat.zero_le _, Nat.zero_le _⟩) hS (by decide) (fun H locs hW hS oq hB2 => ?_)
    refine lv_aload_n hx hb dX10_feed_42 rfl (lv_at hl 0 rfl) ?_
    refine wt_get hx hb hts cfX10 hown hK hW (cg10 k0) rfl 0 (by decide) q293 dX10_feed_43 (fun v hv => ?_)
    obtain ⟨x43, rfl, k43⟩ : gr N 9 v := hv
    refine lv_iload hx hb dX10_feed_46 (lv_at hl 4 rfl) ?_
    refine cc_v (wt_runV (As := [.int p4]) (rest := []) ⟨hx, hb, hml, hown, hts⟩ (m_X9_append l N x43 k43 p4) wm_X9_append q340 ⟨rfl, rfl⟩ ⟨Nat.le_of_ble_eq_true rfl, Nat.le_of_ble_eq_true rfl⟩ (cS_preV hK hW hT hnn hS (cg9 k43) rfl rfl trivial) rfl hl.1 rfl (Nat.le_of_ble_eq_true rfl) dX10_feed_48 ⟨Nat.zero_le _, Nat.zero_le _⟩) hS (by decide) (fun H locs hW hS oq hB2 => ?_)
    refine lv_aload_n hx hb dX10_feed_51 rfl (lv_at hl 0 rfl) ?_
    refine wt_get hx hb hts cfX10 hown hK hW (cg10 k0) rfl 0 (by decide) q293 dX10_feed_52 (fun v hv => ?_)
    obtain ⟨x52, rfl, k52⟩ : gr N 9 v := hv
    refine lv_iload hx hb dX10_feed_55 (lv_at hl 5 rfl) ?_
    refine cc_v (wt_runV (As := [.int p5]) (rest := []) ⟨hx, hb, hml, hown, hts⟩ (m_X9_append l N x52 k52 p5) wm_X9_append q340 ⟨rfl, rfl⟩ ⟨Nat.le_of_ble_eq_true rfl, Nat.le_of_ble_eq_true rfl⟩ (cS_preV hK hW hT hnn hS (cg9 k52) rfl rfl trivial) rfl hl.1 rfl (Nat.le_of_ble_eq_true rfl) dX10_feed_57 ⟨Nat.zero_le _, Nat.zero_le _⟩) hS (by decide) (fun H locs hW hS oq hB2 => ?_)
    refine lv_aload_n hx hb dX10_feed_60 rfl (lv_at hl 0 rfl) ?_
    refine wt_get hx hb hts cfX10 hown hK hW (cg10 k0) rfl 0 (by decide) q293 dX10_feed_61 (fun v hv => ?_)
    obtain ⟨x61, rfl, k61⟩ : gr N 9 v := hv
    refine wt_getp hx hb hts cfX9 hown hK hW (cg9 k61) rfl 1 (by decide) (Or.inr ⟨_, lw_n_use hnn q55⟩) dX10_feed_64 (fun v hv nx61_1 => ?_)
    obtain ⟨x64, rfl, r64⟩ : gi 0 200 v := hv
    exact W.iret (v := x64) hx hb hr (fun t ht _ => ⟨⟨x64, (), rfl, trivial, cW_at ht hW⟩, hS.F ht⟩) hS.2.2 dX10_feed_67
  · have rx9_13 : ir x9 201 220 := ⟨Int.le_trans (by decide) (rf_lt (rf_nle c13) (ir_c (200) (by decide) : ir (200 : Int32) (200) (200)) r9).2, (r9).2⟩
    have rx4_13_1 : ir x4 181 200 := by have h6 := t9; have h7 := r4; have h8 := (ir_c (20) (by decide) : ir (20 : Int32) (20) (20)); have h9 := rx9_13; constructor <;> omega
    refine lv_iconst (v := -1) hx hb dX10_feed_16 (by decide) ?_
    exact W.iret (v := (-1 : Int32)) hx hb hr (fun t ht _ => ⟨⟨(-1 : Int32), (), rfl, trivial, cW_at ht hW⟩, hS.F ht⟩) hS.2.2 dX10_feed_17
set_option maxHeartbeats 4000000 in
set_option maxRecDepth 100000 in
theorem m_X10_end (l : Launch) (N : c_N) (h0 : Nat) (k0 : N.2.2.1 h0 = some 10) (p1 : Int32) : cMi l yX10_end cX10_end 2 .boolean { frames := 0, cells := 0, slots := 0, locals := 0 } [.ref h0, .int p1] N [9] cT0 (fun r => ir r 0 1) := by
  refine Met.ofW (cc := cX10_end) (maxL := 2) (ret := some .boolean) (by decide) rfl ?_
  intro p e s m args below meth c s₁ B hml hv
  obtain ⟨rfl, ⟨hK, hW, hT, hnn⟩, hB⟩ := hv
  have hx := B.exec
  have hb := B.bytes
  have hr := B.returns
  have hts : ∀ w ∈ lw_g, w.before _ s = true := fun w h => atoms_spec (ws := wc_ws yX10_end cX10_end 2 (some .boolean)) B.pre w (List.mem_cons_of_mem _ h)
  have hown : s.vm.findClass RX10 = some m.cls := findClass_of_methodNamed B.named
  have hlocks := B.notSynchronized
  have hS : va_S (cE N [9]) s.heap s.heap [] := va_S.rf
  have hl := lv_entry ([.ref h0, .int p1]) (n := 2) (Nat.le_of_ble_eq_true rfl)
  rw [lg_entry_eq]
  generalize (lg_sl ([.ref h0, .int p1]) ++ List.replicate (2 - (lg_sl ([.ref h0, .int p1])).length) Slot.unset).toArray = ls at hl ⊢
  have hl : lv_has ls 2 [(0, .ref h0), (1, .int p1)] := hl
  refine wq_all ?_
  intro WW w1 w2
  refine lv_iload_n hx hb dX10_end_0 rfl (lv_at hl 1 rfl) ?_
  refine lv_if_lt (tgt := 15) hx hb dX10_end_1 (by decide) (fun c1 => ?_) (fun c1 => ?_)
  · have rp1_1 : ir p1 (-2147483648) (-1) := ⟨((ir_any p1)).1, Int.le_trans (rf_lt c1 (ir_any p1) (ir_c (0) (by decide) : ir (0 : Int32) (0) (0))).1 (by decide)⟩
    refine lv_iconst (v := 0) hx hb dX10_end_15 (by decide) ?_
    exact W.zret (v := (0 : Int32)) hx hb hr rfl (fun t ht _ => ⟨⟨(0 : Int32), (), rfl, (⟨by decide, by decide⟩), cW_at ht hW⟩, hS.F ht⟩) hS.2.2 dX10_end_16
  · have rp1_1 : ir p1 0 2147483647 := ⟨Int.le_trans (by decide) (rf_le (rf_nlt c1) (ir_c (0) (by decide) : ir (0 : Int32) (0) (0)) (ir_any p1)).2, ((ir_any p1)).2⟩
    refine lv_iload_n hx hb dX10_end_4 rfl (lv_at hl 1 rfl) ?_
    refine lv_aload_n hx hb dX10_end_5 rfl (lv_at hl 0 rfl) ?_
    refine wt_get hx hb hts cfX10 hown hK hW (cg10 k0) rfl 0 (by decide) q293 dX10_end_6 (fun v hv => ?_)
    obtain ⟨x6, rfl, k6⟩ : gr N 9 v := hv
    refine wt_getp hx hb hts cfX9 hown hK hW (cg9 k6) rfl 1 (by decide) (Or.inr ⟨_, lw_n_use hnn q55⟩) dX10_end_9 (fun v hv nx6_1 => ?_)
    obtain ⟨x9, rfl, r9⟩ : gi 0 200 v := hv
    refine lv_icmp_le (tgt := 17) hx hb dX10_end_12 (by decide) (fun c12 => ?_) (fun c12 => ?_)
    · have rp1_12 : ir p1 0 200 := ⟨(rp1_1).1, Int.le_trans (rf_le c12 rp1_1 r9).1 (by decide)⟩
      refine lv_aload_n hx hb dX10_end_17 rfl (lv_at hl 0 rfl) ?_
      refine wt_get hx hb hts cfX10 hown hK hW (cg10 k0) rfl 0 (by decide) q293 dX10_end_18 (fun v hv => ?_)
      obtain ⟨x18, rfl, k18⟩ : gr N 9 v := hv
      refine lv_iload_n hx hb dX10_end_21 rfl (lv_at hl 1 rfl) ?_
      refine wt_putp hx hb hts cfX9 tyX9 tyX9_ok nmX9 hown hK hW hS (cg9 k18) (ce k18 (by decide)) rfl 1 (by decide) (Or.inr ⟨_, lw_n_use hnn q55⟩) rfl rfl rfl (gi_mk rp1_12) dX10_end_22 (fun H locs hW hS oq o2 np => ?_)
      have nx18_1 : wt_pin N.1 vwCl x18 9 1 (.int p1) H := np
      refine lv_iconst (v := 1) hx hb dX10_end_25 (by decide) ?_
      exact W.zret (v := (1 : Int32)) hx hb hr rfl (fun t ht _ => ⟨⟨(1 : Int32), (), rfl, (⟨by decide, by decide⟩), cW_at ht hW⟩, hS.F ht⟩) hS.2.2 dX10_end_26
    · have rp1_12 : ir p1 1 2147483647 := ⟨Int.le_trans (by decide) (rf_lt (rf_nle c12) r9 rp1_1).2, (rp1_1).2⟩
      refine lv_iconst (v := 0) hx hb dX10_end_15 (by decide) ?_
      exact W.zret (v := (0 : Int32)) hx hb hr rfl (fun t ht _ => ⟨⟨(0 : Int32), (), rfl, (⟨by decide, by decide⟩), cW_at ht hW⟩, hS.F ht⟩) hS.2.2 dX10_end_16
set_option maxHeartbeats 4000000 in
set_option maxRecDepth 100000 in
theorem m_X10_stack (l : Launch) (N : c_N) (h0 : Nat) (k0 : N.2.2.1 h0 = some 10) : cMi l yX10_stack cX10_stack 1 .int { frames := 6, cells := 0, slots := 0, locals := 141 } [.ref h0] N [1, 3, 9, 20, 22, 23, 30] cT0 (fun _ => True) := by
  refine Met.ofW (cc := cX10_stack) (maxL := 1) (ret := some .int) (by decide) rfl ?_
  intro p e s m args below meth c s₁ B hml hv
  obtain ⟨rfl, ⟨hK, hW, hT, hnn⟩, hB⟩ := hv
  have hx := B.exec
  have hb := B.bytes
  have hr := B.returns
  have hts : ∀ w ∈ lw_g, w.before _ s = true := fun w h => atoms_spec (ws := wc_ws yX10_stack cX10_stack 1 (some .int)) B.pre w (List.mem_cons_of_mem _ h)
  have hown : s.vm.findClass RX10 = some m.cls := findClass_of_methodNamed B.named
  have hlocks := B.notSynchronized
  have hS : va_S (cE N [1, 3, 9, 20, 22, 23, 30]) s.heap s.heap [] := va_S.rf
  have hl := lv_entry ([.ref h0]) (n := 1) (Nat.le_of_ble_eq_true rfl)
  rw [lg_entry_eq]
  generalize (lg_sl ([.ref h0]) ++ List.replicate (1 - (lg_sl ([.ref h0])).length) Slot.unset).toArray = ls at hl ⊢
  have hl : lv_has ls 1 [(0, .ref h0)] := hl
  refine wq_all ?_
  intro WW w1 w2
  refine lv_aload_n hx hb dX10_stack_0 rfl (lv_at hl 0 rfl) ?_
  refine wt_get hx hb hts cfX10 hown hK hW (cg10 k0) rfl 0 (by decide) q293 dX10_stack_1 (fun v hv => ?_)
  obtain ⟨x1, rfl, k1⟩ : gr N 9 v := hv
  refine cc_i (wt_runV (As := []) (rest := []) ⟨hx, hb, hml, hown, hts⟩ (m_X9_parse l N x1 k1) wm_X9_parse q352 ⟨rfl, rfl⟩ ⟨Nat.le_of_ble_eq_true rfl, Nat.le_of_ble_eq_true rfl⟩ (cS_preV hK hW hT hnn hS (cg9 k1) rfl rfl trivial) rfl hl.1 rfl (Nat.le_of_ble_eq_true rfl) dX10_stack_4 ⟨Nat.zero_le _, Nat.zero_le _⟩) hS (by decide) (fun x4 H locs hp hW hS oq => ?_)
  have r4 : ir x4 0 1 := hp
  refine lv_if_ne (tgt := 12) hx hb dX10_stack_7 (by decide) (fun c7 => ?_) (fun c7 => ?_)
  · have rx4_7 : ir x4 1 1 := rf_ne0 c7 r4
    refine lv_aload_n hx hb dX10_stack_12 rfl (lv_at hl 0 rfl) ?_
    refine wt_get hx hb hts cfX10 hown hK hW (cg10 k0) rfl 2 (by decide) q295 dX10_stack_13 (fun v hv => ?_)
    obtain ⟨x13, rfl, k13⟩ : gr N 1 v := hv
    refine lv_aload_n hx hb dX10_stack_16 rfl (lv_at hl 0 rfl) ?_
    refine wt_get hx hb hts cfX10 hown hK hW (cg10 k0) rfl 1 (by decide) q294 dX10_stack_17 (fun v hv => ?_)
    obtain ⟨x17, rfl, k17⟩ : gr N 3 v := hv
    refine lv_iconst (v := 0) hx hb dX10_stack_20 (by decide) ?_
    refine cc_v (wt_runV (As := [.ref x17, .int (0 : Int32)]) (rest := []) ⟨hx, hb, hml, hown, hts⟩ (m_X1_keep l N x13 k13 x17 k17 (0 : Int32) (ir_w (lo' := 0) (hi' := 1) (ir_c (0) (by decide) : ir (0 : Int32) (0) (0)) (by decide) (by decide))) wm_X1_keep q416 ⟨rfl, rfl⟩ ⟨Nat.le_of_ble_eq_true rfl, Nat.le_of_ble_eq_true rfl⟩ (cS_preV hK hW hT hnn hS (cg1 k13) rfl rfl trivial) rfl hl.1 rfl (Nat.le_of_ble_eq_true rfl) dX10_stack_21 ⟨Nat.zero_le _, Nat.zero_le _⟩) hS (by decide) (fun H locs hW hS oq hB2 => ?_)
    refine lv_aload_n hx hb dX10_stack_24 rfl (lv_at hl 0 rfl) ?_
    refine wt_get hx hb hts cfX10 hown hK hW (cg10 k0) rfl 1 (by decide) q294 dX10_stack_25 (fun v hv => ?_)
    obtain ⟨x25, rfl, k25⟩ : gr N 3 v := hv
    refine lv_aload_n hx hb dX10_stack_28 rfl (lv_at hl 0 rfl) ?_
    refine wt_get hx hb hts cfX10 hown hK hW (cg10 k0) rfl 0 (by decide) q293 dX10_stack_29 (fun v hv => ?_)
    obtain ⟨x29, rfl, k29⟩ : gr N 9 v := hv
    refine wt_getN hx hb hts cfX9 hown hK hW (cg9 k29) rfl 4 (by decide) hnn q61 dX10_stack_32 (fun v hv => ?_)
    obtain ⟨x32, rfl, k32⟩ : gr N 3 v := hv
    refine cc_v (wt_runV (As := [.ref x32]) (rest := []) ⟨hx, hb, hml, hown, hts⟩ (m_X3_copyOf l N x25 k25 x32 k32) wm_X3_copyOf q428 ⟨rfl, rfl⟩ ⟨Nat.le_of_ble_eq_true rfl, Nat.le_of_ble_eq_true rfl⟩ (cS_preV hK hW hT hnn hS (cg3 k25) rfl rfl trivial) rfl hl.1 rfl (Nat.le_of_ble_eq_true rfl) dX10_stack_35 ⟨Nat.zero_le _, Nat.zero_le _⟩) hS (by decide) (fun H locs hW hS oq hB2 => ?_)
    refine lv_aload_n hx hb dX10_stack_38 rfl (lv_at hl 0 rfl) ?_
    refine wt_get hx hb hts cfX10 hown hK hW (cg10 k0) rfl 0 (by decide) q293 dX10_stack_39 (fun v hv => ?_)
    obtain ⟨x39, rfl, k39⟩ : gr N 9 v := hv
    refine lv_iconst (v := 0) hx hb dX10_stack_42 (by decide) ?_
    refine wt_putp hx hb hts cfX9 tyX9 tyX9_ok nmX9 hown hK hW hS (cg9 k39) (ce k39 (by decide)) rfl 1 (by decide) (Or.inr ⟨_, lw_n_use hnn q55⟩) rfl rfl rfl (gi_mk (ir_w (lo' := 0) (hi' := 200) (ir_c (0) (by decide) : ir (0 : Int32) (0) (0)) (by decide) (by decide))) dX10_stack_43 (fun H locs hW hS oq o2 np => ?_)
    have nx39_1 : wt_pin N.1 vwCl x39 9 1 (.int (0 : Int32)) H := np
    refine lv_aload_n hx hb dX10_stack_46 rfl (lv_at hl 0 rfl) ?_
    refine wt_get hx hb hts cfX10 hown hK hW (cg10 k0) rfl 1 (by decide) q294 dX10_stack_47 (fun v hv => ?_)
    obtain ⟨x47, rfl, k47⟩ : gr N 3 v := hv
    refine wt_getp hx hb hts cfX3 hown hK hW (cg3 k47) rfl 1 (by decide) (Or.inr ⟨_, lw_n_use hnn q46⟩) dX10_stack_50 (fun v hv nx47_1 => ?_)
    obtain ⟨x50, rfl, r50⟩ : gi 0 24 v := hv
    exact W.iret (v := x50) hx hb hr (fun t ht _ => ⟨⟨x50, (), rfl, trivial, cW_at ht hW⟩, hS.F ht⟩) hS.2.2 dX10_stack_53
  · have rx4_7 : ir x4 0 0 := rf_eq c7 (ir_c (0) (by decide) : ir (0 : Int32) (0) (0))
    refine lv_iconst (v := -1) hx hb dX10_stack_10 (by decide) ?_
    exact W.iret (v := (-1 : Int32)) hx hb hr (fun t ht _ => ⟨⟨(-1 : Int32), (), rfl, trivial, cW_at ht hW⟩, hS.F ht⟩) hS.2.2 dX10_stack_11
set_option maxHeartbeats 4000000 in
set_option maxRecDepth 100000 in
theorem m_X10_fault (l : Launch) (N : c_N) (h0 : Nat) (k0 : N.2.2.1 h0 = some 10) (p1 : Int32) : cMi l yX10_fault cX10_fault 2 .int { frames := 0, cells := 0, slots := 0, locals := 0 } [.ref h0, .int p1] N [] cT0 (fun _ => True) := by
  refine Met.ofW (cc := cX10_fault) (maxL := 2) (ret := some .int) (by decide) rfl ?_
  intro p e s m args below meth c s₁ B hml hv
  obtain ⟨rfl, ⟨hK, hW, hT, hnn⟩, hB⟩ := hv
  have hx := B.exec
  have hb := B.bytes
  have hr := B.returns
  have hts : ∀ w ∈ lw_g, w.before _ s = true := fun w h => atoms_spec (ws := wc_ws yX10_fault cX10_fault 2 (some .int)) B.pre w (List.mem_cons_of_mem _ h)
  have hown : s.vm.findClass RX10 = some m.cls := findClass_of_methodNamed B.named
  have hlocks := B.notSynchronized
  have hS : va_S (cE N []) s.heap s.heap [] := va_S.rf
  have hl := lv_entry ([.ref h0, .int p1]) (n := 2) (Nat.le_of_ble_eq_true rfl)
  rw [lg_entry_eq]
  generalize (lg_sl ([.ref h0, .int p1]) ++ List.replicate (2 - (lg_sl ([.ref h0, .int p1])).length) Slot.unset).toArray = ls at hl ⊢
  have hl : lv_has ls 2 [(0, .ref h0), (1, .int p1)] := hl
  refine wq_all ?_
  intro WW w1 w2
  refine lv_iload_n hx hb dX10_fault_0 rfl (lv_at hl 1 rfl) ?_
  by_cases c1_0 : p1.toInt = 0
  · refine lv_lookup (off := 27) (tgt := 28) hx hb dX10_fault_1 (by decide) (by rw [c1_0]; rfl) (by decide) ?_
    refine lv_aload_n hx hb dX10_fault_28 rfl (lv_at hl 0 rfl) ?_
    refine wt_get hx hb hts cfX10 hown hK hW (cg10 k0) rfl 0 (by decide) q293 dX10_fault_29 (fun v hv => ?_)
    obtain ⟨x29, rfl, k29⟩ : gr N 9 v := hv
    refine wt_getp hx hb hts cfX9 hown hK hW (cg9 k29) rfl 2 (by decide) (Or.inr ⟨_, lw_n_use hnn q57⟩) dX10_fault_32 (fun v hv nx29_2 => ?_)
    obtain ⟨x32, rfl⟩ : ga v := hv
    exact W.iret (v := x32) hx hb hr (fun t ht _ => ⟨⟨x32, (), rfl, trivial, cW_at ht hW⟩, hS.F ht⟩) hS.2.2 dX10_fault_35
  · by_cases c1_1 : p1.toInt = 1
    · refine lv_lookup (off := 35) (tgt := 36) hx hb dX10_fault_1 (by decide) (by rw [c1_1]; rfl) (by decide) ?_
      refine lv_aload_n hx hb dX10_fault_36 rfl (lv_at hl 0 rfl) ?_
      refine wt_get hx hb hts cfX10 hown hK hW (cg10 k0) rfl 0 (by decide) q293 dX10_fault_37 (fun v hv => ?_)
      obtain ⟨x37, rfl, k37⟩ : gr N 9 v := hv
      refine wt_getp hx hb hts cfX9 hown hK hW (cg9 k37) rfl 3 (by decide) (Or.inr ⟨_, lw_n_use hnn q59⟩) dX10_fault_40 (fun v hv nx37_3 => ?_)
      obtain ⟨x40, rfl⟩ : ga v := hv
      exact W.iret (v := x40) hx hb hr (fun t ht _ => ⟨⟨x40, (), rfl, trivial, cW_at ht hW⟩, hS.F ht⟩) hS.2.2 dX10_fault_43
    · refine lv_lookup (off := 43) (tgt := 44) hx hb dX10_fault_1 (by decide) (by simp [Op.lookupswitch.offset, Ne.symm c1_0, Ne.symm c1_1]) (by decide) ?_
      refine lv_iconst (v := -1) hx hb dX10_fault_44 (by decide) ?_
      exact W.iret (v := (-1 : Int32)) hx hb hr (fun t ht _ => ⟨⟨(-1 : Int32), (), rfl, trivial, cW_at ht hW⟩, hS.F ht⟩) hS.2.2 dX10_fault_45
set_option maxHeartbeats 4000000 in
set_option maxRecDepth 100000 in
theorem m_X10_between (l : Launch) (N : c_N) (h0 : Nat) (k0 : N.2.2.1 h0 = some 10) (p1 : Int32) (p2 : Int32) : cMi l yX10_between cX10_between 3 .boolean { frames := 1, cells := 0, slots := 0, locals := 20 } [.ref h0, .int p1, .int p2] N [5] cT0 (fun r => ir r 0 1) := by
  refine Met.ofW (cc := cX10_between) (maxL := 3) (ret := some .boolean) (by decide) rfl ?_
  intro p e s m args below meth c s₁ B hml hv
  obtain ⟨rfl, ⟨hK, hW, hT, hnn⟩, hB⟩ := hv
  have hx := B.exec
  have hb := B.bytes
  have hr := B.returns
  have hts : ∀ w ∈ lw_g, w.before _ s = true := fun w h => atoms_spec (ws := wc_ws yX10_between cX10_between 3 (some .boolean)) B.pre w (List.mem_cons_of_mem _ h)
  have hown : s.vm.findClass RX10 = some m.cls := findClass_of_methodNamed B.named
  have hlocks := B.notSynchronized
  have hS : va_S (cE N [5]) s.heap s.heap [] := va_S.rf
  have hl := lv_entry ([.ref h0, .int p1, .int p2]) (n := 3) (Nat.le_of_ble_eq_true rfl)
  rw [lg_entry_eq]
  generalize (lg_sl ([.ref h0, .int p1, .int p2]) ++ List.replicate (3 - (lg_sl ([.ref h0, .int p1, .int p2])).length) Slot.unset).toArray = ls at hl ⊢
  have hl : lv_has ls 3 [(0, .ref h0), (1, .int p1), (2, .int p2)] := hl
  refine wq_all ?_
  intro WW w1 w2
  have J40 : ∀ (H : Heap) (locs : List Loc) (ls : Array Slot) , cW N H → va_S (cE N [5]) s.heap H locs → lv_has ls 3 [(0, .ref h0), (1, .int p1), (2, .int p2)] → ir p1 0 5 → ir p2 0 5 → WW H locs (F0 m 40 ls []) := by
    intro H locs ls  hW hS hl rv40_1 rv40_2
    refine w1 _ _ _ ?_
    refine lv_aload_n hx hb dX10_between_40 rfl (lv_at hl 0 rfl) ?_
    refine wt_get hx hb hts cfX10 hown hK hW (cg10 k0) rfl 3 (by decide) q296 dX10_between_41 (fun v hv => ?_)
    obtain ⟨x41, rfl, k41⟩ : gr N 5 v := hv
    refine lv_iload_n hx hb dX10_between_44 rfl (lv_at hl 1 rfl) ?_
    refine wt_putp hx hb hts cfX5 tyX5 tyX5_ok nmX5 hown hK hW hS (cg5 k41) (ce k41 (by decide)) rfl 2 (by decide) (Or.inr ⟨_, lw_n_use hnn q144⟩) rfl rfl rfl (gi_mk rv40_1) dX10_between_45 (fun H locs hW hS oq o2 np => ?_)
    have nx41_2 : wt_pin N.1 vwCl x41 5 2 (.int p1) H := np
    refine lv_aload_n hx hb dX10_between_48 rfl (lv_at hl 0 rfl) ?_
    refine wt_get hx hb hts cfX10 hown hK hW (cg10 k0) rfl 3 (by decide) q296 dX10_between_49 (fun v hv => ?_)
    obtain ⟨x49, rfl, k49⟩ : gr N 5 v := hv
    refine lv_iload_n hx hb dX10_between_52 rfl (lv_at hl 2 rfl) ?_
    refine wt_putp hx hb hts cfX5 tyX5 tyX5_ok nmX5 hown hK hW hS (cg5 k49) (ce k49 (by decide)) rfl 3 (by decide) (Or.inr ⟨_, lw_n_use hnn q146⟩) rfl rfl rfl (gi_mk rv40_2) dX10_between_53 (fun H locs hW hS oq o2 np => ?_)
    have nx49_3 : wt_pin N.1 vwCl x49 5 3 (.int p2) H := np
    refine lv_iconst (v := 1) hx hb dX10_between_56 (by decide) ?_
    exact W.zret (v := (1 : Int32)) hx hb hr rfl (fun t ht _ => ⟨⟨(1 : Int32), (), rfl, (⟨by decide, by decide⟩), cW_at ht hW⟩, hS.F ht⟩) hS.2.2 dX10_between_57
  refine lv_iload_n hx hb dX10_between_0 rfl (lv_at hl 1 rfl) ?_
  refine cp_i (wt_runS (As := [.int p1]) (rest := []) ⟨hx, hb, hml, hown, hts⟩ (m_X10_isMaterial l p1) wm_X10_isMaterial q437 ⟨rfl, rfl⟩ ⟨Nat.le_of_ble_eq_true rfl, Nat.le_of_ble_eq_true rfl⟩ pS_pre rfl hl.1 rfl (Nat.le_of_ble_eq_true rfl) dX10_between_1 ⟨Nat.zero_le _, Nat.zero_le _⟩) hW hS (fun x1 H locs hp hW hS oq => ?_)
  obtain ⟨r1, b1⟩ := hp
  refine lv_if_eq (tgt := 14) hx hb dX10_between_4 (by decide) (fun c4 => ?_) (fun c4 => ?_)
  · have rx1_4 : ir x1 0 0 := rf_eq c4 (ir_c (0) (by decide) : ir (0 : Int32) (0) (0))
    refine lv_iconst (v := 0) hx hb dX10_between_14 (by decide) ?_
    exact W.zret (v := (0 : Int32)) hx hb hr rfl (fun t ht _ => ⟨⟨(0 : Int32), (), rfl, (⟨by decide, by decide⟩), cW_at ht hW⟩, hS.F ht⟩) hS.2.2 dX10_between_15
  · have rx1_4 : ir x1 1 1 := rf_ne0 c4 r1
    have bx1_4 := b1 c4
    refine lv_iload_n hx hb dX10_between_7 rfl (lv_at hl 2 rfl) ?_
    refine cp_i (wt_runS (As := [.int p2]) (rest := []) ⟨hx, hb, hml, hown, hts⟩ (m_X10_isMaterial l p2) wm_X10_isMaterial q437 ⟨rfl, rfl⟩ ⟨Nat.le_of_ble_eq_true rfl, Nat.le_of_ble_eq_true rfl⟩ pS_pre rfl hl.1 rfl (Nat.le_of_ble_eq_true rfl) dX10_between_8 ⟨Nat.zero_le _, Nat.zero_le _⟩) hW hS (fun x8 H locs hp hW hS oq => ?_)
    obtain ⟨r8, b8⟩ := hp
    refine lv_if_ne (tgt := 16) hx hb dX10_between_11 (by decide) (fun c11 => ?_) (fun c11 => ?_)
    · have rx8_11 : ir x8 1 1 := rf_ne0 c11 r8
      have bx8_11 := b8 c11
      refine lv_iload_n hx hb dX10_between_16 rfl (lv_at hl 1 rfl) ?_
      refine lv_aload_n hx hb dX10_between_17 rfl (lv_at hl 0 rfl) ?_
      refine wt_get hx hb hts cfX10 hown hK hW (cg10 k0) rfl 3 (by decide) q296 dX10_between_18 (fun v hv => ?_)
      obtain ⟨x18, rfl, k18⟩ : gr N 5 v := hv
      refine wt_getp hx hb hts cfX5 hown hK hW (cg5 k18) rfl 2 (by decide) (Or.inr ⟨_, lw_n_use hnn q144⟩) dX10_between_21 (fun v hv nx18_2 => ?_)
      obtain ⟨x21, rfl, r21⟩ : gi 0 5 v := hv
      refine lv_icmp_ne (tgt := 40) hx hb dX10_between_24 (by decide) (fun c24 => ?_) (fun c24 => ?_)
      · exact w2 _ _ _ (J40 _ _ _  hW hS (lv_sub hl [0, 1, 2] rfl) bx1_4 bx8_11)
      · refine lv_iload_n hx hb dX10_between_27 rfl (lv_at hl 2 rfl) ?_
        refine lv_aload_n hx hb dX10_between_28 rfl (lv_at hl 0 rfl) ?_
        refine wt_get hx hb hts cfX10 hown hK hW (cg10 k0) rfl 3 (by decide) q296 dX10_between_29 (fun v hv => ?_)
        obtain ⟨x29, rfl, k29⟩ : gr N 5 v := hv
        refine wt_getp hx hb hts cfX5 hown hK hW (cg5 k29) rfl 3 (by decide) (Or.inr ⟨_, lw_n_use hnn q146⟩) dX10_between_32 (fun v hv nx29_3 => ?_)
        obtain ⟨x32, rfl, r32⟩ : gi 0 5 v := hv
        refine lv_icmp_ne (tgt := 40) hx hb dX10_between_35 (by decide) (fun c35 => ?_) (fun c35 => ?_)
        · exact w2 _ _ _ (J40 _ _ _  hW hS (lv_sub hl [0, 1, 2] rfl) bx1_4 bx8_11)
        · refine lv_iconst (v := 0) hx hb dX10_between_38 (by decide) ?_
          exact W.zret (v := (0 : Int32)) hx hb hr rfl (fun t ht _ => ⟨⟨(0 : Int32), (), rfl, (⟨by decide, by decide⟩), cW_at ht hW⟩, hS.F ht⟩) hS.2.2 dX10_between_39
    · have rx8_11 : ir x8 0 0 := rf_eq c11 (ir_c (0) (by decide) : ir (0 : Int32) (0) (0))
      refine lv_iconst (v := 0) hx hb dX10_between_14 (by decide) ?_
      exact W.zret (v := (0 : Int32)) hx hb hr rfl (fun t ht _ => ⟨⟨(0 : Int32), (), rfl, (⟨by decide, by decide⟩), cW_at ht hW⟩, hS.F ht⟩) hS.2.2 dX10_between_15
set_option maxHeartbeats 4000000 in
set_option maxRecDepth 100000 in
theorem m_X10_material (l : Launch) (N : c_N) (h0 : Nat) (k0 : N.2.2.1 h0 = some 10) (p1 : Int32) (p2 : Int32) : cMi l yX10_material cX10_material 3 .int { frames := 2, cells := 0, slots := 0, locals := 43 } [.ref h0, .int p1, .int p2] N [] cT0 (fun _ => True) := by
  refine Met.ofW (cc := cX10_material) (maxL := 3) (ret := some .int) (by decide) rfl ?_
  intro p e s m args below meth c s₁ B hml hv
  obtain ⟨rfl, ⟨hK, hW, hT, hnn⟩, hB⟩ := hv
  have hx := B.exec
  have hb := B.bytes
  have hr := B.returns
  have hts : ∀ w ∈ lw_g, w.before _ s = true := fun w h => atoms_spec (ws := wc_ws yX10_material cX10_material 3 (some .int)) B.pre w (List.mem_cons_of_mem _ h)
  have hown : s.vm.findClass RX10 = some m.cls := findClass_of_methodNamed B.named
  have hlocks := B.notSynchronized
  have hS : va_S (cE N []) s.heap s.heap [] := va_S.rf
  have hl := lv_entry ([.ref h0, .int p1, .int p2]) (n := 3) (Nat.le_of_ble_eq_true rfl)
  rw [lg_entry_eq]
  generalize (lg_sl ([.ref h0, .int p1, .int p2]) ++ List.replicate (3 - (lg_sl ([.ref h0, .int p1, .int p2])).length) Slot.unset).toArray = ls at hl ⊢
  have hl : lv_has ls 3 [(0, .ref h0), (1, .int p1), (2, .int p2)] := hl
  refine wq_all ?_
  intro WW w1 w2
  refine lv_iload_n hx hb dX10_material_0 rfl (lv_at hl 1 rfl) ?_
  refine cp_i (wt_runS (As := [.int p1]) (rest := []) ⟨hx, hb, hml, hown, hts⟩ (m_X10_isMaterial l p1) wm_X10_isMaterial q437 ⟨rfl, rfl⟩ ⟨Nat.le_of_ble_eq_true rfl, Nat.le_of_ble_eq_true rfl⟩ pS_pre rfl hl.1 rfl (Nat.le_of_ble_eq_true rfl) dX10_material_1 ⟨Nat.zero_le _, Nat.zero_le _⟩) hW hS (fun x1 H locs hp hW hS oq => ?_)
  obtain ⟨r1, b1⟩ := hp
  refine lv_if_ne (tgt := 9) hx hb dX10_material_4 (by decide) (fun c4 => ?_) (fun c4 => ?_)
  · have rx1_4 : ir x1 1 1 := rf_ne0 c4 r1
    have bx1_4 := b1 c4
    refine lv_iload_n hx hb dX10_material_9 rfl (lv_at hl 2 rfl) ?_
    by_cases c10 : p2.toInt < 0 ∨ 4 < p2.toInt
    · refine lv_tableOut (tgt := 107) hx hb dX10_material_10 c10 (by decide) ?_
      refine lv_iconst (v := -1) hx hb dX10_material_107 (by decide) ?_
      exact W.iret (v := (-1 : Int32)) hx hb hr (fun t ht _ => ⟨⟨(-1 : Int32), (), rfl, trivial, cW_at ht hW⟩, hS.F ht⟩) hS.2.2 dX10_material_108
    · rcases (show p2.toInt = 0 ∨ p2.toInt = 1 ∨ p2.toInt = 2 ∨ p2.toInt = 3 ∨ p2.toInt = 4 by omega) with d10 | d10 | d10 | d10 | d10
      · refine lv_tableIn (off := 34) (tgt := 44) hx hb dX10_material_10 (by omega) (by omega) (by rw [d10]; rfl) (by decide) ?_
        refine lv_aload_n hx hb dX10_material_44 rfl (lv_at hl 0 rfl) ?_
        refine wt_get hx hb hts cfX10 hown hK hW (cg10 k0) rfl 3 (by decide) q296 dX10_material_45 (fun v hv => ?_)
        obtain ⟨x45, rfl, k45⟩ : gr N 5 v := hv
        refine wt_getN hx hb hts cfX5 hown hK hW (cg5 k45) rfl 0 (by decide) hnn q139 dX10_material_48 (fun v hv => ?_)
        obtain ⟨x48, rfl, k48⟩ : gr N 27 v := hv
        refine lv_iload_n hx hb dX10_material_51 rfl (lv_at hl 1 rfl) ?_
        refine wt_iald hx hb hK hW 0 (cg27 k48) rfl (ir_in bx1_4 (by decide) (by decide)) dX10_material_52 (fun v hv => ?_)
        have hv : v = .int _ := hv
        subst hv
        refine lv_topi (fun x52 e52 => ?_)
        exact W.iret (v := x52) hx hb hr (fun t ht _ => ⟨⟨x52, (), rfl, trivial, cW_at ht hW⟩, hS.F ht⟩) hS.2.2 dX10_material_53
      · refine lv_tableIn (off := 44) (tgt := 54) hx hb dX10_material_10 (by omega) (by omega) (by rw [d10]; rfl) (by decide) ?_
        refine lv_aload_n hx hb dX10_material_54 rfl (lv_at hl 0 rfl) ?_
        refine wt_get hx hb hts cfX10 hown hK hW (cg10 k0) rfl 3 (by decide) q296 dX10_material_55 (fun v hv => ?_)
        obtain ⟨x55, rfl, k55⟩ : gr N 5 v := hv
        refine wt_getN hx hb hts cfX5 hown hK hW (cg5 k55) rfl 1 (by decide) hnn q142 dX10_material_58 (fun v hv => ?_)
        obtain ⟨x58, rfl, k58⟩ : gr N 28 v := hv
        refine lv_iload_n hx hb dX10_material_61 rfl (lv_at hl 1 rfl) ?_
        refine wt_iald hx hb hK hW 0 (cg28 k58) rfl (ir_in bx1_4 (by decide) (by decide)) dX10_material_62 (fun v hv => ?_)
        have hv : v = .int _ := hv
        subst hv
        refine lv_topi (fun x62 e62 => ?_)
        exact W.iret (v := x62) hx hb hr (fun t ht _ => ⟨⟨x62, (), rfl, trivial, cW_at ht hW⟩, hS.F ht⟩) hS.2.2 dX10_material_63
      · refine lv_tableIn (off := 54) (tgt := 64) hx hb dX10_material_10 (by omega) (by omega) (by rw [d10]; rfl) (by decide) ?_
        refine lv_iload_n hx hb dX10_material_64 rfl (lv_at hl 1 rfl) ?_
        refine lv_aload_n hx hb dX10_material_65 rfl (lv_at hl 0 rfl) ?_
        refine wt_get hx hb hts cfX10 hown hK hW (cg10 k0) rfl 3 (by decide) q296 dX10_material_66 (fun v hv => ?_)
        obtain ⟨x66, rfl, k66⟩ : gr N 5 v := hv
        refine wt_getp hx hb hts cfX5 hown hK hW (cg5 k66) rfl 2 (by decide) (Or.inr ⟨_, lw_n_use hnn q144⟩) dX10_material_69 (fun v hv nx66_2 => ?_)
        obtain ⟨x69, rfl, r69⟩ : gi 0 5 v := hv
        refine lv_icmp_ne (tgt := 79) hx hb dX10_material_72 (by decide) (fun c72 => ?_) (fun c72 => ?_)
        · refine lv_iconst (v := 0) hx hb dX10_material_79 (by decide) ?_
          exact W.iret (v := (0 : Int32)) hx hb hr (fun t ht _ => ⟨⟨(0 : Int32), (), rfl, trivial, cW_at ht hW⟩, hS.F ht⟩) hS.2.2 dX10_material_80
        · refine lv_iconst (v := 1) hx hb dX10_material_75 (by decide) ?_
          refine lv_goto (tgt := 80) hx hb dX10_material_76 (by decide) ?_
          exact W.iret (v := (1 : Int32)) hx hb hr (fun t ht _ => ⟨⟨(1 : Int32), (), rfl, trivial, cW_at ht hW⟩, hS.F ht⟩) hS.2.2 dX10_material_80
      · refine lv_tableIn (off := 71) (tgt := 81) hx hb dX10_material_10 (by omega) (by omega) (by rw [d10]; rfl) (by decide) ?_
        refine lv_iload_n hx hb dX10_material_81 rfl (lv_at hl 1 rfl) ?_
        refine lv_aload_n hx hb dX10_material_82 rfl (lv_at hl 0 rfl) ?_
        refine wt_get hx hb hts cfX10 hown hK hW (cg10 k0) rfl 3 (by decide) q296 dX10_material_83 (fun v hv => ?_)
        obtain ⟨x83, rfl, k83⟩ : gr N 5 v := hv
        refine wt_getp hx hb hts cfX5 hown hK hW (cg5 k83) rfl 3 (by decide) (Or.inr ⟨_, lw_n_use hnn q146⟩) dX10_material_86 (fun v hv nx83_3 => ?_)
        obtain ⟨x86, rfl, r86⟩ : gi 0 5 v := hv
        refine lv_icmp_ne (tgt := 96) hx hb dX10_material_89 (by decide) (fun c89 => ?_) (fun c89 => ?_)
        · refine lv_iconst (v := 0) hx hb dX10_material_96 (by decide) ?_
          exact W.iret (v := (0 : Int32)) hx hb hr (fun t ht _ => ⟨⟨(0 : Int32), (), rfl, trivial, cW_at ht hW⟩, hS.F ht⟩) hS.2.2 dX10_material_97
        · refine lv_iconst (v := 1) hx hb dX10_material_92 (by decide) ?_
          refine lv_goto (tgt := 97) hx hb dX10_material_93 (by decide) ?_
          exact W.iret (v := (1 : Int32)) hx hb hr (fun t ht _ => ⟨⟨(1 : Int32), (), rfl, trivial, cW_at ht hW⟩, hS.F ht⟩) hS.2.2 dX10_material_97
      · refine lv_tableIn (off := 88) (tgt := 98) hx hb dX10_material_10 (by omega) (by omega) (by rw [d10]; rfl) (by decide) ?_
        refine lv_aload_n hx hb dX10_material_98 rfl (lv_at hl 0 rfl) ?_
        refine wt_get hx hb hts cfX10 hown hK hW (cg10 k0) rfl 1 (by decide) q294 dX10_material_99 (fun v hv => ?_)
        obtain ⟨x99, rfl, k99⟩ : gr N 3 v := hv
        refine lv_iload_n hx hb dX10_material_102 rfl (lv_at hl 1 rfl) ?_
        refine cc_i (wt_runV (As := [.int p1]) (rest := []) ⟨hx, hb, hml, hown, hts⟩ (m_X3_countOfMaterial l N x99 k99 p1) wm_X3_countOfMaterial q453 ⟨rfl, rfl⟩ ⟨Nat.le_of_ble_eq_true rfl, Nat.le_of_ble_eq_true rfl⟩ (cS_preV hK hW hT hnn hS (cg3 k99) rfl rfl trivial) rfl hl.1 rfl (Nat.le_of_ble_eq_true rfl) dX10_material_103 ⟨Nat.zero_le _, Nat.zero_le _⟩) hS (by decide) (fun x103 H locs hp hW hS oq => ?_)
        exact W.iret (v := x103) hx hb hr (fun t ht _ => ⟨⟨x103, (), rfl, trivial, cW_at ht hW⟩, hS.F ht⟩) hS.2.2 dX10_material_106
  · have rx1_4 : ir x1 0 0 := rf_eq c4 (ir_c (0) (by decide) : ir (0 : Int32) (0) (0))
    refine lv_iconst (v := -1) hx hb dX10_material_7 (by decide) ?_
    exact W.iret (v := (-1 : Int32)) hx hb hr (fun t ht _ => ⟨⟨(-1 : Int32), (), rfl, trivial, cW_at ht hW⟩, hS.F ht⟩) hS.2.2 dX10_material_8
set_option maxHeartbeats 4000000 in
set_option maxRecDepth 100000 in
theorem m_X10_layer (l : Launch) (N : c_N) (h0 : Nat) (k0 : N.2.2.1 h0 = some 10) (p1 : Int32) (p2 : Int32) : cMi l yX10_layer cX10_layer 3 .int { frames := 3, cells := 0, slots := 0, locals := 84 } [.ref h0, .int p1, .int p2] N [8] cT0 (fun _ => True) := by
  refine Met.ofW (cc := cX10_layer) (maxL := 3) (ret := some .int) (by decide) rfl ?_
  intro p e s m args below meth c s₁ B hml hv
  obtain ⟨rfl, ⟨hK, hW, hT, hnn⟩, hB⟩ := hv
  have hx := B.exec
  have hb := B.bytes
  have hr := B.returns
  have hts : ∀ w ∈ lw_g, w.before _ s = true := fun w h => atoms_spec (ws := wc_ws yX10_layer cX10_layer 3 (some .int)) B.pre w (List.mem_cons_of_mem _ h)
  have hown : s.vm.findClass RX10 = some m.cls := findClass_of_methodNamed B.named
  have hlocks := B.notSynchronized
  have hS : va_S (cE N [8]) s.heap s.heap [] := va_S.rf
  have hl := lv_entry ([.ref h0, .int p1, .int p2]) (n := 3) (Nat.le_of_ble_eq_true rfl)
  rw [lg_entry_eq]
  generalize (lg_sl ([.ref h0, .int p1, .int p2]) ++ List.replicate (3 - (lg_sl ([.ref h0, .int p1, .int p2])).length) Slot.unset).toArray = ls at hl ⊢
  have hl : lv_has ls 3 [(0, .ref h0), (1, .int p1), (2, .int p2)] := hl
  refine wq_all ?_
  intro WW w1 w2
  refine lv_iload_n hx hb dX10_layer_0 rfl (lv_at hl 1 rfl) ?_
  refine lv_iconst (v := -1) hx hb dX10_layer_1 (by decide) ?_
  refine lv_icmp_ne (tgt := 13) hx hb dX10_layer_2 (by decide) (fun c2 => ?_) (fun c2 => ?_)
  · refine lv_aload_n hx hb dX10_layer_13 rfl (lv_at hl 0 rfl) ?_
    refine wt_get hx hb hts cfX10 hown hK hW (cg10 k0) rfl 1 (by decide) q294 dX10_layer_14 (fun v hv => ?_)
    obtain ⟨x14, rfl, k14⟩ : gr N 3 v := hv
    refine lv_iload_n hx hb dX10_layer_17 rfl (lv_at hl 1 rfl) ?_
    obtain ⟨v, hv, nx14_1⟩ := cpin hW (cg3 k14) rfl 1 (by decide)
    obtain ⟨x18_1, rfl, r18_1⟩ : gi 0 24 v := hv
    refine cc_i (wt_runV (As := [.int p1]) (rest := []) ⟨hx, hb, hml, hown, hts⟩ (m_X3_has l N x14 k14 p1 x18_1) wm_X3_has q464 ⟨rfl, rfl⟩ ⟨Nat.le_of_ble_eq_true rfl, Nat.le_of_ble_eq_true rfl⟩ (cS_preV hK hW hT hnn hS (cg3 k14) rfl rfl nx14_1) rfl hl.1 rfl (Nat.le_of_ble_eq_true rfl) dX10_layer_18 ⟨Nat.zero_le _, Nat.zero_le _⟩) hS (by decide) (fun x18 H locs hp hW hS oq => ?_)
    have nx14_1 := nx14_1.kept (oq _ nx14_1.lt (cE_not k14 (by decide)))
    obtain ⟨r18, b18⟩ := hp
    refine lv_if_eq (tgt := 34) hx hb dX10_layer_21 (by decide) (fun c21 => ?_) (fun c21 => ?_)
    · have rx18_21 : ir x18 0 0 := rf_eq c21 (ir_c (0) (by decide) : ir (0 : Int32) (0) (0))
      refine lv_sipush (v := -10000) hx hb dX10_layer_34 (by decide) ?_
      exact W.iret (v := (-10000 : Int32)) hx hb hr (fun t ht _ => ⟨⟨(-10000 : Int32), (), rfl, trivial, cW_at ht hW⟩, hS.F ht⟩) hS.2.2 dX10_layer_37
    · have rx18_21 : ir x18 1 1 := rf_ne0 c21 r18
      have bx18_21 := b18 c21
      have rx18_1_21_1 : ir x18_1 1 24 := ⟨Int.le_trans (by decide) (rf_lt bx18_21.2 bx18_21.1 r18_1).2, (r18_1).2⟩
      refine lv_iload_n hx hb dX10_layer_24 rfl (lv_at hl 2 rfl) ?_
      refine lv_if_lt (tgt := 34) hx hb dX10_layer_25 (by decide) (fun c25 => ?_) (fun c25 => ?_)
      · have rp2_25 : ir p2 (-2147483648) (-1) := ⟨((ir_any p2)).1, Int.le_trans (rf_lt c25 (ir_any p2) (ir_c (0) (by decide) : ir (0 : Int32) (0) (0))).1 (by decide)⟩
        refine lv_sipush (v := -10000) hx hb dX10_layer_34 (by decide) ?_
        exact W.iret (v := (-10000 : Int32)) hx hb hr (fun t ht _ => ⟨⟨(-10000 : Int32), (), rfl, trivial, cW_at ht hW⟩, hS.F ht⟩) hS.2.2 dX10_layer_37
      · have rp2_25 : ir p2 0 2147483647 := ⟨Int.le_trans (by decide) (rf_le (rf_nlt c25) (ir_c (0) (by decide) : ir (0 : Int32) (0) (0)) (ir_any p2)).2, ((ir_any p2)).2⟩
        refine lv_iload_n hx hb dX10_layer_28 rfl (lv_at hl 2 rfl) ?_
        refine lv_bipush (v := 8) hx hb dX10_layer_29 (by decide) ?_
        refine lv_icmp_le (tgt := 38) hx hb dX10_layer_31 (by decide) (fun c31 => ?_) (fun c31 => ?_)
        · have rp2_31 : ir p2 0 8 := ⟨(rp2_25).1, Int.le_trans (rf_le c31 rp2_25 (ir_c (8) (by decide) : ir (8 : Int32) (8) (8))).1 (by decide)⟩
          refine lv_iload_n hx hb dX10_layer_38 rfl (lv_at hl 2 rfl) ?_
          refine lv_if_ne (tgt := 55) hx hb dX10_layer_39 (by decide) (fun c39 => ?_) (fun c39 => ?_)
          · have rp2_39 : ir p2 1 8 := rf_ne0 c39 rp2_31
            refine lv_aload_n hx hb dX10_layer_55 rfl (lv_at hl 0 rfl) ?_
            refine wt_get hx hb hts cfX10 hown hK hW (cg10 k0) rfl 8 (by decide) q301 dX10_layer_56 (fun v hv => ?_)
            obtain ⟨x56, rfl, k56⟩ : gr N 8 v := hv
            refine lv_aload_n hx hb dX10_layer_59 rfl (lv_at hl 0 rfl) ?_
            refine wt_get hx hb hts cfX10 hown hK hW (cg10 k0) rfl 1 (by decide) q294 dX10_layer_60 (fun v hv => ?_)
            obtain ⟨x60, rfl, k60⟩ : gr N 3 v := hv
            refine wt_getN hx hb hts cfX3 hown hK hW (cg3 k60) rfl 0 (by decide) hnn q41 dX10_layer_63 (fun v hv => ?_)
            obtain ⟨x63, rfl, k63⟩ : gr N 20 v := hv
            refine lv_iload_n hx hb dX10_layer_66 rfl (lv_at hl 1 rfl) ?_
            refine wt_iald hx hb hK hW 0 (cg20 k63) rfl (ir_in bx18_21.1 (by decide) (by decide)) dX10_layer_67 (fun v hv => ?_)
            obtain ⟨x67, rfl, r67⟩ : gi 0 383 v := hv
            refine cc_v (wt_runV (As := [.int x67]) (rest := []) ⟨hx, hb, hml, hown, hts⟩ (m_X8_ofCode l N x56 k56 x67) wm_X8_ofCode q469 ⟨rfl, rfl⟩ ⟨Nat.le_of_ble_eq_true rfl, Nat.le_of_ble_eq_true rfl⟩ (cS_preV hK hW hT hnn hS (cg8 k56) rfl rfl trivial) rfl hl.1 rfl (Nat.le_of_ble_eq_true rfl) dX10_layer_68 ⟨Nat.zero_le _, Nat.zero_le _⟩) hS (by decide) (fun H locs hW hS oq hB2 => ?_)
            have nx14_1 := nx14_1.kept (oq _ nx14_1.lt (cE_not k14 (by decide)))
            refine lv_aload_n hx hb dX10_layer_71 rfl (lv_at hl 0 rfl) ?_
            refine wt_get hx hb hts cfX10 hown hK hW (cg10 k0) rfl 8 (by decide) q301 dX10_layer_72 (fun v hv => ?_)
            obtain ⟨x72, rfl, k72⟩ : gr N 8 v := hv
            refine lv_iload_n hx hb dX10_layer_75 rfl (lv_at hl 2 rfl) ?_
            refine lv_iconst (v := 1) hx hb dX10_layer_76 (by decide) ?_
            refine lv_iadd hx hb dX10_layer_77 ?_
            refine lv_topi (fun x77 e77 => ?_)
            have t77 : x77.toInt = p2.toInt + (1) := it_add e77 rp2_39 (ir_c (1) (by decide) : ir (1 : Int32) (1) (1)) (by decide) (by decide)
            have r77 : ir x77 2 9 := ir_w (ir_add e77 rp2_39 (ir_c (1) (by decide) : ir (1 : Int32) (1) (1)) (by decide) (by decide)) (by decide) (by decide)
            refine lv_iconst (v := 2) hx hb dX10_layer_78 (by decide) ?_
            refine lv_idiv hx hb dX10_layer_79 (by decide) ?_
            refine lv_topi (fun x79 e79 => ?_)
            have r79 : ir x79 1 4 := by have t := ir_divc e79 r77 (by decide) 2 (by decide) (by decide) (by decide); have h9 := r77; constructor <;> omega
            refine cc_v (wt_runV (As := [.int x79]) (rest := []) ⟨hx, hb, hml, hown, hts⟩ (m_X8_raise l N x72 k72 x79 r79) wm_X8_raise q479 ⟨rfl, rfl⟩ ⟨Nat.le_of_ble_eq_true rfl, Nat.le_of_ble_eq_true rfl⟩ (cS_preV hK hW hT hnn hS (cg8 k72) rfl rfl trivial) rfl hl.1 rfl (Nat.le_of_ble_eq_true rfl) dX10_layer_80 ⟨Nat.zero_le _, Nat.zero_le _⟩) hS (by decide) (fun H locs hW hS oq hB2 => ?_)
            have nx14_1 := nx14_1.kept (oq _ nx14_1.lt (cE_not k14 (by decide)))
            refine lv_iload_n hx hb dX10_layer_83 rfl (lv_at hl 2 rfl) ?_
            refine lv_iconst (v := 2) hx hb dX10_layer_84 (by decide) ?_
            refine lv_irem hx hb dX10_layer_85 (by decide) ?_
            refine lv_topi (fun x85 e85 => ?_)
            have r85 : ir x85 0 1 := ir_remr e85 rp2_39 (by decide) 2 (by decide) (by decide) (by decide) (by decide)
            refine lv_iconst (v := 1) hx hb dX10_layer_86 (by decide) ?_
            refine lv_icmp_ne (tgt := 100) hx hb dX10_layer_87 (by decide) (fun c87 => ?_) (fun c87 => ?_)
            · refine lv_aload_n hx hb dX10_layer_100 rfl (lv_at hl 0 rfl) ?_
              refine wt_get hx hb hts cfX10 hown hK hW (cg10 k0) rfl 8 (by decide) q301 dX10_layer_101 (fun v hv => ?_)
              obtain ⟨x101, rfl, k101⟩ : gr N 8 v := hv
              refine wt_getp hx hb hts cfX8 hown hK hW (cg8 k101) rfl 1 (by decide) (Or.inr ⟨_, lw_n_use hnn q175⟩) dX10_layer_104 (fun v hv nx101_1 => ?_)
              obtain ⟨x104, rfl⟩ : gl v := hv
              refine lv_l2i hx hb dX10_layer_107 rfl ?_
              refine lv_topi (fun x107 e107 => ?_)
              exact W.iret (v := x107) hx hb hr (fun t ht _ => ⟨⟨x107, (), rfl, trivial, cW_at ht hW⟩, hS.F ht⟩) hS.2.2 dX10_layer_108
            · have rx85_87 : ir x85 1 1 := rf_eq c87 (ir_c (1) (by decide) : ir (1 : Int32) (1) (1))
              refine lv_aload_n hx hb dX10_layer_90 rfl (lv_at hl 0 rfl) ?_
              refine wt_get hx hb hts cfX10 hown hK hW (cg10 k0) rfl 8 (by decide) q301 dX10_layer_91 (fun v hv => ?_)
              obtain ⟨x91, rfl, k91⟩ : gr N 8 v := hv
              refine wt_getp hx hb hts cfX8 hown hK hW (cg8 k91) rfl 0 (by decide) (Or.inr ⟨_, lw_n_use hnn q172⟩) dX10_layer_94 (fun v hv nx91_0 => ?_)
              obtain ⟨x94, rfl⟩ : gl v := hv
              refine lv_goto (tgt := 107) hx hb dX10_layer_97 (by decide) ?_
              refine lv_l2i hx hb dX10_layer_107 rfl ?_
              refine lv_topi (fun x107 e107 => ?_)
              exact W.iret (v := x107) hx hb hr (fun t ht _ => ⟨⟨x107, (), rfl, trivial, cW_at ht hW⟩, hS.F ht⟩) hS.2.2 dX10_layer_108
          · have rp2_39 : ir p2 0 0 := rf_eq c39 (ir_c (0) (by decide) : ir (0 : Int32) (0) (0))
            refine lv_aload_n hx hb dX10_layer_42 rfl (lv_at hl 0 rfl) ?_
            refine wt_get hx hb hts cfX10 hown hK hW (cg10 k0) rfl 1 (by decide) q294 dX10_layer_43 (fun v hv => ?_)
            obtain ⟨x43, rfl, k43⟩ : gr N 3 v := hv
            refine wt_getN hx hb hts cfX3 hown hK hW (cg3 k43) rfl 0 (by decide) hnn q41 dX10_layer_46 (fun v hv => ?_)
            obtain ⟨x46, rfl, k46⟩ : gr N 20 v := hv
            refine lv_iload_n hx hb dX10_layer_49 rfl (lv_at hl 1 rfl) ?_
            refine wt_iald hx hb hK hW 0 (cg20 k46) rfl (ir_in bx18_21.1 (by decide) (by decide)) dX10_layer_50 (fun v hv => ?_)
            obtain ⟨x50, rfl, r50⟩ : gi 0 383 v := hv
            refine cp_i (wt_runS (As := [.int x50]) (rest := []) ⟨hx, hb, hml, hown, hts⟩ (m_X10_materialOf l x50 r50) wm_X10_materialOf q468 ⟨rfl, rfl⟩ ⟨Nat.le_of_ble_eq_true rfl, Nat.le_of_ble_eq_true rfl⟩ pS_pre rfl hl.1 rfl (Nat.le_of_ble_eq_true rfl) dX10_layer_51 ⟨Nat.zero_le _, Nat.zero_le _⟩) hW hS (fun x51 H locs hp hW hS oq => ?_)
            have nx14_1 := nx14_1.kept (oq _ nx14_1.lt (cE_not k14 (by decide)))
            have r51 : ir x51 0 5 := hp
            exact W.iret (v := x51) hx hb hr (fun t ht _ => ⟨⟨x51, (), rfl, trivial, cW_at ht hW⟩, hS.F ht⟩) hS.2.2 dX10_layer_54
        · have rp2_31 : ir p2 9 2147483647 := ⟨Int.le_trans (by decide) (rf_lt (rf_nle c31) (ir_c (8) (by decide) : ir (8 : Int32) (8) (8)) rp2_25).2, (rp2_25).2⟩
          refine lv_sipush (v := -10000) hx hb dX10_layer_34 (by decide) ?_
          exact W.iret (v := (-10000 : Int32)) hx hb hr (fun t ht _ => ⟨⟨(-10000 : Int32), (), rfl, trivial, cW_at ht hW⟩, hS.F ht⟩) hS.2.2 dX10_layer_37
  · have rp1_2 : ir p1 (-1) (-1) := rf_eq c2 (ir_c (-1) (by decide) : ir (-1 : Int32) (-1) (-1))
    refine lv_aload_n hx hb dX10_layer_5 rfl (lv_at hl 0 rfl) ?_
    refine wt_get hx hb hts cfX10 hown hK hW (cg10 k0) rfl 1 (by decide) q294 dX10_layer_6 (fun v hv => ?_)
    obtain ⟨x6, rfl, k6⟩ : gr N 3 v := hv
    refine wt_getp hx hb hts cfX3 hown hK hW (cg3 k6) rfl 1 (by decide) (Or.inr ⟨_, lw_n_use hnn q46⟩) dX10_layer_9 (fun v hv nx6_1 => ?_)
    obtain ⟨x9, rfl, r9⟩ : gi 0 24 v := hv
    exact W.iret (v := x9) hx hb hr (fun t ht _ => ⟨⟨x9, (), rfl, trivial, cW_at ht hW⟩, hS.F ht⟩) hS.2.2 dX10_layer_12
set_option maxHeartbeats 4000000 in
set_option maxRecDepth 100000 in
theorem m_X10_cut (l : Launch) (N : c_N) (h0 : Nat) (k0 : N.2.2.1 h0 = some 10) (p1 : Int32) : cMi l yX10_cut cX10_cut 2 .int { frames := 3, cells := 0, slots := 0, locals := 83 } [.ref h0, .int p1] N [1, 3, 20, 30] cT0 (fun _ => True) := by
  refine Met.ofW (cc := cX10_cut) (maxL := 2) (ret := some .int) (by decide) rfl ?_
  intro p e s m args below meth c s₁ B hml hv
  obtain ⟨rfl, ⟨hK, hW, hT, hnn⟩, hB⟩ := hv
  have hx := B.exec
  have hb := B.bytes
  have hr := B.returns
  have hts : ∀ w ∈ lw_g, w.before _ s = true := fun w h => atoms_spec (ws := wc_ws yX10_cut cX10_cut 2 (some .int)) B.pre w (List.mem_cons_of_mem _ h)
  have hown : s.vm.findClass RX10 = some m.cls := findClass_of_methodNamed B.named
  have hlocks := B.notSynchronized
  have hS : va_S (cE N [1, 3, 20, 30]) s.heap s.heap [] := va_S.rf
  have hl := lv_entry ([.ref h0, .int p1]) (n := 2) (Nat.le_of_ble_eq_true rfl)
  rw [lg_entry_eq]
  generalize (lg_sl ([.ref h0, .int p1]) ++ List.replicate (2 - (lg_sl ([.ref h0, .int p1])).length) Slot.unset).toArray = ls at hl ⊢
  have hl : lv_has ls 2 [(0, .ref h0), (1, .int p1)] := hl
  refine wq_all ?_
  intro WW w1 w2
  refine lv_aload_n hx hb dX10_cut_0 rfl (lv_at hl 0 rfl) ?_
  refine wt_get hx hb hts cfX10 hown hK hW (cg10 k0) rfl 1 (by decide) q294 dX10_cut_1 (fun v hv => ?_)
  obtain ⟨x1, rfl, k1⟩ : gr N 3 v := hv
  refine lv_iload_n hx hb dX10_cut_4 rfl (lv_at hl 1 rfl) ?_
  obtain ⟨v, hv, nx1_1⟩ := cpin hW (cg3 k1) rfl 1 (by decide)
  obtain ⟨x5_1, rfl, r5_1⟩ : gi 0 24 v := hv
  refine cc_i (wt_runV (As := [.int p1]) (rest := []) ⟨hx, hb, hml, hown, hts⟩ (m_X3_has l N x1 k1 p1 x5_1) wm_X3_has q464 ⟨rfl, rfl⟩ ⟨Nat.le_of_ble_eq_true rfl, Nat.le_of_ble_eq_true rfl⟩ (cS_preV hK hW hT hnn hS (cg3 k1) rfl rfl nx1_1) rfl hl.1 rfl (Nat.le_of_ble_eq_true rfl) dX10_cut_5 ⟨Nat.zero_le _, Nat.zero_le _⟩) hS (by decide) (fun x5 H locs hp hW hS oq => ?_)
  have nx1_1 := nx1_1.kept (oq _ nx1_1.lt (cE_not k1 (by decide)))
  obtain ⟨r5, b5⟩ := hp
  refine lv_if_ne (tgt := 13) hx hb dX10_cut_8 (by decide) (fun c8 => ?_) (fun c8 => ?_)
  · have rx5_8 : ir x5 1 1 := rf_ne0 c8 r5
    have bx5_8 := b5 c8
    have rx5_1_8_1 : ir x5_1 1 24 := ⟨Int.le_trans (by decide) (rf_lt bx5_8.2 bx5_8.1 r5_1).2, (r5_1).2⟩
    refine lv_aload_n hx hb dX10_cut_13 rfl (lv_at hl 0 rfl) ?_
    refine wt_get hx hb hts cfX10 hown hK hW (cg10 k0) rfl 2 (by decide) q295 dX10_cut_14 (fun v hv => ?_)
    obtain ⟨x14, rfl, k14⟩ : gr N 1 v := hv
    refine lv_aload_n hx hb dX10_cut_17 rfl (lv_at hl 0 rfl) ?_
    refine wt_get hx hb hts cfX10 hown hK hW (cg10 k0) rfl 1 (by decide) q294 dX10_cut_18 (fun v hv => ?_)
    obtain ⟨x18, rfl, k18⟩ : gr N 3 v := hv
    refine lv_iconst (v := 0) hx hb dX10_cut_21 (by decide) ?_
    refine cc_v (wt_runV (As := [.ref x18, .int (0 : Int32)]) (rest := []) ⟨hx, hb, hml, hown, hts⟩ (m_X1_keep l N x14 k14 x18 k18 (0 : Int32) (ir_w (lo' := 0) (hi' := 1) (ir_c (0) (by decide) : ir (0 : Int32) (0) (0)) (by decide) (by decide))) wm_X1_keep q416 ⟨rfl, rfl⟩ ⟨Nat.le_of_ble_eq_true rfl, Nat.le_of_ble_eq_true rfl⟩ (cS_preV hK hW hT hnn hS (cg1 k14) rfl rfl trivial) rfl hl.1 rfl (Nat.le_of_ble_eq_true rfl) dX10_cut_22 ⟨Nat.zero_le _, Nat.zero_le _⟩) hS (by decide) (fun H locs hW hS oq hB2 => ?_)
    refine lv_aload_n hx hb dX10_cut_25 rfl (lv_at hl 0 rfl) ?_
    refine wt_get hx hb hts cfX10 hown hK hW (cg10 k0) rfl 1 (by decide) q294 dX10_cut_26 (fun v hv => ?_)
    obtain ⟨x26, rfl, k26⟩ : gr N 3 v := hv
    refine lv_iload_n hx hb dX10_cut_29 rfl (lv_at hl 1 rfl) ?_
    refine cc_v (wt_runV (As := [.int p1]) (rest := []) ⟨hx, hb, hml, hown, hts⟩ (m_X3_remove l N x26 k26 p1) wm_X3_remove q502 ⟨rfl, rfl⟩ ⟨Nat.le_of_ble_eq_true rfl, Nat.le_of_ble_eq_true rfl⟩ (cS_preV hK hW hT hnn hS (cg3 k26) rfl rfl trivial) rfl hl.1 rfl (Nat.le_of_ble_eq_true rfl) dX10_cut_30 ⟨Nat.zero_le _, Nat.zero_le _⟩) hS (by decide) (fun H locs hW hS oq hB2 => ?_)
    refine lv_aload_n hx hb dX10_cut_33 rfl (lv_at hl 0 rfl) ?_
    refine wt_get hx hb hts cfX10 hown hK hW (cg10 k0) rfl 1 (by decide) q294 dX10_cut_34 (fun v hv => ?_)
    obtain ⟨x34, rfl, k34⟩ : gr N 3 v := hv
    refine wt_getp hx hb hts cfX3 hown hK hW (cg3 k34) rfl 1 (by decide) (Or.inr ⟨_, lw_n_use hnn q46⟩) dX10_cut_37 (fun v hv nx34_1 => ?_)
    obtain ⟨x37, rfl, r37⟩ : gi 0 24 v := hv
    exact W.iret (v := x37) hx hb hr (fun t ht _ => ⟨⟨x37, (), rfl, trivial, cW_at ht hW⟩, hS.F ht⟩) hS.2.2 dX10_cut_40
  · have rx5_8 : ir x5 0 0 := rf_eq c8 (ir_c (0) (by decide) : ir (0 : Int32) (0) (0))
    refine lv_iconst (v := -1) hx hb dX10_cut_11 (by decide) ?_
    exact W.iret (v := (-1 : Int32)) hx hb hr (fun t ht _ => ⟨⟨(-1 : Int32), (), rfl, trivial, cW_at ht hW⟩, hS.F ht⟩) hS.2.2 dX10_cut_12
set_option maxHeartbeats 4000000 in
set_option maxRecDepth 100000 in
theorem m_X10_turn (l : Launch) (N : c_N) (h0 : Nat) (k0 : N.2.2.1 h0 = some 10) : cMi l yX10_turn cX10_turn 1 .boolean { frames := 3, cells := 0, slots := 0, locals := 83 } [.ref h0] N [1, 3, 5, 20, 30] cT0 (fun r => ir r 0 1) := by
  refine Met.ofW (cc := cX10_turn) (maxL := 1) (ret := some .boolean) (by decide) rfl ?_
  intro p e s m args below meth c s₁ B hml hv
  obtain ⟨rfl, ⟨hK, hW, hT, hnn⟩, hB⟩ := hv
  have hx := B.exec
  have hb := B.bytes
  have hr := B.returns
  have hts : ∀ w ∈ lw_g, w.before _ s = true := fun w h => atoms_spec (ws := wc_ws yX10_turn cX10_turn 1 (some .boolean)) B.pre w (List.mem_cons_of_mem _ h)
  have hown : s.vm.findClass RX10 = some m.cls := findClass_of_methodNamed B.named
  have hlocks := B.notSynchronized
  have hS : va_S (cE N [1, 3, 5, 20, 30]) s.heap s.heap [] := va_S.rf
  have hl := lv_entry ([.ref h0]) (n := 1) (Nat.le_of_ble_eq_true rfl)
  rw [lg_entry_eq]
  generalize (lg_sl ([.ref h0]) ++ List.replicate (1 - (lg_sl ([.ref h0])).length) Slot.unset).toArray = ls at hl ⊢
  have hl : lv_has ls 1 [(0, .ref h0)] := hl
  refine wq_all ?_
  intro WW w1 w2
  have J29 : ∀ (H : Heap) (locs : List Loc) (ls : Array Slot) , cW N H → va_S (cE N [1, 3, 5, 20, 30]) s.heap H locs → lv_has ls 1 [(0, .ref h0)] → WW H locs (F0 m 29 ls []) := by
    intro H locs ls  hW hS hl
    refine w1 _ _ _ ?_
    refine lv_aload_n hx hb dX10_turn_29 rfl (lv_at hl 0 rfl) ?_
    refine wt_get hx hb hts cfX10 hown hK hW (cg10 k0) rfl 2 (by decide) q295 dX10_turn_30 (fun v hv => ?_)
    obtain ⟨x30, rfl, k30⟩ : gr N 1 v := hv
    refine lv_aload_n hx hb dX10_turn_33 rfl (lv_at hl 0 rfl) ?_
    refine wt_get hx hb hts cfX10 hown hK hW (cg10 k0) rfl 1 (by decide) q294 dX10_turn_34 (fun v hv => ?_)
    obtain ⟨x34, rfl, k34⟩ : gr N 3 v := hv
    refine lv_iconst (v := 1) hx hb dX10_turn_37 (by decide) ?_
    refine cc_v (wt_runV (As := [.ref x34, .int (1 : Int32)]) (rest := []) ⟨hx, hb, hml, hown, hts⟩ (m_X1_keep l N x30 k30 x34 k34 (1 : Int32) (ir_w (lo' := 0) (hi' := 1) (ir_c (1) (by decide) : ir (1 : Int32) (1) (1)) (by decide) (by decide))) wm_X1_keep q416 ⟨rfl, rfl⟩ ⟨Nat.le_of_ble_eq_true rfl, Nat.le_of_ble_eq_true rfl⟩ (cS_preV hK hW hT hnn hS (cg1 k30) rfl rfl trivial) rfl hl.1 rfl (Nat.le_of_ble_eq_true rfl) dX10_turn_38 ⟨Nat.zero_le _, Nat.zero_le _⟩) hS (by decide) (fun H locs hW hS oq hB2 => ?_)
    refine lv_aload_n hx hb dX10_turn_41 rfl (lv_at hl 0 rfl) ?_
    refine wt_get hx hb hts cfX10 hown hK hW (cg10 k0) rfl 1 (by decide) q294 dX10_turn_42 (fun v hv => ?_)
    obtain ⟨x42, rfl, k42⟩ : gr N 3 v := hv
    refine cc_v (wt_runV (As := []) (rest := []) ⟨hx, hb, hml, hown, hts⟩ (m_X3_reverse l N x42 k42) wm_X3_reverse q515 ⟨rfl, rfl⟩ ⟨Nat.le_of_ble_eq_true rfl, Nat.le_of_ble_eq_true rfl⟩ (cS_preV hK hW hT hnn hS (cg3 k42) rfl rfl trivial) rfl hl.1 rfl (Nat.le_of_ble_eq_true rfl) dX10_turn_45 ⟨Nat.zero_le _, Nat.zero_le _⟩) hS (by decide) (fun H locs hW hS oq hB2 => ?_)
    refine lv_aload_n hx hb dX10_turn_48 rfl (lv_at hl 0 rfl) ?_
    refine wt_get hx hb hts cfX10 hown hK hW (cg10 k0) rfl 3 (by decide) q296 dX10_turn_49 (fun v hv => ?_)
    obtain ⟨x49, rfl, k49⟩ : gr N 5 v := hv
    refine cc_v (wt_runV (As := []) (rest := []) ⟨hx, hb, hml, hown, hts⟩ (m_X5_swapSides l N x49 k49) wm_X5_swapSides q519 ⟨rfl, rfl⟩ ⟨Nat.le_of_ble_eq_true rfl, Nat.le_of_ble_eq_true rfl⟩ (cS_preV hK hW hT hnn hS (cg5 k49) rfl rfl trivial) rfl hl.1 rfl (Nat.le_of_ble_eq_true rfl) dX10_turn_52 ⟨Nat.zero_le _, Nat.zero_le _⟩) hS (by decide) (fun H locs hW hS oq hB2 => ?_)
    refine lv_iconst (v := 1) hx hb dX10_turn_55 (by decide) ?_
    exact W.zret (v := (1 : Int32)) hx hb hr rfl (fun t ht _ => ⟨⟨(1 : Int32), (), rfl, (⟨by decide, by decide⟩), cW_at ht hW⟩, hS.F ht⟩) hS.2.2 dX10_turn_56
  refine lv_aload_n hx hb dX10_turn_0 rfl (lv_at hl 0 rfl) ?_
  refine wt_get hx hb hts cfX10 hown hK hW (cg10 k0) rfl 3 (by decide) q296 dX10_turn_1 (fun v hv => ?_)
  obtain ⟨x1, rfl, k1⟩ : gr N 5 v := hv
  refine wt_getp hx hb hts cfX5 hown hK hW (cg5 k1) rfl 2 (by decide) (Or.inr ⟨_, lw_n_use hnn q144⟩) dX10_turn_4 (fun v hv nx1_2 => ?_)
  obtain ⟨x4, rfl, r4⟩ : gi 0 5 v := hv
  refine lv_aload_n hx hb dX10_turn_7 rfl (lv_at hl 0 rfl) ?_
  refine wt_get hx hb hts cfX10 hown hK hW (cg10 k0) rfl 3 (by decide) q296 dX10_turn_8 (fun v hv => ?_)
  obtain ⟨x8, rfl, k8⟩ : gr N 5 v := hv
  refine wt_getp hx hb hts cfX5 hown hK hW (cg5 k8) rfl 3 (by decide) (Or.inr ⟨_, lw_n_use hnn q146⟩) dX10_turn_11 (fun v hv nx8_3 => ?_)
  obtain ⟨x11, rfl, r11⟩ : gi 0 5 v := hv
  refine lv_icmp_ne (tgt := 29) hx hb dX10_turn_14 (by decide) (fun c14 => ?_) (fun c14 => ?_)
  · exact w2 _ _ _ (J29 _ _ _  hW hS (lv_sub hl [0] rfl) )
  · refine lv_aload_n hx hb dX10_turn_17 rfl (lv_at hl 0 rfl) ?_
    refine wt_get hx hb hts cfX10 hown hK hW (cg10 k0) rfl 1 (by decide) q294 dX10_turn_18 (fun v hv => ?_)
    obtain ⟨x18, rfl, k18⟩ : gr N 3 v := hv
    refine cc_i (wt_runV (As := []) (rest := []) ⟨hx, hb, hml, hown, hts⟩ (m_X3_isSameReversed l N x18 k18) wm_X3_isSameReversed q511 ⟨rfl, rfl⟩ ⟨Nat.le_of_ble_eq_true rfl, Nat.le_of_ble_eq_true rfl⟩ (cS_preV hK hW hT hnn hS (cg3 k18) rfl rfl trivial) rfl hl.1 rfl (Nat.le_of_ble_eq_true rfl) dX10_turn_21 ⟨Nat.zero_le _, Nat.zero_le _⟩) hS (by decide) (fun x21 H locs hp hW hS oq => ?_)
    have nx1_2 := nx1_2.kept (oq _ nx1_2.lt (cE_not k1 (by decide)))
    have nx8_3 := nx8_3.kept (oq _ nx8_3.lt (cE_not k8 (by decide)))
    have r21 : ir x21 0 1 := hp
    refine lv_if_eq (tgt := 29) hx hb dX10_turn_24 (by decide) (fun c24 => ?_) (fun c24 => ?_)
    · have rx21_24 : ir x21 0 0 := rf_eq c24 (ir_c (0) (by decide) : ir (0 : Int32) (0) (0))
      exact w2 _ _ _ (J29 _ _ _  hW hS (lv_sub hl [0] rfl) )
    · have rx21_24 : ir x21 1 1 := rf_ne0 c24 r21
      refine lv_iconst (v := 0) hx hb dX10_turn_27 (by decide) ?_
      exact W.zret (v := (0 : Int32)) hx hb hr rfl (fun t ht _ => ⟨⟨(0 : Int32), (), rfl, (⟨by decide, by decide⟩), cW_at ht hW⟩, hS.F ht⟩) hS.2.2 dX10_turn_28
set_option maxHeartbeats 4000000 in
set_option maxRecDepth 100000 in
theorem m_X10_undo (l : Launch) (N : c_N) (h0 : Nat) (k0 : N.2.2.1 h0 = some 10) : cMi l yX10_undo cX10_undo 1 .boolean { frames := 3, cells := 0, slots := 0, locals := 82 } [.ref h0] N [1, 3, 5, 20] cT0 (fun r => ir r 0 1) := by
  refine Met.ofW (cc := cX10_undo) (maxL := 1) (ret := some .boolean) (by decide) rfl ?_
  intro p e s m args below meth c s₁ B hml hv
  obtain ⟨rfl, ⟨hK, hW, hT, hnn⟩, hB⟩ := hv
  have hx := B.exec
  have hb := B.bytes
  have hr := B.returns
  have hts : ∀ w ∈ lw_g, w.before _ s = true := fun w h => atoms_spec (ws := wc_ws yX10_undo cX10_undo 1 (some .boolean)) B.pre w (List.mem_cons_of_mem _ h)
  have hown : s.vm.findClass RX10 = some m.cls := findClass_of_methodNamed B.named
  have hlocks := B.notSynchronized
  have hS : va_S (cE N [1, 3, 5, 20]) s.heap s.heap [] := va_S.rf
  have hl := lv_entry ([.ref h0]) (n := 1) (Nat.le_of_ble_eq_true rfl)
  rw [lg_entry_eq]
  generalize (lg_sl ([.ref h0]) ++ List.replicate (1 - (lg_sl ([.ref h0])).length) Slot.unset).toArray = ls at hl ⊢
  have hl : lv_has ls 1 [(0, .ref h0)] := hl
  refine wq_all ?_
  intro WW w1 w2
  refine lv_aload_n hx hb dX10_undo_0 rfl (lv_at hl 0 rfl) ?_
  refine wt_get hx hb hts cfX10 hown hK hW (cg10 k0) rfl 2 (by decide) q295 dX10_undo_1 (fun v hv => ?_)
  obtain ⟨x1, rfl, k1⟩ : gr N 1 v := hv
  refine wt_getp hx hb hts cfX1 hown hK hW (cg1 k1) rfl 3 (by decide) (Or.inr ⟨_, lw_n_use hnn q109⟩) dX10_undo_4 (fun v hv nx1_3 => ?_)
  obtain ⟨x4, rfl, r4⟩ : gi 0 10 v := hv
  refine lv_if_ne (tgt := 12) hx hb dX10_undo_7 (by decide) (fun c7 => ?_) (fun c7 => ?_)
  · have rx4_7 : ir x4 1 10 := rf_ne0 c7 r4
    refine lv_aload_n hx hb dX10_undo_12 rfl (lv_at hl 0 rfl) ?_
    refine wt_get hx hb hts cfX10 hown hK hW (cg10 k0) rfl 2 (by decide) q295 dX10_undo_13 (fun v hv => ?_)
    obtain ⟨x13, rfl, k13⟩ : gr N 1 v := hv
    refine lv_aload_n hx hb dX10_undo_16 rfl (lv_at hl 0 rfl) ?_
    refine wt_get hx hb hts cfX10 hown hK hW (cg10 k0) rfl 1 (by decide) q294 dX10_undo_17 (fun v hv => ?_)
    obtain ⟨x17, rfl, k17⟩ : gr N 3 v := hv
    refine cc_i (wt_runV (As := [.ref x17]) (rest := []) ⟨hx, hb, hml, hown, hts⟩ (m_X1_takeBack l N x13 k13 x17 k17) wm_X1_takeBack q527 ⟨rfl, rfl⟩ ⟨Nat.le_of_ble_eq_true rfl, Nat.le_of_ble_eq_true rfl⟩ (cS_preV hK hW hT hnn hS (cg1 k13) rfl rfl trivial) rfl hl.1 rfl (Nat.le_of_ble_eq_true rfl) dX10_undo_20 ⟨Nat.zero_le _, Nat.zero_le _⟩) hS (by decide) (fun x20 H locs hp hW hS oq => ?_)
    have r20 : ir x20 0 1 := hp
    refine lv_if_eq (tgt := 33) hx hb dX10_undo_23 (by decide) (fun c23 => ?_) (fun c23 => ?_)
    · have rx20_23 : ir x20 0 0 := rf_eq c23 (ir_c (0) (by decide) : ir (0 : Int32) (0) (0))
      refine lv_iconst (v := 1) hx hb dX10_undo_33 (by decide) ?_
      exact W.zret (v := (1 : Int32)) hx hb hr rfl (fun t ht _ => ⟨⟨(1 : Int32), (), rfl, (⟨by decide, by decide⟩), cW_at ht hW⟩, hS.F ht⟩) hS.2.2 dX10_undo_34
    · have rx20_23 : ir x20 1 1 := rf_ne0 c23 r20
      refine lv_aload_n hx hb dX10_undo_26 rfl (lv_at hl 0 rfl) ?_
      refine wt_get hx hb hts cfX10 hown hK hW (cg10 k0) rfl 3 (by decide) q296 dX10_undo_27 (fun v hv => ?_)
      obtain ⟨x27, rfl, k27⟩ : gr N 5 v := hv
      refine cc_v (wt_runV (As := []) (rest := []) ⟨hx, hb, hml, hown, hts⟩ (m_X5_swapSides l N x27 k27) wm_X5_swapSides q519 ⟨rfl, rfl⟩ ⟨Nat.le_of_ble_eq_true rfl, Nat.le_of_ble_eq_true rfl⟩ (cS_preV hK hW hT hnn hS (cg5 k27) rfl rfl trivial) rfl hl.1 rfl (Nat.le_of_ble_eq_true rfl) dX10_undo_30 ⟨Nat.zero_le _, Nat.zero_le _⟩) hS (by decide) (fun H locs hW hS oq hB2 => ?_)
      refine lv_iconst (v := 1) hx hb dX10_undo_33 (by decide) ?_
      exact W.zret (v := (1 : Int32)) hx hb hr rfl (fun t ht _ => ⟨⟨(1 : Int32), (), rfl, (⟨by decide, by decide⟩), cW_at ht hW⟩, hS.F ht⟩) hS.2.2 dX10_undo_34
  · have rx4_7 : ir x4 0 0 := rf_eq c7 (ir_c (0) (by decide) : ir (0 : Int32) (0) (0))
    refine lv_iconst (v := 0) hx hb dX10_undo_10 (by decide) ?_
    exact W.zret (v := (0 : Int32)) hx hb hr rfl (fun t ht _ => ⟨⟨(0 : Int32), (), rfl, (⟨by decide, by decide⟩), cW_at ht hW⟩, hS.F ht⟩) hS.2.2 dX10_undo_11
set_option maxHeartbeats 4000000 in
set_option maxRecDepth 100000 in
theorem m_X10_matrix (l : Launch) (N : c_N) (h0 : Nat) (k0 : N.2.2.1 h0 = some 10) (p1 : Int32) (p2 : Int32) (p3 : Int32) : cMi l yX10_matrix cX10_matrix 6 .int { frames := 6, cells := 0, slots := 0, locals := 155 } [.ref h0, .int p1, .int p2, .int p3] N [2, 4, 8] cT0 (fun _ => True) := by
  refine Met.ofW (cc := cX10_matrix) (maxL := 6) (ret := some .int) (by decide) rfl ?_
  intro p e s m args below meth c s₁ B hml hv
  obtain ⟨rfl, ⟨hK, hW, hT, hnn⟩, hB⟩ := hv
  have hx := B.exec
  have hb := B.bytes
  have hr := B.returns
  have hts : ∀ w ∈ lw_g, w.before _ s = true := fun w h => atoms_spec (ws := wc_ws yX10_matrix cX10_matrix 6 (some .int)) B.pre w (List.mem_cons_of_mem _ h)
  have hown : s.vm.findClass RX10 = some m.cls := findClass_of_methodNamed B.named
  have hlocks := B.notSynchronized
  have hS : va_S (cE N [2, 4, 8]) s.heap s.heap [] := va_S.rf
  have hl := lv_entry ([.ref h0, .int p1, .int p2, .int p3]) (n := 6) (Nat.le_of_ble_eq_true rfl)
  rw [lg_entry_eq]
  generalize (lg_sl ([.ref h0, .int p1, .int p2, .int p3]) ++ List.replicate (6 - (lg_sl ([.ref h0, .int p1, .int p2, .int p3])).length) Slot.unset).toArray = ls at hl ⊢
  have hl : lv_has ls 6 [(0, .ref h0), (1, .int p1), (2, .int p2), (3, .int p3)] := hl
  refine wq_all ?_
  intro WW w1 w2
  have J16 : ∀ (H : Heap) (locs : List Loc) (ls : Array Slot) (w16_0 : Int32), cW N H → va_S (cE N [2, 4, 8]) s.heap H locs → lv_has ls 6 [(0, .ref h0), (2, .int p2), (3, .int p3)] → WW H locs (F0 m 16 ls [.int w16_0]) := by
    intro H locs ls w16_0 hW hS hl
    refine w1 _ _ _ ?_
    refine lv_istore (lv' := [(4, .int w16_0), (0, .ref h0), (2, .int p2), (3, .int p3)]) hx hb dX10_matrix_16 hl (by decide) rfl (fun ls hl => ?_)
    refine lv_aload_n hx hb dX10_matrix_18 rfl (lv_at hl 1 rfl) ?_
    refine lv_iload hx hb dX10_matrix_19 (lv_at hl 0 rfl) ?_
    refine cc_i (wt_runV (As := [.int w16_0]) (rest := []) ⟨hx, hb, hml, hown, hts⟩ (m_X10_isBeginning l N h0 k0 w16_0) wm_X10_isBeginning q535 ⟨rfl, rfl⟩ ⟨Nat.le_of_ble_eq_true rfl, Nat.le_of_ble_eq_true rfl⟩ (cS_preV hK hW hT hnn hS (cg10 k0) rfl rfl trivial) rfl hl.1 rfl (Nat.le_of_ble_eq_true rfl) dX10_matrix_21 ⟨Nat.zero_le _, Nat.zero_le _⟩) hS (by decide) (fun x21 H locs hp hW hS oq => ?_)
    obtain ⟨r21, b21⟩ := hp
    refine lv_if_eq (tgt := 43) hx hb dX10_matrix_24 (by decide) (fun c24 => ?_) (fun c24 => ?_)
    · have rx21_24 : ir x21 0 0 := rf_eq c24 (ir_c (0) (by decide) : ir (0 : Int32) (0) (0))
      refine lv_ldc hx hb hown (hts _ q542) dX10_matrix_43 ?_
      exact W.iret (v := (-20000001 : Int32)) hx hb hr (fun t ht _ => ⟨⟨(-20000001 : Int32), (), rfl, trivial, cW_at ht hW⟩, hS.F ht⟩) hS.2.2 dX10_matrix_45
    · have rx21_24 : ir x21 1 1 := rf_ne0 c24 r21
      have bx21_24 := b21 c24
      refine lv_iload_n hx hb dX10_matrix_27 rfl (lv_at hl 2 rfl) ?_
      refine cp_i (wt_runS (As := [.int p2]) (rest := []) ⟨hx, hb, hml, hown, hts⟩ (m_X10_isMark l p2) wm_X10_isMark q539 ⟨rfl, rfl⟩ ⟨Nat.le_of_ble_eq_true rfl, Nat.le_of_ble_eq_true rfl⟩ pS_pre rfl hl.1 rfl (Nat.le_of_ble_eq_true rfl) dX10_matrix_28 ⟨Nat.zero_le _, Nat.zero_le _⟩) hW hS (fun x28 H locs hp hW hS oq => ?_)
      obtain ⟨r28, b28⟩ := hp
      refine lv_if_eq (tgt := 43) hx hb dX10_matrix_31 (by decide) (fun c31 => ?_) (fun c31 => ?_)
      · have rx28_31 : ir x28 0 0 := rf_eq c31 (ir_c (0) (by decide) : ir (0 : Int32) (0) (0))
        refine lv_ldc hx hb hown (hts _ q542) dX10_matrix_43 ?_
        exact W.iret (v := (-20000001 : Int32)) hx hb hr (fun t ht _ => ⟨⟨(-20000001 : Int32), (), rfl, trivial, cW_at ht hW⟩, hS.F ht⟩) hS.2.2 dX10_matrix_45
      · have rx28_31 : ir x28 1 1 := rf_ne0 c31 r28
        have bx28_31 := b28 c31
        refine lv_iload_n hx hb dX10_matrix_34 rfl (lv_at hl 3 rfl) ?_
        refine lv_if_lt (tgt := 43) hx hb dX10_matrix_35 (by decide) (fun c35 => ?_) (fun c35 => ?_)
        · have rp3_35 : ir p3 (-2147483648) (-1) := ⟨((ir_any p3)).1, Int.le_trans (rf_lt c35 (ir_any p3) (ir_c (0) (by decide) : ir (0 : Int32) (0) (0))).1 (by decide)⟩
          refine lv_ldc hx hb hown (hts _ q542) dX10_matrix_43 ?_
          exact W.iret (v := (-20000001 : Int32)) hx hb hr (fun t ht _ => ⟨⟨(-20000001 : Int32), (), rfl, trivial, cW_at ht hW⟩, hS.F ht⟩) hS.2.2 dX10_matrix_45
        · have rp3_35 : ir p3 0 2147483647 := ⟨Int.le_trans (by decide) (rf_le (rf_nlt c35) (ir_c (0) (by decide) : ir (0 : Int32) (0) (0)) (ir_any p3)).2, ((ir_any p3)).2⟩
          refine lv_iload_n hx hb dX10_matrix_38 rfl (lv_at hl 3 rfl) ?_
          refine lv_iconst (v := 3) hx hb dX10_matrix_39 (by decide) ?_
          refine lv_icmp_le (tgt := 46) hx hb dX10_matrix_40 (by decide) (fun c40 => ?_) (fun c40 => ?_)
          · have rp3_40 : ir p3 0 3 := ⟨(rp3_35).1, Int.le_trans (rf_le c40 rp3_35 (ir_c (3) (by decide) : ir (3 : Int32) (3) (3))).1 (by decide)⟩
            refine lv_aload_n hx hb dX10_matrix_46 rfl (lv_at hl 1 rfl) ?_
            refine lv_iload hx hb dX10_matrix_47 (lv_at hl 0 rfl) ?_
            refine lv_iload_n hx hb dX10_matrix_49 rfl (lv_at hl 2 rfl) ?_
            refine cc_r (wt_runV (As := [.int w16_0, .int p2]) (rest := []) ⟨hx, hb, hml, hown, hts⟩ (m_X10_beginning l N h0 k0 w16_0 p2 bx28_31) wm_X10_beginning q543 ⟨rfl, rfl⟩ ⟨Nat.le_of_ble_eq_true rfl, Nat.le_of_ble_eq_true rfl⟩ (cS_preV hK hW hT hnn hS (cg10 k0) rfl rfl trivial) rfl hl.1 rfl (Nat.le_of_ble_eq_true rfl) dX10_matrix_50 ⟨Nat.zero_le _, Nat.zero_le _⟩) hS (by decide) (fun x50 H locs k50 hW hS oq => ?_)
            refine lv_astore (lv' := [(5, .ref x50), (4, .int w16_0), (0, .ref h0), (2, .int p2), (3, .int p3)]) hx hb dX10_matrix_53 hl (by decide) rfl (fun ls hl => ?_)
            refine lv_aload hx hb dX10_matrix_55 (lv_at hl 0 rfl) ?_
            refine wt_getp hx hb hts cfX4 hown hK hW (cg4 k50) rfl 4 (by decide) (Or.inr ⟨_, lw_n_use hnn q197⟩) dX10_matrix_57 (fun v hv nx50_4 => ?_)
            obtain ⟨x57, rfl, r57⟩ : gi 0 1 v := hv
            refine lv_if_eq (tgt := 68) hx hb dX10_matrix_60 (by decide) (fun c60 => ?_) (fun c60 => ?_)
            · have rx57_60 : ir x57 0 0 := rf_eq c60 (ir_c (0) (by decide) : ir (0 : Int32) (0) (0))
              refine lv_aload hx hb dX10_matrix_68 (lv_at hl 0 rfl) ?_
              refine lv_iload_n hx hb dX10_matrix_70 rfl (lv_at hl 4 rfl) ?_
              refine cc_l (wt_runV (As := [.int p3]) (rest := []) ⟨hx, hb, hml, hown, hts⟩ (m_X4_number l N x50 k50 p3) wm_X4_number q589 ⟨rfl, rfl⟩ ⟨Nat.le_of_ble_eq_true rfl, Nat.le_of_ble_eq_true rfl⟩ (cS_preV hK hW hT hnn hS (cg4 k50) rfl rfl trivial) rfl hl.1 rfl (Nat.le_of_ble_eq_true rfl) dX10_matrix_71 ⟨Nat.zero_le _, Nat.zero_le _⟩) hS (by decide) (fun x71 H locs hp hW hS oq => ?_)
              have nx50_4 := nx50_4.kept (oq _ nx50_4.lt (cE_not k50 (by decide)))
              refine lv_l2i hx hb dX10_matrix_74 rfl ?_
              refine lv_topi (fun x74 e74 => ?_)
              exact W.iret (v := x74) hx hb hr (fun t ht _ => ⟨⟨x74, (), rfl, trivial, cW_at ht hW⟩, hS.F ht⟩) hS.2.2 dX10_matrix_75
            · have rx57_60 : ir x57 1 1 := rf_ne0 c60 r57
              refine lv_ldc hx hb hown (hts _ q542) dX10_matrix_63 ?_
              refine lv_goto (tgt := 75) hx hb dX10_matrix_65 (by decide) ?_
              exact W.iret (v := (-20000001 : Int32)) hx hb hr (fun t ht _ => ⟨⟨(-20000001 : Int32), (), rfl, trivial, cW_at ht hW⟩, hS.F ht⟩) hS.2.2 dX10_matrix_75
          · have rp3_40 : ir p3 4 2147483647 := ⟨Int.le_trans (by decide) (rf_lt (rf_nle c40) (ir_c (3) (by decide) : ir (3 : Int32) (3) (3)) rp3_35).2, (rp3_35).2⟩
            refine lv_ldc hx hb hown (hts _ q542) dX10_matrix_43 ?_
            exact W.iret (v := (-20000001 : Int32)) hx hb hr (fun t ht _ => ⟨⟨(-20000001 : Int32), (), rfl, trivial, cW_at ht hW⟩, hS.F ht⟩) hS.2.2 dX10_matrix_45
  refine lv_iload_n hx hb dX10_matrix_0 rfl (lv_at hl 1 rfl) ?_
  refine lv_iconst (v := -1) hx hb dX10_matrix_1 (by decide) ?_
  refine lv_icmp_ne (tgt := 15) hx hb dX10_matrix_2 (by decide) (fun c2 => ?_) (fun c2 => ?_)
  · refine lv_iload_n hx hb dX10_matrix_15 rfl (lv_at hl 1 rfl) ?_
    exact w2 _ _ _ (J16 _ _ _ p1 hW hS (lv_sub hl [0, 2, 3] rfl) )
  · have rp1_2 : ir p1 (-1) (-1) := rf_eq c2 (ir_c (-1) (by decide) : ir (-1 : Int32) (-1) (-1))
    refine lv_aload_n hx hb dX10_matrix_5 rfl (lv_at hl 0 rfl) ?_
    refine wt_get hx hb hts cfX10 hown hK hW (cg10 k0) rfl 1 (by decide) q294 dX10_matrix_6 (fun v hv => ?_)
    obtain ⟨x6, rfl, k6⟩ : gr N 3 v := hv
    refine wt_getp hx hb hts cfX3 hown hK hW (cg3 k6) rfl 1 (by decide) (Or.inr ⟨_, lw_n_use hnn q46⟩) dX10_matrix_9 (fun v hv nx6_1 => ?_)
    obtain ⟨x9, rfl, r9⟩ : gi 0 24 v := hv
    refine lv_goto (tgt := 16) hx hb dX10_matrix_12 (by decide) ?_
    exact w2 _ _ _ (J16 _ _ _ x9 hW hS (lv_sub hl [0, 2, 3] rfl) )
set_option maxHeartbeats 4000000 in
set_option maxRecDepth 100000 in
theorem m_X10_light (l : Launch) (N : c_N) (h0 : Nat) (k0 : N.2.2.1 h0 = some 10) (p1 : Int32) (p2 : Int32) (p3 : Int32) : cMl l yX10_light cX10_light 6 .long { frames := 6, cells := 0, slots := 0, locals := 155 } [.ref h0, .int p1, .int p2, .int p3] N [0, 2, 4, 8] cT0 (fun _ => True) := by
  refine Met.ofW (cc := cX10_light) (maxL := 6) (ret := some .long) (by decide) rfl ?_
  intro p e s m args below meth c s₁ B hml hv
  obtain ⟨rfl, ⟨hK, hW, hT, hnn⟩, hB⟩ := hv
  have hx := B.exec
  have hb := B.bytes
  have hr := B.returns
  have hts : ∀ w ∈ lw_g, w.before _ s = true := fun w h => atoms_spec (ws := wc_ws yX10_light cX10_light 6 (some .long)) B.pre w (List.mem_cons_of_mem _ h)
  have hown : s.vm.findClass RX10 = some m.cls := findClass_of_methodNamed B.named
  have hlocks := B.notSynchronized
  have hS : va_S (cE N [0, 2, 4, 8]) s.heap s.heap [] := va_S.rf
  have hl := lv_entry ([.ref h0, .int p1, .int p2, .int p3]) (n := 6) (Nat.le_of_ble_eq_true rfl)
  rw [lg_entry_eq]
  generalize (lg_sl ([.ref h0, .int p1, .int p2, .int p3]) ++ List.replicate (6 - (lg_sl ([.ref h0, .int p1, .int p2, .int p3])).length) Slot.unset).toArray = ls at hl ⊢
  have hl : lv_has ls 6 [(0, .ref h0), (1, .int p1), (2, .int p2), (3, .int p3)] := hl
  refine wq_all ?_
  intro WW w1 w2
  have J102 : ∀ (H : Heap) (locs : List Loc) (ls : Array Slot) , cW N H → va_S (cE N [0, 2, 4, 8]) s.heap H locs → lv_has ls 6 [(0, .ref h0), (3, .int p3)] → ir p3 0 3 → WW H locs (F0 m 102 ls []) := by
    intro H locs ls  hW hS hl rv102_3
    refine w1 _ _ _ ?_
    refine lv_aload_n hx hb dX10_light_102 rfl (lv_at hl 0 rfl) ?_
    refine wt_get hx hb hts cfX10 hown hK hW (cg10 k0) rfl 9 (by decide) q302 dX10_light_103 (fun v hv => ?_)
    obtain ⟨x103, rfl, k103⟩ : gr N 0 v := hv
    refine cc_v (wt_runV (As := []) (rest := []) ⟨hx, hb, hml, hown, hts⟩ (m_X0_lower l N x103 k103) wm_X0_lower q616 ⟨rfl, rfl⟩ ⟨Nat.le_of_ble_eq_true rfl, Nat.le_of_ble_eq_true rfl⟩ (cS_preV hK hW hT hnn hS (cg0 k103) rfl rfl trivial) rfl hl.1 rfl (Nat.le_of_ble_eq_true rfl) dX10_light_106 ⟨Nat.zero_le _, Nat.zero_le _⟩) hS (by decide) (fun H locs hW hS oq hB2 => ?_)
    refine lv_iload_n hx hb dX10_light_109 rfl (lv_at hl 1 rfl) ?_
    refine lv_iconst (v := 2) hx hb dX10_light_110 (by decide) ?_
    refine lv_irem hx hb dX10_light_111 (by decide) ?_
    refine lv_topi (fun x111 e111 => ?_)
    have r111 : ir x111 0 1 := ir_remr e111 rv102_3 (by decide) 2 (by decide) (by decide) (by decide) (by decide)
    refine lv_if_ne (tgt := 125) hx hb dX10_light_112 (by decide) (fun c112 => ?_) (fun c112 => ?_)
    · have rx111_112 : ir x111 1 1 := rf_ne0 c112 r111
      refine lv_aload_n hx hb dX10_light_125 rfl (lv_at hl 0 rfl) ?_
      refine wt_get hx hb hts cfX10 hown hK hW (cg10 k0) rfl 9 (by decide) q302 dX10_light_126 (fun v hv => ?_)
      obtain ⟨x126, rfl, k126⟩ : gr N 0 v := hv
      refine wt_getp hx hb hts cfX0 hown hK hW (cg0 k126) rfl 1 (by decide) (Or.inr ⟨_, lw_n_use hnn q261⟩) dX10_light_129 (fun v hv nx126_1 => ?_)
      obtain ⟨x129, rfl⟩ : gl v := hv
      exact W.lret (v := x129) hx hb hr (fun t ht _ => ⟨⟨x129, (), rfl, trivial, cW_at ht hW⟩, hS.F ht⟩) hS.2.2 dX10_light_132
    · have rx111_112 : ir x111 0 0 := rf_eq c112 (ir_c (0) (by decide) : ir (0 : Int32) (0) (0))
      refine lv_aload_n hx hb dX10_light_115 rfl (lv_at hl 0 rfl) ?_
      refine wt_get hx hb hts cfX10 hown hK hW (cg10 k0) rfl 9 (by decide) q302 dX10_light_116 (fun v hv => ?_)
      obtain ⟨x116, rfl, k116⟩ : gr N 0 v := hv
      refine wt_getp hx hb hts cfX0 hown hK hW (cg0 k116) rfl 0 (by decide) (Or.inr ⟨_, lw_n_use hnn q259⟩) dX10_light_119 (fun v hv nx116_0 => ?_)
      obtain ⟨x119, rfl⟩ : gl v := hv
      refine lv_goto (tgt := 132) hx hb dX10_light_122 (by decide) ?_
      exact W.lret (v := x119) hx hb hr (fun t ht _ => ⟨⟨x119, (), rfl, trivial, cW_at ht hW⟩, hS.F ht⟩) hS.2.2 dX10_light_132
  have J16 : ∀ (H : Heap) (locs : List Loc) (ls : Array Slot) (w16_0 : Int32), cW N H → va_S (cE N [0, 2, 4, 8]) s.heap H locs → lv_has ls 6 [(0, .ref h0), (2, .int p2), (3, .int p3)] → WW H locs (F0 m 16 ls [.int w16_0]) := by
    intro H locs ls w16_0 hW hS hl
    refine w1 _ _ _ ?_
    refine lv_istore (lv' := [(4, .int w16_0), (0, .ref h0), (2, .int p2), (3, .int p3)]) hx hb dX10_light_16 hl (by decide) rfl (fun ls hl => ?_)
    refine lv_aload_n hx hb dX10_light_18 rfl (lv_at hl 1 rfl) ?_
    refine lv_iload hx hb dX10_light_19 (lv_at hl 0 rfl) ?_
    refine cc_i (wt_runV (As := [.int w16_0]) (rest := []) ⟨hx, hb, hml, hown, hts⟩ (m_X10_isBeginning l N h0 k0 w16_0) wm_X10_isBeginning q535 ⟨rfl, rfl⟩ ⟨Nat.le_of_ble_eq_true rfl, Nat.le_of_ble_eq_true rfl⟩ (cS_preV hK hW hT hnn hS (cg10 k0) rfl rfl trivial) rfl hl.1 rfl (Nat.le_of_ble_eq_true rfl) dX10_light_21 ⟨Nat.zero_le _, Nat.zero_le _⟩) hS (by decide) (fun x21 H locs hp hW hS oq => ?_)
    obtain ⟨r21, b21⟩ := hp
    refine lv_if_eq (tgt := 43) hx hb dX10_light_24 (by decide) (fun c24 => ?_) (fun c24 => ?_)
    · have rx21_24 : ir x21 0 0 := rf_eq c24 (ir_c (0) (by decide) : ir (0 : Int32) (0) (0))
      refine lv_ldc2 hx hb hown (hts _ q597) dX10_light_43 ?_
      exact W.lret (v := (-2 : Int64)) hx hb hr (fun t ht _ => ⟨⟨(-2 : Int64), (), rfl, trivial, cW_at ht hW⟩, hS.F ht⟩) hS.2.2 dX10_light_46
    · have rx21_24 : ir x21 1 1 := rf_ne0 c24 r21
      have bx21_24 := b21 c24
      refine lv_iload_n hx hb dX10_light_27 rfl (lv_at hl 2 rfl) ?_
      refine cp_i (wt_runS (As := [.int p2]) (rest := []) ⟨hx, hb, hml, hown, hts⟩ (m_X10_isMark l p2) wm_X10_isMark q539 ⟨rfl, rfl⟩ ⟨Nat.le_of_ble_eq_true rfl, Nat.le_of_ble_eq_true rfl⟩ pS_pre rfl hl.1 rfl (Nat.le_of_ble_eq_true rfl) dX10_light_28 ⟨Nat.zero_le _, Nat.zero_le _⟩) hW hS (fun x28 H locs hp hW hS oq => ?_)
      obtain ⟨r28, b28⟩ := hp
      refine lv_if_eq (tgt := 43) hx hb dX10_light_31 (by decide) (fun c31 => ?_) (fun c31 => ?_)
      · have rx28_31 : ir x28 0 0 := rf_eq c31 (ir_c (0) (by decide) : ir (0 : Int32) (0) (0))
        refine lv_ldc2 hx hb hown (hts _ q597) dX10_light_43 ?_
        exact W.lret (v := (-2 : Int64)) hx hb hr (fun t ht _ => ⟨⟨(-2 : Int64), (), rfl, trivial, cW_at ht hW⟩, hS.F ht⟩) hS.2.2 dX10_light_46
      · have rx28_31 : ir x28 1 1 := rf_ne0 c31 r28
        have bx28_31 := b28 c31
        refine lv_iload_n hx hb dX10_light_34 rfl (lv_at hl 3 rfl) ?_
        refine lv_if_lt (tgt := 43) hx hb dX10_light_35 (by decide) (fun c35 => ?_) (fun c35 => ?_)
        · have rp3_35 : ir p3 (-2147483648) (-1) := ⟨((ir_any p3)).1, Int.le_trans (rf_lt c35 (ir_any p3) (ir_c (0) (by decide) : ir (0 : Int32) (0) (0))).1 (by decide)⟩
          refine lv_ldc2 hx hb hown (hts _ q597) dX10_light_43 ?_
          exact W.lret (v := (-2 : Int64)) hx hb hr (fun t ht _ => ⟨⟨(-2 : Int64), (), rfl, trivial, cW_at ht hW⟩, hS.F ht⟩) hS.2.2 dX10_light_46
        · have rp3_35 : ir p3 0 2147483647 := ⟨Int.le_trans (by decide) (rf_le (rf_nlt c35) (ir_c (0) (by decide) : ir (0 : Int32) (0) (0)) (ir_any p3)).2, ((ir_any p3)).2⟩
          refine lv_iload_n hx hb dX10_light_38 rfl (lv_at hl 3 rfl) ?_
          refine lv_iconst (v := 3) hx hb dX10_light_39 (by decide) ?_
          refine lv_icmp_le (tgt := 47) hx hb dX10_light_40 (by decide) (fun c40 => ?_) (fun c40 => ?_)
          · have rp3_40 : ir p3 0 3 := ⟨(rp3_35).1, Int.le_trans (rf_le c40 rp3_35 (ir_c (3) (by decide) : ir (3 : Int32) (3) (3))).1 (by decide)⟩
            refine lv_aload_n hx hb dX10_light_47 rfl (lv_at hl 1 rfl) ?_
            refine lv_iload hx hb dX10_light_48 (lv_at hl 0 rfl) ?_
            refine lv_iload_n hx hb dX10_light_50 rfl (lv_at hl 2 rfl) ?_
            refine cc_r (wt_runV (As := [.int w16_0, .int p2]) (rest := []) ⟨hx, hb, hml, hown, hts⟩ (m_X10_beginning l N h0 k0 w16_0 p2 bx28_31) wm_X10_beginning q543 ⟨rfl, rfl⟩ ⟨Nat.le_of_ble_eq_true rfl, Nat.le_of_ble_eq_true rfl⟩ (cS_preV hK hW hT hnn hS (cg10 k0) rfl rfl trivial) rfl hl.1 rfl (Nat.le_of_ble_eq_true rfl) dX10_light_51 ⟨Nat.zero_le _, Nat.zero_le _⟩) hS (by decide) (fun x51 H locs k51 hW hS oq => ?_)
            refine lv_astore (lv' := [(5, .ref x51), (4, .int w16_0), (0, .ref h0), (2, .int p2), (3, .int p3)]) hx hb dX10_light_54 hl (by decide) rfl (fun ls hl => ?_)
            refine lv_aload hx hb dX10_light_56 (lv_at hl 0 rfl) ?_
            refine wt_getp hx hb hts cfX4 hown hK hW (cg4 k51) rfl 4 (by decide) (Or.inr ⟨_, lw_n_use hnn q197⟩) dX10_light_58 (fun v hv nx51_4 => ?_)
            obtain ⟨x58, rfl, r58⟩ : gi 0 1 v := hv
            refine lv_if_eq (tgt := 68) hx hb dX10_light_61 (by decide) (fun c61 => ?_) (fun c61 => ?_)
            · have rx58_61 : ir x58 0 0 := rf_eq c61 (ir_c (0) (by decide) : ir (0 : Int32) (0) (0))
              refine lv_iload_n hx hb dX10_light_68 rfl (lv_at hl 4 rfl) ?_
              refine lv_iconst (v := 2) hx hb dX10_light_69 (by decide) ?_
              refine lv_icmp_ge (tgt := 89) hx hb dX10_light_70 (by decide) (fun c70 => ?_) (fun c70 => ?_)
              · have rp3_70 : ir p3 2 3 := ⟨Int.le_trans (by decide) (rf_le c70 (ir_c (2) (by decide) : ir (2 : Int32) (2) (2)) rp3_40).2, (rp3_40).2⟩
                refine lv_aload_n hx hb dX10_light_89 rfl (lv_at hl 2 rfl) ?_
                refine wt_get hx hb hts cfX10 hown hK hW (cg10 k0) rfl 3 (by decide) q296 dX10_light_90 (fun v hv => ?_)
                obtain ⟨x90, rfl, k90⟩ : gr N 5 v := hv
                refine lv_aload hx hb dX10_light_93 (lv_at hl 0 rfl) ?_
                refine lv_aload_n hx hb dX10_light_95 rfl (lv_at hl 2 rfl) ?_
                refine wt_get hx hb hts cfX10 hown hK hW (cg10 k0) rfl 9 (by decide) q302 dX10_light_96 (fun v hv => ?_)
                obtain ⟨x96, rfl, k96⟩ : gr N 0 v := hv
                refine cc_v (wt_runV (As := [.ref x51, .ref x96]) (rest := []) ⟨hx, hb, hml, hown, hts⟩ (m_X5_measureThrough l N x90 k90 x51 k51 x96 k96) wm_X5_measureThrough q611 ⟨rfl, rfl⟩ ⟨Nat.le_of_ble_eq_true rfl, Nat.le_of_ble_eq_true rfl⟩ (cS_preV hK hW hT hnn hS (cg5 k90) rfl rfl trivial) rfl hl.1 rfl (Nat.le_of_ble_eq_true rfl) dX10_light_99 ⟨Nat.zero_le _, Nat.zero_le _⟩) hS (by decide) (fun H locs hW hS oq hB2 => ?_)
                have nx51_4 := nx51_4.kept (oq _ nx51_4.lt (cE_not k51 (by decide)))
                exact w2 _ _ _ (J102 _ _ _  hW hS (lv_sub hl [2, 4] rfl) (ir_w (lo' := 0) (hi' := 3) rp3_70 (by decide) (by decide)))
              · have rp3_70 : ir p3 0 1 := ⟨(rp3_40).1, Int.le_trans (rf_lt (rf_nle c70) rp3_40 (ir_c (2) (by decide) : ir (2 : Int32) (2) (2))).1 (by decide)⟩
                refine lv_aload_n hx hb dX10_light_73 rfl (lv_at hl 2 rfl) ?_
                refine wt_get hx hb hts cfX10 hown hK hW (cg10 k0) rfl 3 (by decide) q296 dX10_light_74 (fun v hv => ?_)
                obtain ⟨x74, rfl, k74⟩ : gr N 5 v := hv
                refine lv_aload hx hb dX10_light_77 (lv_at hl 0 rfl) ?_
                refine lv_aload_n hx hb dX10_light_79 rfl (lv_at hl 2 rfl) ?_
                refine wt_get hx hb hts cfX10 hown hK hW (cg10 k0) rfl 9 (by decide) q302 dX10_light_80 (fun v hv => ?_)
                obtain ⟨x80, rfl, k80⟩ : gr N 0 v := hv
                refine cc_v (wt_runV (As := [.ref x51, .ref x80]) (rest := []) ⟨hx, hb, hml, hown, hts⟩ (m_X5_measureBack l N x74 k74 x51 k51 x80 k80) wm_X5_measureBack q599 ⟨rfl, rfl⟩ ⟨Nat.le_of_ble_eq_true rfl, Nat.le_of_ble_eq_true rfl⟩ (cS_preV hK hW hT hnn hS (cg5 k74) rfl rfl trivial) rfl hl.1 rfl (Nat.le_of_ble_eq_true rfl) dX10_light_83 ⟨Nat.zero_le _, Nat.zero_le _⟩) hS (by decide) (fun H locs hW hS oq hB2 => ?_)
                have nx51_4 := nx51_4.kept (oq _ nx51_4.lt (cE_not k51 (by decide)))
                refine lv_goto (tgt := 102) hx hb dX10_light_86 (by decide) ?_
                exact w2 _ _ _ (J102 _ _ _  hW hS (lv_sub hl [2, 4] rfl) (ir_w (lo' := 0) (hi' := 3) rp3_70 (by decide) (by decide)))
            · have rx58_61 : ir x58 1 1 := rf_ne0 c61 r58
              refine lv_ldc2 hx hb hown (hts _ q598) dX10_light_64 ?_
              exact W.lret (v := (-1 : Int64)) hx hb hr (fun t ht _ => ⟨⟨(-1 : Int64), (), rfl, trivial, cW_at ht hW⟩, hS.F ht⟩) hS.2.2 dX10_light_67
          · have rp3_40 : ir p3 4 2147483647 := ⟨Int.le_trans (by decide) (rf_lt (rf_nle c40) (ir_c (3) (by decide) : ir (3 : Int32) (3) (3)) rp3_35).2, (rp3_35).2⟩
            refine lv_ldc2 hx hb hown (hts _ q597) dX10_light_43 ?_
            exact W.lret (v := (-2 : Int64)) hx hb hr (fun t ht _ => ⟨⟨(-2 : Int64), (), rfl, trivial, cW_at ht hW⟩, hS.F ht⟩) hS.2.2 dX10_light_46
  refine lv_iload_n hx hb dX10_light_0 rfl (lv_at hl 1 rfl) ?_
  refine lv_iconst (v := -1) hx hb dX10_light_1 (by decide) ?_
  refine lv_icmp_ne (tgt := 15) hx hb dX10_light_2 (by decide) (fun c2 => ?_) (fun c2 => ?_)
  · refine lv_iload_n hx hb dX10_light_15 rfl (lv_at hl 1 rfl) ?_
    exact w2 _ _ _ (J16 _ _ _ p1 hW hS (lv_sub hl [0, 2, 3] rfl) )
  · have rp1_2 : ir p1 (-1) (-1) := rf_eq c2 (ir_c (-1) (by decide) : ir (-1 : Int32) (-1) (-1))
    refine lv_aload_n hx hb dX10_light_5 rfl (lv_at hl 0 rfl) ?_
    refine wt_get hx hb hts cfX10 hown hK hW (cg10 k0) rfl 1 (by decide) q294 dX10_light_6 (fun v hv => ?_)
    obtain ⟨x6, rfl, k6⟩ : gr N 3 v := hv
    refine wt_getp hx hb hts cfX3 hown hK hW (cg3 k6) rfl 1 (by decide) (Or.inr ⟨_, lw_n_use hnn q46⟩) dX10_light_9 (fun v hv nx6_1 => ?_)
    obtain ⟨x9, rfl, r9⟩ : gi 0 24 v := hv
    refine lv_goto (tgt := 16) hx hb dX10_light_12 (by decide) ?_
    exact w2 _ _ _ (J16 _ _ _ x9 hW hS (lv_sub hl [0, 2, 3] rfl) )
set_option maxHeartbeats 4000000 in
set_option maxRecDepth 100000 in
theorem m_X10_admittance (l : Launch) (N : c_N) (h0 : Nat) (k0 : N.2.2.1 h0 = some 10) (p1 : Int32) (p2 : Int32) (p3 : Int32) : cMl l yX10_admittance cX10_admittance 6 .long { frames := 6, cells := 0, slots := 0, locals := 155 } [.ref h0, .int p1, .int p2, .int p3] N [0, 2, 4, 8] cT0 (fun _ => True) := by
  refine Met.ofW (cc := cX10_admittance) (maxL := 6) (ret := some .long) (by decide) rfl ?_
  intro p e s m args below meth c s₁ B hml hv
  obtain ⟨rfl, ⟨hK, hW, hT, hnn⟩, hB⟩ := hv
  have hx := B.exec
  have hb := B.bytes
  have hr := B.returns
  have hts : ∀ w ∈ lw_g, w.before _ s = true := fun w h => atoms_spec (ws := wc_ws yX10_admittance cX10_admittance 6 (some .long)) B.pre w (List.mem_cons_of_mem _ h)
  have hown : s.vm.findClass RX10 = some m.cls := findClass_of_methodNamed B.named
  have hlocks := B.notSynchronized
  have hS : va_S (cE N [0, 2, 4, 8]) s.heap s.heap [] := va_S.rf
  have hl := lv_entry ([.ref h0, .int p1, .int p2, .int p3]) (n := 6) (Nat.le_of_ble_eq_true rfl)
  rw [lg_entry_eq]
  generalize (lg_sl ([.ref h0, .int p1, .int p2, .int p3]) ++ List.replicate (6 - (lg_sl ([.ref h0, .int p1, .int p2, .int p3])).length) Slot.unset).toArray = ls at hl ⊢
  have hl : lv_has ls 6 [(0, .ref h0), (1, .int p1), (2, .int p2), (3, .int p3)] := hl
  refine wq_all ?_
  intro WW w1 w2
  have J84 : ∀ (H : Heap) (locs : List Loc) (ls : Array Slot) (w84_0 : Int32) (w84_1 : Nat) (w84_2 : Nat), cW N H → va_S (cE N [0, 2, 4, 8]) s.heap H locs → lv_has ls 6 [(0, .ref h0), (3, .int p3)] → ir p3 0 3 → ir w84_0 0 1 → N.2.2.1 w84_1 = some 4 → N.2.2.1 w84_2 = some 5 → WW H locs (F0 m 84 ls [.int w84_0, .ref w84_1, .ref w84_2]) := by
    intro H locs ls w84_0 w84_1 w84_2 hW hS hl rv84_3 rw84_0 kw84_1 kw84_2
    refine w1 _ _ _ ?_
    refine lv_aload_n hx hb dX10_admittance_84 rfl (lv_at hl 0 rfl) ?_
    refine wt_get hx hb hts cfX10 hown hK hW (cg10 k0) rfl 9 (by decide) q302 dX10_admittance_85 (fun v hv => ?_)
    obtain ⟨x85, rfl, k85⟩ : gr N 0 v := hv
    refine cc_v (wt_runV (As := [.ref w84_1, .int w84_0, .ref x85]) (rest := []) ⟨hx, hb, hml, hown, hts⟩ (m_X5_measureAdmittance l N w84_2 kw84_2 w84_1 kw84_1 w84_0 rw84_0 x85 k85) wm_X5_measureAdmittance q644 ⟨rfl, rfl⟩ ⟨Nat.le_of_ble_eq_true rfl, Nat.le_of_ble_eq_true rfl⟩ (cS_preV hK hW hT hnn hS (cg5 kw84_2) rfl rfl trivial) rfl hl.1 rfl (Nat.le_of_ble_eq_true rfl) dX10_admittance_88 ⟨Nat.zero_le _, Nat.zero_le _⟩) hS (by decide) (fun H locs hW hS oq hB2 => ?_)
    refine lv_aload_n hx hb dX10_admittance_91 rfl (lv_at hl 0 rfl) ?_
    refine wt_get hx hb hts cfX10 hown hK hW (cg10 k0) rfl 9 (by decide) q302 dX10_admittance_92 (fun v hv => ?_)
    obtain ⟨x92, rfl, k92⟩ : gr N 0 v := hv
    refine cc_v (wt_runV (As := []) (rest := []) ⟨hx, hb, hml, hown, hts⟩ (m_X0_lower l N x92 k92) wm_X0_lower q616 ⟨rfl, rfl⟩ ⟨Nat.le_of_ble_eq_true rfl, Nat.le_of_ble_eq_true rfl⟩ (cS_preV hK hW hT hnn hS (cg0 k92) rfl rfl trivial) rfl hl.1 rfl (Nat.le_of_ble_eq_true rfl) dX10_admittance_95 ⟨Nat.zero_le _, Nat.zero_le _⟩) hS (by decide) (fun H locs hW hS oq hB2 => ?_)
    refine lv_iload_n hx hb dX10_admittance_98 rfl (lv_at hl 1 rfl) ?_
    refine lv_iconst (v := 2) hx hb dX10_admittance_99 (by decide) ?_
    refine lv_irem hx hb dX10_admittance_100 (by decide) ?_
    refine lv_topi (fun x100 e100 => ?_)
    have r100 : ir x100 0 1 := ir_remr e100 rv84_3 (by decide) 2 (by decide) (by decide) (by decide) (by decide)
    refine lv_if_ne (tgt := 114) hx hb dX10_admittance_101 (by decide) (fun c101 => ?_) (fun c101 => ?_)
    · have rx100_101 : ir x100 1 1 := rf_ne0 c101 r100
      refine lv_aload_n hx hb dX10_admittance_114 rfl (lv_at hl 0 rfl) ?_
      refine wt_get hx hb hts cfX10 hown hK hW (cg10 k0) rfl 9 (by decide) q302 dX10_admittance_115 (fun v hv => ?_)
      obtain ⟨x115, rfl, k115⟩ : gr N 0 v := hv
      refine wt_getp hx hb hts cfX0 hown hK hW (cg0 k115) rfl 1 (by decide) (Or.inr ⟨_, lw_n_use hnn q261⟩) dX10_admittance_118 (fun v hv nx115_1 => ?_)
      obtain ⟨x118, rfl⟩ : gl v := hv
      exact W.lret (v := x118) hx hb hr (fun t ht _ => ⟨⟨x118, (), rfl, trivial, cW_at ht hW⟩, hS.F ht⟩) hS.2.2 dX10_admittance_121
    · have rx100_101 : ir x100 0 0 := rf_eq c101 (ir_c (0) (by decide) : ir (0 : Int32) (0) (0))
      refine lv_aload_n hx hb dX10_admittance_104 rfl (lv_at hl 0 rfl) ?_
      refine wt_get hx hb hts cfX10 hown hK hW (cg10 k0) rfl 9 (by decide) q302 dX10_admittance_105 (fun v hv => ?_)
      obtain ⟨x105, rfl, k105⟩ : gr N 0 v := hv
      refine wt_getp hx hb hts cfX0 hown hK hW (cg0 k105) rfl 0 (by decide) (Or.inr ⟨_, lw_n_use hnn q259⟩) dX10_admittance_108 (fun v hv nx105_0 => ?_)
      obtain ⟨x108, rfl⟩ : gl v := hv
      refine lv_goto (tgt := 121) hx hb dX10_admittance_111 (by decide) ?_
      exact W.lret (v := x108) hx hb hr (fun t ht _ => ⟨⟨x108, (), rfl, trivial, cW_at ht hW⟩, hS.F ht⟩) hS.2.2 dX10_admittance_121
  have J16 : ∀ (H : Heap) (locs : List Loc) (ls : Array Slot) (w16_0 : Int32), cW N H → va_S (cE N [0, 2, 4, 8]) s.heap H locs → lv_has ls 6 [(0, .ref h0), (2, .int p2), (3, .int p3)] → WW H locs (F0 m 16 ls [.int w16_0]) := by
    intro H locs ls w16_0 hW hS hl
    refine w1 _ _ _ ?_
    refine lv_istore (lv' := [(4, .int w16_0), (0, .ref h0), (2, .int p2), (3, .int p3)]) hx hb dX10_admittance_16 hl (by decide) rfl (fun ls hl => ?_)
    refine lv_aload_n hx hb dX10_admittance_18 rfl (lv_at hl 1 rfl) ?_
    refine lv_iload hx hb dX10_admittance_19 (lv_at hl 0 rfl) ?_
    refine cc_i (wt_runV (As := [.int w16_0]) (rest := []) ⟨hx, hb, hml, hown, hts⟩ (m_X10_isBeginning l N h0 k0 w16_0) wm_X10_isBeginning q535 ⟨rfl, rfl⟩ ⟨Nat.le_of_ble_eq_true rfl, Nat.le_of_ble_eq_true rfl⟩ (cS_preV hK hW hT hnn hS (cg10 k0) rfl rfl trivial) rfl hl.1 rfl (Nat.le_of_ble_eq_true rfl) dX10_admittance_21 ⟨Nat.zero_le _, Nat.zero_le _⟩) hS (by decide) (fun x21 H locs hp hW hS oq => ?_)
    obtain ⟨r21, b21⟩ := hp
    refine lv_if_eq (tgt := 43) hx hb dX10_admittance_24 (by decide) (fun c24 => ?_) (fun c24 => ?_)
    · have rx21_24 : ir x21 0 0 := rf_eq c24 (ir_c (0) (by decide) : ir (0 : Int32) (0) (0))
      refine lv_ldc2 hx hb hown (hts _ q643) dX10_admittance_43 ?_
      exact W.lret (v := (-9223372036854775808 : Int64)) hx hb hr (fun t ht _ => ⟨⟨(-9223372036854775808 : Int64), (), rfl, trivial, cW_at ht hW⟩, hS.F ht⟩) hS.2.2 dX10_admittance_46
    · have rx21_24 : ir x21 1 1 := rf_ne0 c24 r21
      have bx21_24 := b21 c24
      refine lv_iload_n hx hb dX10_admittance_27 rfl (lv_at hl 2 rfl) ?_
      refine cp_i (wt_runS (As := [.int p2]) (rest := []) ⟨hx, hb, hml, hown, hts⟩ (m_X10_isMark l p2) wm_X10_isMark q539 ⟨rfl, rfl⟩ ⟨Nat.le_of_ble_eq_true rfl, Nat.le_of_ble_eq_true rfl⟩ pS_pre rfl hl.1 rfl (Nat.le_of_ble_eq_true rfl) dX10_admittance_28 ⟨Nat.zero_le _, Nat.zero_le _⟩) hW hS (fun x28 H locs hp hW hS oq => ?_)
      obtain ⟨r28, b28⟩ := hp
      refine lv_if_eq (tgt := 43) hx hb dX10_admittance_31 (by decide) (fun c31 => ?_) (fun c31 => ?_)
      · have rx28_31 : ir x28 0 0 := rf_eq c31 (ir_c (0) (by decide) : ir (0 : Int32) (0) (0))
        refine lv_ldc2 hx hb hown (hts _ q643) dX10_admittance_43 ?_
        exact W.lret (v := (-9223372036854775808 : Int64)) hx hb hr (fun t ht _ => ⟨⟨(-9223372036854775808 : Int64), (), rfl, trivial, cW_at ht hW⟩, hS.F ht⟩) hS.2.2 dX10_admittance_46
      · have rx28_31 : ir x28 1 1 := rf_ne0 c31 r28
        have bx28_31 := b28 c31
        refine lv_iload_n hx hb dX10_admittance_34 rfl (lv_at hl 3 rfl) ?_
        refine lv_if_lt (tgt := 43) hx hb dX10_admittance_35 (by decide) (fun c35 => ?_) (fun c35 => ?_)
        · have rp3_35 : ir p3 (-2147483648) (-1) := ⟨((ir_any p3)).1, Int.le_trans (rf_lt c35 (ir_any p3) (ir_c (0) (by decide) : ir (0 : Int32) (0) (0))).1 (by decide)⟩
          refine lv_ldc2 hx hb hown (hts _ q643) dX10_admittance_43 ?_
          exact W.lret (v := (-9223372036854775808 : Int64)) hx hb hr (fun t ht _ => ⟨⟨(-9223372036854775808 : Int64), (), rfl, trivial, cW_at ht hW⟩, hS.F ht⟩) hS.2.2 dX10_admittance_46
        · have rp3_35 : ir p3 0 2147483647 := ⟨Int.le_trans (by decide) (rf_le (rf_nlt c35) (ir_c (0) (by decide) : ir (0 : Int32) (0) (0)) (ir_any p3)).2, ((ir_any p3)).2⟩
          refine lv_iload_n hx hb dX10_admittance_38 rfl (lv_at hl 3 rfl) ?_
          refine lv_iconst (v := 3) hx hb dX10_admittance_39 (by decide) ?_
          refine lv_icmp_le (tgt := 47) hx hb dX10_admittance_40 (by decide) (fun c40 => ?_) (fun c40 => ?_)
          · have rp3_40 : ir p3 0 3 := ⟨(rp3_35).1, Int.le_trans (rf_le c40 rp3_35 (ir_c (3) (by decide) : ir (3 : Int32) (3) (3))).1 (by decide)⟩
            refine lv_aload_n hx hb dX10_admittance_47 rfl (lv_at hl 1 rfl) ?_
            refine lv_iload hx hb dX10_admittance_48 (lv_at hl 0 rfl) ?_
            refine lv_iload_n hx hb dX10_admittance_50 rfl (lv_at hl 2 rfl) ?_
            refine cc_r (wt_runV (As := [.int w16_0, .int p2]) (rest := []) ⟨hx, hb, hml, hown, hts⟩ (m_X10_beginning l N h0 k0 w16_0 p2 bx28_31) wm_X10_beginning q543 ⟨rfl, rfl⟩ ⟨Nat.le_of_ble_eq_true rfl, Nat.le_of_ble_eq_true rfl⟩ (cS_preV hK hW hT hnn hS (cg10 k0) rfl rfl trivial) rfl hl.1 rfl (Nat.le_of_ble_eq_true rfl) dX10_admittance_51 ⟨Nat.zero_le _, Nat.zero_le _⟩) hS (by decide) (fun x51 H locs k51 hW hS oq => ?_)
            refine lv_astore (lv' := [(5, .ref x51), (4, .int w16_0), (0, .ref h0), (2, .int p2), (3, .int p3)]) hx hb dX10_admittance_54 hl (by decide) rfl (fun ls hl => ?_)
            refine lv_aload hx hb dX10_admittance_56 (lv_at hl 0 rfl) ?_
            refine wt_getp hx hb hts cfX4 hown hK hW (cg4 k51) rfl 4 (by decide) (Or.inr ⟨_, lw_n_use hnn q197⟩) dX10_admittance_58 (fun v hv nx51_4 => ?_)
            obtain ⟨x58, rfl, r58⟩ : gi 0 1 v := hv
            refine lv_if_eq (tgt := 68) hx hb dX10_admittance_61 (by decide) (fun c61 => ?_) (fun c61 => ?_)
            · have rx58_61 : ir x58 0 0 := rf_eq c61 (ir_c (0) (by decide) : ir (0 : Int32) (0) (0))
              refine lv_aload_n hx hb dX10_admittance_68 rfl (lv_at hl 2 rfl) ?_
              refine wt_get hx hb hts cfX10 hown hK hW (cg10 k0) rfl 3 (by decide) q296 dX10_admittance_69 (fun v hv => ?_)
              obtain ⟨x69, rfl, k69⟩ : gr N 5 v := hv
              refine lv_aload hx hb dX10_admittance_72 (lv_at hl 0 rfl) ?_
              refine lv_iload_n hx hb dX10_admittance_74 rfl (lv_at hl 4 rfl) ?_
              refine lv_iconst (v := 2) hx hb dX10_admittance_75 (by decide) ?_
              refine lv_icmp_lt (tgt := 83) hx hb dX10_admittance_76 (by decide) (fun c76 => ?_) (fun c76 => ?_)
              · have rp3_76 : ir p3 0 1 := ⟨(rp3_40).1, Int.le_trans (rf_lt c76 rp3_40 (ir_c (2) (by decide) : ir (2 : Int32) (2) (2))).1 (by decide)⟩
                refine lv_iconst (v := 0) hx hb dX10_admittance_83 (by decide) ?_
                exact w2 _ _ _ (J84 _ _ _ (0 : Int32) x51 x69 hW hS (lv_sub hl [2, 4] rfl) (ir_w (lo' := 0) (hi' := 3) rp3_76 (by decide) (by decide)) (ir_w (lo' := 0) (hi' := 1) (ir_c (0) (by decide) : ir (0 : Int32) (0) (0)) (by decide) (by decide)) k51 k69)
              · have rp3_76 : ir p3 2 3 := ⟨Int.le_trans (by decide) (rf_le (rf_nlt c76) (ir_c (2) (by decide) : ir (2 : Int32) (2) (2)) rp3_40).2, (rp3_40).2⟩
                refine lv_iconst (v := 1) hx hb dX10_admittance_79 (by decide) ?_
                refine lv_goto (tgt := 84) hx hb dX10_admittance_80 (by decide) ?_
                exact w2 _ _ _ (J84 _ _ _ (1 : Int32) x51 x69 hW hS (lv_sub hl [2, 4] rfl) (ir_w (lo' := 0) (hi' := 3) rp3_76 (by decide) (by decide)) (ir_w (lo' := 0) (hi' := 1) (ir_c (1) (by decide) : ir (1 : Int32) (1) (1)) (by decide) (by decide)) k51 k69)
            · have rx58_61 : ir x58 1 1 := rf_ne0 c61 r58
              refine lv_ldc2 hx hb hown (hts _ q643) dX10_admittance_64 ?_
              exact W.lret (v := (-9223372036854775808 : Int64)) hx hb hr (fun t ht _ => ⟨⟨(-9223372036854775808 : Int64), (), rfl, trivial, cW_at ht hW⟩, hS.F ht⟩) hS.2.2 dX10_admittance_67
          · have rp3_40 : ir p3 4 2147483647 := ⟨Int.le_trans (by decide) (rf_lt (rf_nle c40) (ir_c (3) (by decide) : ir (3 : Int32) (3) (3)) rp3_35).2, (rp3_35).2⟩
            refine lv_ldc2 hx hb hown (hts _ q643) dX10_admittance_43 ?_
            exact W.lret (v := (-9223372036854775808 : Int64)) hx hb hr (fun t ht _ => ⟨⟨(-9223372036854775808 : Int64), (), rfl, trivial, cW_at ht hW⟩, hS.F ht⟩) hS.2.2 dX10_admittance_46
  refine lv_iload_n hx hb dX10_admittance_0 rfl (lv_at hl 1 rfl) ?_
  refine lv_iconst (v := -1) hx hb dX10_admittance_1 (by decide) ?_
  refine lv_icmp_ne (tgt := 15) hx hb dX10_admittance_2 (by decide) (fun c2 => ?_) (fun c2 => ?_)
  · refine lv_iload_n hx hb dX10_admittance_15 rfl (lv_at hl 1 rfl) ?_
    exact w2 _ _ _ (J16 _ _ _ p1 hW hS (lv_sub hl [0, 2, 3] rfl) )
  · have rp1_2 : ir p1 (-1) (-1) := rf_eq c2 (ir_c (-1) (by decide) : ir (-1 : Int32) (-1) (-1))
    refine lv_aload_n hx hb dX10_admittance_5 rfl (lv_at hl 0 rfl) ?_
    refine wt_get hx hb hts cfX10 hown hK hW (cg10 k0) rfl 1 (by decide) q294 dX10_admittance_6 (fun v hv => ?_)
    obtain ⟨x6, rfl, k6⟩ : gr N 3 v := hv
    refine wt_getp hx hb hts cfX3 hown hK hW (cg3 k6) rfl 1 (by decide) (Or.inr ⟨_, lw_n_use hnn q46⟩) dX10_admittance_9 (fun v hv nx6_1 => ?_)
    obtain ⟨x9, rfl, r9⟩ : gi 0 24 v := hv
    refine lv_goto (tgt := 16) hx hb dX10_admittance_12 (by decide) ?_
    exact w2 _ _ _ (J16 _ _ _ x9 hW hS (lv_sub hl [0, 2, 3] rfl) )
set_option maxHeartbeats 4000000 in
set_option maxRecDepth 100000 in
theorem m_X10_marks (l : Launch) (N : c_N) (h0 : Nat) (k0 : N.2.2.1 h0 = some 10) (p1 : Int32) : cMi l yX10_marks cX10_marks 4 .int { frames := 6, cells := 0, slots := 0, locals := 155 } [.ref h0, .int p1] N [0, 2, 4, 8] cT0 (fun _ => True) := by
  refine Met.ofW (cc := cX10_marks) (maxL := 4) (ret := some .int) (by decide) rfl ?_
  intro p e s m args below meth c s₁ B hml hv
  obtain ⟨rfl, ⟨hK, hW, hT, hnn⟩, hB⟩ := hv
  have hx := B.exec
  have hb := B.bytes
  have hr := B.returns
  have hts : ∀ w ∈ lw_g, w.before _ s = true := fun w h => atoms_spec (ws := wc_ws yX10_marks cX10_marks 4 (some .int)) B.pre w (List.mem_cons_of_mem _ h)
  have hown : s.vm.findClass RX10 = some m.cls := findClass_of_methodNamed B.named
  have hlocks := B.notSynchronized
  have hS : va_S (cE N [0, 2, 4, 8]) s.heap s.heap [] := va_S.rf
  have hl := lv_entry ([.ref h0, .int p1]) (n := 4) (Nat.le_of_ble_eq_true rfl)
  rw [lg_entry_eq]
  generalize (lg_sl ([.ref h0, .int p1]) ++ List.replicate (4 - (lg_sl ([.ref h0, .int p1])).length) Slot.unset).toArray = ls at hl ⊢
  have hl : lv_has ls 4 [(0, .ref h0), (1, .int p1)] := hl
  refine wq_all ?_
  intro WW w1 w2
  have L15 : ∀ (n : Nat) (H : Heap) (locs : List Loc) (ls : Array Slot) (v15_2 : Int32) (v15_3 : Int32), cW N H → va_S (cE N [0, 2, 4, 8]) s.heap H locs → lv_has ls 4 [(0, .ref h0), (1, .int p1), (2, .int v15_2), (3, .int v15_3)] → ir p1 0 2 → ir v15_3 1 5 → 5 - v15_3.toInt < (n : Int) → WW H locs (F0 m 15 ls []) := by
    intro n
    induction n with
    | zero =>
      intro H locs ls v15_2 v15_3 hW hS hl rv15_1 rv15_3 mu15
      exfalso
      omega
    | succ n ih15 =>
      intro H locs ls v15_2 v15_3 hW hS hl rv15_1 rv15_3 mu15
      have J48 : ∀ (H : Heap) (locs : List Loc) (ls : Array Slot) (v48_2 : Int32), cW N H → va_S (cE N [0, 2, 4, 8]) s.heap H locs → lv_has ls 4 [(0, .ref h0), (1, .int p1), (2, .int v48_2), (3, .int v15_3)] → ir p1 0 2 → ir v15_3 1 4 → WW H locs (F0 m 48 ls []) := by
        intro H locs ls v48_2 hW hS hl rv48_1 rv48_3
        refine w1 _ _ _ ?_
        obtain ⟨x48, e48⟩ : ∃ y : Int32, y = v15_3 + 1 := ⟨_, rfl⟩
        have r48 : ir x48 2 5 := ir_w (ir_add e48 rv48_3 (ir_c (1) (by decide) : ir (1 : Int32) (1) (1)) (by decide) (by decide)) (by decide) (by decide)
        have t48 : x48.toInt = v15_3.toInt + (1) := it_add e48 rv48_3 (ir_c (1) (by decide) : ir (1 : Int32) (1) (1)) (by decide) (by decide)
        refine lv_iinc (v := x48) (lv' := [(3, .int x48), (0, .ref h0), (1, .int p1), (2, .int v48_2)]) hx hb dX10_marks_48 hl (k := 3) rfl (by rw [e48]; rfl) (by decide) rfl (fun ls hl => ?_)
        refine lv_goto (tgt := 15) hx hb dX10_marks_51 (by decide) ?_
        exact w2 _ _ _ (ih15 _ _ _ v48_2 x48 hW hS (lv_sub hl [1, 2, 3, 0] rfl) rv48_1 (ir_w (lo' := 1) (hi' := 5) r48 (by decide) (by decide)) (by have h9 := r48; omega))
      refine w1 _ _ _ ?_
      refine lv_iload_n hx hb dX10_marks_15 rfl (lv_at hl 3 rfl) ?_
      refine lv_iconst (v := 4) hx hb dX10_marks_16 (by decide) ?_
      refine lv_icmp_gt (tgt := 54) hx hb dX10_marks_17 (by decide) (fun c17 => ?_) (fun c17 => ?_)
      · have rv15_3_17 : ir v15_3 5 5 := ⟨Int.le_trans (by decide) (rf_lt c17 (ir_c (4) (by decide) : ir (4 : Int32) (4) (4)) rv15_3).2, (rv15_3).2⟩
        refine lv_iload_n hx hb dX10_marks_54 rfl (lv_at hl 2 rfl) ?_
        exact W.iret (v := v15_2) hx hb hr (fun t ht _ => ⟨⟨v15_2, (), rfl, trivial, cW_at ht hW⟩, hS.F ht⟩) hS.2.2 dX10_marks_55
      · have rv15_3_17 : ir v15_3 1 4 := ⟨(rv15_3).1, Int.le_trans (rf_le (rf_nlt c17) rv15_3 (ir_c (4) (by decide) : ir (4 : Int32) (4) (4))).1 (by decide)⟩
        refine lv_aload_n hx hb dX10_marks_20 rfl (lv_at hl 0 rfl) ?_
        refine lv_aload_n hx hb dX10_marks_21 rfl (lv_at hl 0 rfl) ?_
        refine lv_aload_n hx hb dX10_marks_22 rfl (lv_at hl 0 rfl) ?_
        refine wt_get hx hb hts cfX10 hown hK hW (cg10 k0) rfl 1 (by decide) q294 dX10_marks_23 (fun v hv => ?_)
        obtain ⟨x23, rfl, k23⟩ : gr N 3 v := hv
        refine wt_getp hx hb hts cfX3 hown hK hW (cg3 k23) rfl 1 (by decide) (Or.inr ⟨_, lw_n_use hnn q46⟩) dX10_marks_26 (fun v hv nx23_1 => ?_)
        obtain ⟨x26, rfl, r26⟩ : gi 0 24 v := hv
        refine lv_iload_n hx hb dX10_marks_29 rfl (lv_at hl 3 rfl) ?_
        refine cc_r (wt_runV (As := [.int x26, .int v15_3]) (rest := [.ref h0]) ⟨hx, hb, hml, hown, hts⟩ (m_X10_beginning l N h0 k0 x26 v15_3 rv15_3_17) wm_X10_beginning q543 ⟨rfl, rfl⟩ ⟨Nat.le_of_ble_eq_true rfl, Nat.le_of_ble_eq_true rfl⟩ (cS_preV hK hW hT hnn hS (cg10 k0) rfl rfl trivial) rfl hl.1 rfl (Nat.le_of_ble_eq_true rfl) dX10_marks_30 ⟨Nat.zero_le _, Nat.zero_le _⟩) hS (by decide) (fun x30 H locs k30 hW hS oq => ?_)
        have nx23_1 := nx23_1.kept (oq _ nx23_1.lt (cE_not k23 (by decide)))
        refine lv_iload_n hx hb dX10_marks_33 rfl (lv_at hl 1 rfl) ?_
        refine cc_i (wt_runV (As := [.ref x30, .int p1]) (rest := []) ⟨hx, hb, hml, hown, hts⟩ (m_X10_isOfKind l N h0 k0 x30 k30 p1) wm_X10_isOfKind q652 ⟨rfl, rfl⟩ ⟨Nat.le_of_ble_eq_true rfl, Nat.le_of_ble_eq_true rfl⟩ (cS_preV hK hW hT hnn hS (cg10 k0) rfl rfl trivial) rfl hl.1 rfl (Nat.le_of_ble_eq_true rfl) dX10_marks_34 ⟨Nat.zero_le _, Nat.zero_le _⟩) hS (by decide) (fun x34 H locs hp hW hS oq => ?_)
        have nx23_1 := nx23_1.kept (oq _ nx23_1.lt (cE_not k23 (by decide)))
        have r34 : ir x34 0 1 := hp
        refine lv_if_eq (tgt := 48) hx hb dX10_marks_37 (by decide) (fun c37 => ?_) (fun c37 => ?_)
        · have rx34_37 : ir x34 0 0 := rf_eq c37 (ir_c (0) (by decide) : ir (0 : Int32) (0) (0))
          exact w2 _ _ _ (J48 _ _ _ v15_2 hW hS (lv_sub hl [0, 1, 2, 3] rfl) rv15_1 rv15_3_17)
        · have rx34_37 : ir x34 1 1 := rf_ne0 c37 r34
          refine lv_iload_n hx hb dX10_marks_40 rfl (lv_at hl 2 rfl) ?_
          refine lv_iconst (v := 1) hx hb dX10_marks_41 (by decide) ?_
          refine lv_iload_n hx hb dX10_marks_42 rfl (lv_at hl 3 rfl) ?_
          refine lv_iconst (v := 1) hx hb dX10_marks_43 (by decide) ?_
          refine lv_isub hx hb dX10_marks_44 ?_
          refine lv_topi (fun x44 e44 => ?_)
          have t44 : x44.toInt = v15_3.toInt - (1) := it_sub e44 rv15_3_17 (ir_c (1) (by decide) : ir (1 : Int32) (1) (1)) (by decide) (by decide)
          have r44 : ir x44 0 3 := ir_w (ir_sub e44 rv15_3_17 (ir_c (1) (by decide) : ir (1 : Int32) (1) (1)) (by decide) (by decide)) (by decide) (by decide)
          refine lv_ishl hx hb dX10_marks_45 ?_
          refine lv_topi (fun x45 e45 => ?_)
          refine lv_ior hx hb dX10_marks_46 ?_
          refine lv_topi (fun x46 e46 => ?_)
          refine lv_istore_n (lv' := [(2, .int x46), (0, .ref h0), (1, .int p1), (3, .int v15_3)]) hx hb dX10_marks_47 rfl hl (by decide) rfl (fun ls hl => ?_)
          exact w2 _ _ _ (J48 _ _ _ x46 hW hS (lv_sub hl [1, 2, 0, 3] rfl) rv15_1 rv15_3_17)
  refine lv_iload_n hx hb dX10_marks_0 rfl (lv_at hl 1 rfl) ?_
  refine lv_if_lt (tgt := 9) hx hb dX10_marks_1 (by decide) (fun c1 => ?_) (fun c1 => ?_)
  · have rp1_1 : ir p1 (-2147483648) (-1) := ⟨((ir_any p1)).1, Int.le_trans (rf_lt c1 (ir_any p1) (ir_c (0) (by decide) : ir (0 : Int32) (0) (0))).1 (by decide)⟩
    refine lv_iconst (v := -1) hx hb dX10_marks_9 (by decide) ?_
    exact W.iret (v := (-1 : Int32)) hx hb hr (fun t ht _ => ⟨⟨(-1 : Int32), (), rfl, trivial, cW_at ht hW⟩, hS.F ht⟩) hS.2.2 dX10_marks_10
  · have rp1_1 : ir p1 0 2147483647 := ⟨Int.le_trans (by decide) (rf_le (rf_nlt c1) (ir_c (0) (by decide) : ir (0 : Int32) (0) (0)) (ir_any p1)).2, ((ir_any p1)).2⟩
    refine lv_iload_n hx hb dX10_marks_4 rfl (lv_at hl 1 rfl) ?_
    refine lv_iconst (v := 2) hx hb dX10_marks_5 (by decide) ?_
    refine lv_icmp_le (tgt := 11) hx hb dX10_marks_6 (by decide) (fun c6 => ?_) (fun c6 => ?_)
    · have rp1_6 : ir p1 0 2 := ⟨(rp1_1).1, Int.le_trans (rf_le c6 rp1_1 (ir_c (2) (by decide) : ir (2 : Int32) (2) (2))).1 (by decide)⟩
      refine lv_iconst (v := 0) hx hb dX10_marks_11 (by decide) ?_
      refine lv_istore_n (lv' := [(2, .int (0 : Int32)), (0, .ref h0), (1, .int p1)]) hx hb dX10_marks_12 rfl hl (by decide) rfl (fun ls hl => ?_)
      refine lv_iconst (v := 1) hx hb dX10_marks_13 (by decide) ?_
      refine lv_istore_n (lv' := [(3, .int (1 : Int32)), (2, .int (0 : Int32)), (0, .ref h0), (1, .int p1)]) hx hb dX10_marks_14 rfl hl (by decide) rfl (fun ls hl => ?_)
      exact w2 _ _ _ (L15 5 _ _ _ (0 : Int32) (1 : Int32) hW hS (lv_sub hl [2, 3, 1, 0] rfl) rp1_6 (ir_w (lo' := 1) (hi' := 5) (ir_c (1) (by decide) : ir (1 : Int32) (1) (1)) (by decide) (by decide)) (by have h9 := (ir_c (1) (by decide) : ir (1 : Int32) (1) (1)); omega))
    · have rp1_6 : ir p1 3 2147483647 := ⟨Int.le_trans (by decide) (rf_lt (rf_nle c6) (ir_c (2) (by decide) : ir (2 : Int32) (2) (2)) rp1_1).2, (rp1_1).2⟩
      refine lv_iconst (v := -1) hx hb dX10_marks_9 (by decide) ?_
      exact W.iret (v := (-1 : Int32)) hx hb hr (fun t ht _ => ⟨⟨(-1 : Int32), (), rfl, trivial, cW_at ht hW⟩, hS.F ht⟩) hS.2.2 dX10_marks_10
