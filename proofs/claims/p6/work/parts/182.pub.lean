set_option maxHeartbeats 4000000 in
set_option maxRecDepth 100000 in
theorem m_X10_findWorstCorner (l : Launch) (N : c_N) (h0 : Nat) (k0 : N.2.2.1 h0 = some 10) (p1 : Int32) (rp1 : ir p1 1 4) (p2 : Int32) (rp2 : ir p2 2 12) : cMi l yX10_findWorstCorner cX10_findWorstCorner 11 .int { frames := 5, cells := 0, slots := 0, locals := 134 } [.ref h0, .int p1, .int p2] N [0, 2, 4, 8] cT0 (fun _ => True) := by
  refine Met.ofW (cc := cX10_findWorstCorner) (maxL := 11) (ret := some .int) (by decide) rfl ?_
  intro p e s m args below meth c s₁ B hml hv
  obtain ⟨rfl, ⟨hK, hW, hT, hnn⟩, hB⟩ := hv
  have hx := B.exec
  have hb := B.bytes
  have hr := B.returns
  have hts : ∀ w ∈ lw_g, w.before _ s = true := fun w h => atoms_spec (ws := wc_ws yX10_findWorstCorner cX10_findWorstCorner 11 (some .int)) B.pre w (List.mem_cons_of_mem _ h)
  have hown : s.vm.findClass RX10 = some m.cls := findClass_of_methodNamed B.named
  have hlocks := B.notSynchronized
  have hS : va_S (cE N [0, 2, 4, 8]) s.heap s.heap [] := va_S.rf
  have hl := lv_entry ([.ref h0, .int p1, .int p2]) (n := 11) (Nat.le_of_ble_eq_true rfl)
  rw [lg_entry_eq]
  generalize (lg_sl ([.ref h0, .int p1, .int p2]) ++ List.replicate (11 - (lg_sl ([.ref h0, .int p1, .int p2])).length) Slot.unset).toArray = ls at hl ⊢
  have hl : lv_has ls 11 [(0, .ref h0), (1, .int p1), (2, .int p2)] := hl
  refine wq_all ?_
  intro WW w1 w2
  have L66 : ∀ (n : Nat) (H : Heap) (locs : List Loc) (ls : Array Slot) (v66_3 : Int32) (v66_4 : Nat) (v66_5 : Nat) (v66_6 : Int32) (v66_7 : Int32), cW N H → va_S (cE N [0, 2, 4, 8]) s.heap H locs → lv_has ls 11 [(0, .ref h0), (3, .int v66_3), (4, .ref v66_4), (5, .ref v66_5), (6, .int v66_6), (7, .int v66_7)] → ir v66_3 0 24 → N.2.2.1 v66_4 = some 2 → N.2.2.1 v66_5 = some 2 → ir v66_7 0 2147483647 → 2147483647 - v66_7.toInt < (n : Int) → WW H locs (F0 m 66 ls []) := by
    intro n
    induction n with
    | zero =>
      intro H locs ls v66_3 v66_4 v66_5 v66_6 v66_7 hW hS hl rv66_3 kv66_4 kv66_5 rv66_7 mu66
      exfalso
      omega
    | succ n ih66 =>
      intro H locs ls v66_3 v66_4 v66_5 v66_6 v66_7 hW hS hl rv66_3 kv66_4 kv66_5 rv66_7 mu66
      have J213 : ∀ (H : Heap) (locs : List Loc) (ls : Array Slot) (v213_6 : Int32), cW N H → va_S (cE N [0, 2, 4, 8]) s.heap H locs → lv_has ls 11 [(0, .ref h0), (3, .int v66_3), (4, .ref v66_4), (5, .ref v66_5), (6, .int v213_6), (7, .int v66_7)] → ir v66_3 0 24 → ir v66_7 0 2147483646 → WW H locs (F0 m 213 ls []) := by
        intro H locs ls v213_6 hW hS hl rv213_3 rv213_7
        refine w1 _ _ _ ?_
        obtain ⟨x213, e213⟩ : ∃ y : Int32, y = v66_7 + 1 := ⟨_, rfl⟩
        have r213 : ir x213 1 2147483647 := ir_w (ir_add e213 rv213_7 (ir_c (1) (by decide) : ir (1 : Int32) (1) (1)) (by decide) (by decide)) (by decide) (by decide)
        have t213 : x213.toInt = v66_7.toInt + (1) := it_add e213 rv213_7 (ir_c (1) (by decide) : ir (1 : Int32) (1) (1)) (by decide) (by decide)
        refine lv_iinc (v := x213) (lv' := [(7, .int x213), (0, .ref h0), (3, .int v66_3), (4, .ref v66_4), (5, .ref v66_5), (6, .int v213_6)]) hx hb dX10_findWorstCorner_213 hl (k := 5) rfl (by rw [e213]; rfl) (by decide) rfl (fun ls hl => ?_)
        refine lv_goto (tgt := 66) hx hb dX10_findWorstCorner_216 (by decide) ?_
        exact w2 _ _ _ (ih66 _ _ _ v66_3 v66_4 v66_5 v213_6 x213 hW hS (lv_sub hl [1, 2, 3, 4, 5, 0] rfl) rv213_3 kv66_4 kv66_5 (ir_w (lo' := 0) (hi' := 2147483647) r213 (by decide) (by decide)) (by have h9 := r213; omega))
      have J198 : ∀ (H : Heap) (locs : List Loc) (ls : Array Slot) (v198_9 : Int32), cW N H → va_S (cE N [0, 2, 4, 8]) s.heap H locs → lv_has ls 11 [(0, .ref h0), (3, .int v66_3), (4, .ref v66_4), (5, .ref v66_5), (7, .int v66_7), (9, .int v198_9)] → ir v66_3 0 24 → ir v66_7 0 2147483646 → WW H locs (F0 m 198 ls []) := by
        intro H locs ls v198_9 hW hS hl rv198_3 rv198_7
        refine w1 _ _ _ ?_
        refine lv_iload hx hb dX10_findWorstCorner_198 (lv_at hl 5 rfl) ?_
        refine lv_istore (lv' := [(6, .int v198_9), (0, .ref h0), (3, .int v66_3), (4, .ref v66_4), (5, .ref v66_5), (7, .int v66_7), (9, .int v198_9)]) hx hb dX10_findWorstCorner_200 hl (by decide) rfl (fun ls hl => ?_)
        refine lv_aload_n hx hb dX10_findWorstCorner_202 rfl (lv_at hl 1 rfl) ?_
        refine wt_get hx hb hts cfX10 hown hK hW (cg10 k0) rfl 10 (by decide) q303 dX10_findWorstCorner_203 (fun v hv => ?_)
        obtain ⟨x203, rfl, k203⟩ : gr N 0 v := hv
        refine lv_aload_n hx hb dX10_findWorstCorner_206 rfl (lv_at hl 1 rfl) ?_
        refine wt_get hx hb hts cfX10 hown hK hW (cg10 k0) rfl 9 (by decide) q302 dX10_findWorstCorner_207 (fun v hv => ?_)
        obtain ⟨x207, rfl, k207⟩ : gr N 0 v := hv
        refine cc_v (wt_runV (As := [.ref x207]) (rest := []) ⟨hx, hb, hml, hown, hts⟩ (m_X0_copyOf l N x203 k203 x207 k207) wm_X0_copyOf q667 ⟨rfl, rfl⟩ ⟨Nat.le_of_ble_eq_true rfl, Nat.le_of_ble_eq_true rfl⟩ (cS_preV hK hW hT hnn hS (cg0 k203) rfl rfl trivial) rfl hl.1 rfl (Nat.le_of_ble_eq_true rfl) dX10_findWorstCorner_210 ⟨Nat.zero_le _, Nat.zero_le _⟩) hS (by decide) (fun H locs hW hS oq hB2 => ?_)
        exact w2 _ _ _ (J213 _ _ _ v198_9 hW hS (lv_sub hl [1, 2, 3, 4, 0, 5] rfl) rv198_3 rv198_7)
      have J179 : ∀ (H : Heap) (locs : List Loc) (ls : Array Slot) (v179_9 : Int32) (w179_0 : Int32), cW N H → va_S (cE N [0, 2, 4, 8]) s.heap H locs → lv_has ls 11 [(0, .ref h0), (3, .int v66_3), (4, .ref v66_4), (5, .ref v66_5), (6, .int v66_6), (7, .int v66_7), (9, .int v179_9)] → ir v66_3 0 24 → ir v66_7 0 2147483646 → WW H locs (F0 m 179 ls [.int w179_0]) := by
        intro H locs ls v179_9 w179_0 hW hS hl rv179_3 rv179_7
        refine w1 _ _ _ ?_
        refine lv_istore (lv' := [(10, .int w179_0), (0, .ref h0), (3, .int v66_3), (4, .ref v66_4), (5, .ref v66_5), (6, .int v66_6), (7, .int v66_7), (9, .int v179_9)]) hx hb dX10_findWorstCorner_179 hl (by decide) rfl (fun ls hl => ?_)
        refine lv_iload hx hb dX10_findWorstCorner_181 (lv_at hl 0 rfl) ?_
        refine lv_if_gt (tgt := 198) hx hb dX10_findWorstCorner_183 (by decide) (fun c183 => ?_) (fun c183 => ?_)
        · have rw179_0_183 : ir w179_0 1 2147483647 := ⟨Int.le_trans (by decide) (rf_lt c183 (ir_c (0) (by decide) : ir (0 : Int32) (0) (0)) (ir_any w179_0)).2, ((ir_any w179_0)).2⟩
          exact w2 _ _ _ (J198 _ _ _ v179_9 hW hS (lv_sub hl [1, 2, 3, 4, 6, 7] rfl) rv179_3 rv179_7)
        · have rw179_0_183 : ir w179_0 (-2147483648) 0 := ⟨((ir_any w179_0)).1, Int.le_trans (rf_le (rf_nlt c183) (ir_any w179_0) (ir_c (0) (by decide) : ir (0 : Int32) (0) (0))).1 (by decide)⟩
          refine lv_iload hx hb dX10_findWorstCorner_186 (lv_at hl 0 rfl) ?_
          refine lv_if_ne (tgt := 213) hx hb dX10_findWorstCorner_188 (by decide) (fun c188 => ?_) (fun c188 => ?_)
          · exact w2 _ _ _ (J213 _ _ _ v66_6 hW hS (lv_sub hl [1, 2, 3, 4, 5, 6] rfl) rv179_3 rv179_7)
          · have rw179_0_188 : ir w179_0 0 0 := rf_eq c188 (ir_c (0) (by decide) : ir (0 : Int32) (0) (0))
            refine lv_iload hx hb dX10_findWorstCorner_191 (lv_at hl 7 rfl) ?_
            refine lv_iload hx hb dX10_findWorstCorner_193 (lv_at hl 5 rfl) ?_
            refine lv_icmp_ge (tgt := 213) hx hb dX10_findWorstCorner_195 (by decide) (fun c195 => ?_) (fun c195 => ?_)
            · exact w2 _ _ _ (J213 _ _ _ v66_6 hW hS (lv_sub hl [1, 2, 3, 4, 5, 6] rfl) rv179_3 rv179_7)
            · have rv179_9_195 : ir v179_9 (-2147483648) 2147483646 := ⟨((ir_any v179_9)).1, Int.le_trans (rf_lt (rf_nle c195) (ir_any v179_9) (ir_any v66_6)).1 (by decide)⟩
              have rv66_6_195 : ir v66_6 (-2147483647) 2147483647 := ⟨Int.le_trans (by decide) (rf_lt (rf_nle c195) (ir_any v179_9) (ir_any v66_6)).2, ((ir_any v66_6)).2⟩
              exact w2 _ _ _ (J198 _ _ _ v179_9 hW hS (lv_sub hl [1, 2, 3, 4, 6, 7] rfl) rv179_3 rv179_7)
      have J140 : ∀ (H : Heap) (locs : List Loc) (ls : Array Slot) (w140_0 : Int32), cW N H → va_S (cE N [0, 2, 4, 8]) s.heap H locs → lv_has ls 11 [(0, .ref h0), (3, .int v66_3), (4, .ref v66_4), (5, .ref v66_5), (6, .int v66_6), (7, .int v66_7)] → ir v66_3 0 24 → ir v66_7 0 2147483646 → WW H locs (F0 m 140 ls [.int w140_0]) := by
        intro H locs ls w140_0 hW hS hl rv140_3 rv140_7
        refine w1 _ _ _ ?_
        refine lv_istore (lv' := [(9, .int w140_0), (0, .ref h0), (3, .int v66_3), (4, .ref v66_4), (5, .ref v66_5), (6, .int v66_6), (7, .int v66_7)]) hx hb dX10_findWorstCorner_140 hl (by decide) rfl (fun ls hl => ?_)
        refine lv_aload_n hx hb dX10_findWorstCorner_142 rfl (lv_at hl 1 rfl) ?_
        refine wt_get hx hb hts cfX10 hown hK hW (cg10 k0) rfl 3 (by decide) q296 dX10_findWorstCorner_143 (fun v hv => ?_)
        obtain ⟨x143, rfl, k143⟩ : gr N 5 v := hv
        refine lv_aload hx hb dX10_findWorstCorner_146 (lv_at hl 3 rfl) ?_
        refine cc_r (wt_runV (As := []) (rest := [.ref x143]) ⟨hx, hb, hml, hown, hts⟩ (m_X2_whole l N v66_4 kv66_4) wm_X2_whole q585 ⟨rfl, rfl⟩ ⟨Nat.le_of_ble_eq_true rfl, Nat.le_of_ble_eq_true rfl⟩ (cS_preV hK hW hT hnn hS (cg2 kv66_4) rfl rfl trivial) rfl hl.1 rfl (Nat.le_of_ble_eq_true rfl) dX10_findWorstCorner_148 ⟨Nat.zero_le _, Nat.zero_le _⟩) hS (by decide) (fun x148 H locs k148 hW hS oq => ?_)
        refine lv_aload_n hx hb dX10_findWorstCorner_151 rfl (lv_at hl 1 rfl) ?_
        refine wt_get hx hb hts cfX10 hown hK hW (cg10 k0) rfl 9 (by decide) q302 dX10_findWorstCorner_152 (fun v hv => ?_)
        obtain ⟨x152, rfl, k152⟩ : gr N 0 v := hv
        refine cc_v (wt_runV (As := [.ref x148, .ref x152]) (rest := []) ⟨hx, hb, hml, hown, hts⟩ (m_X5_measureBack l N x143 k143 x148 k148 x152 k152) wm_X5_measureBack q599 ⟨rfl, rfl⟩ ⟨Nat.le_of_ble_eq_true rfl, Nat.le_of_ble_eq_true rfl⟩ (cS_preV hK hW hT hnn hS (cg5 k143) rfl rfl trivial) rfl hl.1 rfl (Nat.le_of_ble_eq_true rfl) dX10_findWorstCorner_155 ⟨Nat.zero_le _, Nat.zero_le _⟩) hS (by decide) (fun H locs hW hS oq hB2 => ?_)
        refine lv_iload hx hb dX10_findWorstCorner_158 (lv_at hl 5 rfl) ?_
        refine lv_iconst (v := -1) hx hb dX10_findWorstCorner_160 (by decide) ?_
        refine lv_icmp_ne (tgt := 168) hx hb dX10_findWorstCorner_161 (by decide) (fun c161 => ?_) (fun c161 => ?_)
        · refine lv_aload_n hx hb dX10_findWorstCorner_168 rfl (lv_at hl 1 rfl) ?_
          refine wt_get hx hb hts cfX10 hown hK hW (cg10 k0) rfl 9 (by decide) q302 dX10_findWorstCorner_169 (fun v hv => ?_)
          obtain ⟨x169, rfl, k169⟩ : gr N 0 v := hv
          refine lv_aload_n hx hb dX10_findWorstCorner_172 rfl (lv_at hl 1 rfl) ?_
          refine wt_get hx hb hts cfX10 hown hK hW (cg10 k0) rfl 10 (by decide) q303 dX10_findWorstCorner_173 (fun v hv => ?_)
          obtain ⟨x173, rfl, k173⟩ : gr N 0 v := hv
          refine cc_i (wt_runV (As := [.ref x173]) (rest := []) ⟨hx, hb, hml, hown, hts⟩ (m_X0_compareWith l N x169 k169 x173 k173) wm_X0_compareWith q660 ⟨rfl, rfl⟩ ⟨Nat.le_of_ble_eq_true rfl, Nat.le_of_ble_eq_true rfl⟩ (cS_preV hK hW hT hnn hS (cg0 k169) rfl rfl trivial) rfl hl.1 rfl (Nat.le_of_ble_eq_true rfl) dX10_findWorstCorner_176 ⟨Nat.zero_le _, Nat.zero_le _⟩) hS (by decide) (fun x176 H locs hp hW hS oq => ?_)
          exact w2 _ _ _ (J179 _ _ _ w140_0 x176 hW hS (lv_sub hl [1, 2, 3, 4, 5, 6, 0] rfl) rv140_3 rv140_7)
        · have rv66_6_161 : ir v66_6 (-1) (-1) := rf_eq c161 (ir_c (-1) (by decide) : ir (-1 : Int32) (-1) (-1))
          refine lv_iconst (v := 1) hx hb dX10_findWorstCorner_164 (by decide) ?_
          refine lv_goto (tgt := 179) hx hb dX10_findWorstCorner_165 (by decide) ?_
          exact w2 _ _ _ (J179 _ _ _ w140_0 (1 : Int32) hW hS (lv_sub hl [1, 2, 3, 4, 5, 6, 0] rfl) rv140_3 rv140_7)
      have J92 : ∀ (H : Heap) (locs : List Loc) (ls : Array Slot) (w92_0 : Int32), cW N H → va_S (cE N [0, 2, 4, 8]) s.heap H locs → lv_has ls 11 [(0, .ref h0), (3, .int v66_3), (4, .ref v66_4), (5, .ref v66_5), (6, .int v66_6), (7, .int v66_7)] → ir v66_3 0 24 → ir v66_7 0 2147483646 → WW H locs (F0 m 92 ls [.int w92_0]) := by
        intro H locs ls w92_0 hW hS hl rv92_3 rv92_7
        refine w1 _ _ _ ?_
        refine lv_istore (lv' := [(8, .int w92_0), (0, .ref h0), (3, .int v66_3), (4, .ref v66_4), (5, .ref v66_5), (6, .int v66_6), (7, .int v66_7)]) hx hb dX10_findWorstCorner_92 hl (by decide) rfl (fun ls hl => ?_)
        refine lv_aload hx hb dX10_findWorstCorner_94 (lv_at hl 3 rfl) ?_
        refine lv_aload hx hb dX10_findWorstCorner_96 (lv_at hl 4 rfl) ?_
        refine lv_iload hx hb dX10_findWorstCorner_98 (lv_at hl 0 rfl) ?_
        refine lv_iconst (v := 0) hx hb dX10_findWorstCorner_100 (by decide) ?_
        refine va_mmax hx hb (hml.trans hl.1.symm) hown (hts _ q702) (hts _ q553) (hts _ q13) (hts _ q554) (Nat.le_of_ble_eq_true rfl) (Nat.le_of_ble_eq_true rfl) (Nat.zero_le _) (Nat.zero_le _) dX10_findWorstCorner_101 ?_
        refine lv_topi (fun x101 e101 => ?_)
        have r101 : ir x101 0 2147483647 := ir_max e101 (ir_any w92_0) (ir_c (0) (by decide) : ir (0 : Int32) (0) (0)) (by decide) (by decide) (by decide) (by decide)
        refine lv_iload hx hb dX10_findWorstCorner_104 (lv_at hl 6 rfl) ?_
        refine cc_v (wt_runV (As := [.ref v66_5, .int x101, .int v66_7]) (rest := []) ⟨hx, hb, hml, hown, hts⟩ (m_X2_changeTail l N v66_4 kv66_4 v66_5 kv66_5 x101 r101 v66_7) wm_X2_changeTail q703 ⟨rfl, rfl⟩ ⟨Nat.le_of_ble_eq_true rfl, Nat.le_of_ble_eq_true rfl⟩ (cS_preV hK hW hT hnn hS (cg2 kv66_4) rfl rfl trivial) rfl hl.1 rfl (Nat.le_of_ble_eq_true rfl) dX10_findWorstCorner_106 ⟨Nat.zero_le _, Nat.zero_le _⟩) hS (by decide) (fun H locs hW hS oq hB2 => ?_)
        refine lv_aload hx hb dX10_findWorstCorner_109 (lv_at hl 3 rfl) ?_
        refine cc_r (wt_runV (As := []) (rest := []) ⟨hx, hb, hml, hown, hts⟩ (m_X2_whole l N v66_4 kv66_4) wm_X2_whole q585 ⟨rfl, rfl⟩ ⟨Nat.le_of_ble_eq_true rfl, Nat.le_of_ble_eq_true rfl⟩ (cS_preV hK hW hT hnn hS (cg2 kv66_4) rfl rfl trivial) rfl hl.1 rfl (Nat.le_of_ble_eq_true rfl) dX10_findWorstCorner_111 ⟨Nat.zero_le _, Nat.zero_le _⟩) hS (by decide) (fun x111 H locs k111 hW hS oq => ?_)
        refine wt_getp hx hb hts cfX4 hown hK hW (cg4 k111) rfl 4 (by decide) (Or.inr ⟨_, lw_n_use hnn q197⟩) dX10_findWorstCorner_114 (fun v hv nx111_4 => ?_)
        obtain ⟨x114, rfl, r114⟩ : gi 0 1 v := hv
        refine lv_if_eq (tgt := 122) hx hb dX10_findWorstCorner_117 (by decide) (fun c117 => ?_) (fun c117 => ?_)
        · have rx114_117 : ir x114 0 0 := rf_eq c117 (ir_c (0) (by decide) : ir (0 : Int32) (0) (0))
          refine lv_iload_n hx hb dX10_findWorstCorner_122 rfl (lv_at hl 2 rfl) ?_
          refine lv_if_ne (tgt := 130) hx hb dX10_findWorstCorner_123 (by decide) (fun c123 => ?_) (fun c123 => ?_)
          · have rv66_3_123 : ir v66_3 1 24 := rf_ne0 c123 rv92_3
            refine lv_iload hx hb dX10_findWorstCorner_130 (lv_at hl 6 rfl) ?_
            refine cp_i (wt_runS (As := [.int v66_7]) (rest := []) ⟨hx, hb, hml, hown, hts⟩ (m_J6_reverse_0f7a4 l v66_7) wm_J6_reverse_0f7a4 q707 ⟨rfl, rfl⟩ ⟨Nat.le_of_ble_eq_true rfl, Nat.le_of_ble_eq_true rfl⟩ pS_pre rfl hl.1 rfl (Nat.le_of_ble_eq_true rfl) dX10_findWorstCorner_132 ⟨Nat.zero_le _, Nat.zero_le _⟩) hW hS (fun x132 H locs hp hW hS oq => ?_)
            have nx111_4 := nx111_4.kept (oq _ nx111_4.lt (cE_not k111 (by decide)))
            refine lv_bipush (v := 32) hx hb dX10_findWorstCorner_135 (by decide) ?_
            refine lv_iload_n hx hb dX10_findWorstCorner_137 rfl (lv_at hl 2 rfl) ?_
            refine lv_isub hx hb dX10_findWorstCorner_138 ?_
            refine lv_topi (fun x138 e138 => ?_)
            have t138 : x138.toInt = (32) - v66_3.toInt := it_sub e138 (ir_c (32) (by decide) : ir (32 : Int32) (32) (32)) rv66_3_123 (by decide) (by decide)
            have r138 : ir x138 8 31 := ir_w (ir_sub e138 (ir_c (32) (by decide) : ir (32 : Int32) (32) (32)) rv66_3_123 (by decide) (by decide)) (by decide) (by decide)
            refine lv_iushr hx hb dX10_findWorstCorner_139 rfl ?_
            refine lv_topi (fun x139 e139 => ?_)
            exact w2 _ _ _ (J140 _ _ _ x139 hW hS (lv_sub hl [1, 2, 3, 4, 5, 6] rfl) (ir_w (lo' := 0) (hi' := 24) rv66_3_123 (by decide) (by decide)) rv92_7)
          · have rv66_3_123 : ir v66_3 0 0 := rf_eq c123 (ir_c (0) (by decide) : ir (0 : Int32) (0) (0))
            refine lv_iconst (v := 0) hx hb dX10_findWorstCorner_126 (by decide) ?_
            refine lv_goto (tgt := 140) hx hb dX10_findWorstCorner_127 (by decide) ?_
            exact w2 _ _ _ (J140 _ _ _ (0 : Int32) hW hS (lv_sub hl [1, 2, 3, 4, 5, 6] rfl) (ir_w (lo' := 0) (hi' := 24) rv66_3_123 (by decide) (by decide)) rv92_7)
        · have rx114_117 : ir x114 1 1 := rf_ne0 c117 r114
          refine lv_iconst (v := -1) hx hb dX10_findWorstCorner_120 (by decide) ?_
          exact W.iret (v := (-1 : Int32)) hx hb hr (fun t ht _ => ⟨⟨(-1 : Int32), (), rfl, trivial, cW_at ht hW⟩, hS.F ht⟩) hS.2.2 dX10_findWorstCorner_121
      refine w1 _ _ _ ?_
      refine lv_iload hx hb dX10_findWorstCorner_66 (lv_at hl 5 rfl) ?_
      refine lv_iconst (v := 1) hx hb dX10_findWorstCorner_68 (by decide) ?_
      refine lv_iload_n hx hb dX10_findWorstCorner_69 rfl (lv_at hl 1 rfl) ?_
      refine lv_ishl hx hb dX10_findWorstCorner_70 ?_
      refine lv_topi (fun x70 e70 => ?_)
      refine lv_icmp_ge (tgt := 219) hx hb dX10_findWorstCorner_71 (by decide) (fun c71 => ?_) (fun c71 => ?_)
      · refine lv_iload hx hb dX10_findWorstCorner_219 (lv_at hl 4 rfl) ?_
        exact W.iret (v := v66_6) hx hb hr (fun t ht _ => ⟨⟨v66_6, (), rfl, trivial, cW_at ht hW⟩, hS.F ht⟩) hS.2.2 dX10_findWorstCorner_221
      · have rv66_7_71 : ir v66_7 0 2147483646 := ⟨(rv66_7).1, Int.le_trans (rf_lt (rf_nle c71) rv66_7 (ir_any x70)).1 (by decide)⟩
        have rx70_71 : ir x70 1 2147483647 := ⟨Int.le_trans (by decide) (rf_lt (rf_nle c71) rv66_7 (ir_any x70)).2, ((ir_any x70)).2⟩
        refine lv_iload hx hb dX10_findWorstCorner_74 (lv_at hl 5 rfl) ?_
        refine lv_if_ne (tgt := 83) hx hb dX10_findWorstCorner_76 (by decide) (fun c76 => ?_) (fun c76 => ?_)
        · have rv66_7_76 : ir v66_7 1 2147483646 := rf_ne0 c76 rv66_7_71
          have rx70_76_1 : ir x70 2 2147483647 := ⟨Int.le_trans (by decide) (rf_lt (rf_nle c71) rv66_7_76 rx70_71).2, (rx70_71).2⟩
          refine lv_iload_n hx hb dX10_findWorstCorner_83 rfl (lv_at hl 1 rfl) ?_
          refine lv_iconst (v := 1) hx hb dX10_findWorstCorner_84 (by decide) ?_
          refine lv_isub hx hb dX10_findWorstCorner_85 ?_
          refine lv_topi (fun x85 e85 => ?_)
          have t85 : x85.toInt = v66_3.toInt - (1) := it_sub e85 rv66_3 (ir_c (1) (by decide) : ir (1 : Int32) (1) (1)) (by decide) (by decide)
          have r85 : ir x85 (-1) 23 := ir_w (ir_sub e85 rv66_3 (ir_c (1) (by decide) : ir (1 : Int32) (1) (1)) (by decide) (by decide)) (by decide) (by decide)
          refine lv_iload hx hb dX10_findWorstCorner_86 (lv_at hl 5 rfl) ?_
          refine cp_i (wt_runS (As := [.int v66_7]) (rest := [.int x85]) ⟨hx, hb, hml, hown, hts⟩ (m_J6_numberOfTrailingZeros_0f7a4 l v66_7) wm_J6_numberOfTrailingZeros_0f7a4 q698 ⟨rfl, rfl⟩ ⟨Nat.le_of_ble_eq_true rfl, Nat.le_of_ble_eq_true rfl⟩ pS_pre rfl hl.1 rfl (Nat.le_of_ble_eq_true rfl) dX10_findWorstCorner_88 ⟨Nat.zero_le _, Nat.zero_le _⟩) hW hS (fun x88 H locs hp hW hS oq => ?_)
          refine lv_isub hx hb dX10_findWorstCorner_91 ?_
          refine lv_topi (fun x91 e91 => ?_)
          exact w2 _ _ _ (J92 _ _ _ x91 hW hS (lv_sub hl [0, 1, 2, 3, 4, 5] rfl) rv66_3 (ir_w (lo' := 0) (hi' := 2147483646) rv66_7_76 (by decide) (by decide)))
        · have rv66_7_76 : ir v66_7 0 0 := rf_eq c76 (ir_c (0) (by decide) : ir (0 : Int32) (0) (0))
          refine lv_iload_n hx hb dX10_findWorstCorner_79 rfl (lv_at hl 1 rfl) ?_
          refine lv_goto (tgt := 92) hx hb dX10_findWorstCorner_80 (by decide) ?_
          exact w2 _ _ _ (J92 _ _ _ v66_3 hW hS (lv_sub hl [0, 1, 2, 3, 4, 5] rfl) rv66_3 (ir_w (lo' := 0) (hi' := 2147483646) rv66_7_76 (by decide) (by decide)))
  refine lv_aload_n hx hb dX10_findWorstCorner_0 rfl (lv_at hl 0 rfl) ?_
  refine wt_get hx hb hts cfX10 hown hK hW (cg10 k0) rfl 1 (by decide) q294 dX10_findWorstCorner_1 (fun v hv => ?_)
  obtain ⟨x1, rfl, k1⟩ : gr N 3 v := hv
  refine wt_getp hx hb hts cfX3 hown hK hW (cg3 k1) rfl 1 (by decide) (Or.inr ⟨_, lw_n_use hnn q46⟩) dX10_findWorstCorner_4 (fun v hv nx1_1 => ?_)
  obtain ⟨x4, rfl, r4⟩ : gi 0 24 v := hv
  refine lv_istore_n (lv' := [(3, .int x4), (0, .ref h0), (1, .int p1), (2, .int p2)]) hx hb dX10_findWorstCorner_7 rfl hl (by decide) rfl (fun ls hl => ?_)
  refine lv_aload_n hx hb dX10_findWorstCorner_8 rfl (lv_at hl 1 rfl) ?_
  refine wt_get hx hb hts cfX10 hown hK hW (cg10 k0) rfl 6 (by decide) q299 dX10_findWorstCorner_9 (fun v hv => ?_)
  obtain ⟨x9, rfl, k9⟩ : gr N 31 v := hv
  refine lv_iconst (v := 0) hx hb dX10_findWorstCorner_12 (by decide) ?_
  refine wt_aald hx hb hK hW 3 (cg31 k9) rfl (ir_in (ir_w (lo' := 0) (hi' := 3) (ir_c (0) (by decide) : ir (0 : Int32) (0) (0)) (by decide) (by decide)) (by decide) (by decide)) dX10_findWorstCorner_13 (fun v hv => ?_)
  obtain ⟨x13, rfl, k13⟩ : gr N 2 v := hv
  refine lv_astore (lv' := [(4, .ref x13), (3, .int x4), (0, .ref h0), (1, .int p1), (2, .int p2)]) hx hb dX10_findWorstCorner_14 hl (by decide) rfl (fun ls hl => ?_)
  refine lv_aload_n hx hb dX10_findWorstCorner_16 rfl (lv_at hl 2 rfl) ?_
  refine wt_get hx hb hts cfX10 hown hK hW (cg10 k0) rfl 6 (by decide) q299 dX10_findWorstCorner_17 (fun v hv => ?_)
  obtain ⟨x17, rfl, k17⟩ : gr N 31 v := hv
  refine lv_iconst (v := 1) hx hb dX10_findWorstCorner_20 (by decide) ?_
  refine wt_aald hx hb hK hW 3 (cg31 k17) rfl (ir_in (ir_w (lo' := 0) (hi' := 3) (ir_c (1) (by decide) : ir (1 : Int32) (1) (1)) (by decide) (by decide)) (by decide) (by decide)) dX10_findWorstCorner_21 (fun v hv => ?_)
  obtain ⟨x21, rfl, k21⟩ : gr N 2 v := hv
  refine lv_astore (lv' := [(5, .ref x21), (4, .ref x13), (3, .int x4), (0, .ref h0), (1, .int p1), (2, .int p2)]) hx hb dX10_findWorstCorner_22 hl (by decide) rfl (fun ls hl => ?_)
  refine lv_aload hx hb dX10_findWorstCorner_24 (lv_at hl 1 rfl) ?_
  refine lv_aload_n hx hb dX10_findWorstCorner_26 rfl (lv_at hl 3 rfl) ?_
  refine wt_get hx hb hts cfX10 hown hK hW (cg10 k0) rfl 1 (by decide) q294 dX10_findWorstCorner_27 (fun v hv => ?_)
  obtain ⟨x27, rfl, k27⟩ : gr N 3 v := hv
  refine lv_aload_n hx hb dX10_findWorstCorner_30 rfl (lv_at hl 3 rfl) ?_
  refine wt_get hx hb hts cfX10 hown hK hW (cg10 k0) rfl 3 (by decide) q296 dX10_findWorstCorner_31 (fun v hv => ?_)
  obtain ⟨x31, rfl, k31⟩ : gr N 5 v := hv
  refine lv_iload_n hx hb dX10_findWorstCorner_34 rfl (lv_at hl 4 rfl) ?_
  refine lv_iload_n hx hb dX10_findWorstCorner_35 rfl (lv_at hl 5 rfl) ?_
  refine lv_iconst (v := 0) hx hb dX10_findWorstCorner_36 (by decide) ?_
  refine cc_v (wt_runV (As := [.ref x27, .ref x31, .int p1, .int p2, .int (0 : Int32)]) (rest := []) ⟨hx, hb, hml, hown, hts⟩ (m_X2_climbSlipped l N x13 k13 x27 k27 x31 k31 p1 rp1 p2 rp2 (0 : Int32)) wm_X2_climbSlipped q687 ⟨rfl, rfl⟩ ⟨Nat.le_of_ble_eq_true rfl, Nat.le_of_ble_eq_true rfl⟩ (cS_preV hK hW hT hnn hS (cg2 k13) rfl rfl trivial) rfl hl.1 rfl (Nat.le_of_ble_eq_true rfl) dX10_findWorstCorner_37 ⟨Nat.zero_le _, Nat.zero_le _⟩) hS (by decide) (fun H locs hW hS oq hB2 => ?_)
  have nx1_1 := nx1_1.kept (oq _ nx1_1.lt (cE_not k1 (by decide)))
  refine lv_aload hx hb dX10_findWorstCorner_40 (lv_at hl 0 rfl) ?_
  refine lv_aload_n hx hb dX10_findWorstCorner_42 rfl (lv_at hl 3 rfl) ?_
  refine wt_get hx hb hts cfX10 hown hK hW (cg10 k0) rfl 1 (by decide) q294 dX10_findWorstCorner_43 (fun v hv => ?_)
  obtain ⟨x43, rfl, k43⟩ : gr N 3 v := hv
  refine lv_aload_n hx hb dX10_findWorstCorner_46 rfl (lv_at hl 3 rfl) ?_
  refine wt_get hx hb hts cfX10 hown hK hW (cg10 k0) rfl 3 (by decide) q296 dX10_findWorstCorner_47 (fun v hv => ?_)
  obtain ⟨x47, rfl, k47⟩ : gr N 5 v := hv
  refine lv_iload_n hx hb dX10_findWorstCorner_50 rfl (lv_at hl 4 rfl) ?_
  refine lv_iload_n hx hb dX10_findWorstCorner_51 rfl (lv_at hl 5 rfl) ?_
  refine lv_iconst (v := 1) hx hb dX10_findWorstCorner_52 (by decide) ?_
  refine lv_iload_n hx hb dX10_findWorstCorner_53 rfl (lv_at hl 2 rfl) ?_
  refine lv_ishl hx hb dX10_findWorstCorner_54 ?_
  refine lv_topi (fun x54 e54 => ?_)
  refine lv_iconst (v := 1) hx hb dX10_findWorstCorner_55 (by decide) ?_
  refine lv_isub hx hb dX10_findWorstCorner_56 ?_
  refine lv_topi (fun x56 e56 => ?_)
  refine cc_v (wt_runV (As := [.ref x43, .ref x47, .int p1, .int p2, .int x56]) (rest := []) ⟨hx, hb, hml, hown, hts⟩ (m_X2_climbSlipped l N x21 k21 x43 k43 x47 k47 p1 rp1 p2 rp2 x56) wm_X2_climbSlipped q687 ⟨rfl, rfl⟩ ⟨Nat.le_of_ble_eq_true rfl, Nat.le_of_ble_eq_true rfl⟩ (cS_preV hK hW hT hnn hS (cg2 k21) rfl rfl trivial) rfl hl.1 rfl (Nat.le_of_ble_eq_true rfl) dX10_findWorstCorner_57 ⟨Nat.zero_le _, Nat.zero_le _⟩) hS (by decide) (fun H locs hW hS oq hB2 => ?_)
  have nx1_1 := nx1_1.kept (oq _ nx1_1.lt (cE_not k1 (by decide)))
  refine lv_iconst (v := -1) hx hb dX10_findWorstCorner_60 (by decide) ?_
  refine lv_istore (lv' := [(6, .int (-1 : Int32)), (5, .ref x21), (4, .ref x13), (3, .int x4), (0, .ref h0), (1, .int p1), (2, .int p2)]) hx hb dX10_findWorstCorner_61 hl (by decide) rfl (fun ls hl => ?_)
  refine lv_iconst (v := 0) hx hb dX10_findWorstCorner_63 (by decide) ?_
  refine lv_istore (lv' := [(7, .int (0 : Int32)), (6, .int (-1 : Int32)), (5, .ref x21), (4, .ref x13), (3, .int x4), (0, .ref h0), (1, .int p1), (2, .int p2)]) hx hb dX10_findWorstCorner_64 hl (by decide) rfl (fun ls hl => ?_)
  exact w2 _ _ _ (L66 2147483648 _ _ _ x4 x13 x21 (-1 : Int32) (0 : Int32) hW hS (lv_sub hl [5, 4, 3, 2, 1, 0] rfl) r4 k13 k21 (ir_w (lo' := 0) (hi' := 2147483647) (ir_c (0) (by decide) : ir (0 : Int32) (0) (0)) (by decide) (by decide)) (by have h9 := (ir_c (0) (by decide) : ir (0 : Int32) (0) (0)); omega))
set_option maxHeartbeats 4000000 in
set_option maxRecDepth 100000 in
theorem m_X10_worst (l : Launch) (N : c_N) (h0 : Nat) (k0 : N.2.2.1 h0 = some 10) (p1 : Int32) (p2 : Int32) (p3 : Int32) : cMl l yX10_worst cX10_worst 5 .long { frames := 6, cells := 0, slots := 0, locals := 164 } [.ref h0, .int p1, .int p2, .int p3] N [0, 2, 4, 8] cT0 (fun _ => True) := by
  refine Met.ofW (cc := cX10_worst) (maxL := 5) (ret := some .long) (by decide) rfl ?_
  intro p e s m args below meth c s₁ B hml hv
  obtain ⟨rfl, ⟨hK, hW, hT, hnn⟩, hB⟩ := hv
  have hx := B.exec
  have hb := B.bytes
  have hr := B.returns
  have hts : ∀ w ∈ lw_g, w.before _ s = true := fun w h => atoms_spec (ws := wc_ws yX10_worst cX10_worst 5 (some .long)) B.pre w (List.mem_cons_of_mem _ h)
  have hown : s.vm.findClass RX10 = some m.cls := findClass_of_methodNamed B.named
  have hlocks := B.notSynchronized
  have hS : va_S (cE N [0, 2, 4, 8]) s.heap s.heap [] := va_S.rf
  have hl := lv_entry ([.ref h0, .int p1, .int p2, .int p3]) (n := 5) (Nat.le_of_ble_eq_true rfl)
  rw [lg_entry_eq]
  generalize (lg_sl ([.ref h0, .int p1, .int p2, .int p3]) ++ List.replicate (5 - (lg_sl ([.ref h0, .int p1, .int p2, .int p3])).length) Slot.unset).toArray = ls at hl ⊢
  have hl : lv_has ls 5 [(0, .ref h0), (1, .int p1), (2, .int p2), (3, .int p3)] := hl
  refine wq_all ?_
  intro WW w1 w2
  refine lv_iload_n hx hb dX10_worst_0 rfl (lv_at hl 1 rfl) ?_
  refine cp_i (wt_runS (As := [.int p1]) (rest := []) ⟨hx, hb, hml, hown, hts⟩ (m_X10_isMark l p1) wm_X10_isMark q539 ⟨rfl, rfl⟩ ⟨Nat.le_of_ble_eq_true rfl, Nat.le_of_ble_eq_true rfl⟩ pS_pre rfl hl.1 rfl (Nat.le_of_ble_eq_true rfl) dX10_worst_1 ⟨Nat.zero_le _, Nat.zero_le _⟩) hW hS (fun x1 H locs hp hW hS oq => ?_)
  obtain ⟨r1, b1⟩ := hp
  refine lv_if_eq (tgt := 35) hx hb dX10_worst_4 (by decide) (fun c4 => ?_) (fun c4 => ?_)
  · have rx1_4 : ir x1 0 0 := rf_eq c4 (ir_c (0) (by decide) : ir (0 : Int32) (0) (0))
    refine lv_ldc2 hx hb hown (hts _ q597) dX10_worst_35 ?_
    exact W.lret (v := (-2 : Int64)) hx hb hr (fun t ht _ => ⟨⟨(-2 : Int64), (), rfl, trivial, cW_at ht hW⟩, hS.F ht⟩) hS.2.2 dX10_worst_38
  · have rx1_4 : ir x1 1 1 := rf_ne0 c4 r1
    have bx1_4 := b1 c4
    refine lv_iload_n hx hb dX10_worst_7 rfl (lv_at hl 2 rfl) ?_
    refine cp_i (wt_runS (As := [.int p2]) (rest := []) ⟨hx, hb, hml, hown, hts⟩ (m_X10_isSlip l p2) wm_X10_isSlip q680 ⟨rfl, rfl⟩ ⟨Nat.le_of_ble_eq_true rfl, Nat.le_of_ble_eq_true rfl⟩ pS_pre rfl hl.1 rfl (Nat.le_of_ble_eq_true rfl) dX10_worst_8 ⟨Nat.zero_le _, Nat.zero_le _⟩) hW hS (fun x8 H locs hp hW hS oq => ?_)
    obtain ⟨r8, b8⟩ := hp
    refine lv_if_eq (tgt := 35) hx hb dX10_worst_11 (by decide) (fun c11 => ?_) (fun c11 => ?_)
    · have rx8_11 : ir x8 0 0 := rf_eq c11 (ir_c (0) (by decide) : ir (0 : Int32) (0) (0))
      refine lv_ldc2 hx hb hown (hts _ q597) dX10_worst_35 ?_
      exact W.lret (v := (-2 : Int64)) hx hb hr (fun t ht _ => ⟨⟨(-2 : Int64), (), rfl, trivial, cW_at ht hW⟩, hS.F ht⟩) hS.2.2 dX10_worst_38
    · have rx8_11 : ir x8 1 1 := rf_ne0 c11 r8
      have bx8_11 := b8 c11
      refine lv_aload_n hx hb dX10_worst_14 rfl (lv_at hl 0 rfl) ?_
      refine wt_get hx hb hts cfX10 hown hK hW (cg10 k0) rfl 1 (by decide) q294 dX10_worst_15 (fun v hv => ?_)
      obtain ⟨x15, rfl, k15⟩ : gr N 3 v := hv
      refine wt_getp hx hb hts cfX3 hown hK hW (cg3 k15) rfl 1 (by decide) (Or.inr ⟨_, lw_n_use hnn q46⟩) dX10_worst_18 (fun v hv nx15_1 => ?_)
      obtain ⟨x18, rfl, r18⟩ : gi 0 24 v := hv
      refine lv_bipush (v := 8) hx hb dX10_worst_21 (by decide) ?_
      refine lv_icmp_gt (tgt := 35) hx hb dX10_worst_23 (by decide) (fun c23 => ?_) (fun c23 => ?_)
      · have rx18_23 : ir x18 9 24 := ⟨Int.le_trans (by decide) (rf_lt c23 (ir_c (8) (by decide) : ir (8 : Int32) (8) (8)) r18).2, (r18).2⟩
        refine lv_ldc2 hx hb hown (hts _ q597) dX10_worst_35 ?_
        exact W.lret (v := (-2 : Int64)) hx hb hr (fun t ht _ => ⟨⟨(-2 : Int64), (), rfl, trivial, cW_at ht hW⟩, hS.F ht⟩) hS.2.2 dX10_worst_38
      · have rx18_23 : ir x18 0 8 := ⟨(r18).1, Int.le_trans (rf_le (rf_nlt c23) r18 (ir_c (8) (by decide) : ir (8 : Int32) (8) (8))).1 (by decide)⟩
        refine lv_iload_n hx hb dX10_worst_26 rfl (lv_at hl 3 rfl) ?_
        refine lv_if_lt (tgt := 35) hx hb dX10_worst_27 (by decide) (fun c27 => ?_) (fun c27 => ?_)
        · have rp3_27 : ir p3 (-2147483648) (-1) := ⟨((ir_any p3)).1, Int.le_trans (rf_lt c27 (ir_any p3) (ir_c (0) (by decide) : ir (0 : Int32) (0) (0))).1 (by decide)⟩
          refine lv_ldc2 hx hb hown (hts _ q597) dX10_worst_35 ?_
          exact W.lret (v := (-2 : Int64)) hx hb hr (fun t ht _ => ⟨⟨(-2 : Int64), (), rfl, trivial, cW_at ht hW⟩, hS.F ht⟩) hS.2.2 dX10_worst_38
        · have rp3_27 : ir p3 0 2147483647 := ⟨Int.le_trans (by decide) (rf_le (rf_nlt c27) (ir_c (0) (by decide) : ir (0 : Int32) (0) (0)) (ir_any p3)).2, ((ir_any p3)).2⟩
          refine lv_iload_n hx hb dX10_worst_30 rfl (lv_at hl 3 rfl) ?_
          refine lv_iconst (v := 2) hx hb dX10_worst_31 (by decide) ?_
          refine lv_icmp_le (tgt := 39) hx hb dX10_worst_32 (by decide) (fun c32 => ?_) (fun c32 => ?_)
          · have rp3_32 : ir p3 0 2 := ⟨(rp3_27).1, Int.le_trans (rf_le c32 rp3_27 (ir_c (2) (by decide) : ir (2 : Int32) (2) (2))).1 (by decide)⟩
            refine lv_aload_n hx hb dX10_worst_39 rfl (lv_at hl 0 rfl) ?_
            refine lv_iload_n hx hb dX10_worst_40 rfl (lv_at hl 1 rfl) ?_
            refine lv_iload_n hx hb dX10_worst_41 rfl (lv_at hl 2 rfl) ?_
            refine cc_i (wt_runV (As := [.int p1, .int p2]) (rest := []) ⟨hx, hb, hml, hown, hts⟩ (m_X10_findWorstCorner l N h0 k0 p1 bx1_4 p2 bx8_11) wm_X10_findWorstCorner q683 ⟨rfl, rfl⟩ ⟨Nat.le_of_ble_eq_true rfl, Nat.le_of_ble_eq_true rfl⟩ (cS_preV hK hW hT hnn hS (cg10 k0) rfl rfl trivial) rfl hl.1 rfl (Nat.le_of_ble_eq_true rfl) dX10_worst_42 ⟨Nat.zero_le _, Nat.zero_le _⟩) hS (by decide) (fun x42 H locs hp hW hS oq => ?_)
            have nx15_1 := nx15_1.kept (oq _ nx15_1.lt (cE_not k15 (by decide)))
            refine lv_istore (lv' := [(4, .int x42), (0, .ref h0), (1, .int p1), (2, .int p2), (3, .int p3)]) hx hb dX10_worst_45 hl (by decide) rfl (fun ls hl => ?_)
            refine lv_iload hx hb dX10_worst_47 (lv_at hl 0 rfl) ?_
            refine lv_iconst (v := -1) hx hb dX10_worst_49 (by decide) ?_
            refine lv_icmp_eq (tgt := 57) hx hb dX10_worst_50 (by decide) (fun c50 => ?_) (fun c50 => ?_)
            · have rx42_50 : ir x42 (-1) (-1) := rf_eq c50 (ir_c (-1) (by decide) : ir (-1 : Int32) (-1) (-1))
              refine lv_iload hx hb dX10_worst_57 (lv_at hl 0 rfl) ?_
              refine lv_i2l hx hb dX10_worst_59 rfl ?_
              refine lv_topl (fun x59 e59 => ?_)
              have r59 : lr x59 (-1) (-1) := by rw [e59]; exact i2l_r rx42_50
              exact W.lret (v := x59) hx hb hr (fun t ht _ => ⟨⟨x59, (), rfl, trivial, cW_at ht hW⟩, hS.F ht⟩) hS.2.2 dX10_worst_60
            · refine lv_iload_n hx hb dX10_worst_53 rfl (lv_at hl 4 rfl) ?_
              refine lv_if_ne (tgt := 61) hx hb dX10_worst_54 (by decide) (fun c54 => ?_) (fun c54 => ?_)
              · have rp3_54 : ir p3 1 2 := rf_ne0 c54 rp3_32
                refine lv_aload_n hx hb dX10_worst_61 rfl (lv_at hl 1 rfl) ?_
                refine wt_get hx hb hts cfX10 hown hK hW (cg10 k0) rfl 10 (by decide) q303 dX10_worst_62 (fun v hv => ?_)
                obtain ⟨x62, rfl, k62⟩ : gr N 0 v := hv
                refine cc_v (wt_runV (As := []) (rest := []) ⟨hx, hb, hml, hown, hts⟩ (m_X0_lower l N x62 k62) wm_X0_lower q616 ⟨rfl, rfl⟩ ⟨Nat.le_of_ble_eq_true rfl, Nat.le_of_ble_eq_true rfl⟩ (cS_preV hK hW hT hnn hS (cg0 k62) rfl rfl trivial) rfl hl.1 rfl (Nat.le_of_ble_eq_true rfl) dX10_worst_65 ⟨Nat.zero_le _, Nat.zero_le _⟩) hS (by decide) (fun H locs hW hS oq hB2 => ?_)
                have nx15_1 := nx15_1.kept (oq _ nx15_1.lt (cE_not k15 (by decide)))
                refine lv_iload_n hx hb dX10_worst_68 rfl (lv_at hl 4 rfl) ?_
                refine lv_iconst (v := 1) hx hb dX10_worst_69 (by decide) ?_
                refine lv_icmp_ne (tgt := 83) hx hb dX10_worst_70 (by decide) (fun c70 => ?_) (fun c70 => ?_)
                · have rp3_70 : ir p3 2 2 := rf_nel c70 rp3_54 (by decide) (by decide)
                  refine lv_aload_n hx hb dX10_worst_83 rfl (lv_at hl 1 rfl) ?_
                  refine wt_get hx hb hts cfX10 hown hK hW (cg10 k0) rfl 10 (by decide) q303 dX10_worst_84 (fun v hv => ?_)
                  obtain ⟨x84, rfl, k84⟩ : gr N 0 v := hv
                  refine wt_getp hx hb hts cfX0 hown hK hW (cg0 k84) rfl 1 (by decide) (Or.inr ⟨_, lw_n_use hnn q261⟩) dX10_worst_87 (fun v hv nx84_1 => ?_)
                  obtain ⟨x87, rfl⟩ : gl v := hv
                  exact W.lret (v := x87) hx hb hr (fun t ht _ => ⟨⟨x87, (), rfl, trivial, cW_at ht hW⟩, hS.F ht⟩) hS.2.2 dX10_worst_90
                · have rp3_70 : ir p3 1 1 := rf_eq c70 (ir_c (1) (by decide) : ir (1 : Int32) (1) (1))
                  refine lv_aload_n hx hb dX10_worst_73 rfl (lv_at hl 1 rfl) ?_
                  refine wt_get hx hb hts cfX10 hown hK hW (cg10 k0) rfl 10 (by decide) q303 dX10_worst_74 (fun v hv => ?_)
                  obtain ⟨x74, rfl, k74⟩ : gr N 0 v := hv
                  refine wt_getp hx hb hts cfX0 hown hK hW (cg0 k74) rfl 0 (by decide) (Or.inr ⟨_, lw_n_use hnn q259⟩) dX10_worst_77 (fun v hv nx74_0 => ?_)
                  obtain ⟨x77, rfl⟩ : gl v := hv
                  refine lv_goto (tgt := 90) hx hb dX10_worst_80 (by decide) ?_
                  exact W.lret (v := x77) hx hb hr (fun t ht _ => ⟨⟨x77, (), rfl, trivial, cW_at ht hW⟩, hS.F ht⟩) hS.2.2 dX10_worst_90
              · have rp3_54 : ir p3 0 0 := rf_eq c54 (ir_c (0) (by decide) : ir (0 : Int32) (0) (0))
                refine lv_iload hx hb dX10_worst_57 (lv_at hl 0 rfl) ?_
                refine lv_i2l hx hb dX10_worst_59 rfl ?_
                refine lv_topl (fun x59 e59 => ?_)
                have r59 : lr x59 (-2147483648) 2147483647 := by rw [e59]; exact i2l_r (ir_any x42)
                exact W.lret (v := x59) hx hb hr (fun t ht _ => ⟨⟨x59, (), rfl, trivial, cW_at ht hW⟩, hS.F ht⟩) hS.2.2 dX10_worst_60
          · have rp3_32 : ir p3 3 2147483647 := ⟨Int.le_trans (by decide) (rf_lt (rf_nle c32) (ir_c (2) (by decide) : ir (2 : Int32) (2) (2)) rp3_27).2, (rp3_27).2⟩
            refine lv_ldc2 hx hb hown (hts _ q597) dX10_worst_35 ?_
            exact W.lret (v := (-2 : Int64)) hx hb hr (fun t ht _ => ⟨⟨(-2 : Int64), (), rfl, trivial, cW_at ht hW⟩, hS.F ht⟩) hS.2.2 dX10_worst_38
set_option maxHeartbeats 4000000 in
set_option maxRecDepth 100000 in
theorem m_X10_put (l : Launch) (N : c_N) (h0 : Nat) (k0 : N.2.2.1 h0 = some 10) (p1 : Int32) (p2 : Int32) (p3 : Int32) (p4 : Int32) : cMi l yX10_put cX10_put 5 .int { frames := 3, cells := 0, slots := 0, locals := 83 } [.ref h0, .int p1, .int p2, .int p3, .int p4] N [1, 3, 20, 30] cT0 (fun _ => True) := by
  refine Met.ofW (cc := cX10_put) (maxL := 5) (ret := some .int) (by decide) rfl ?_
  intro p e s m args below meth c s₁ B hml hv
  obtain ⟨rfl, ⟨hK, hW, hT, hnn⟩, hB⟩ := hv
  have hx := B.exec
  have hb := B.bytes
  have hr := B.returns
  have hts : ∀ w ∈ lw_g, w.before _ s = true := fun w h => atoms_spec (ws := wc_ws yX10_put cX10_put 5 (some .int)) B.pre w (List.mem_cons_of_mem _ h)
  have hown : s.vm.findClass RX10 = some m.cls := findClass_of_methodNamed B.named
  have hlocks := B.notSynchronized
  have hS : va_S (cE N [1, 3, 20, 30]) s.heap s.heap [] := va_S.rf
  have hl := lv_entry ([.ref h0, .int p1, .int p2, .int p3, .int p4]) (n := 5) (Nat.le_of_ble_eq_true rfl)
  rw [lg_entry_eq]
  generalize (lg_sl ([.ref h0, .int p1, .int p2, .int p3, .int p4]) ++ List.replicate (5 - (lg_sl ([.ref h0, .int p1, .int p2, .int p3, .int p4])).length) Slot.unset).toArray = ls at hl ⊢
  have hl : lv_has ls 5 [(0, .ref h0), (1, .int p1), (2, .int p2), (3, .int p3), (4, .int p4)] := hl
  refine wq_all ?_
  intro WW w1 w2
  refine lv_iload_n hx hb dX10_put_0 rfl (lv_at hl 1 rfl) ?_
  refine lv_if_lt (tgt := 33) hx hb dX10_put_1 (by decide) (fun c1 => ?_) (fun c1 => ?_)
  · have rp1_1 : ir p1 (-2147483648) (-1) := ⟨((ir_any p1)).1, Int.le_trans (rf_lt c1 (ir_any p1) (ir_c (0) (by decide) : ir (0 : Int32) (0) (0))).1 (by decide)⟩
    refine lv_iconst (v := -1) hx hb dX10_put_33 (by decide) ?_
    exact W.iret (v := (-1 : Int32)) hx hb hr (fun t ht _ => ⟨⟨(-1 : Int32), (), rfl, trivial, cW_at ht hW⟩, hS.F ht⟩) hS.2.2 dX10_put_34
  · have rp1_1 : ir p1 0 2147483647 := ⟨Int.le_trans (by decide) (rf_le (rf_nlt c1) (ir_c (0) (by decide) : ir (0 : Int32) (0) (0)) (ir_any p1)).2, ((ir_any p1)).2⟩
    refine lv_iload_n hx hb dX10_put_4 rfl (lv_at hl 1 rfl) ?_
    refine lv_aload_n hx hb dX10_put_5 rfl (lv_at hl 0 rfl) ?_
    refine wt_get hx hb hts cfX10 hown hK hW (cg10 k0) rfl 1 (by decide) q294 dX10_put_6 (fun v hv => ?_)
    obtain ⟨x6, rfl, k6⟩ : gr N 3 v := hv
    refine wt_getp hx hb hts cfX3 hown hK hW (cg3 k6) rfl 1 (by decide) (Or.inr ⟨_, lw_n_use hnn q46⟩) dX10_put_9 (fun v hv nx6_1 => ?_)
    obtain ⟨x9, rfl, r9⟩ : gi 0 24 v := hv
    refine lv_icmp_gt (tgt := 33) hx hb dX10_put_12 (by decide) (fun c12 => ?_) (fun c12 => ?_)
    · have rp1_12 : ir p1 1 2147483647 := ⟨Int.le_trans (by decide) (rf_lt c12 r9 rp1_1).2, (rp1_1).2⟩
      refine lv_iconst (v := -1) hx hb dX10_put_33 (by decide) ?_
      exact W.iret (v := (-1 : Int32)) hx hb hr (fun t ht _ => ⟨⟨(-1 : Int32), (), rfl, trivial, cW_at ht hW⟩, hS.F ht⟩) hS.2.2 dX10_put_34
    · have rp1_12 : ir p1 0 24 := ⟨(rp1_1).1, Int.le_trans (rf_le (rf_nlt c12) rp1_1 r9).1 (by decide)⟩
      refine lv_iload_n hx hb dX10_put_15 rfl (lv_at hl 2 rfl) ?_
      refine cp_i (wt_runS (As := [.int p2]) (rest := []) ⟨hx, hb, hml, hown, hts⟩ (m_X10_isMaterial l p2) wm_X10_isMaterial q437 ⟨rfl, rfl⟩ ⟨Nat.le_of_ble_eq_true rfl, Nat.le_of_ble_eq_true rfl⟩ pS_pre rfl hl.1 rfl (Nat.le_of_ble_eq_true rfl) dX10_put_16 ⟨Nat.zero_le _, Nat.zero_le _⟩) hW hS (fun x16 H locs hp hW hS oq => ?_)
      have nx6_1 := nx6_1.kept (oq _ nx6_1.lt (cE_not k6 (by decide)))
      obtain ⟨r16, b16⟩ := hp
      refine lv_if_eq (tgt := 33) hx hb dX10_put_19 (by decide) (fun c19 => ?_) (fun c19 => ?_)
      · have rx16_19 : ir x16 0 0 := rf_eq c19 (ir_c (0) (by decide) : ir (0 : Int32) (0) (0))
        refine lv_iconst (v := -1) hx hb dX10_put_33 (by decide) ?_
        exact W.iret (v := (-1 : Int32)) hx hb hr (fun t ht _ => ⟨⟨(-1 : Int32), (), rfl, trivial, cW_at ht hW⟩, hS.F ht⟩) hS.2.2 dX10_put_34
      · have rx16_19 : ir x16 1 1 := rf_ne0 c19 r16
        have bx16_19 := b16 c19
        refine lv_iload_n hx hb dX10_put_22 rfl (lv_at hl 3 rfl) ?_
        refine lv_i2l hx hb dX10_put_23 rfl ?_
        refine lv_topl (fun x23 e23 => ?_)
        have r23 : lr x23 (-2147483648) 2147483647 := by rw [e23]; exact i2l_r (ir_any p3)
        refine lv_iload hx hb dX10_put_24 (lv_at hl 4 rfl) ?_
        refine lv_i2l hx hb dX10_put_26 rfl ?_
        refine lv_topl (fun x26 e26 => ?_)
        have r26 : lr x26 (-2147483648) 2147483647 := by rw [e26]; exact i2l_r (ir_any p4)
        refine cp_i (wt_runS (As := [.long x23, .long x26]) (rest := []) ⟨hx, hb, hml, hown, hts⟩ (m_X10_isTangent l x23 x26) wm_X10_isTangent q492 ⟨rfl, rfl⟩ ⟨Nat.le_of_ble_eq_true rfl, Nat.le_of_ble_eq_true rfl⟩ pS_pre rfl hl.1 rfl (Nat.le_of_ble_eq_true rfl) dX10_put_27 ⟨Nat.zero_le _, Nat.zero_le _⟩) hW hS (fun x27 H locs hp hW hS oq => ?_)
        have nx6_1 := nx6_1.kept (oq _ nx6_1.lt (cE_not k6 (by decide)))
        obtain ⟨r27, b27⟩ := hp
        refine lv_if_ne (tgt := 35) hx hb dX10_put_30 (by decide) (fun c30 => ?_) (fun c30 => ?_)
        · have rx27_30 : ir x27 1 1 := rf_ne0 c30 r27
          have bx27_30 := b27 c30
          have rp3_30 : ir p3 0 6 := i2l_b e23 bx27_30.1
          have rp4_30 : ir p4 0 6 := i2l_b e26 bx27_30.2
          refine lv_aload_n hx hb dX10_put_35 rfl (lv_at hl 0 rfl) ?_
          refine wt_get hx hb hts cfX10 hown hK hW (cg10 k0) rfl 1 (by decide) q294 dX10_put_36 (fun v hv => ?_)
          obtain ⟨x36, rfl, k36⟩ : gr N 3 v := hv
          refine wt_getp hx hb hts cfX3 hown hK hW (cg3 k36) rfl 1 (by decide) (Or.inr ⟨_, lw_n_use hnn q46⟩) dX10_put_39 (fun v hv nx36_1 => ?_)
          obtain ⟨x39, rfl, r39⟩ : gi 0 24 v := hv
          refine lv_bipush (v := 24) hx hb dX10_put_42 (by decide) ?_
          refine lv_icmp_lt (tgt := 49) hx hb dX10_put_44 (by decide) (fun c44 => ?_) (fun c44 => ?_)
          · have rx39_44 : ir x39 0 23 := ⟨(r39).1, Int.le_trans (rf_lt c44 r39 (ir_c (24) (by decide) : ir (24 : Int32) (24) (24))).1 (by decide)⟩
            refine lv_aload_n hx hb dX10_put_49 rfl (lv_at hl 0 rfl) ?_
            refine wt_get hx hb hts cfX10 hown hK hW (cg10 k0) rfl 2 (by decide) q295 dX10_put_50 (fun v hv => ?_)
            obtain ⟨x50, rfl, k50⟩ : gr N 1 v := hv
            refine lv_aload_n hx hb dX10_put_53 rfl (lv_at hl 0 rfl) ?_
            refine wt_get hx hb hts cfX10 hown hK hW (cg10 k0) rfl 1 (by decide) q294 dX10_put_54 (fun v hv => ?_)
            obtain ⟨x54, rfl, k54⟩ : gr N 3 v := hv
            refine lv_iconst (v := 0) hx hb dX10_put_57 (by decide) ?_
            refine cc_v (wt_runV (As := [.ref x54, .int (0 : Int32)]) (rest := []) ⟨hx, hb, hml, hown, hts⟩ (m_X1_keep l N x50 k50 x54 k54 (0 : Int32) (ir_w (lo' := 0) (hi' := 1) (ir_c (0) (by decide) : ir (0 : Int32) (0) (0)) (by decide) (by decide))) wm_X1_keep q416 ⟨rfl, rfl⟩ ⟨Nat.le_of_ble_eq_true rfl, Nat.le_of_ble_eq_true rfl⟩ (cS_preV hK hW hT hnn hS (cg1 k50) rfl rfl trivial) rfl hl.1 rfl (Nat.le_of_ble_eq_true rfl) dX10_put_58 ⟨Nat.zero_le _, Nat.zero_le _⟩) hS (by decide) (fun H locs hW hS oq hB2 => ?_)
            refine lv_aload_n hx hb dX10_put_61 rfl (lv_at hl 0 rfl) ?_
            refine wt_get hx hb hts cfX10 hown hK hW (cg10 k0) rfl 1 (by decide) q294 dX10_put_62 (fun v hv => ?_)
            obtain ⟨x62, rfl, k62⟩ : gr N 3 v := hv
            refine lv_iload_n hx hb dX10_put_65 rfl (lv_at hl 1 rfl) ?_
            refine lv_iload_n hx hb dX10_put_66 rfl (lv_at hl 2 rfl) ?_
            refine lv_iload_n hx hb dX10_put_67 rfl (lv_at hl 3 rfl) ?_
            refine lv_iload hx hb dX10_put_68 (lv_at hl 4 rfl) ?_
            refine cp_i (wt_runS (As := [.int p2, .int p3, .int p4]) (rest := [.int p1, .ref x62]) ⟨hx, hb, hml, hown, hts⟩ (m_X10_codeOf l p2 bx16_19 p3 (ir_w (lo' := 0) (hi' := 7) rp3_30 (by decide) (by decide)) p4 (ir_w (lo' := 0) (hi' := 7) rp4_30 (by decide) (by decide))) wm_X10_codeOf q496 ⟨rfl, rfl⟩ ⟨Nat.le_of_ble_eq_true rfl, Nat.le_of_ble_eq_true rfl⟩ pS_pre rfl hl.1 rfl (Nat.le_of_ble_eq_true rfl) dX10_put_70 ⟨Nat.zero_le _, Nat.zero_le _⟩) hW hS (fun x70 H locs hp hW hS oq => ?_)
            have r70 : ir x70 0 383 := hp
            refine cc_v (wt_runV (As := [.int p1, .int x70]) (rest := []) ⟨hx, hb, hml, hown, hts⟩ (m_X3_insert l N x62 k62 p1 x70 r70) wm_X3_insert q497 ⟨rfl, rfl⟩ ⟨Nat.le_of_ble_eq_true rfl, Nat.le_of_ble_eq_true rfl⟩ (cS_preV hK hW hT hnn hS (cg3 k62) rfl rfl trivial) rfl hl.1 rfl (Nat.le_of_ble_eq_true rfl) dX10_put_73 ⟨Nat.zero_le _, Nat.zero_le _⟩) hS (by decide) (fun H locs hW hS oq hB2 => ?_)
            refine lv_aload_n hx hb dX10_put_76 rfl (lv_at hl 0 rfl) ?_
            refine wt_get hx hb hts cfX10 hown hK hW (cg10 k0) rfl 1 (by decide) q294 dX10_put_77 (fun v hv => ?_)
            obtain ⟨x77, rfl, k77⟩ : gr N 3 v := hv
            refine wt_getp hx hb hts cfX3 hown hK hW (cg3 k77) rfl 1 (by decide) (Or.inr ⟨_, lw_n_use hnn q46⟩) dX10_put_80 (fun v hv nx77_1 => ?_)
            obtain ⟨x80, rfl, r80⟩ : gi 0 24 v := hv
            exact W.iret (v := x80) hx hb hr (fun t ht _ => ⟨⟨x80, (), rfl, trivial, cW_at ht hW⟩, hS.F ht⟩) hS.2.2 dX10_put_83
          · have rx39_44 : ir x39 24 24 := ⟨Int.le_trans (by decide) (rf_le (rf_nlt c44) (ir_c (24) (by decide) : ir (24 : Int32) (24) (24)) r39).2, (r39).2⟩
            refine lv_iconst (v := -1) hx hb dX10_put_47 (by decide) ?_
            exact W.iret (v := (-1 : Int32)) hx hb hr (fun t ht _ => ⟨⟨(-1 : Int32), (), rfl, trivial, cW_at ht hW⟩, hS.F ht⟩) hS.2.2 dX10_put_48
        · have rx27_30 : ir x27 0 0 := rf_eq c30 (ir_c (0) (by decide) : ir (0 : Int32) (0) (0))
          refine lv_iconst (v := -1) hx hb dX10_put_33 (by decide) ?_
          exact W.iret (v := (-1 : Int32)) hx hb hr (fun t ht _ => ⟨⟨(-1 : Int32), (), rfl, trivial, cW_at ht hW⟩, hS.F ht⟩) hS.2.2 dX10_put_34
set_option maxHeartbeats 4000000 in
set_option maxRecDepth 100000 in
theorem m_X10_add (l : Launch) (N : c_N) (h0 : Nat) (k0 : N.2.2.1 h0 = some 10) (p1 : Int32) (p2 : Int32) (p3 : Int32) : cMi l yX10_add cX10_add 9 .int { frames := 6, cells := 0, slots := 0, locals := 156 } [.ref h0, .int p1, .int p2, .int p3] N [0, 1, 2, 3, 4, 6, 8, 20, 24, 30] cT0 (fun _ => True) := by
  refine Met.ofW (cc := cX10_add) (maxL := 9) (ret := some .int) (by decide) rfl ?_
  intro p e s m args below meth c s₁ B hml hv
  obtain ⟨rfl, ⟨hK, hW, hT, hnn⟩, hB⟩ := hv
  have hx := B.exec
  have hb := B.bytes
  have hr := B.returns
  have hts : ∀ w ∈ lw_g, w.before _ s = true := fun w h => atoms_spec (ws := wc_ws yX10_add cX10_add 9 (some .int)) B.pre w (List.mem_cons_of_mem _ h)
  have hown : s.vm.findClass RX10 = some m.cls := findClass_of_methodNamed B.named
  have hlocks := B.notSynchronized
  have hS : va_S (cE N [0, 1, 2, 3, 4, 6, 8, 20, 24, 30]) s.heap s.heap [] := va_S.rf
  have hl := lv_entry ([.ref h0, .int p1, .int p2, .int p3]) (n := 9) (Nat.le_of_ble_eq_true rfl)
  rw [lg_entry_eq]
  generalize (lg_sl ([.ref h0, .int p1, .int p2, .int p3]) ++ List.replicate (9 - (lg_sl ([.ref h0, .int p1, .int p2, .int p3])).length) Slot.unset).toArray = ls at hl ⊢
  have hl : lv_has ls 9 [(0, .ref h0), (1, .int p1), (2, .int p2), (3, .int p3)] := hl
  refine wq_all ?_
  intro WW w1 w2
  have L56 : ∀ (n : Nat) (H : Heap) (locs : List Loc) (ls : Array Slot) (v56_4 : Int32) (v56_5 : Int32) (v56_6 : Int32) (v56_7 : Int32), cW N H → va_S (cE N [0, 1, 2, 3, 4, 6, 8, 20, 24, 30]) s.heap H locs → lv_has ls 9 [(0, .ref h0), (1, .int p1), (4, .int v56_4), (5, .int v56_5), (6, .int v56_6), (7, .int v56_7)] → ir v56_4 0 1 → ir v56_5 (-1) 24 → ir v56_6 (-1) 41 → ir v56_7 0 25 → v56_5.toInt ≤ 25 * v56_6.toInt + 24 → 25 - v56_7.toInt < (n : Int) → WW H locs (F0 m 56 ls []) := by
    intro n
    induction n with
    | zero =>
      intro H locs ls v56_4 v56_5 v56_6 v56_7 hW hS hl rv56_4 rv56_5 rv56_6 rv56_7 rw56_0 mu56
      exfalso
      omega
    | succ n ih56 =>
      intro H locs ls v56_4 v56_5 v56_6 v56_7 hW hS hl rv56_4 rv56_5 rv56_6 rv56_7 rw56_0 mu56
      have L71 : ∀ (n : Nat) (H : Heap) (locs : List Loc) (ls : Array Slot) (v71_4 : Int32) (v71_5 : Int32) (v71_6 : Int32) (v71_8 : Int32), cW N H → va_S (cE N [0, 1, 2, 3, 4, 6, 8, 20, 24, 30]) s.heap H locs → lv_has ls 9 [(0, .ref h0), (1, .int p1), (4, .int v71_4), (5, .int v71_5), (6, .int v71_6), (7, .int v56_7), (8, .int v71_8)] → ir v71_4 0 1 → ir v71_5 (-1) 24 → ir v71_6 (-1) 41 → ir v56_7 0 24 → ir v71_8 0 42 → v71_5.toInt ≤ 25 * v71_6.toInt + 24 → 42 - v71_8.toInt < (n : Int) → WW H locs (F0 m 71 ls []) := by
        intro n
        induction n with
        | zero =>
          intro H locs ls v71_4 v71_5 v71_6 v71_8 hW hS hl rv71_4 rv71_5 rv71_6 rv71_7 rv71_8 rw71_0 mu71
          exfalso
          omega
        | succ n ih71 =>
          intro H locs ls v71_4 v71_5 v71_6 v71_8 hW hS hl rv71_4 rv71_5 rv71_6 rv71_7 rv71_8 rw71_0 mu71
          have J135 : ∀ (H : Heap) (locs : List Loc) (ls : Array Slot) (v135_4 : Int32) (v135_5 : Int32) (v135_6 : Int32), cW N H → va_S (cE N [0, 1, 2, 3, 4, 6, 8, 20, 24, 30]) s.heap H locs → lv_has ls 9 [(0, .ref h0), (1, .int p1), (4, .int v135_4), (5, .int v135_5), (6, .int v135_6), (7, .int v56_7), (8, .int v71_8)] → ir v135_4 0 1 → ir v135_5 (-1) 24 → ir v135_6 (-1) 41 → ir v56_7 0 24 → ir v71_8 0 41 → v135_5.toInt ≤ 25 * v135_6.toInt + 24 → WW H locs (F0 m 135 ls []) := by
            intro H locs ls v135_4 v135_5 v135_6 hW hS hl rv135_4 rv135_5 rv135_6 rv135_7 rv135_8 rw135_0
            refine w1 _ _ _ ?_
            obtain ⟨x135, e135⟩ : ∃ y : Int32, y = v71_8 + 1 := ⟨_, rfl⟩
            have r135 : ir x135 1 42 := ir_w (ir_add e135 rv135_8 (ir_c (1) (by decide) : ir (1 : Int32) (1) (1)) (by decide) (by decide)) (by decide) (by decide)
            have t135 : x135.toInt = v71_8.toInt + (1) := it_add e135 rv135_8 (ir_c (1) (by decide) : ir (1 : Int32) (1) (1)) (by decide) (by decide)
            refine lv_iinc (v := x135) (lv' := [(8, .int x135), (0, .ref h0), (1, .int p1), (4, .int v135_4), (5, .int v135_5), (6, .int v135_6), (7, .int v56_7)]) hx hb dX10_add_135 hl (k := 6) rfl (by rw [e135]; rfl) (by decide) rfl (fun ls hl => ?_)
            refine lv_goto (tgt := 71) hx hb dX10_add_138 (by decide) ?_
            exact w2 _ _ _ (ih71 _ _ _ v135_4 v135_5 v135_6 x135 hW hS (lv_sub hl [1, 2, 3, 4, 5, 6, 0] rfl) rv135_4 rv135_5 rv135_6 rv135_7 (ir_w (lo' := 0) (hi' := 42) r135 (by decide) (by decide)) (by have h20 := rv135_5; have h21 := rv135_6; omega) (by have h9 := r135; omega))
          refine w1 _ _ _ ?_
          refine lv_iload hx hb dX10_add_71 (lv_at hl 6 rfl) ?_
          refine lv_aload_n hx hb dX10_add_73 rfl (lv_at hl 0 rfl) ?_
          refine wt_get hx hb hts cfX10 hown hK hW (cg10 k0) rfl 4 (by decide) q297 dX10_add_74 (fun v hv => ?_)
          obtain ⟨x74, rfl, k74⟩ : gr N 6 v := hv
          refine wt_getp hx hb hts cfX6 hown hK hW (cg6 k74) rfl 3 (by decide) (Or.inr ⟨_, lw_n_use hnn q216⟩) dX10_add_77 (fun v hv nx74_3 => ?_)
          obtain ⟨x77, rfl, r77⟩ : gi 0 42 v := hv
          refine lv_icmp_ge (tgt := 141) hx hb dX10_add_80 (by decide) (fun c80 => ?_) (fun c80 => ?_)
          · obtain ⟨x141, e141⟩ : ∃ y : Int32, y = v56_7 + 1 := ⟨_, rfl⟩
            have r141 : ir x141 1 25 := ir_w (ir_add e141 rv71_7 (ir_c (1) (by decide) : ir (1 : Int32) (1) (1)) (by decide) (by decide)) (by decide) (by decide)
            have t141 : x141.toInt = v56_7.toInt + (1) := it_add e141 rv71_7 (ir_c (1) (by decide) : ir (1 : Int32) (1) (1)) (by decide) (by decide)
            refine lv_iinc (v := x141) (lv' := [(7, .int x141), (0, .ref h0), (1, .int p1), (4, .int v71_4), (5, .int v71_5), (6, .int v71_6), (8, .int v71_8)]) hx hb dX10_add_141 hl (k := 5) rfl (by rw [e141]; rfl) (by decide) rfl (fun ls hl => ?_)
            refine lv_goto (tgt := 56) hx hb dX10_add_144 (by decide) ?_
            exact w2 _ _ _ (ih56 _ _ _ v71_4 v71_5 v71_6 x141 hW hS (lv_sub hl [1, 2, 3, 4, 5, 0] rfl) rv71_4 rv71_5 rv71_6 (ir_w (lo' := 0) (hi' := 25) r141 (by decide) (by decide)) (by have h20 := rv71_5; have h21 := rv71_6; omega) (by have h9 := r141; omega))
          · have rv71_8_80 : ir v71_8 0 41 := ⟨(rv71_8).1, Int.le_trans (rf_lt (rf_nle c80) rv71_8 r77).1 (by decide)⟩
            have rx77_80 : ir x77 1 42 := ⟨Int.le_trans (by decide) (rf_lt (rf_nle c80) rv71_8 r77).2, (r77).2⟩
            refine lv_aload_n hx hb dX10_add_83 rfl (lv_at hl 0 rfl) ?_
            refine lv_iload hx hb dX10_add_84 (lv_at hl 5 rfl) ?_
            refine lv_aload_n hx hb dX10_add_86 rfl (lv_at hl 0 rfl) ?_
            refine wt_get hx hb hts cfX10 hown hK hW (cg10 k0) rfl 4 (by decide) q297 dX10_add_87 (fun v hv => ?_)
            obtain ⟨x87, rfl, k87⟩ : gr N 6 v := hv
            refine wt_getN hx hb hts cfX6 hown hK hW (cg6 k87) rfl 2 (by decide) hnn q213 dX10_add_90 (fun v hv => ?_)
            obtain ⟨x90, rfl, k90⟩ : gr N 24 v := hv
            refine lv_iload hx hb dX10_add_93 (lv_at hl 6 rfl) ?_
            refine wt_iald hx hb hK hW 0 (cg24 k90) rfl (ir_in rv71_8_80 (by decide) (by decide)) dX10_add_95 (fun v hv => ?_)
            obtain ⟨x95, rfl, r95⟩ : gi 0 41 v := hv
            refine lv_iload_n hx hb dX10_add_96 rfl (lv_at hl 1 rfl) ?_
            refine lv_iload hx hb dX10_add_97 (lv_at hl 2 rfl) ?_
            refine cc_i (wt_runV (As := [.int v56_7, .int x95, .int p1, .int v71_4]) (rest := []) ⟨hx, hb, hml, hown, hts⟩ (m_X10_isBetterWith l N h0 k0 v56_7 rv71_7 x95 r95 p1 v71_4 rv71_4) wm_X10_isBetterWith q809 ⟨rfl, rfl⟩ ⟨Nat.le_of_ble_eq_true rfl, Nat.le_of_ble_eq_true rfl⟩ (cS_preV hK hW hT hnn hS (cg10 k0) rfl rfl trivial) rfl hl.1 rfl (Nat.le_of_ble_eq_true rfl) dX10_add_99 ⟨Nat.zero_le _, Nat.zero_le _⟩) hS (by decide) (fun x99 H locs hp hW hS oq => ?_)
            have nx74_3 := nx74_3.kept (oq _ nx74_3.lt (cE_not k74 (by decide)))
            have r99 : ir x99 0 1 := hp
            refine lv_if_eq (tgt := 135) hx hb dX10_add_102 (by decide) (fun c102 => ?_) (fun c102 => ?_)
            · have rx99_102 : ir x99 0 0 := rf_eq c102 (ir_c (0) (by decide) : ir (0 : Int32) (0) (0))
              exact w2 _ _ _ (J135 _ _ _ v71_4 v71_5 v71_6 hW hS (lv_sub hl [0, 1, 2, 3, 4, 5, 6] rfl) rv71_4 rv71_5 rv71_6 rv71_7 rv71_8_80 (by have h20 := rv71_5; have h21 := rv71_6; omega))
            · have rx99_102 : ir x99 1 1 := rf_ne0 c102 r99
              refine lv_iconst (v := 1) hx hb dX10_add_105 (by decide) ?_
              refine lv_istore (lv' := [(4, .int (1 : Int32)), (0, .ref h0), (1, .int p1), (5, .int v71_5), (6, .int v71_6), (7, .int v56_7), (8, .int v71_8)]) hx hb dX10_add_106 hl (by decide) rfl (fun ls hl => ?_)
              refine lv_aload_n hx hb dX10_add_108 rfl (lv_at hl 1 rfl) ?_
              refine wt_get hx hb hts cfX10 hown hK hW (cg10 k0) rfl 10 (by decide) q303 dX10_add_109 (fun v hv => ?_)
              obtain ⟨x109, rfl, k109⟩ : gr N 0 v := hv
              refine lv_aload_n hx hb dX10_add_112 rfl (lv_at hl 1 rfl) ?_
              refine wt_get hx hb hts cfX10 hown hK hW (cg10 k0) rfl 11 (by decide) q304 dX10_add_113 (fun v hv => ?_)
              obtain ⟨x113, rfl, k113⟩ : gr N 0 v := hv
              refine cc_v (wt_runV (As := [.ref x113]) (rest := []) ⟨hx, hb, hml, hown, hts⟩ (m_X0_copyOf l N x109 k109 x113 k113) wm_X0_copyOf q667 ⟨rfl, rfl⟩ ⟨Nat.le_of_ble_eq_true rfl, Nat.le_of_ble_eq_true rfl⟩ (cS_preV hK hW hT hnn hS (cg0 k109) rfl rfl trivial) rfl hl.1 rfl (Nat.le_of_ble_eq_true rfl) dX10_add_116 ⟨Nat.zero_le _, Nat.zero_le _⟩) hS (by decide) (fun H locs hW hS oq hB2 => ?_)
              have nx74_3 := nx74_3.kept (oq _ nx74_3.lt (cE_not k74 (by decide)))
              refine lv_iload hx hb dX10_add_119 (lv_at hl 5 rfl) ?_
              refine lv_istore (lv' := [(5, .int v56_7), (4, .int (1 : Int32)), (0, .ref h0), (1, .int p1), (6, .int v71_6), (7, .int v56_7), (8, .int v71_8)]) hx hb dX10_add_121 hl (by decide) rfl (fun ls hl => ?_)
              refine lv_aload_n hx hb dX10_add_123 rfl (lv_at hl 2 rfl) ?_
              refine wt_get hx hb hts cfX10 hown hK hW (cg10 k0) rfl 4 (by decide) q297 dX10_add_124 (fun v hv => ?_)
              obtain ⟨x124, rfl, k124⟩ : gr N 6 v := hv
              refine wt_getN hx hb hts cfX6 hown hK hW (cg6 k124) rfl 2 (by decide) hnn q213 dX10_add_127 (fun v hv => ?_)
              obtain ⟨x127, rfl, k127⟩ : gr N 24 v := hv
              refine lv_iload hx hb dX10_add_130 (lv_at hl 6 rfl) ?_
              refine wt_iald hx hb hK hW 0 (cg24 k127) rfl (ir_in rv71_8_80 (by decide) (by decide)) dX10_add_132 (fun v hv => ?_)
              obtain ⟨x132, rfl, r132⟩ : gi 0 41 v := hv
              refine lv_istore (lv' := [(6, .int x132), (5, .int v56_7), (4, .int (1 : Int32)), (0, .ref h0), (1, .int p1), (7, .int v56_7), (8, .int v71_8)]) hx hb dX10_add_133 hl (by decide) rfl (fun ls hl => ?_)
              exact w2 _ _ _ (J135 _ _ _ (1 : Int32) v56_7 x132 hW hS (lv_sub hl [3, 4, 2, 1, 0, 5, 6] rfl) (ir_w (lo' := 0) (hi' := 1) (ir_c (1) (by decide) : ir (1 : Int32) (1) (1)) (by decide) (by decide)) (ir_w (lo' := -1) (hi' := 24) rv71_7 (by decide) (by decide)) (ir_w (lo' := -1) (hi' := 41) r132 (by decide) (by decide)) rv71_7 rv71_8_80 (by have h20 := rv71_7; have h21 := r132; omega))
      refine w1 _ _ _ ?_
      refine lv_iload hx hb dX10_add_56 (lv_at hl 5 rfl) ?_
      refine lv_aload_n hx hb dX10_add_58 rfl (lv_at hl 0 rfl) ?_
      refine wt_get hx hb hts cfX10 hown hK hW (cg10 k0) rfl 1 (by decide) q294 dX10_add_59 (fun v hv => ?_)
      obtain ⟨x59, rfl, k59⟩ : gr N 3 v := hv
      refine wt_getp hx hb hts cfX3 hown hK hW (cg3 k59) rfl 1 (by decide) (Or.inr ⟨_, lw_n_use hnn q46⟩) dX10_add_62 (fun v hv nx59_1 => ?_)
      obtain ⟨x62, rfl, r62⟩ : gi 0 24 v := hv
      refine lv_icmp_gt (tgt := 147) hx hb dX10_add_65 (by decide) (fun c65 => ?_) (fun c65 => ?_)
      · have rv56_7_65 : ir v56_7 1 25 := ⟨Int.le_trans (by decide) (rf_lt c65 r62 rv56_7).2, (rv56_7).2⟩
        refine lv_iload hx hb dX10_add_147 (lv_at hl 3 rfl) ?_
        refine lv_iconst (v := -1) hx hb dX10_add_149 (by decide) ?_
        refine lv_icmp_eq (tgt := 179) hx hb dX10_add_150 (by decide) (fun c150 => ?_) (fun c150 => ?_)
        · have rv56_5_150 : ir v56_5 (-1) (-1) := rf_eq c150 (ir_c (-1) (by decide) : ir (-1 : Int32) (-1) (-1))
          refine lv_iload hx hb dX10_add_179 (lv_at hl 3 rfl) ?_
          exact W.iret (v := v56_5) hx hb hr (fun t ht _ => ⟨⟨v56_5, (), rfl, trivial, cW_at ht hW⟩, hS.F ht⟩) hS.2.2 dX10_add_181
        · have rv56_5_150 : ir v56_5 0 24 := rf_nel c150 rv56_5 (by decide) (by decide)
          refine lv_aload_n hx hb dX10_add_153 rfl (lv_at hl 0 rfl) ?_
          refine wt_get hx hb hts cfX10 hown hK hW (cg10 k0) rfl 2 (by decide) q295 dX10_add_154 (fun v hv => ?_)
          obtain ⟨x154, rfl, k154⟩ : gr N 1 v := hv
          refine lv_aload_n hx hb dX10_add_157 rfl (lv_at hl 0 rfl) ?_
          refine wt_get hx hb hts cfX10 hown hK hW (cg10 k0) rfl 1 (by decide) q294 dX10_add_158 (fun v hv => ?_)
          obtain ⟨x158, rfl, k158⟩ : gr N 3 v := hv
          refine lv_iconst (v := 0) hx hb dX10_add_161 (by decide) ?_
          refine cc_v (wt_runV (As := [.ref x158, .int (0 : Int32)]) (rest := []) ⟨hx, hb, hml, hown, hts⟩ (m_X1_keep l N x154 k154 x158 k158 (0 : Int32) (ir_w (lo' := 0) (hi' := 1) (ir_c (0) (by decide) : ir (0 : Int32) (0) (0)) (by decide) (by decide))) wm_X1_keep q416 ⟨rfl, rfl⟩ ⟨Nat.le_of_ble_eq_true rfl, Nat.le_of_ble_eq_true rfl⟩ (cS_preV hK hW hT hnn hS (cg1 k154) rfl rfl trivial) rfl hl.1 rfl (Nat.le_of_ble_eq_true rfl) dX10_add_162 ⟨Nat.zero_le _, Nat.zero_le _⟩) hS (by decide) (fun H locs hW hS oq hB2 => ?_)
          refine lv_aload_n hx hb dX10_add_165 rfl (lv_at hl 0 rfl) ?_
          refine wt_get hx hb hts cfX10 hown hK hW (cg10 k0) rfl 1 (by decide) q294 dX10_add_166 (fun v hv => ?_)
          obtain ⟨x166, rfl, k166⟩ : gr N 3 v := hv
          refine lv_iload hx hb dX10_add_169 (lv_at hl 3 rfl) ?_
          refine lv_iload hx hb dX10_add_171 (lv_at hl 4 rfl) ?_
          have rh173 : ir v56_6 0 41 := by have h6 := rv56_5_150; have h7 := rv56_6; constructor <;> omega
          refine cc_i (wt_runS (As := [.int v56_6]) (rest := [.int v56_5, .ref x166]) ⟨hx, hb, hml, hown, hts⟩ (m_X10_codeOfChoice l N v56_6 rh173) wm_X10_codeOfChoice q786 ⟨rfl, rfl⟩ ⟨Nat.le_of_ble_eq_true rfl, Nat.le_of_ble_eq_true rfl⟩ (cS_preS hK hW hT hnn hS trivial) rfl hl.1 rfl (Nat.le_of_ble_eq_true rfl) dX10_add_173 ⟨Nat.zero_le _, Nat.zero_le _⟩) hS (by decide) (fun x173 H locs hp hW hS oq => ?_)
          have r173 : ir x173 0 383 := hp
          refine cc_v (wt_runV (As := [.int v56_5, .int x173]) (rest := []) ⟨hx, hb, hml, hown, hts⟩ (m_X3_insert l N x166 k166 v56_5 x173 r173) wm_X3_insert q497 ⟨rfl, rfl⟩ ⟨Nat.le_of_ble_eq_true rfl, Nat.le_of_ble_eq_true rfl⟩ (cS_preV hK hW hT hnn hS (cg3 k166) rfl rfl trivial) rfl hl.1 rfl (Nat.le_of_ble_eq_true rfl) dX10_add_176 ⟨Nat.zero_le _, Nat.zero_le _⟩) hS (by decide) (fun H locs hW hS oq hB2 => ?_)
          refine lv_iload hx hb dX10_add_179 (lv_at hl 3 rfl) ?_
          exact W.iret (v := v56_5) hx hb hr (fun t ht _ => ⟨⟨v56_5, (), rfl, trivial, cW_at ht hW⟩, hS.F ht⟩) hS.2.2 dX10_add_181
      · have rv56_7_65 : ir v56_7 0 24 := ⟨(rv56_7).1, Int.le_trans (rf_le (rf_nlt c65) rv56_7 r62).1 (by decide)⟩
        refine lv_iconst (v := 0) hx hb dX10_add_68 (by decide) ?_
        refine lv_istore (lv' := [(8, .int (0 : Int32)), (0, .ref h0), (1, .int p1), (4, .int v56_4), (5, .int v56_5), (6, .int v56_6), (7, .int v56_7)]) hx hb dX10_add_69 hl (by decide) rfl (fun ls hl => ?_)
        exact w2 _ _ _ (L71 43 _ _ _ v56_4 v56_5 v56_6 (0 : Int32) hW hS (lv_sub hl [1, 2, 3, 4, 5, 6, 0] rfl) rv56_4 rv56_5 rv56_6 rv56_7_65 (ir_w (lo' := 0) (hi' := 42) (ir_c (0) (by decide) : ir (0 : Int32) (0) (0)) (by decide) (by decide)) (by have h20 := rv56_5; have h21 := rv56_6; omega) (by have h9 := (ir_c (0) (by decide) : ir (0 : Int32) (0) (0)); omega))
  refine lv_iload_n hx hb dX10_add_0 rfl (lv_at hl 1 rfl) ?_
  refine lv_iload_n hx hb dX10_add_1 rfl (lv_at hl 2 rfl) ?_
  refine lv_iload_n hx hb dX10_add_2 rfl (lv_at hl 3 rfl) ?_
  refine cp_i (wt_runS (As := [.int p1, .int p2, .int p3]) (rest := []) ⟨hx, hb, hml, hown, hts⟩ (m_X10_areSets l p1 p2 p3) wm_X10_areSets q739 ⟨rfl, rfl⟩ ⟨Nat.le_of_ble_eq_true rfl, Nat.le_of_ble_eq_true rfl⟩ pS_pre rfl hl.1 rfl (Nat.le_of_ble_eq_true rfl) dX10_add_3 ⟨Nat.zero_le _, Nat.zero_le _⟩) hW hS (fun x3 H locs hp hW hS oq => ?_)
  have r3 : ir x3 0 1 := hp
  refine lv_if_ne (tgt := 12) hx hb dX10_add_6 (by decide) (fun c6 => ?_) (fun c6 => ?_)
  · have rx3_6 : ir x3 1 1 := rf_ne0 c6 r3
    refine lv_aload_n hx hb dX10_add_12 rfl (lv_at hl 0 rfl) ?_
    refine wt_get hx hb hts cfX10 hown hK hW (cg10 k0) rfl 1 (by decide) q294 dX10_add_13 (fun v hv => ?_)
    obtain ⟨x13, rfl, k13⟩ : gr N 3 v := hv
    refine wt_getp hx hb hts cfX3 hown hK hW (cg3 k13) rfl 1 (by decide) (Or.inr ⟨_, lw_n_use hnn q46⟩) dX10_add_16 (fun v hv nx13_1 => ?_)
    obtain ⟨x16, rfl, r16⟩ : gi 0 24 v := hv
    refine lv_bipush (v := 24) hx hb dX10_add_19 (by decide) ?_
    refine lv_icmp_lt (tgt := 26) hx hb dX10_add_21 (by decide) (fun c21 => ?_) (fun c21 => ?_)
    · have rx16_21 : ir x16 0 23 := ⟨(r16).1, Int.le_trans (rf_lt c21 r16 (ir_c (24) (by decide) : ir (24 : Int32) (24) (24))).1 (by decide)⟩
      refine lv_aload_n hx hb dX10_add_26 rfl (lv_at hl 0 rfl) ?_
      refine wt_get hx hb hts cfX10 hown hK hW (cg10 k0) rfl 4 (by decide) q297 dX10_add_27 (fun v hv => ?_)
      obtain ⟨x27, rfl, k27⟩ : gr N 6 v := hv
      refine lv_aload_n hx hb dX10_add_30 rfl (lv_at hl 0 rfl) ?_
      refine wt_get hx hb hts cfX10 hown hK hW (cg10 k0) rfl 3 (by decide) q296 dX10_add_31 (fun v hv => ?_)
      obtain ⟨x31, rfl, k31⟩ : gr N 5 v := hv
      refine lv_iload_n hx hb dX10_add_34 rfl (lv_at hl 1 rfl) ?_
      refine lv_iload_n hx hb dX10_add_35 rfl (lv_at hl 2 rfl) ?_
      refine lv_iload_n hx hb dX10_add_36 rfl (lv_at hl 3 rfl) ?_
      refine cc_v (wt_runV (As := [.ref x31, .int p1, .int p2, .int p3]) (rest := []) ⟨hx, hb, hml, hown, hts⟩ (m_X6_prepare l N x27 k27 x31 k31 p1 p2 p3) wm_X6_prepare q742 ⟨rfl, rfl⟩ ⟨Nat.le_of_ble_eq_true rfl, Nat.le_of_ble_eq_true rfl⟩ (cS_preV hK hW hT hnn hS (cg6 k27) rfl rfl trivial) rfl hl.1 rfl (Nat.le_of_ble_eq_true rfl) dX10_add_37 ⟨Nat.zero_le _, Nat.zero_le _⟩) hS (by decide) (fun H locs hW hS oq hB2 => ?_)
      have nx13_1 := nx13_1.kept (oq _ nx13_1.lt (cE_not k13 (by decide)))
      refine lv_aload_n hx hb dX10_add_40 rfl (lv_at hl 0 rfl) ?_
      refine lv_iload_n hx hb dX10_add_41 rfl (lv_at hl 1 rfl) ?_
      refine cc_i (wt_runV (As := [.int p1]) (rest := []) ⟨hx, hb, hml, hown, hts⟩ (m_X10_measureGreatest l N h0 k0 p1) wm_X10_measureGreatest q804 ⟨rfl, rfl⟩ ⟨Nat.le_of_ble_eq_true rfl, Nat.le_of_ble_eq_true rfl⟩ (cS_preV hK hW hT hnn hS (cg10 k0) rfl rfl trivial) rfl hl.1 rfl (Nat.le_of_ble_eq_true rfl) dX10_add_42 ⟨Nat.zero_le _, Nat.zero_le _⟩) hS (by decide) (fun x42 H locs hp hW hS oq => ?_)
      have nx13_1 := nx13_1.kept (oq _ nx13_1.lt (cE_not k13 (by decide)))
      have r42 : ir x42 0 1 := hp
      refine lv_istore (lv' := [(4, .int x42), (0, .ref h0), (1, .int p1), (2, .int p2), (3, .int p3)]) hx hb dX10_add_45 hl (by decide) rfl (fun ls hl => ?_)
      refine lv_iconst (v := -1) hx hb dX10_add_47 (by decide) ?_
      refine lv_istore (lv' := [(5, .int (-1 : Int32)), (4, .int x42), (0, .ref h0), (1, .int p1), (2, .int p2), (3, .int p3)]) hx hb dX10_add_48 hl (by decide) rfl (fun ls hl => ?_)
      refine lv_iconst (v := -1) hx hb dX10_add_50 (by decide) ?_
      refine lv_istore (lv' := [(6, .int (-1 : Int32)), (5, .int (-1 : Int32)), (4, .int x42), (0, .ref h0), (1, .int p1), (2, .int p2), (3, .int p3)]) hx hb dX10_add_51 hl (by decide) rfl (fun ls hl => ?_)
      refine lv_iconst (v := 0) hx hb dX10_add_53 (by decide) ?_
      refine lv_istore (lv' := [(7, .int (0 : Int32)), (6, .int (-1 : Int32)), (5, .int (-1 : Int32)), (4, .int x42), (0, .ref h0), (1, .int p1), (2, .int p2), (3, .int p3)]) hx hb dX10_add_54 hl (by decide) rfl (fun ls hl => ?_)
      exact w2 _ _ _ (L56 26 _ _ _ x42 (-1 : Int32) (-1 : Int32) (0 : Int32) hW hS (lv_sub hl [4, 5, 3, 2, 1, 0] rfl) r42 (ir_w (lo' := -1) (hi' := 24) (ir_c (-1) (by decide) : ir (-1 : Int32) (-1) (-1)) (by decide) (by decide)) (ir_w (lo' := -1) (hi' := 41) (ir_c (-1) (by decide) : ir (-1 : Int32) (-1) (-1)) (by decide) (by decide)) (ir_w (lo' := 0) (hi' := 25) (ir_c (0) (by decide) : ir (0 : Int32) (0) (0)) (by decide) (by decide)) (by have h20 := (ir_c (-1) (by decide) : ir (-1 : Int32) (-1) (-1)); have h21 := (ir_c (-1) (by decide) : ir (-1 : Int32) (-1) (-1)); omega) (by have h9 := (ir_c (0) (by decide) : ir (0 : Int32) (0) (0)); omega))
    · have rx16_21 : ir x16 24 24 := ⟨Int.le_trans (by decide) (rf_le (rf_nlt c21) (ir_c (24) (by decide) : ir (24 : Int32) (24) (24)) r16).2, (r16).2⟩
      refine lv_iconst (v := -1) hx hb dX10_add_24 (by decide) ?_
      exact W.iret (v := (-1 : Int32)) hx hb hr (fun t ht _ => ⟨⟨(-1 : Int32), (), rfl, trivial, cW_at ht hW⟩, hS.F ht⟩) hS.2.2 dX10_add_25
  · have rx3_6 : ir x3 0 0 := rf_eq c6 (ir_c (0) (by decide) : ir (0 : Int32) (0) (0))
    refine lv_bipush (v := -2) hx hb dX10_add_9 (by decide) ?_
    exact W.iret (v := (-2 : Int32)) hx hb hr (fun t ht _ => ⟨⟨(-2 : Int32), (), rfl, trivial, cW_at ht hW⟩, hS.F ht⟩) hS.2.2 dX10_add_11
set_option maxHeartbeats 4000000 in
set_option maxRecDepth 100000 in
theorem m_X10_merge (l : Launch) (N : c_N) (h0 : Nat) (k0 : N.2.2.1 h0 = some 10) (p1 : Int32) : cMi l yX10_merge cX10_merge 7 .int { frames := 3, cells := 0, slots := 0, locals := 83 } [.ref h0, .int p1] N [1, 3, 8, 20, 30] cT0 (fun _ => True) := by
  refine Met.ofW (cc := cX10_merge) (maxL := 7) (ret := some .int) (by decide) rfl ?_
  intro p e s m args below meth c s₁ B hml hv
  obtain ⟨rfl, ⟨hK, hW, hT, hnn⟩, hB⟩ := hv
  have hx := B.exec
  have hb := B.bytes
  have hr := B.returns
  have hts : ∀ w ∈ lw_g, w.before _ s = true := fun w h => atoms_spec (ws := wc_ws yX10_merge cX10_merge 7 (some .int)) B.pre w (List.mem_cons_of_mem _ h)
  have hown : s.vm.findClass RX10 = some m.cls := findClass_of_methodNamed B.named
  have hlocks := B.notSynchronized
  have hS : va_S (cE N [1, 3, 8, 20, 30]) s.heap s.heap [] := va_S.rf
  have hl := lv_entry ([.ref h0, .int p1]) (n := 7) (Nat.le_of_ble_eq_true rfl)
  rw [lg_entry_eq]
  generalize (lg_sl ([.ref h0, .int p1]) ++ List.replicate (7 - (lg_sl ([.ref h0, .int p1])).length) Slot.unset).toArray = ls at hl ⊢
  have hl : lv_has ls 7 [(0, .ref h0), (1, .int p1)] := hl
  refine wq_all ?_
  intro WW w1 w2
  have J113 : ∀ (H : Heap) (locs : List Loc) (ls : Array Slot) (v113_2 : Int32) (v113_4 : Int32) (v113_5 : Int32) (w113_0 : Int32), cW N H → va_S (cE N [1, 3, 8, 20, 30]) s.heap H locs → lv_has ls 7 [(0, .ref h0), (1, .int p1), (2, .int v113_2), (4, .int v113_4), (5, .int v113_5)] → ir p1 0 22 → ir v113_2 0 383 → ir v113_4 0 98 → ir v113_5 (-49) 49 → ir w113_0 (-1) 1 → WW H locs (F0 m 113 ls [.int w113_0]) := by
    intro H locs ls v113_2 v113_4 v113_5 w113_0 hW hS hl rv113_1 rv113_2 rv113_4 rv113_5 rw113_0
    refine w1 _ _ _ ?_
    refine lv_istore (lv' := [(6, .int w113_0), (0, .ref h0), (1, .int p1), (2, .int v113_2), (4, .int v113_4), (5, .int v113_5)]) hx hb dX10_merge_113 hl (by decide) rfl (fun ls hl => ?_)
    refine lv_aload_n hx hb dX10_merge_115 rfl (lv_at hl 1 rfl) ?_
    refine wt_getp hx hb hts cfX10 hown hK hW (cg10 k0) rfl 8 (by decide) (Or.inl (hts _ q301)) dX10_merge_116 (fun v hv nh0_8 => ?_)
    obtain ⟨x116, rfl, k116⟩ : gr N 8 v := hv
    refine lv_iload hx hb dX10_merge_119 (lv_at hl 0 rfl) ?_
    refine lv_iload hx hb dX10_merge_121 (lv_at hl 4 rfl) ?_
    refine lv_imul hx hb dX10_merge_123 ?_
    refine lv_topi (fun x123 e123 => ?_)
    refine lv_i2l hx hb dX10_merge_124 rfl ?_
    refine lv_topl (fun x124 e124 => ?_)
    have r124 : lr x124 (-2147483648) 2147483647 := by rw [e124]; exact i2l_r (ir_any x123)
    refine lv_iload hx hb dX10_merge_125 (lv_at hl 0 rfl) ?_
    refine lv_iload hx hb dX10_merge_127 (lv_at hl 5 rfl) ?_
    refine lv_imul hx hb dX10_merge_129 ?_
    refine lv_topi (fun x129 e129 => ?_)
    refine lv_i2l hx hb dX10_merge_130 rfl ?_
    refine lv_topl (fun x130 e130 => ?_)
    have r130 : lr x130 (-2147483648) 2147483647 := by rw [e130]; exact i2l_r (ir_any x129)
    refine cc_v (wt_runV (As := [.long x124, .long x130]) (rest := []) ⟨hx, hb, hml, hown, hts⟩ (m_X8_set l N x116 k116 x124 x130) wm_X8_set q819 ⟨rfl, rfl⟩ ⟨Nat.le_of_ble_eq_true rfl, Nat.le_of_ble_eq_true rfl⟩ (cS_preV hK hW hT hnn hS (cg8 k116) rfl rfl trivial) rfl hl.1 rfl (Nat.le_of_ble_eq_true rfl) dX10_merge_131 ⟨Nat.zero_le _, Nat.zero_le _⟩) hS (by decide) (fun H locs hW hS oq hB2 => ?_)
    have nh0_8 := nh0_8.kept (oq _ nh0_8.lt (cE_not k0 (by decide)))
    refine lv_aload_n hx hb dX10_merge_134 rfl (lv_at hl 1 rfl) ?_
    refine wt_rel hx hb hts cfX10 hown hK nh0_8 rfl (by decide) (Or.inl (hts _ q301)) dX10_merge_135 ?_
    refine wt_getp hx hb hts cfX8 hown hK hW (cg8 k116) rfl 0 (by decide) (Or.inr ⟨_, lw_n_use hnn q172⟩) dX10_merge_138 (fun v hv nx116_0 => ?_)
    obtain ⟨x138, rfl⟩ : gl v := hv
    refine lv_aload_n hx hb dX10_merge_141 rfl (lv_at hl 1 rfl) ?_
    refine wt_rel hx hb hts cfX10 hown hK nh0_8 rfl (by decide) (Or.inl (hts _ q301)) dX10_merge_142 ?_
    refine wt_getp hx hb hts cfX8 hown hK hW (cg8 k116) rfl 1 (by decide) (Or.inr ⟨_, lw_n_use hnn q175⟩) dX10_merge_145 (fun v hv nx116_1 => ?_)
    obtain ⟨x145, rfl⟩ : gl v := hv
    refine cp_i (wt_runS (As := [.long x138, .long x145]) (rest := []) ⟨hx, hb, hml, hown, hts⟩ (m_X10_isTangent l x138 x145) wm_X10_isTangent q492 ⟨rfl, rfl⟩ ⟨Nat.le_of_ble_eq_true rfl, Nat.le_of_ble_eq_true rfl⟩ pS_pre rfl hl.1 rfl (Nat.le_of_ble_eq_true rfl) dX10_merge_148 ⟨Nat.zero_le _, Nat.zero_le _⟩) hW hS (fun x148 H locs hp hW hS oq => ?_)
    have nh0_8 := nh0_8.kept (oq _ nh0_8.lt (cE_not k0 (by decide)))
    have nx116_0 := nx116_0.kept (oq _ nx116_0.lt (cE_not k116 (by decide)))
    have nx116_1 := nx116_1.kept (oq _ nx116_1.lt (cE_not k116 (by decide)))
    obtain ⟨r148, b148⟩ := hp
    refine lv_if_ne (tgt := 156) hx hb dX10_merge_151 (by decide) (fun c151 => ?_) (fun c151 => ?_)
    · have rx148_151 : ir x148 1 1 := rf_ne0 c151 r148
      have bx148_151 := b148 c151
      refine lv_aload_n hx hb dX10_merge_156 rfl (lv_at hl 1 rfl) ?_
      refine wt_getp hx hb hts cfX10 hown hK hW (cg10 k0) rfl 2 (by decide) (Or.inl (hts _ q295)) dX10_merge_157 (fun v hv nh0_2 => ?_)
      obtain ⟨x157, rfl, k157⟩ : gr N 1 v := hv
      refine lv_aload_n hx hb dX10_merge_160 rfl (lv_at hl 1 rfl) ?_
      refine wt_getp hx hb hts cfX10 hown hK hW (cg10 k0) rfl 1 (by decide) (Or.inl (hts _ q294)) dX10_merge_161 (fun v hv nh0_1 => ?_)
      obtain ⟨x161, rfl, k161⟩ : gr N 3 v := hv
      refine lv_iconst (v := 0) hx hb dX10_merge_164 (by decide) ?_
      refine cc_v (wt_runV (As := [.ref x161, .int (0 : Int32)]) (rest := []) ⟨hx, hb, hml, hown, hts⟩ (m_X1_keep l N x157 k157 x161 k161 (0 : Int32) (ir_w (lo' := 0) (hi' := 1) (ir_c (0) (by decide) : ir (0 : Int32) (0) (0)) (by decide) (by decide))) wm_X1_keep q416 ⟨rfl, rfl⟩ ⟨Nat.le_of_ble_eq_true rfl, Nat.le_of_ble_eq_true rfl⟩ (cS_preV hK hW hT hnn hS (cg1 k157) rfl rfl trivial) rfl hl.1 rfl (Nat.le_of_ble_eq_true rfl) dX10_merge_165 ⟨Nat.zero_le _, Nat.zero_le _⟩) hS (by decide) (fun H locs hW hS oq hB2 => ?_)
      have nh0_8 := nh0_8.kept (oq _ nh0_8.lt (cE_not k0 (by decide)))
      have nx116_0 := nx116_0.kept (oq _ nx116_0.lt (cE_not k116 (by decide)))
      have nx116_1 := nx116_1.kept (oq _ nx116_1.lt (cE_not k116 (by decide)))
      have nh0_2 := nh0_2.kept (oq _ nh0_2.lt (cE_not k0 (by decide)))
      have nh0_1 := nh0_1.kept (oq _ nh0_1.lt (cE_not k0 (by decide)))
      refine lv_aload_n hx hb dX10_merge_168 rfl (lv_at hl 1 rfl) ?_
      refine wt_rel hx hb hts cfX10 hown hK nh0_1 rfl (by decide) (Or.inl (hts _ q294)) dX10_merge_169 ?_
      refine wt_getp hx hb hts cfX3 hown hK hW (cg3 k161) rfl 0 (by decide) (Or.inr ⟨_, lw_n_use hnn q41⟩) dX10_merge_172 (fun v hv nx161_0 => ?_)
      obtain ⟨x172, rfl, k172⟩ : gr N 20 v := hv
      refine lv_iload_n hx hb dX10_merge_175 rfl (lv_at hl 2 rfl) ?_
      refine lv_iload_n hx hb dX10_merge_176 rfl (lv_at hl 3 rfl) ?_
      refine cp_i (wt_runS (As := [.int v113_2]) (rest := [.int p1, .ref x172]) ⟨hx, hb, hml, hown, hts⟩ (m_X10_materialOf l v113_2 rv113_2) wm_X10_materialOf q468 ⟨rfl, rfl⟩ ⟨Nat.le_of_ble_eq_true rfl, Nat.le_of_ble_eq_true rfl⟩ pS_pre rfl hl.1 rfl (Nat.le_of_ble_eq_true rfl) dX10_merge_177 ⟨Nat.zero_le _, Nat.zero_le _⟩) hW hS (fun x177 H locs hp hW hS oq => ?_)
      have nh0_8 := nh0_8.kept (oq _ nh0_8.lt (cE_not k0 (by decide)))
      have nx116_0 := nx116_0.kept (oq _ nx116_0.lt (cE_not k116 (by decide)))
      have nx116_1 := nx116_1.kept (oq _ nx116_1.lt (cE_not k116 (by decide)))
      have nh0_2 := nh0_2.kept (oq _ nh0_2.lt (cE_not k0 (by decide)))
      have nh0_1 := nh0_1.kept (oq _ nh0_1.lt (cE_not k0 (by decide)))
      have nx161_0 := nx161_0.kept (oq _ nx161_0.lt (cE_not k161 (by decide)))
      have r177 : ir x177 0 5 := hp
      refine lv_aload_n hx hb dX10_merge_180 rfl (lv_at hl 1 rfl) ?_
      refine wt_rel hx hb hts cfX10 hown hK nh0_8 rfl (by decide) (Or.inl (hts _ q301)) dX10_merge_181 ?_
      refine wt_rel hx hb hts cfX8 hown hK nx116_0 rfl (by decide) (Or.inr ⟨_, lw_n_use hnn q172⟩) dX10_merge_184 ?_
      refine lv_l2i hx hb dX10_merge_187 rfl ?_
      refine lv_topi (fun x187 e187 => ?_)
      have r187 : ir x187 0 6 := by rw [e187]; exact l2i_r bx148_151.1 (by decide) (by decide)
      refine lv_aload_n hx hb dX10_merge_188 rfl (lv_at hl 1 rfl) ?_
      refine wt_rel hx hb hts cfX10 hown hK nh0_8 rfl (by decide) (Or.inl (hts _ q301)) dX10_merge_189 ?_
      refine wt_rel hx hb hts cfX8 hown hK nx116_1 rfl (by decide) (Or.inr ⟨_, lw_n_use hnn q175⟩) dX10_merge_192 ?_
      refine lv_l2i hx hb dX10_merge_195 rfl ?_
      refine lv_topi (fun x195 e195 => ?_)
      have r195 : ir x195 0 6 := by rw [e195]; exact l2i_r bx148_151.2 (by decide) (by decide)
      refine cp_i (wt_runS (As := [.int x177, .int x187, .int x195]) (rest := [.int p1, .ref x172]) ⟨hx, hb, hml, hown, hts⟩ (m_X10_codeOf l x177 r177 x187 (ir_w (lo' := 0) (hi' := 7) r187 (by decide) (by decide)) x195 (ir_w (lo' := 0) (hi' := 7) r195 (by decide) (by decide))) wm_X10_codeOf q496 ⟨rfl, rfl⟩ ⟨Nat.le_of_ble_eq_true rfl, Nat.le_of_ble_eq_true rfl⟩ pS_pre rfl hl.1 rfl (Nat.le_of_ble_eq_true rfl) dX10_merge_196 ⟨Nat.zero_le _, Nat.zero_le _⟩) hW hS (fun x196 H locs hp hW hS oq => ?_)
      have nh0_8 := nh0_8.kept (oq _ nh0_8.lt (cE_not k0 (by decide)))
      have nx116_0 := nx116_0.kept (oq _ nx116_0.lt (cE_not k116 (by decide)))
      have nx116_1 := nx116_1.kept (oq _ nx116_1.lt (cE_not k116 (by decide)))
      have nh0_2 := nh0_2.kept (oq _ nh0_2.lt (cE_not k0 (by decide)))
      have nh0_1 := nh0_1.kept (oq _ nh0_1.lt (cE_not k0 (by decide)))
      have nx161_0 := nx161_0.kept (oq _ nx161_0.lt (cE_not k161 (by decide)))
      have r196 : ir x196 0 383 := hp
      refine wt_iastp hx hb hK hW hS 0 (cg20 k172) (ce k172 (by decide)) rfl (ir_in (ir_w (lo' := 0) (hi' := 23) rv113_1 (by decide) (by decide)) (by decide) (by decide)) (gi_mk r196) dX10_merge_199 (fun H locs hW hS oq => ?_)
      have nh0_8 := nh0_8.kept (oq _ (ne_kind k0 k172 (by decide)))
      have nx116_0 := nx116_0.kept (oq _ (ne_kind k116 k172 (by decide)))
      have nx116_1 := nx116_1.kept (oq _ (ne_kind k116 k172 (by decide)))
      have nh0_2 := nh0_2.kept (oq _ (ne_kind k0 k172 (by decide)))
      have nh0_1 := nh0_1.kept (oq _ (ne_kind k0 k172 (by decide)))
      have nx161_0 := nx161_0.kept (oq _ (ne_kind k161 k172 (by decide)))
      refine lv_aload_n hx hb dX10_merge_200 rfl (lv_at hl 1 rfl) ?_
      refine wt_rel hx hb hts cfX10 hown hK nh0_1 rfl (by decide) (Or.inl (hts _ q294)) dX10_merge_201 ?_
      refine lv_iload_n hx hb dX10_merge_204 rfl (lv_at hl 2 rfl) ?_
      refine lv_iconst (v := 1) hx hb dX10_merge_205 (by decide) ?_
      refine lv_iadd hx hb dX10_merge_206 ?_
      refine lv_topi (fun x206 e206 => ?_)
      have t206 : x206.toInt = p1.toInt + (1) := it_add e206 rv113_1 (ir_c (1) (by decide) : ir (1 : Int32) (1) (1)) (by decide) (by decide)
      have r206 : ir x206 1 23 := ir_w (ir_add e206 rv113_1 (ir_c (1) (by decide) : ir (1 : Int32) (1) (1)) (by decide) (by decide)) (by decide) (by decide)
      refine cc_v (wt_runV (As := [.int x206]) (rest := []) ⟨hx, hb, hml, hown, hts⟩ (m_X3_remove l N x161 k161 x206) wm_X3_remove q502 ⟨rfl, rfl⟩ ⟨Nat.le_of_ble_eq_true rfl, Nat.le_of_ble_eq_true rfl⟩ (cS_preV hK hW hT hnn hS (cg3 k161) rfl rfl trivial) rfl hl.1 rfl (Nat.le_of_ble_eq_true rfl) dX10_merge_207 ⟨Nat.zero_le _, Nat.zero_le _⟩) hS (by decide) (fun H locs hW hS oq hB2 => ?_)
      have nh0_8 := nh0_8.kept (oq _ nh0_8.lt (cE_not k0 (by decide)))
      have nx116_0 := nx116_0.kept (oq _ nx116_0.lt (cE_not k116 (by decide)))
      have nx116_1 := nx116_1.kept (oq _ nx116_1.lt (cE_not k116 (by decide)))
      have nh0_2 := nh0_2.kept (oq _ nh0_2.lt (cE_not k0 (by decide)))
      have nh0_1 := nh0_1.kept (oq _ nh0_1.lt (cE_not k0 (by decide)))
      refine lv_aload_n hx hb dX10_merge_210 rfl (lv_at hl 1 rfl) ?_
      refine wt_rel hx hb hts cfX10 hown hK nh0_1 rfl (by decide) (Or.inl (hts _ q294)) dX10_merge_211 ?_
      refine wt_getp hx hb hts cfX3 hown hK hW (cg3 k161) rfl 1 (by decide) (Or.inr ⟨_, lw_n_use hnn q46⟩) dX10_merge_214 (fun v hv nx161_1 => ?_)
      obtain ⟨x214, rfl, r214⟩ : gi 0 24 v := hv
      exact W.iret (v := x214) hx hb hr (fun t ht _ => ⟨⟨x214, (), rfl, trivial, cW_at ht hW⟩, hS.F ht⟩) hS.2.2 dX10_merge_217
    · have rx148_151 : ir x148 0 0 := rf_eq c151 (ir_c (0) (by decide) : ir (0 : Int32) (0) (0))
      refine lv_iconst (v := -1) hx hb dX10_merge_154 (by decide) ?_
      exact W.iret (v := (-1 : Int32)) hx hb hr (fun t ht _ => ⟨⟨(-1 : Int32), (), rfl, trivial, cW_at ht hW⟩, hS.F ht⟩) hS.2.2 dX10_merge_155
  refine lv_aload_n hx hb dX10_merge_0 rfl (lv_at hl 0 rfl) ?_
  refine wt_getp hx hb hts cfX10 hown hK hW (cg10 k0) rfl 1 (by decide) (Or.inl (hts _ q294)) dX10_merge_1 (fun v hv nh0_1 => ?_)
  obtain ⟨x1, rfl, k1⟩ : gr N 3 v := hv
  refine lv_iload_n hx hb dX10_merge_4 rfl (lv_at hl 1 rfl) ?_
  obtain ⟨v, hv, nx1_1⟩ := cpin hW (cg3 k1) rfl 1 (by decide)
  obtain ⟨x5_1, rfl, r5_1⟩ : gi 0 24 v := hv
  refine cc_i (wt_runV (As := [.int p1]) (rest := []) ⟨hx, hb, hml, hown, hts⟩ (m_X3_has l N x1 k1 p1 x5_1) wm_X3_has q464 ⟨rfl, rfl⟩ ⟨Nat.le_of_ble_eq_true rfl, Nat.le_of_ble_eq_true rfl⟩ (cS_preV hK hW hT hnn hS (cg3 k1) rfl rfl nx1_1) rfl hl.1 rfl (Nat.le_of_ble_eq_true rfl) dX10_merge_5 ⟨Nat.zero_le _, Nat.zero_le _⟩) hS (by decide) (fun x5 H locs hp hW hS oq => ?_)
  have nh0_1 := nh0_1.kept (oq _ nh0_1.lt (cE_not k0 (by decide)))
  have nx1_1 := nx1_1.kept (oq _ nx1_1.lt (cE_not k1 (by decide)))
  obtain ⟨r5, b5⟩ := hp
  refine lv_if_eq (tgt := 24) hx hb dX10_merge_8 (by decide) (fun c8 => ?_) (fun c8 => ?_)
  · have rx5_8 : ir x5 0 0 := rf_eq c8 (ir_c (0) (by decide) : ir (0 : Int32) (0) (0))
    refine lv_iconst (v := -1) hx hb dX10_merge_24 (by decide) ?_
    exact W.iret (v := (-1 : Int32)) hx hb hr (fun t ht _ => ⟨⟨(-1 : Int32), (), rfl, trivial, cW_at ht hW⟩, hS.F ht⟩) hS.2.2 dX10_merge_25
  · have rx5_8 : ir x5 1 1 := rf_ne0 c8 r5
    have bx5_8 := b5 c8
    have rx5_1_8_1 : ir x5_1 1 24 := ⟨Int.le_trans (by decide) (rf_lt bx5_8.2 bx5_8.1 r5_1).2, (r5_1).2⟩
    refine lv_iload_n hx hb dX10_merge_11 rfl (lv_at hl 1 rfl) ?_
    refine lv_iconst (v := 1) hx hb dX10_merge_12 (by decide) ?_
    refine lv_iadd hx hb dX10_merge_13 ?_
    refine lv_topi (fun x13 e13 => ?_)
    have t13 : x13.toInt = p1.toInt + (1) := it_add e13 bx5_8.1 (ir_c (1) (by decide) : ir (1 : Int32) (1) (1)) (by decide) (by decide)
    have r13 : ir x13 1 24 := ir_w (ir_add e13 bx5_8.1 (ir_c (1) (by decide) : ir (1 : Int32) (1) (1)) (by decide) (by decide)) (by decide) (by decide)
    refine lv_aload_n hx hb dX10_merge_14 rfl (lv_at hl 0 rfl) ?_
    refine wt_rel hx hb hts cfX10 hown hK nh0_1 rfl (by decide) (Or.inl (hts _ q294)) dX10_merge_15 ?_
    refine wt_rel hx hb hts cfX3 hown hK nx1_1 rfl (by decide) (Or.inr ⟨_, lw_n_use hnn q46⟩) dX10_merge_18 ?_
    refine lv_icmp_lt (tgt := 26) hx hb dX10_merge_21 (by decide) (fun c21 => ?_) (fun c21 => ?_)
    · have rx13_21 : ir x13 1 23 := ⟨(r13).1, Int.le_trans (rf_lt c21 r13 rx5_1_8_1).1 (by decide)⟩
      have rx5_1_21 : ir x5_1 2 24 := ⟨Int.le_trans (by decide) (rf_lt c21 r13 rx5_1_8_1).2, (rx5_1_8_1).2⟩
      have rp1_21_1 : ir p1 0 22 := by have h6 := t13; have h7 := bx5_8.1; have h8 := (ir_c (1) (by decide) : ir (1 : Int32) (1) (1)); have h9 := rx13_21; constructor <;> omega
      refine lv_aload_n hx hb dX10_merge_26 rfl (lv_at hl 0 rfl) ?_
      refine wt_rel hx hb hts cfX10 hown hK nh0_1 rfl (by decide) (Or.inl (hts _ q294)) dX10_merge_27 ?_
      refine wt_getp hx hb hts cfX3 hown hK hW (cg3 k1) rfl 0 (by decide) (Or.inr ⟨_, lw_n_use hnn q41⟩) dX10_merge_30 (fun v hv nx1_0 => ?_)
      obtain ⟨x30, rfl, k30⟩ : gr N 20 v := hv
      refine lv_iload_n hx hb dX10_merge_33 rfl (lv_at hl 1 rfl) ?_
      refine wt_iald hx hb hK hW 0 (cg20 k30) rfl (ir_in (ir_w (lo' := 0) (hi' := 23) rp1_21_1 (by decide) (by decide)) (by decide) (by decide)) dX10_merge_34 (fun v hv => ?_)
      obtain ⟨x34, rfl, r34⟩ : gi 0 383 v := hv
      refine lv_istore_n (lv' := [(2, .int x34), (0, .ref h0), (1, .int p1)]) hx hb dX10_merge_35 rfl hl (by decide) rfl (fun ls hl => ?_)
      refine lv_aload_n hx hb dX10_merge_36 rfl (lv_at hl 1 rfl) ?_
      refine wt_rel hx hb hts cfX10 hown hK nh0_1 rfl (by decide) (Or.inl (hts _ q294)) dX10_merge_37 ?_
      refine wt_rel hx hb hts cfX3 hown hK nx1_0 rfl (by decide) (Or.inr ⟨_, lw_n_use hnn q41⟩) dX10_merge_40 ?_
      refine lv_iload_n hx hb dX10_merge_43 rfl (lv_at hl 2 rfl) ?_
      refine lv_iconst (v := 1) hx hb dX10_merge_44 (by decide) ?_
      refine lv_iadd hx hb dX10_merge_45 ?_
      refine lv_topi (fun x45 e45 => ?_)
      have t45 : x45.toInt = p1.toInt + (1) := it_add e45 rp1_21_1 (ir_c (1) (by decide) : ir (1 : Int32) (1) (1)) (by decide) (by decide)
      have r45 : ir x45 1 23 := rf_eq (e45.trans e13.symm) rx13_21
      refine wt_iald hx hb hK hW 0 (cg20 k30) rfl (ir_in (ir_w (lo' := 0) (hi' := 23) r45 (by decide) (by decide)) (by decide) (by decide)) dX10_merge_46 (fun v hv => ?_)
      obtain ⟨x46, rfl, r46⟩ : gi 0 383 v := hv
      refine lv_istore_n (lv' := [(3, .int x46), (2, .int x34), (0, .ref h0), (1, .int p1)]) hx hb dX10_merge_47 rfl hl (by decide) rfl (fun ls hl => ?_)
      refine lv_iload_n hx hb dX10_merge_48 rfl (lv_at hl 1 rfl) ?_
      refine cp_i (wt_runS (As := [.int x34]) (rest := []) ⟨hx, hb, hml, hown, hts⟩ (m_X10_materialOf l x34 r34) wm_X10_materialOf q468 ⟨rfl, rfl⟩ ⟨Nat.le_of_ble_eq_true rfl, Nat.le_of_ble_eq_true rfl⟩ pS_pre rfl hl.1 rfl (Nat.le_of_ble_eq_true rfl) dX10_merge_49 ⟨Nat.zero_le _, Nat.zero_le _⟩) hW hS (fun x49 H locs hp hW hS oq => ?_)
      have nh0_1 := nh0_1.kept (oq _ nh0_1.lt (cE_not k0 (by decide)))
      have nx1_1 := nx1_1.kept (oq _ nx1_1.lt (cE_not k1 (by decide)))
      have nx1_0 := nx1_0.kept (oq _ nx1_0.lt (cE_not k1 (by decide)))
      have r49 : ir x49 0 5 := hp
      refine lv_iload_n hx hb dX10_merge_52 rfl (lv_at hl 0 rfl) ?_
      refine cp_i (wt_runS (As := [.int x46]) (rest := [.int x49]) ⟨hx, hb, hml, hown, hts⟩ (m_X10_materialOf l x46 r46) wm_X10_materialOf q468 ⟨rfl, rfl⟩ ⟨Nat.le_of_ble_eq_true rfl, Nat.le_of_ble_eq_true rfl⟩ pS_pre rfl hl.1 rfl (Nat.le_of_ble_eq_true rfl) dX10_merge_53 ⟨Nat.zero_le _, Nat.zero_le _⟩) hW hS (fun x53 H locs hp hW hS oq => ?_)
      have nh0_1 := nh0_1.kept (oq _ nh0_1.lt (cE_not k0 (by decide)))
      have nx1_1 := nx1_1.kept (oq _ nx1_1.lt (cE_not k1 (by decide)))
      have nx1_0 := nx1_0.kept (oq _ nx1_0.lt (cE_not k1 (by decide)))
      have r53 : ir x53 0 5 := hp
      refine lv_icmp_eq (tgt := 61) hx hb dX10_merge_56 (by decide) (fun c56 => ?_) (fun c56 => ?_)
      · refine lv_iload_n hx hb dX10_merge_61 rfl (lv_at hl 1 rfl) ?_
        refine cp_i (wt_runS (As := [.int x34]) (rest := []) ⟨hx, hb, hml, hown, hts⟩ (m_X10_pOf l x34) wm_X10_pOf q817 ⟨rfl, rfl⟩ ⟨Nat.le_of_ble_eq_true rfl, Nat.le_of_ble_eq_true rfl⟩ pS_pre rfl hl.1 rfl (Nat.le_of_ble_eq_true rfl) dX10_merge_62 ⟨Nat.zero_le _, Nat.zero_le _⟩) hW hS (fun x62 H locs hp hW hS oq => ?_)
        have nh0_1 := nh0_1.kept (oq _ nh0_1.lt (cE_not k0 (by decide)))
        have nx1_1 := nx1_1.kept (oq _ nx1_1.lt (cE_not k1 (by decide)))
        have nx1_0 := nx1_0.kept (oq _ nx1_0.lt (cE_not k1 (by decide)))
        have r62 : ir x62 0 7 := hp
        refine lv_iload_n hx hb dX10_merge_65 rfl (lv_at hl 0 rfl) ?_
        refine cp_i (wt_runS (As := [.int x46]) (rest := [.int x62]) ⟨hx, hb, hml, hown, hts⟩ (m_X10_qOf l x46) wm_X10_qOf q818 ⟨rfl, rfl⟩ ⟨Nat.le_of_ble_eq_true rfl, Nat.le_of_ble_eq_true rfl⟩ pS_pre rfl hl.1 rfl (Nat.le_of_ble_eq_true rfl) dX10_merge_66 ⟨Nat.zero_le _, Nat.zero_le _⟩) hW hS (fun x66 H locs hp hW hS oq => ?_)
        have nh0_1 := nh0_1.kept (oq _ nh0_1.lt (cE_not k0 (by decide)))
        have nx1_1 := nx1_1.kept (oq _ nx1_1.lt (cE_not k1 (by decide)))
        have nx1_0 := nx1_0.kept (oq _ nx1_0.lt (cE_not k1 (by decide)))
        have r66 : ir x66 0 7 := hp
        refine lv_imul hx hb dX10_merge_69 ?_
        refine lv_topi (fun x69 e69 => ?_)
        have r69 : ir x69 0 49 := ir_w (it_mul e69 r62 r66 (by decide) (by decide) (by decide)).2 (by decide) (by decide)
        refine lv_iload_n hx hb dX10_merge_70 rfl (lv_at hl 0 rfl) ?_
        refine cp_i (wt_runS (As := [.int x46]) (rest := [.int x69]) ⟨hx, hb, hml, hown, hts⟩ (m_X10_pOf l x46) wm_X10_pOf q817 ⟨rfl, rfl⟩ ⟨Nat.le_of_ble_eq_true rfl, Nat.le_of_ble_eq_true rfl⟩ pS_pre rfl hl.1 rfl (Nat.le_of_ble_eq_true rfl) dX10_merge_71 ⟨Nat.zero_le _, Nat.zero_le _⟩) hW hS (fun x71 H locs hp hW hS oq => ?_)
        have nh0_1 := nh0_1.kept (oq _ nh0_1.lt (cE_not k0 (by decide)))
        have nx1_1 := nx1_1.kept (oq _ nx1_1.lt (cE_not k1 (by decide)))
        have nx1_0 := nx1_0.kept (oq _ nx1_0.lt (cE_not k1 (by decide)))
        have r71 : ir x71 0 7 := hp
        refine lv_iload_n hx hb dX10_merge_74 rfl (lv_at hl 1 rfl) ?_
        refine cp_i (wt_runS (As := [.int x34]) (rest := [.int x71, .int x69]) ⟨hx, hb, hml, hown, hts⟩ (m_X10_qOf l x34) wm_X10_qOf q818 ⟨rfl, rfl⟩ ⟨Nat.le_of_ble_eq_true rfl, Nat.le_of_ble_eq_true rfl⟩ pS_pre rfl hl.1 rfl (Nat.le_of_ble_eq_true rfl) dX10_merge_75 ⟨Nat.zero_le _, Nat.zero_le _⟩) hW hS (fun x75 H locs hp hW hS oq => ?_)
        have nh0_1 := nh0_1.kept (oq _ nh0_1.lt (cE_not k0 (by decide)))
        have nx1_1 := nx1_1.kept (oq _ nx1_1.lt (cE_not k1 (by decide)))
        have nx1_0 := nx1_0.kept (oq _ nx1_0.lt (cE_not k1 (by decide)))
        have r75 : ir x75 0 7 := hp
        refine lv_imul hx hb dX10_merge_78 ?_
        refine lv_topi (fun x78 e78 => ?_)
        have r78 : ir x78 0 49 := ir_w (it_mul e78 r71 r75 (by decide) (by decide) (by decide)).2 (by decide) (by decide)
        refine lv_iadd hx hb dX10_merge_79 ?_
        refine lv_topi (fun x79 e79 => ?_)
        have t79 : x79.toInt = x69.toInt + x78.toInt := it_add e79 r69 r78 (by decide) (by decide)
        have r79 : ir x79 0 98 := ir_w (ir_add e79 r69 r78 (by decide) (by decide)) (by decide) (by decide)
        refine lv_istore (lv' := [(4, .int x79), (3, .int x46), (2, .int x34), (0, .ref h0), (1, .int p1)]) hx hb dX10_merge_80 hl (by decide) rfl (fun ls hl => ?_)
        refine lv_iload_n hx hb dX10_merge_82 rfl (lv_at hl 2 rfl) ?_
        refine cp_i (wt_runS (As := [.int x34]) (rest := []) ⟨hx, hb, hml, hown, hts⟩ (m_X10_qOf l x34) wm_X10_qOf q818 ⟨rfl, rfl⟩ ⟨Nat.le_of_ble_eq_true rfl, Nat.le_of_ble_eq_true rfl⟩ pS_pre rfl hl.1 rfl (Nat.le_of_ble_eq_true rfl) dX10_merge_83 ⟨Nat.zero_le _, Nat.zero_le _⟩) hW hS (fun x83 H locs hp hW hS oq => ?_)
        have nh0_1 := nh0_1.kept (oq _ nh0_1.lt (cE_not k0 (by decide)))
        have nx1_1 := nx1_1.kept (oq _ nx1_1.lt (cE_not k1 (by decide)))
        have nx1_0 := nx1_0.kept (oq _ nx1_0.lt (cE_not k1 (by decide)))
        have r83 : ir x83 0 7 := hp
        refine lv_iload_n hx hb dX10_merge_86 rfl (lv_at hl 1 rfl) ?_
        refine cp_i (wt_runS (As := [.int x46]) (rest := [.int x83]) ⟨hx, hb, hml, hown, hts⟩ (m_X10_qOf l x46) wm_X10_qOf q818 ⟨rfl, rfl⟩ ⟨Nat.le_of_ble_eq_true rfl, Nat.le_of_ble_eq_true rfl⟩ pS_pre rfl hl.1 rfl (Nat.le_of_ble_eq_true rfl) dX10_merge_87 ⟨Nat.zero_le _, Nat.zero_le _⟩) hW hS (fun x87 H locs hp hW hS oq => ?_)
        have nh0_1 := nh0_1.kept (oq _ nh0_1.lt (cE_not k0 (by decide)))
        have nx1_1 := nx1_1.kept (oq _ nx1_1.lt (cE_not k1 (by decide)))
        have nx1_0 := nx1_0.kept (oq _ nx1_0.lt (cE_not k1 (by decide)))
        have r87 : ir x87 0 7 := hp
        refine lv_imul hx hb dX10_merge_90 ?_
        refine lv_topi (fun x90 e90 => ?_)
        have r90 : ir x90 0 49 := ir_w (it_mul e90 r83 r87 (by decide) (by decide) (by decide)).2 (by decide) (by decide)
        refine lv_iload_n hx hb dX10_merge_91 rfl (lv_at hl 2 rfl) ?_
        refine cp_i (wt_runS (As := [.int x34]) (rest := [.int x90]) ⟨hx, hb, hml, hown, hts⟩ (m_X10_pOf l x34) wm_X10_pOf q817 ⟨rfl, rfl⟩ ⟨Nat.le_of_ble_eq_true rfl, Nat.le_of_ble_eq_true rfl⟩ pS_pre rfl hl.1 rfl (Nat.le_of_ble_eq_true rfl) dX10_merge_92 ⟨Nat.zero_le _, Nat.zero_le _⟩) hW hS (fun x92 H locs hp hW hS oq => ?_)
        have nh0_1 := nh0_1.kept (oq _ nh0_1.lt (cE_not k0 (by decide)))
        have nx1_1 := nx1_1.kept (oq _ nx1_1.lt (cE_not k1 (by decide)))
        have nx1_0 := nx1_0.kept (oq _ nx1_0.lt (cE_not k1 (by decide)))
        have r92 : ir x92 0 7 := hp
        refine lv_iload_n hx hb dX10_merge_95 rfl (lv_at hl 1 rfl) ?_
        refine cp_i (wt_runS (As := [.int x46]) (rest := [.int x92, .int x90]) ⟨hx, hb, hml, hown, hts⟩ (m_X10_pOf l x46) wm_X10_pOf q817 ⟨rfl, rfl⟩ ⟨Nat.le_of_ble_eq_true rfl, Nat.le_of_ble_eq_true rfl⟩ pS_pre rfl hl.1 rfl (Nat.le_of_ble_eq_true rfl) dX10_merge_96 ⟨Nat.zero_le _, Nat.zero_le _⟩) hW hS (fun x96 H locs hp hW hS oq => ?_)
        have nh0_1 := nh0_1.kept (oq _ nh0_1.lt (cE_not k0 (by decide)))
        have nx1_1 := nx1_1.kept (oq _ nx1_1.lt (cE_not k1 (by decide)))
        have nx1_0 := nx1_0.kept (oq _ nx1_0.lt (cE_not k1 (by decide)))
        have r96 : ir x96 0 7 := hp
        refine lv_imul hx hb dX10_merge_99 ?_
        refine lv_topi (fun x99 e99 => ?_)
        have r99 : ir x99 0 49 := ir_w (it_mul e99 r92 r96 (by decide) (by decide) (by decide)).2 (by decide) (by decide)
        refine lv_isub hx hb dX10_merge_100 ?_
        refine lv_topi (fun x100 e100 => ?_)
        have t100 : x100.toInt = x90.toInt - x99.toInt := it_sub e100 r90 r99 (by decide) (by decide)
        have r100 : ir x100 (-49) 49 := ir_w (ir_sub e100 r90 r99 (by decide) (by decide)) (by decide) (by decide)
        refine lv_istore (lv' := [(5, .int x100), (4, .int x79), (3, .int x46), (2, .int x34), (0, .ref h0), (1, .int p1)]) hx hb dX10_merge_101 hl (by decide) rfl (fun ls hl => ?_)
        refine lv_iload hx hb dX10_merge_103 (lv_at hl 0 rfl) ?_
        refine lv_if_ge (tgt := 112) hx hb dX10_merge_105 (by decide) (fun c105 => ?_) (fun c105 => ?_)
        · have rx100_105 : ir x100 0 49 := ⟨Int.le_trans (by decide) (rf_le c105 (ir_c (0) (by decide) : ir (0 : Int32) (0) (0)) r100).2, (r100).2⟩
          refine lv_iconst (v := 1) hx hb dX10_merge_112 (by decide) ?_
          exact w2 _ _ _ (J113 _ _ _ x34 x79 x100 (1 : Int32) hW hS (lv_sub hl [4, 5, 3, 1, 0] rfl) rp1_21_1 r34 r79 (ir_w (lo' := -49) (hi' := 49) rx100_105 (by decide) (by decide)) (ir_w (lo' := -1) (hi' := 1) (ir_c (1) (by decide) : ir (1 : Int32) (1) (1)) (by decide) (by decide)))
        · have rx100_105 : ir x100 (-49) (-1) := ⟨(r100).1, Int.le_trans (rf_lt (rf_nle c105) r100 (ir_c (0) (by decide) : ir (0 : Int32) (0) (0))).1 (by decide)⟩
          have rx90_105_1 : ir x90 0 48 := by have h6 := t100; have h7 := r90; have h8 := r99; have h9 := rx100_105; constructor <;> omega
          have rx99_105_2 : ir x99 1 49 := by have h6 := t100; have h7 := rx90_105_1; have h8 := r99; have h9 := rx100_105; constructor <;> omega
          refine lv_iconst (v := -1) hx hb dX10_merge_108 (by decide) ?_
          refine lv_goto (tgt := 113) hx hb dX10_merge_109 (by decide) ?_
          exact w2 _ _ _ (J113 _ _ _ x34 x79 x100 (-1 : Int32) hW hS (lv_sub hl [4, 5, 3, 1, 0] rfl) rp1_21_1 r34 r79 (ir_w (lo' := -49) (hi' := 49) rx100_105 (by decide) (by decide)) (ir_w (lo' := -1) (hi' := 1) (ir_c (-1) (by decide) : ir (-1 : Int32) (-1) (-1)) (by decide) (by decide)))
      · refine lv_iconst (v := -1) hx hb dX10_merge_59 (by decide) ?_
        exact W.iret (v := (-1 : Int32)) hx hb hr (fun t ht _ => ⟨⟨(-1 : Int32), (), rfl, trivial, cW_at ht hW⟩, hS.F ht⟩) hS.2.2 dX10_merge_60
    · refine lv_iconst (v := -1) hx hb dX10_merge_24 (by decide) ?_
      exact W.iret (v := (-1 : Int32)) hx hb hr (fun t ht _ => ⟨⟨(-1 : Int32), (), rfl, trivial, cW_at ht hW⟩, hS.F ht⟩) hS.2.2 dX10_merge_25
