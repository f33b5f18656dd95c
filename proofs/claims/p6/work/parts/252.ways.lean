set_option maxHeartbeats 4000000 in
set_option maxRecDepth 100000 in
theorem m_X11_triesOne (l : Launch) (N : c_N) (h0 : Nat) (k0 : N.2.2.1 h0 = some 11) (hO : mOK N) (V : Nat → Value) (p1 : Int32) (rp1 : ir p1 0 2) (p2 : Int32) (rp2 : ir p2 0 5) (p3 : Int32) (g49 : Int32) (J : Nat → Prop) (hJ : ∀ mk : Int32, ir mk 1 4 → ¬ hv g49 (mk - 1) = 0 → J (sl p1 mk)) : cMi2 l yX11_triesOne cX11_triesOne 6 .int { frames := 3, cells := 0, slots := 0, locals := 103 } [.ref h0, .int p1, .int p2, .int p3] N [11, 56] (fun H => mI N h0 H ∧ kp N h0 [32, 33, 34, 35, 36, 37, 38, 39, 40, 41, 42] V H ∧ wt_pin N.1 vwCl h0 11 49 (.int g49) H ∧ tJ N J H) (fun r => ir r 0 2) (fun r H => mI N h0 H ∧ kp N h0 [32, 33, 34, 35, 36, 37, 38, 39, 40, 41, 42] V H ∧ ∃ J2 : Nat → Prop, (∀ j, J j → J2 j) ∧ tJ N J2 H ∧ (¬ r = 0 → ∀ mk : Int32, ir mk 1 4 → ¬ hv g49 (mk - 1) = 0 → J2 (sl (p1 + 1) mk))) := by
  refine Met.ofW (cc := cX11_triesOne) (maxL := 6) (ret := some .int) (by decide) rfl ?_
  intro p e s m args below meth c s₁ B hml hv
  obtain ⟨rfl, ⟨hK, hW, hT, hnn⟩, hB⟩ := hv
  obtain ⟨hI, hV, hB⟩ := hB
  have hQ : tJ N J s.heap := hB.2
  have nh0_49 := hB.1
  have hx := B.exec
  have hb := B.bytes
  have hr := B.returns
  have hts : ∀ w ∈ lw_g, w.before _ s = true := fun w h => atoms_spec (ws := wc_ws yX11_triesOne cX11_triesOne 6 (some .int)) B.pre w (List.mem_cons_of_mem _ h)
  have hown : s.vm.findClass RX11 = some m.cls := findClass_of_methodNamed B.named
  have hlocks := B.notSynchronized
  have hS : va_S (cE N [11, 56]) s.heap s.heap [] := va_S.rf
  have hl := lv_entry ([.ref h0, .int p1, .int p2, .int p3]) (n := 6) (Nat.le_of_ble_eq_true rfl)
  rw [lg_entry_eq]
  generalize (lg_sl ([.ref h0, .int p1, .int p2, .int p3]) ++ List.replicate (6 - (lg_sl ([.ref h0, .int p1, .int p2, .int p3])).length) Slot.unset).toArray = ls at hl ⊢
  have hl : lv_has ls 6 [(0, .ref h0), (1, .int p1), (2, .int p2), (3, .int p3)] := hl
  refine wq_all ?_
  intro WW w1 w2
  have L6 : ∀ (n : Nat) (H : Heap) (locs : List Loc) (ls : Array Slot) (v6_4 : Int32) (v6_5 : Int32) (Jc6 : Nat → Prop), cW N H → mI N h0 H → kp N h0 [32, 33, 34, 35, 36, 37, 38, 39, 40, 41, 42] V H → tJ N Jc6 H → va_S (cE N [11, 56]) s.heap H locs → lv_has ls 6 [(0, .ref h0), (1, .int p1), (2, .int p2), (3, .int p3), (4, .int v6_4), (5, .int v6_5)] → ir p1 0 2 → ir p2 0 5 → ir v6_4 1 2 → ir v6_5 1 5 → wt_pin N.1 vwCl h0 11 49 (.int g49) H → (∀ j, J j → Jc6 j) → (∀ mk : Int32, 1 ≤ mk.toInt → mk.toInt < v6_5.toInt → ¬ hv g49 (mk - 1) = 0 → Jc6 (sl (p1 + 1) mk)) → 5 - v6_5.toInt < (n : Int) → WW H locs (F0 m 6 ls []) := by
    intro n
    induction n with
    | zero =>
      intro H locs ls v6_4 v6_5 Jc6 hW hI hV hQ hS hl rv6_1 rv6_2 rv6_4 rv6_5 nh0_49 rw6_0 rw6_1 mu6
      exfalso
      omega
    | succ n ih6 =>
      intro H locs ls v6_4 v6_5 Jc6 hW hI hV hQ hS hl rv6_1 rv6_2 rv6_4 rv6_5 nh0_49 rw6_0 rw6_1 mu6
      have J78 : ∀ (H : Heap) (locs : List Loc) (ls : Array Slot) (v78_4 : Int32) (u78_0 : Int32) (u78_1 : Int64) (u78_2 : Int64), cW N H → mI N h0 H → kp N h0 [32, 33, 34, 35, 36, 37, 38, 39, 40, 41, 42] V H → tJ N Jc6 H → va_S (cE N [11, 56]) s.heap H locs → lv_has ls 6 [(0, .ref h0), (1, .int p1), (2, .int p2), (3, .int p3), (4, .int v78_4), (5, .int v6_5)] → ir p1 0 2 → ir p2 0 5 → ir v78_4 1 2 → ir v6_5 1 4 → ir u78_0 1 1 → wt_pin N.1 vwCl h0 11 38 (.int u78_0) H → lr u78_1 0 9223372036854775807 → wt_pin N.1 vwCl h0 11 39 (.long u78_1) H → lr u78_2 1 9223372036854775807 → wt_pin N.1 vwCl h0 11 40 (.long u78_2) H → wt_pin N.1 vwCl h0 11 49 (.int g49) H → WW H locs (F0 m 78 ls []) := by
        intro H locs ls v78_4 u78_0 u78_1 u78_2 hW hI hV hQ hS hl rv78_1 rv78_2 rv78_4 rv78_5 ru78_0 nh0_38 ru78_1 nh0_39 ru78_2 nh0_40 nh0_49
        refine w1 _ _ _ ?_
        refine lv_aload_n hx hb dX11_triesOne_78 rfl (lv_at hl 0 rfl) ?_
        refine lv_iload_n hx hb dX11_triesOne_79 rfl (lv_at hl 1 rfl) ?_
        refine lv_iconst (v := 1) hx hb dX11_triesOne_80 (by decide) ?_
        refine lv_iadd hx hb dX11_triesOne_81 ?_
        refine lv_topi (fun x81 e81 => ?_)
        have t81 : x81.toInt = p1.toInt + (1) := it_add e81 rv78_1 (ir_c (1) (by decide) : ir (1 : Int32) (1) (1)) (by decide) (by decide)
        have r81 : ir x81 1 3 := ir_w (ir_add e81 rv78_1 (ir_c (1) (by decide) : ir (1 : Int32) (1) (1)) (by decide) (by decide)) (by decide) (by decide)
        refine lv_iload hx hb dX11_triesOne_82 (lv_at hl 5 rfl) ?_
        obtain ⟨V1, hV1⟩ := kp_all hW k0
        have hWo := hW
        refine cc_v (B2 := fun H => mI N h0 H ∧ kp N h0 [] V1 H ∧ tJ N (fun i => Jc6 i ∨ i = sl x81 v6_5) H) (wt_runV (As := [.int x81, .int v6_5]) (rest := []) ⟨hx, hb, hml, hown, hts⟩ (m_X11_notes l N h0 k0 hO V1 x81 (ir_w (lo' := 0) (hi' := 3) r81 (by decide) (by decide)) v6_5 rv78_5 u78_0 (i_ne0 ru78_0 (by decide)) Jc6) wm_X11_notes q1340 ⟨rfl, rfl⟩ ⟨Nat.le_of_ble_eq_true rfl, Nat.le_of_ble_eq_true rfl⟩ (cS_preV (B := fun H => mI N h0 H ∧ kp N h0 [] V1 H ∧ wt_pin N.1 vwCl h0 11 38 (.int u78_0) H ∧ tJ N Jc6 H) hK hW hT hnn hS (cg11 k0) rfl rfl (And.intro hI (And.intro (kp_of (F := []) hV1) (And.intro nh0_38 hQ)))) rfl hl.1 rfl (Nat.le_of_ble_eq_true rfl) dX11_triesOne_84 ⟨Nat.zero_le _, Nat.zero_le _⟩) hS (by decide) (fun H locs hW hS oq hB2 => ?_)
        obtain ⟨hI, hV2, hB2⟩ := hB2
        have hV := kp_call hV hV1 hV2 (by decide)
        have hQ := hB2
        have nh0_38 := kp_use hV1 hV2 (by decide) (by decide) nh0_38
        have nh0_39 := kp_use hV1 hV2 (by decide) (by decide) nh0_39
        have nh0_40 := kp_use hV1 hV2 (by decide) (by decide) nh0_40
        have nh0_49 := kp_use hV1 hV2 (by decide) (by decide) nh0_49
        obtain ⟨x87, e87⟩ : ∃ y : Int32, y = v6_5 + 1 := ⟨_, rfl⟩
        have r87 : ir x87 2 5 := ir_w (ir_add e87 rv78_5 (ir_c (1) (by decide) : ir (1 : Int32) (1) (1)) (by decide) (by decide)) (by decide) (by decide)
        have t87 : x87.toInt = v6_5.toInt + (1) := it_add e87 rv78_5 (ir_c (1) (by decide) : ir (1 : Int32) (1) (1)) (by decide) (by decide)
        refine lv_iinc (v := x87) (lv' := [(5, .int x87), (0, .ref h0), (1, .int p1), (2, .int p2), (3, .int p3), (4, .int v78_4)]) hx hb dX11_triesOne_87 hl (k := 5) rfl (by rw [e87]; rfl) (by decide) rfl (fun ls hl => ?_)
        refine lv_goto (tgt := 6) hx hb dX11_triesOne_90 (by decide) ?_
        exact w2 _ _ _ (ih6 _ _ _ v78_4 x87 (fun i => Jc6 i ∨ i = sl x81 v6_5) hW hI hV hQ hS (lv_sub hl [1, 2, 3, 4, 5, 0] rfl) rv78_1 rv78_2 rv78_4 (ir_w (lo' := 1) (hi' := 5) r87 (by decide) (by decide)) nh0_49 (fun j h => Or.inl (rw6_0 j h)) (fun mk h1 h2 h3 => by by_cases hm : mk = v6_5; exact Or.inr (by rw [hm, e81]); exact Or.inl (rw6_1 mk h1 (by have h4 : mk.toInt ≠ v6_5.toInt := fun z => hm (Int32.toInt_inj.mp z); omega) h3)) (by have h9 := r87; omega))
      refine w1 _ _ _ ?_
      refine lv_iload hx hb dX11_triesOne_6 (lv_at hl 5 rfl) ?_
      refine lv_iconst (v := 4) hx hb dX11_triesOne_8 (by decide) ?_
      refine lv_icmp_gt (tgt := 93) hx hb dX11_triesOne_9 (by decide) (fun c9 => ?_) (fun c9 => ?_)
      · have rv6_5_9 : ir v6_5 5 5 := ⟨Int.le_trans (by decide) (rf_lt c9 (ir_c (4) (by decide) : ir (4 : Int32) (4) (4)) rv6_5).2, (rv6_5).2⟩
        have d9 := Int32.lt_iff_toInt_lt.mp c9
        refine lv_iload hx hb dX11_triesOne_93 (lv_at hl 4 rfl) ?_
        exact W.iret (v := v6_4) hx hb hr (fun t ht _ => ⟨⟨v6_4, v6_4, rfl, ⟨rfl, (ir_w (lo' := 0) (hi' := 2) rv6_4 (by decide) (by decide))⟩, cW_at ht hW, ⟨mI_at ht hI, kp_at ht hV, ⟨Jc6, rw6_0, tJ_at ht hQ, fun _ mk rm h => rw6_1 mk rm.1 (by have h8 := rv6_5_9; have h9 := rm.2; omega) h⟩⟩⟩, hS.F ht⟩) hS.2.2 dX11_triesOne_95
      · have rv6_5_9 : ir v6_5 1 4 := ⟨(rv6_5).1, Int.le_trans (rf_le (rf_nlt c9) rv6_5 (ir_c (4) (by decide) : ir (4 : Int32) (4) (4))).1 (by decide)⟩
        have d9 := Int32.le_iff_toInt_le.mp (rf_nlt c9)
        refine lv_aload_n hx hb dX11_triesOne_12 rfl (lv_at hl 0 rfl) ?_
        refine wt_rel hx hb hts cfX11 hown hK nh0_49 rfl (by decide) (Or.inl (hts _ q921)) dX11_triesOne_13 ?_
        refine lv_iload hx hb dX11_triesOne_16 (lv_at hl 5 rfl) ?_
        refine lv_iconst (v := 1) hx hb dX11_triesOne_18 (by decide) ?_
        refine lv_isub hx hb dX11_triesOne_19 ?_
        refine lv_topi (fun x19 e19 => ?_)
        have t19 : x19.toInt = v6_5.toInt - (1) := it_sub e19 rv6_5_9 (ir_c (1) (by decide) : ir (1 : Int32) (1) (1)) (by decide) (by decide)
        have r19 : ir x19 0 3 := ir_w (ir_sub e19 rv6_5_9 (ir_c (1) (by decide) : ir (1 : Int32) (1) (1)) (by decide) (by decide)) (by decide) (by decide)
        refine cp_i (wt_runS (As := [.int g49, .int x19]) (rest := []) ⟨hx, hb, hml, hown, hts⟩ (m_X11_has_e l g49 x19) wm_X11_has q1312 ⟨rfl, rfl⟩ ⟨Nat.le_of_ble_eq_true rfl, Nat.le_of_ble_eq_true rfl⟩ pS_pre rfl hl.1 rfl (Nat.le_of_ble_eq_true rfl) dX11_triesOne_20 ⟨Nat.zero_le _, Nat.zero_le _⟩) hW hS (fun x20 H locs hp hW1 hS oq => ?_)
        have hV := hV.same hW k0 oq
        have hQ := hQ.fr (fun a ka => oq a (hW_lt hW ka) (cE_nil _))
        have hI := mI.fr.same hI hW oq
        have hW := hW1
        have nh0_49 := nh0_49.kept (oq _ nh0_49.lt (cE_not k0 (by decide)))
        have h20 : x20 = hv g49 x19 := hp
        refine lv_if_ne (tgt := 29) hx hb dX11_triesOne_23 (by decide) (fun c23 => ?_) (fun c23 => ?_)
        · refine lv_aload_n hx hb dX11_triesOne_29 rfl (lv_at hl 0 rfl) ?_
          refine lv_iload_n hx hb dX11_triesOne_30 rfl (lv_at hl 1 rfl) ?_
          refine lv_iload hx hb dX11_triesOne_31 (lv_at hl 5 rfl) ?_
          obtain ⟨V1, hV1⟩ := kp_all hW k0
          have hWo := hW
          refine cc_v (B2 := fun H => mI N h0 H ∧ kp N h0 [34, 35, 36, 37, 38] V1 H ∧ tJ N Jc6 H) (wt_runV (As := [.int p1, .int v6_5]) (rest := []) ⟨hx, hb, hml, hown, hts⟩ (m_X11_takes l N h0 k0 hO V1 p1 (ir_w (lo' := 0) (hi' := 3) rv6_1 (by decide) (by decide)) v6_5 rv6_5_9 Jc6 (rw6_0 _ (hJ _ rv6_5_9 (by rw [← e19, ← h20]; exact c23)))) wm_X11_takes q1352 ⟨rfl, rfl⟩ ⟨Nat.le_of_ble_eq_true rfl, Nat.le_of_ble_eq_true rfl⟩ (cS_preV (B := fun H => mI N h0 H ∧ kp N h0 [34, 35, 36, 37, 38] V1 H ∧ tJ N Jc6 H) hK hW hT hnn hS (cg11 k0) rfl rfl (And.intro hI (And.intro (kp_of (F := [34, 35, 36, 37, 38]) hV1) hQ))) rfl hl.1 rfl (Nat.le_of_ble_eq_true rfl) dX11_triesOne_33 ⟨Nat.zero_le _, Nat.zero_le _⟩) hS (by decide) (fun H locs hW hS oq hB2 => ?_)
          obtain ⟨hI, hV2, hB2⟩ := hB2
          have hV := kp_call hV hV1 hV2 (by decide)
          have hQ := hB2
          have nh0_49 := kp_use hV1 hV2 (by decide) (by decide) nh0_49
          refine lv_aload_n hx hb dX11_triesOne_36 rfl (lv_at hl 0 rfl) ?_
          refine lv_iload_n hx hb dX11_triesOne_37 rfl (lv_at hl 2 rfl) ?_
          refine lv_iload_n hx hb dX11_triesOne_38 rfl (lv_at hl 3 rfl) ?_
          refine cp_i (wt_runS (As := [.int p3]) (rest := [.int p2, .ref h0]) ⟨hx, hb, hml, hown, hts⟩ (m_X11_thickUp l p3) wm_X11_thickUp q1356 ⟨rfl, rfl⟩ ⟨Nat.le_of_ble_eq_true rfl, Nat.le_of_ble_eq_true rfl⟩ pS_pre rfl hl.1 rfl (Nat.le_of_ble_eq_true rfl) dX11_triesOne_39 ⟨Nat.zero_le _, Nat.zero_le _⟩) hW hS (fun x39 H locs hp hW1 hS oq => ?_)
          have hV := hV.same hW k0 oq
          have hQ := hQ.fr (fun a ka => oq a (hW_lt hW ka) (cE_nil _))
          have hI := mI.fr.same hI hW oq
          have hW := hW1
          have nh0_49 := nh0_49.kept (oq _ nh0_49.lt (cE_not k0 (by decide)))
          have r39 : ir x39 1 3 := hp
          refine lv_i2l hx hb dX11_triesOne_42 rfl ?_
          refine lv_topl (fun x42 e42 => ?_)
          have r42 : lr x42 1 3 := by rw [e42]; exact i2l_r r39
          have t42 : x42.toInt = x39.toInt := by rw [e42]; exact Int32.toInt_toInt64 x39
          refine lv_iload_n hx hb dX11_triesOne_43 rfl (lv_at hl 3 rfl) ?_
          refine cp_i (wt_runS (As := [.int p3]) (rest := [.long x42, .int p2, .ref h0]) ⟨hx, hb, hml, hown, hts⟩ (m_X11_thickBy l p3) wm_X11_thickBy q1359 ⟨rfl, rfl⟩ ⟨Nat.le_of_ble_eq_true rfl, Nat.le_of_ble_eq_true rfl⟩ pS_pre rfl hl.1 rfl (Nat.le_of_ble_eq_true rfl) dX11_triesOne_44 ⟨Nat.zero_le _, Nat.zero_le _⟩) hW hS (fun x44 H locs hp hW1 hS oq => ?_)
          have hV := hV.same hW k0 oq
          have hQ := hQ.fr (fun a ka => oq a (hW_lt hW ka) (cE_nil _))
          have hI := mI.fr.same hI hW oq
          have hW := hW1
          have nh0_49 := nh0_49.kept (oq _ nh0_49.lt (cE_not k0 (by decide)))
          have r44 : ir x44 1 3 := hp
          refine lv_i2l hx hb dX11_triesOne_47 rfl ?_
          refine lv_topl (fun x47 e47 => ?_)
          have r47 : lr x47 1 3 := by rw [e47]; exact i2l_r r44
          have t47 : x47.toInt = x44.toInt := by rw [e47]; exact Int32.toInt_toInt64 x44
          refine lv_iload hx hb dX11_triesOne_48 (lv_at hl 5 rfl) ?_
          obtain ⟨V1, hV1⟩ := kp_all hW k0
          have hWo := hW
          refine cc_v (B2 := fun H => mI N h0 H ∧ kp N h0 [32, 33, 34, 35, 36, 37, 38] V1 H) (wt_runV (As := [.int p2, .long x42, .long x47, .int v6_5]) (rest := []) ⟨hx, hb, hml, hown, hts⟩ (m_X11_adds l N h0 k0 hO V1 p2 rv6_2 x42 (lr_w (lo' := 0) (hi' := 78) r42 (by decide) (by decide)) x47 (lr_w (lo' := 0) (hi' := 78) r47 (by decide) (by decide)) v6_5 rv6_5_9 (Or.inl (by have h9 := r42; omega))) wm_X11_adds q1223 ⟨rfl, rfl⟩ ⟨Nat.le_of_ble_eq_true rfl, Nat.le_of_ble_eq_true rfl⟩ (cS_preV (B := fun H => mI N h0 H ∧ kp N h0 [32, 33, 34, 35, 36, 37, 38] V1 H) hK hW hT hnn hS (cg11 k0) rfl rfl (And.intro hI (kp_of (F := [32, 33, 34, 35, 36, 37, 38]) hV1))) rfl hl.1 rfl (Nat.le_of_ble_eq_true rfl) dX11_triesOne_50 ⟨Nat.zero_le _, Nat.zero_le _⟩) hS (by decide) (fun H locs hW hS oq hB2 => ?_)
          obtain ⟨hI, hV2⟩ := hB2
          have hQ := hQ.fr (fun a ka => oq a (hW_lt hWo ka) (cE_not ka (by decide)))
          have hV := kp_call hV hV1 hV2 (by decide)
          have nh0_49 := kp_use hV1 hV2 (by decide) (by decide) nh0_49
          refine lv_aload_n hx hb dX11_triesOne_53 rfl (lv_at hl 0 rfl) ?_
          refine wt_getp hx hb hts cfX11 hown hK hW (cg11 k0) rfl 38 (by decide) (Or.inl (hts _ q910)) dX11_triesOne_54 (fun v hv nh0_38 => ?_)
          obtain ⟨x54, rfl, r54⟩ : gi 0 1 v := hv
          refine lv_if_ne (tgt := 62) hx hb dX11_triesOne_57 (by decide) (fun c57 => ?_) (fun c57 => ?_)
          · have rx54_57 : ir x54 1 1 := rf_ne0 c57 r54
            refine lv_aload_n hx hb dX11_triesOne_62 rfl (lv_at hl 0 rfl) ?_
            obtain ⟨V1, hV1⟩ := kp_all hW k0
            have hWo := hW
            refine cc_v (B2 := fun H => mI N h0 H ∧ kp N h0 [39, 40, 41, 42] V1 H ∧ ∃ bu bb : Int64, pL N h0 39 bu H ∧ pL N h0 40 bb H ∧ 0 ≤ bu.toInt ∧ 1 ≤ bb.toInt) (wt_runV (As := []) (rest := []) ⟨hx, hb, hml, hown, hts⟩ (m_X11_lights l N h0 k0 hO V1 x54 (i_ne0 rx54_57 (by decide))) wm_X11_lights q1242 ⟨rfl, rfl⟩ ⟨Nat.le_of_ble_eq_true rfl, Nat.le_of_ble_eq_true rfl⟩ (cS_preV (B := fun H => mI N h0 H ∧ kp N h0 [39, 40, 41, 42] V1 H ∧ wt_pin N.1 vwCl h0 11 38 (.int x54) H) hK hW hT hnn hS (cg11 k0) rfl rfl (And.intro hI (And.intro (kp_of (F := [39, 40, 41, 42]) hV1) nh0_38))) rfl hl.1 rfl (Nat.le_of_ble_eq_true rfl) dX11_triesOne_63 ⟨Nat.zero_le _, Nat.zero_le _⟩) hS (by decide) (fun H locs hW hS oq hB2 => ?_)
            obtain ⟨hI, hV2, hB2⟩ := hB2
            have hQ := hQ.fr (fun a ka => oq a (hW_lt hWo ka) (cE_not ka (by decide)))
            have hV := kp_call hV hV1 hV2 (by decide)
            obtain ⟨bu63, bb63, nh0_39, nh0_40, vu63, vb63⟩ := hB2
            have nh0_49 := kp_use hV1 hV2 (by decide) (by decide) nh0_49
            have nh0_38 := kp_use hV1 hV2 (by decide) (by decide) nh0_38
            refine lv_aload_n hx hb dX11_triesOne_66 rfl (lv_at hl 0 rfl) ?_
            refine wt_rel hx hb hts cfX11 hown hK nh0_39 rfl (by decide) (Or.inl (hts _ q911)) dX11_triesOne_67 ?_
            refine lv_lconst (v := 0) hx hb dX11_triesOne_70 (by decide) ?_
            refine wl_eq (tgt := 78) hx hb dX11_triesOne_71 dX11_triesOne_72 (by decide) (fun c71 => ?_) (fun c71 => ?_)
            · have c71 : bu63.toInt = (0 : Int) := c71
              have rbu63_71 : lr bu63 0 0 := by have h8 := (⟨vu63, (lr_any bu63).2⟩ : lr bu63 0 9223372036854775807); have h9 := (lr_c (0) (by decide) : lr (0 : Int64) (0) (0)); constructor <;> omega
              exact w2 _ _ _ (J78 _ _ _ v6_4 x54 bu63 bb63 hW hI hV hQ hS (lv_sub hl [0, 1, 2, 3, 4, 5] rfl) rv6_1 rv6_2 rv6_4 rv6_5_9 rx54_57 nh0_38 (lr_w (lo' := 0) (hi' := 9223372036854775807) rbu63_71 (by decide) (by decide)) nh0_39 (⟨vb63, (lr_any bb63).2⟩ : lr bb63 1 9223372036854775807) nh0_40 nh0_49)
            · have c71 : bu63.toInt ≠ (0 : Int) := c71
              have rbu63_71 : lr bu63 1 9223372036854775807 := by have h8 := (⟨vu63, (lr_any bu63).2⟩ : lr bu63 0 9223372036854775807); have h9 := (lr_c (0) (by decide) : lr (0 : Int64) (0) (0)); constructor <;> omega
              refine lv_iconst (v := 1) hx hb dX11_triesOne_75 (by decide) ?_
              refine lv_istore (lv' := [(4, .int (1 : Int32)), (0, .ref h0), (1, .int p1), (2, .int p2), (3, .int p3), (5, .int v6_5)]) hx hb dX11_triesOne_76 hl (by decide) rfl (fun ls hl => ?_)
              exact w2 _ _ _ (J78 _ _ _ (1 : Int32) x54 bu63 bb63 hW hI hV hQ hS (lv_sub hl [1, 2, 3, 4, 0, 5] rfl) rv6_1 rv6_2 (ir_w (lo' := 1) (hi' := 2) (ir_c (1) (by decide) : ir (1 : Int32) (1) (1)) (by decide) (by decide)) rv6_5_9 rx54_57 nh0_38 (lr_w (lo' := 0) (hi' := 9223372036854775807) rbu63_71 (by decide) (by decide)) nh0_39 (⟨vb63, (lr_any bb63).2⟩ : lr bb63 1 9223372036854775807) nh0_40 nh0_49)
          · have rx54_57 : ir x54 0 0 := rf_eq c57 (ir_c (0) (by decide) : ir (0 : Int32) (0) (0))
            refine lv_iconst (v := 0) hx hb dX11_triesOne_60 (by decide) ?_
            exact W.iret (v := (0 : Int32)) hx hb hr (fun t ht _ => ⟨⟨(0 : Int32), (0 : Int32), rfl, ⟨rfl, (ir_w (lo' := 0) (hi' := 2) (ir_c (0) (by decide) : ir (0 : Int32) (0) (0)) (by decide) (by decide))⟩, cW_at ht hW, ⟨mI_at ht hI, kp_at ht hV, ⟨Jc6, rw6_0, tJ_at ht hQ, fun h => absurd rfl h⟩⟩⟩, hS.F ht⟩) hS.2.2 dX11_triesOne_61
        · have rx20_23 : ir x20 0 0 := rf_eq c23 (ir_c (0) (by decide) : ir (0 : Int32) (0) (0))
          refine lv_goto (tgt := 87) hx hb dX11_triesOne_26 (by decide) ?_
          obtain ⟨x87, e87⟩ : ∃ y : Int32, y = v6_5 + 1 := ⟨_, rfl⟩
          have r87 : ir x87 2 5 := ir_w (ir_add e87 rv6_5_9 (ir_c (1) (by decide) : ir (1 : Int32) (1) (1)) (by decide) (by decide)) (by decide) (by decide)
          have t87 : x87.toInt = v6_5.toInt + (1) := it_add e87 rv6_5_9 (ir_c (1) (by decide) : ir (1 : Int32) (1) (1)) (by decide) (by decide)
          refine lv_iinc (v := x87) (lv' := [(5, .int x87), (0, .ref h0), (1, .int p1), (2, .int p2), (3, .int p3), (4, .int v6_4)]) hx hb dX11_triesOne_87 hl (k := 5) rfl (by rw [e87]; rfl) (by decide) rfl (fun ls hl => ?_)
          refine lv_goto (tgt := 6) hx hb dX11_triesOne_90 (by decide) ?_
          exact w2 _ _ _ (ih6 _ _ _ v6_4 x87 Jc6 hW hI hV hQ hS (lv_sub hl [1, 2, 3, 4, 5, 0] rfl) rv6_1 rv6_2 rv6_4 (ir_w (lo' := 1) (hi' := 5) r87 (by decide) (by decide)) nh0_49 (fun j h => rw6_0 j h) (fun mk h1 h2 h3 => by by_cases hm : mk = v6_5; exact absurd (by rw [hm, ← e19, ← h20]; assumption) h3; exact rw6_1 mk h1 (by have h4 : mk.toInt ≠ v6_5.toInt := fun z => hm (Int32.toInt_inj.mp z); omega) h3) (by have h9 := r87; omega))
  refine lv_iconst (v := 2) hx hb dX11_triesOne_0 (by decide) ?_
  refine lv_istore (lv' := [(4, .int (2 : Int32)), (0, .ref h0), (1, .int p1), (2, .int p2), (3, .int p3)]) hx hb dX11_triesOne_1 hl (by decide) rfl (fun ls hl => ?_)
  refine lv_iconst (v := 1) hx hb dX11_triesOne_3 (by decide) ?_
  refine lv_istore (lv' := [(5, .int (1 : Int32)), (4, .int (2 : Int32)), (0, .ref h0), (1, .int p1), (2, .int p2), (3, .int p3)]) hx hb dX11_triesOne_4 hl (by decide) rfl (fun ls hl => ?_)
  exact w2 _ _ _ (L6 5 _ _ _ (2 : Int32) (1 : Int32) J hW hI hV hQ hS (lv_sub hl [2, 3, 4, 5, 1, 0] rfl) rp1 rp2 (ir_w (lo' := 1) (hi' := 2) (ir_c (2) (by decide) : ir (2 : Int32) (2) (2)) (by decide) (by decide)) (ir_w (lo' := 1) (hi' := 5) (ir_c (1) (by decide) : ir (1 : Int32) (1) (1)) (by decide) (by decide)) nh0_49 (fun j h => h) (fun mk h1 h2 h3 => by exfalso; have h9 := (ir_c (1) (by decide) : ir (1 : Int32) (1) (1)); omega) (by have h9 := (ir_c (1) (by decide) : ir (1 : Int32) (1) (1)); omega))
set_option maxHeartbeats 4000000 in
set_option maxRecDepth 100000 in
theorem m_X11_finds (l : Launch) (N : c_N) (h0 : Nat) (k0 : N.2.2.1 h0 = some 11) (hO : mOK N) (V : Nat → Value) (p1 : Int32) (rp1 : ir p1 1 3) : cMi2 l yX11_finds cX11_finds 3 .int { frames := 0, cells := 0, slots := 0, locals := 0 } [.ref h0, .int p1] N [11, 59, 60] (fun H => mI N h0 H ∧ kp N h0 [48] V H) (fun r => ir r 0 1) (fun _ H => mI N h0 H ∧ kp N h0 [48] V H) := by
  refine Met.ofW (cc := cX11_finds) (maxL := 3) (ret := some .int) (by decide) rfl ?_
  intro p e s m args below meth c s₁ B hml hv
  obtain ⟨rfl, ⟨hK, hW, hT, hnn⟩, hB⟩ := hv
  obtain ⟨hI, hV⟩ := hB
  have hx := B.exec
  have hb := B.bytes
  have hr := B.returns
  have hts : ∀ w ∈ lw_g, w.before _ s = true := fun w h => atoms_spec (ws := wc_ws yX11_finds cX11_finds 3 (some .int)) B.pre w (List.mem_cons_of_mem _ h)
  have hown : s.vm.findClass RX11 = some m.cls := findClass_of_methodNamed B.named
  have hlocks := B.notSynchronized
  have hS : va_S (cE N [11, 59, 60]) s.heap s.heap [] := va_S.rf
  have hl := lv_entry ([.ref h0, .int p1]) (n := 3) (Nat.le_of_ble_eq_true rfl)
  rw [lg_entry_eq]
  generalize (lg_sl ([.ref h0, .int p1]) ++ List.replicate (3 - (lg_sl ([.ref h0, .int p1])).length) Slot.unset).toArray = ls at hl ⊢
  have hl : lv_has ls 3 [(0, .ref h0), (1, .int p1)] := hl
  refine wq_all ?_
  intro WW w1 w2
  have L2 : ∀ (n : Nat) (H : Heap) (locs : List Loc) (ls : Array Slot) (v2_2 : Int32), cW N H → mI N h0 H → kp N h0 [48] V H → va_S (cE N [11, 59, 60]) s.heap H locs → lv_has ls 3 [(0, .ref h0), (1, .int p1), (2, .int v2_2)] → ir p1 1 3 → ir v2_2 0 3 → 3 - v2_2.toInt < (n : Int) → WW H locs (F0 m 2 ls []) := by
    intro n
    induction n with
    | zero =>
      intro H locs ls v2_2 hW hI hV hS hl rv2_1 rv2_2 mu2
      exfalso
      omega
    | succ n ih2 =>
      intro H locs ls v2_2 hW hI hV hS hl rv2_1 rv2_2 mu2
      refine w1 _ _ _ ?_
      refine lv_iload_n hx hb dX11_finds_2 rfl (lv_at hl 2 rfl) ?_
      refine lv_iload_n hx hb dX11_finds_3 rfl (lv_at hl 1 rfl) ?_
      refine lv_icmp_ge (tgt := 44) hx hb dX11_finds_4 (by decide) (fun c4 => ?_) (fun c4 => ?_)
      · have rv2_2_4 : ir v2_2 1 3 := ⟨Int.le_trans (by decide) (rf_le c4 rv2_1 rv2_2).2, (rv2_2).2⟩
        refine lv_aload_n hx hb dX11_finds_44 rfl (lv_at hl 0 rfl) ?_
        refine lv_iconst (v := 1) hx hb dX11_finds_45 (by decide) ?_
        refine wt_putp hx hb hts cfX11 tyX11 tyX11_ok nmX11 hown hK hW hS (cg11 k0) (ce k0 (by decide)) rfl 48 (by decide) (Or.inl (hts _ q920)) rfl rfl rfl (gi_mk (ir_w (lo' := 0) (hi' := 1) (ir_c (1) (by decide) : ir (1 : Int32) (1) (1)) (by decide) (by decide))) dX11_finds_46 (fun H locs hW hS oq o2 np => ?_)
        have nh0_48 : wt_pin N.1 vwCl h0 11 48 (.int (1 : Int32)) H := np
        have hV := hV.put (by decide) o2
        have hI := mI.fr.put hI k0 oq o2 (by decide) (by decide)
        refine lv_iconst (v := 1) hx hb dX11_finds_49 (by decide) ?_
        exact W.iret (v := (1 : Int32)) hx hb hr (fun t ht _ => ⟨⟨(1 : Int32), (1 : Int32), rfl, ⟨rfl, (ir_w (lo' := 0) (hi' := 1) (ir_c (1) (by decide) : ir (1 : Int32) (1) (1)) (by decide) (by decide))⟩, cW_at ht hW, ⟨mI_at ht hI, kp_at ht hV⟩⟩, hS.F ht⟩) hS.2.2 dX11_finds_50
      · have rv2_2_4 : ir v2_2 0 2 := ⟨(rv2_2).1, Int.le_trans (rf_lt (rf_nle c4) rv2_2 rv2_1).1 (by decide)⟩
        refine lv_aload_n hx hb dX11_finds_7 rfl (lv_at hl 0 rfl) ?_
        refine wt_getp hx hb hts cfX11 hown hK hW (cg11 k0) rfl 48 (by decide) (Or.inl (hts _ q920)) dX11_finds_8 (fun v hv nh0_48 => ?_)
        obtain ⟨x8, rfl, r8⟩ : gi 0 1 v := hv
        refine lv_if_ne (tgt := 44) hx hb dX11_finds_11 (by decide) (fun c11 => ?_) (fun c11 => ?_)
        · have rx8_11 : ir x8 1 1 := rf_ne0 c11 r8
          refine lv_aload_n hx hb dX11_finds_44 rfl (lv_at hl 0 rfl) ?_
          refine lv_iconst (v := 1) hx hb dX11_finds_45 (by decide) ?_
          refine wt_putp hx hb hts cfX11 tyX11 tyX11_ok nmX11 hown hK hW hS (cg11 k0) (ce k0 (by decide)) rfl 48 (by decide) (Or.inl (hts _ q920)) rfl rfl rfl (gi_mk (ir_w (lo' := 0) (hi' := 1) (ir_c (1) (by decide) : ir (1 : Int32) (1) (1)) (by decide) (by decide))) dX11_finds_46 (fun H locs hW hS oq o2 np => ?_)
          have nh0_48 : wt_pin N.1 vwCl h0 11 48 (.int (1 : Int32)) H := np
          have hV := hV.put (by decide) o2
          have hI := mI.fr.put hI k0 oq o2 (by decide) (by decide)
          refine lv_iconst (v := 1) hx hb dX11_finds_49 (by decide) ?_
          exact W.iret (v := (1 : Int32)) hx hb hr (fun t ht _ => ⟨⟨(1 : Int32), (1 : Int32), rfl, ⟨rfl, (ir_w (lo' := 0) (hi' := 1) (ir_c (1) (by decide) : ir (1 : Int32) (1) (1)) (by decide) (by decide))⟩, cW_at ht hW, ⟨mI_at ht hI, kp_at ht hV⟩⟩, hS.F ht⟩) hS.2.2 dX11_finds_50
        · have rx8_11 : ir x8 0 0 := rf_eq c11 (ir_c (0) (by decide) : ir (0 : Int32) (0) (0))
          refine lv_aload_n hx hb dX11_finds_14 rfl (lv_at hl 0 rfl) ?_
          refine wt_get hx hb hts cfX11 hown hK hW (cg11 k0) rfl 46 (by decide) q918 dX11_finds_15 (fun v hv => ?_)
          obtain ⟨x15, rfl, k15⟩ : gr N 59 v := hv
          refine lv_iload_n hx hb dX11_finds_18 rfl (lv_at hl 2 rfl) ?_
          refine lv_aload_n hx hb dX11_finds_19 rfl (lv_at hl 0 rfl) ?_
          refine wt_get hx hb hts cfX11 hown hK hW (cg11 k0) rfl 44 (by decide) q916 dX11_finds_20 (fun v hv => ?_)
          obtain ⟨x20, rfl, k20⟩ : gr N 57 v := hv
          refine lv_iload_n hx hb dX11_finds_23 rfl (lv_at hl 2 rfl) ?_
          refine wt_iald hx hb hK hW 0 (cg57 k20) rfl (ir_in rv2_2_4 (by decide) (by decide)) dX11_finds_24 (fun v hv => ?_)
          obtain ⟨x24, rfl, r24⟩ : gi 0 5 v := hv
          refine wt_iastp hx hb hK hW hS 0 (cg59 k15) (ce k15 (by decide)) rfl (ir_in rv2_2_4 (by decide) (by decide)) (gi_mk r24) dX11_finds_25 (fun H locs hW hS oq => ?_)
          have nh0_48 := nh0_48.kept (oq _ (ne_kind k0 k15 (by decide)))
          have hV := hV.keep (oq _ (ne_kind k0 k15 (by decide)))
          have hI := mI.fr.arr hI k0 k15 oq (by decide) (by decide)
          refine lv_aload_n hx hb dX11_finds_26 rfl (lv_at hl 0 rfl) ?_
          refine wt_get hx hb hts cfX11 hown hK hW (cg11 k0) rfl 47 (by decide) q919 dX11_finds_27 (fun v hv => ?_)
          obtain ⟨x27, rfl, k27⟩ : gr N 60 v := hv
          refine lv_iload_n hx hb dX11_finds_30 rfl (lv_at hl 2 rfl) ?_
          refine lv_aload_n hx hb dX11_finds_31 rfl (lv_at hl 0 rfl) ?_
          refine wt_get hx hb hts cfX11 hown hK hW (cg11 k0) rfl 45 (by decide) q917 dX11_finds_32 (fun v hv => ?_)
          obtain ⟨x32, rfl, k32⟩ : gr N 58 v := hv
          refine lv_iload_n hx hb dX11_finds_35 rfl (lv_at hl 2 rfl) ?_
          refine wt_iald hx hb hK hW 0 (cg58 k32) rfl (ir_in rv2_2_4 (by decide) (by decide)) dX11_finds_36 (fun v hv => ?_)
          obtain ⟨x36, rfl, r36⟩ : gi 0 6 v := hv
          refine wt_iastp hx hb hK hW hS 0 (cg60 k27) (ce k27 (by decide)) rfl (ir_in rv2_2_4 (by decide) (by decide)) (gi_mk r36) dX11_finds_37 (fun H locs hW hS oq => ?_)
          have nh0_48 := nh0_48.kept (oq _ (ne_kind k0 k27 (by decide)))
          have hV := hV.keep (oq _ (ne_kind k0 k27 (by decide)))
          have hI := mI.fr.arr hI k0 k27 oq (by decide) (by decide)
          obtain ⟨x38, e38⟩ : ∃ y : Int32, y = v2_2 + 1 := ⟨_, rfl⟩
          have r38 : ir x38 1 3 := ir_w (ir_add e38 rv2_2_4 (ir_c (1) (by decide) : ir (1 : Int32) (1) (1)) (by decide) (by decide)) (by decide) (by decide)
          have t38 : x38.toInt = v2_2.toInt + (1) := it_add e38 rv2_2_4 (ir_c (1) (by decide) : ir (1 : Int32) (1) (1)) (by decide) (by decide)
          refine lv_iinc (v := x38) (lv' := [(2, .int x38), (0, .ref h0), (1, .int p1)]) hx hb dX11_finds_38 hl (k := 2) rfl (by rw [e38]; rfl) (by decide) rfl (fun ls hl => ?_)
          refine lv_goto (tgt := 2) hx hb dX11_finds_41 (by decide) ?_
          exact w2 _ _ _ (ih2 _ _ _ x38 hW hI hV hS (lv_sub hl [1, 2, 0] rfl) rv2_1 (ir_w (lo' := 0) (hi' := 3) r38 (by decide) (by decide)) (by have h9 := r38; omega))
  refine lv_iconst (v := 0) hx hb dX11_finds_0 (by decide) ?_
  refine lv_istore_n (lv' := [(2, .int (0 : Int32)), (0, .ref h0), (1, .int p1)]) hx hb dX11_finds_1 rfl hl (by decide) rfl (fun ls hl => ?_)
  exact w2 _ _ _ (L2 4 _ _ _ (0 : Int32) hW hI hV hS (lv_sub hl [1, 2, 0] rfl) rp1 (ir_w (lo' := 0) (hi' := 3) (ir_c (0) (by decide) : ir (0 : Int32) (0) (0)) (by decide) (by decide)) (by have h9 := (ir_c (0) (by decide) : ir (0 : Int32) (0) (0)); omega))
set_option maxHeartbeats 4000000 in
set_option maxRecDepth 100000 in
theorem m_X11_waysOn_2 (l : Launch) (N : c_N) (h0 : Nat) (k0 : N.2.2.1 h0 = some 11) (hO : mOK N) (V : Nat → Value) (p1 : Int32) (rp1 : ir p1 2 2) (p2 : Int32) (rp2 : ir p2 1 3) (g49 : Int32) (J : Nat → Prop) (hJ : ∀ mk : Int32, ir mk 1 4 → ¬ hv g49 (mk - 1) = 0 → J (sl p1 mk)) : cMi2 l yX11_waysOn cX11_waysOn 7 .int { frames := 5, cells := 0, slots := 0, locals := 154 } [.ref h0, .int p1, .int p2] N [11, 56, 57, 58, 59, 60] (fun H => mI N h0 H ∧ kp N h0 [32, 33, 34, 35, 36, 37, 38, 39, 40, 41, 42, 48] V H ∧ wt_pin N.1 vwCl h0 11 49 (.int g49) H ∧ tJ N J H) (fun _ => True) (fun r H => mI N h0 H ∧ kp N h0 [32, 33, 34, 35, 36, 37, 38, 39, 40, 41, 42, 48] V H ∧ tJ N J H) := by
  refine Met.ofW (cc := cX11_waysOn) (maxL := 7) (ret := some .int) (by decide) rfl ?_
  intro p e s m args below meth c s₁ B hml hv
  obtain ⟨rfl, ⟨hK, hW, hT, hnn⟩, hB⟩ := hv
  obtain ⟨hI, hV, hB⟩ := hB
  have hQ : tJ N J s.heap := hB.2
  have nh0_49 := hB.1
  have hx := B.exec
  have hb := B.bytes
  have hr := B.returns
  have hts : ∀ w ∈ lw_g, w.before _ s = true := fun w h => atoms_spec (ws := wc_ws yX11_waysOn cX11_waysOn 7 (some .int)) B.pre w (List.mem_cons_of_mem _ h)
  have hown : s.vm.findClass RX11 = some m.cls := findClass_of_methodNamed B.named
  have hlocks := B.notSynchronized
  have hS : va_S (cE N [11, 56, 57, 58, 59, 60]) s.heap s.heap [] := va_S.rf
  have hl := lv_entry ([.ref h0, .int p1, .int p2]) (n := 7) (Nat.le_of_ble_eq_true rfl)
  rw [lg_entry_eq]
  generalize (lg_sl ([.ref h0, .int p1, .int p2]) ++ List.replicate (7 - (lg_sl ([.ref h0, .int p1, .int p2])).length) Slot.unset).toArray = ls at hl ⊢
  have hl : lv_has ls 7 [(0, .ref h0), (1, .int p1), (2, .int p2)] := hl
  refine wq_all ?_
  intro WW w1 w2
  have L5 : ∀ (n : Nat) (H : Heap) (locs : List Loc) (ls : Array Slot) (v5_3 : Int32) (v5_4 : Int32), cW N H → mI N h0 H → kp N h0 [32, 33, 34, 35, 36, 37, 38, 39, 40, 41, 42, 48] V H → tJ N J H → va_S (cE N [11, 56, 57, 58, 59, 60]) s.heap H locs → lv_has ls 7 [(0, .ref h0), (1, .int p1), (2, .int p2), (3, .int v5_3), (4, .int v5_4)] → ir p1 2 2 → ir p2 1 3 → ir v5_4 0 6 → wt_pin N.1 vwCl h0 11 49 (.int g49) H → 6 - v5_4.toInt < (n : Int) → WW H locs (F0 m 5 ls []) := by
    intro n
    induction n with
    | zero =>
      intro H locs ls v5_3 v5_4 hW hI hV hQ hS hl rv5_1 rv5_2 rv5_4 nh0_49 mu5
      exfalso
      omega
    | succ n ih5 =>
      intro H locs ls v5_3 v5_4 hW hI hV hQ hS hl rv5_1 rv5_2 rv5_4 nh0_49 mu5
      have J146 : ∀ (H : Heap) (locs : List Loc) (ls : Array Slot) (v146_3 : Int32) (u146_1 : Int32), cW N H → mI N h0 H → kp N h0 [32, 33, 34, 35, 36, 37, 38, 39, 40, 41, 42, 48] V H → tJ N J H → va_S (cE N [11, 56, 57, 58, 59, 60]) s.heap H locs → lv_has ls 7 [(0, .ref h0), (1, .int p1), (2, .int p2), (3, .int v146_3), (4, .int v5_4)] → ir p1 2 2 → ir p2 1 3 → ir v5_4 0 5 → wt_pin N.1 vwCl h0 11 49 (.int g49) H → wt_pin N.1 vwCl h0 11 50 (.int u146_1) H → WW H locs (F0 m 146 ls []) := by
        intro H locs ls v146_3 u146_1 hW hI hV hQ hS hl rv146_1 rv146_2 rv146_4 nh0_49 nh0_50
        refine w1 _ _ _ ?_
        obtain ⟨x146, e146⟩ : ∃ y : Int32, y = v5_4 + 1 := ⟨_, rfl⟩
        have r146 : ir x146 1 6 := ir_w (ir_add e146 rv146_4 (ir_c (1) (by decide) : ir (1 : Int32) (1) (1)) (by decide) (by decide)) (by decide) (by decide)
        have t146 : x146.toInt = v5_4.toInt + (1) := it_add e146 rv146_4 (ir_c (1) (by decide) : ir (1 : Int32) (1) (1)) (by decide) (by decide)
        refine lv_iinc (v := x146) (lv' := [(4, .int x146), (0, .ref h0), (1, .int p1), (2, .int p2), (3, .int v146_3)]) hx hb dX11_waysOn_146 hl (k := 4) rfl (by rw [e146]; rfl) (by decide) rfl (fun ls hl => ?_)
        refine lv_goto (tgt := 5) hx hb dX11_waysOn_149 (by decide) ?_
        exact w2 _ _ _ (ih5 _ _ _ v146_3 x146 hW hI hV hQ hS (lv_sub hl [1, 2, 3, 4, 0] rfl) rv146_1 rv146_2 (ir_w (lo' := 0) (hi' := 6) r146 (by decide) (by decide)) nh0_49 (by have h9 := r146; omega))
      have L47 : ∀ (n : Nat) (H : Heap) (locs : List Loc) (ls : Array Slot) (v47_3 : Int32) (v47_5 : Int32) (u47_1 : Int32), cW N H → mI N h0 H → kp N h0 [32, 33, 34, 35, 36, 37, 38, 39, 40, 41, 42, 48] V H → tJ N J H → va_S (cE N [11, 56, 57, 58, 59, 60]) s.heap H locs → lv_has ls 7 [(0, .ref h0), (1, .int p1), (2, .int p2), (3, .int v47_3), (4, .int v5_4), (5, .int v47_5)] → ir p1 2 2 → ir p2 1 3 → ir v5_4 0 5 → ir v47_5 0 7 → wt_pin N.1 vwCl h0 11 49 (.int g49) H → wt_pin N.1 vwCl h0 11 50 (.int u47_1) H → 7 - v47_5.toInt < (n : Int) → WW H locs (F0 m 47 ls []) := by
        intro n
        induction n with
        | zero =>
          intro H locs ls v47_3 v47_5 u47_1 hW hI hV hQ hS hl rv47_1 rv47_2 rv47_4 rv47_5 nh0_49 nh0_50 mu47
          exfalso
          omega
        | succ n ih47 =>
          intro H locs ls v47_3 v47_5 u47_1 hW hI hV hQ hS hl rv47_1 rv47_2 rv47_4 rv47_5 nh0_49 nh0_50 mu47
          have J140 : ∀ (H : Heap) (locs : List Loc) (ls : Array Slot) (v140_3 : Int32) (u140_2 : Int32), cW N H → mI N h0 H → kp N h0 [32, 33, 34, 35, 36, 37, 38, 39, 40, 41, 42, 48] V H → tJ N J H → va_S (cE N [11, 56, 57, 58, 59, 60]) s.heap H locs → lv_has ls 7 [(0, .ref h0), (1, .int p1), (2, .int p2), (3, .int v140_3), (4, .int v5_4), (5, .int v47_5)] → ir p1 2 2 → ir p2 1 3 → ir v5_4 0 5 → ir v47_5 0 6 → wt_pin N.1 vwCl h0 11 49 (.int g49) H → wt_pin N.1 vwCl h0 11 50 (.int u47_1) H → wt_pin N.1 vwCl h0 11 51 (.int u140_2) H → WW H locs (F0 m 140 ls []) := by
            intro H locs ls v140_3 u140_2 hW hI hV hQ hS hl rv140_1 rv140_2 rv140_4 rv140_5 nh0_49 nh0_50 nh0_51
            refine w1 _ _ _ ?_
            obtain ⟨x140, e140⟩ : ∃ y : Int32, y = v47_5 + 1 := ⟨_, rfl⟩
            have r140 : ir x140 1 7 := ir_w (ir_add e140 rv140_5 (ir_c (1) (by decide) : ir (1 : Int32) (1) (1)) (by decide) (by decide)) (by decide) (by decide)
            have t140 : x140.toInt = v47_5.toInt + (1) := it_add e140 rv140_5 (ir_c (1) (by decide) : ir (1 : Int32) (1) (1)) (by decide) (by decide)
            refine lv_iinc (v := x140) (lv' := [(5, .int x140), (0, .ref h0), (1, .int p1), (2, .int p2), (3, .int v140_3), (4, .int v5_4)]) hx hb dX11_waysOn_140 hl (k := 5) rfl (by rw [e140]; rfl) (by decide) rfl (fun ls hl => ?_)
            refine lv_goto (tgt := 47) hx hb dX11_waysOn_143 (by decide) ?_
            exact w2 _ _ _ (ih47 _ _ _ v140_3 x140 u47_1 hW hI hV hQ hS (lv_sub hl [1, 2, 3, 4, 5, 0] rfl) rv140_1 rv140_2 rv140_4 (ir_w (lo' := 0) (hi' := 7) r140 (by decide) (by decide)) nh0_49 nh0_50 (by have h9 := r140; omega))
          refine w1 _ _ _ ?_
          refine lv_iload hx hb dX11_waysOn_47 (lv_at hl 5 rfl) ?_
          refine lv_bipush (v := 7) hx hb dX11_waysOn_49 (by decide) ?_
          refine lv_icmp_ge (tgt := 146) hx hb dX11_waysOn_51 (by decide) (fun c51 => ?_) (fun c51 => ?_)
          · have rv47_5_51 : ir v47_5 7 7 := ⟨Int.le_trans (by decide) (rf_le c51 (ir_c (7) (by decide) : ir (7 : Int32) (7) (7)) rv47_5).2, (rv47_5).2⟩
            exact w2 _ _ _ (J146 _ _ _ v47_3 u47_1 hW hI hV hQ hS (lv_sub hl [0, 1, 2, 3, 4] rfl) rv47_1 rv47_2 rv47_4 nh0_49 nh0_50)
          · have rv47_5_51 : ir v47_5 0 6 := ⟨(rv47_5).1, Int.le_trans (rf_lt (rf_nle c51) rv47_5 (ir_c (7) (by decide) : ir (7 : Int32) (7) (7))).1 (by decide)⟩
            refine lv_aload_n hx hb dX11_waysOn_54 rfl (lv_at hl 0 rfl) ?_
            refine wt_getp hx hb hts cfX11 hown hK hW (cg11 k0) rfl 51 (by decide) (Or.inl (hts _ q923)) dX11_waysOn_55 (fun v hv nh0_51 => ?_)
            obtain ⟨x55, rfl⟩ : ga v := hv
            refine lv_iload hx hb dX11_waysOn_58 (lv_at hl 5 rfl) ?_
            refine cp_i (wt_runS (As := [.int x55, .int v47_5]) (rest := []) ⟨hx, hb, hml, hown, hts⟩ (m_X11_has l x55 v47_5) wm_X11_has q1312 ⟨rfl, rfl⟩ ⟨Nat.le_of_ble_eq_true rfl, Nat.le_of_ble_eq_true rfl⟩ pS_pre rfl hl.1 rfl (Nat.le_of_ble_eq_true rfl) dX11_waysOn_60 ⟨Nat.zero_le _, Nat.zero_le _⟩) hW hS (fun x60 H locs hp hW1 hS oq => ?_)
            have hV := hV.same hW k0 oq
            have hQ := hQ.fr (fun a ka => oq a (hW_lt hW ka) (cE_nil _))
            have hI := mI.fr.same hI hW oq
            have hW := hW1
            have nh0_49 := nh0_49.kept (oq _ nh0_49.lt (cE_not k0 (by decide)))
            have nh0_50 := nh0_50.kept (oq _ nh0_50.lt (cE_not k0 (by decide)))
            have nh0_51 := nh0_51.kept (oq _ nh0_51.lt (cE_not k0 (by decide)))
            have r60 : ir x60 0 1 := hp
            refine lv_if_eq (tgt := 78) hx hb dX11_waysOn_63 (by decide) (fun c63 => ?_) (fun c63 => ?_)
            · have rx60_63 : ir x60 0 0 := rf_eq c63 (ir_c (0) (by decide) : ir (0 : Int32) (0) (0))
              refine lv_iconst (v := 0) hx hb dX11_waysOn_78 (by decide) ?_
              refine lv_istore (lv' := [(6, .int (0 : Int32)), (0, .ref h0), (1, .int p1), (2, .int p2), (3, .int v47_3), (4, .int v5_4), (5, .int v47_5)]) hx hb dX11_waysOn_79 hl (by decide) rfl (fun ls hl => ?_)
              refine lv_iload hx hb dX11_waysOn_81 (lv_at hl 0 rfl) ?_
              refine lv_if_ne (tgt := 89) hx hb dX11_waysOn_83 (by decide) (fun c83 => ?_) (fun c83 => ?_)
              · exact absurd rfl c83
              · refine lv_goto (tgt := 140) hx hb dX11_waysOn_86 (by decide) ?_
                exact w2 _ _ _ (J140 _ _ _ v47_3 x55 hW hI hV hQ hS (lv_sub hl [1, 2, 3, 4, 5, 6] rfl) rv47_1 rv47_2 rv47_4 rv47_5_51 nh0_49 nh0_50 nh0_51)
            · have rx60_63 : ir x60 1 1 := rf_ne0 c63 r60
              refine lv_aload_n hx hb dX11_waysOn_66 rfl (lv_at hl 0 rfl) ?_
              refine lv_iload_n hx hb dX11_waysOn_67 rfl (lv_at hl 1 rfl) ?_
              refine lv_iload hx hb dX11_waysOn_68 (lv_at hl 4 rfl) ?_
              refine lv_iload hx hb dX11_waysOn_70 (lv_at hl 5 rfl) ?_
              obtain ⟨V1, hV1⟩ := kp_all hW k0
              have hWo := hW
              refine cc_i2 (B2 := fun r H => mI N h0 H ∧ kp N h0 [32, 33, 34, 35, 36, 37, 38, 39, 40, 41, 42] V1 H ∧ ∃ J2 : Nat → Prop, (∀ j, J j → J2 j) ∧ tJ N J2 H ∧ (¬ r = 0 → ∀ mk : Int32, ir mk 1 4 → ¬ hv g49 (mk - 1) = 0 → J2 (sl (p1 + 1) mk))) (wt_runV (As := [.int p1, .int v5_4, .int v47_5]) (rest := []) ⟨hx, hb, hml, hown, hts⟩ (m_X11_triesOne l N h0 k0 hO V1 p1 (ir_w (lo' := 0) (hi' := 2) rv47_1 (by decide) (by decide)) v5_4 rv47_4 v47_5 g49 J hJ) wm_X11_triesOne q1348 ⟨rfl, rfl⟩ ⟨Nat.le_of_ble_eq_true rfl, Nat.le_of_ble_eq_true rfl⟩ (cS_preV (B := fun H => mI N h0 H ∧ kp N h0 [32, 33, 34, 35, 36, 37, 38, 39, 40, 41, 42] V1 H ∧ wt_pin N.1 vwCl h0 11 49 (.int g49) H ∧ tJ N J H) hK hW hT hnn hS (cg11 k0) rfl rfl (And.intro hI (And.intro (kp_of (F := [32, 33, 34, 35, 36, 37, 38, 39, 40, 41, 42]) hV1) (And.intro nh0_49 hQ)))) rfl hl.1 rfl (Nat.le_of_ble_eq_true rfl) dX11_waysOn_72 ⟨Nat.zero_le _, Nat.zero_le _⟩) hS (by decide) (fun x72 H locs hp hW hS oq hB2 => ?_)
              obtain ⟨hI, hV2, hB2⟩ := hB2
              have hV := kp_call hV hV1 hV2 (by decide)
              obtain ⟨J72, js72, hQ, jw72⟩ := hB2
              have nh0_49 := kp_use hV1 hV2 (by decide) (by decide) nh0_49
              have nh0_50 := kp_use hV1 hV2 (by decide) (by decide) nh0_50
              have nh0_51 := kp_use hV1 hV2 (by decide) (by decide) nh0_51
              have r72 : ir x72 0 2 := hp
              refine lv_goto (tgt := 79) hx hb dX11_waysOn_75 (by decide) ?_
              refine lv_istore (lv' := [(6, .int x72), (0, .ref h0), (1, .int p1), (2, .int p2), (3, .int v47_3), (4, .int v5_4), (5, .int v47_5)]) hx hb dX11_waysOn_79 hl (by decide) rfl (fun ls hl => ?_)
              refine lv_iload hx hb dX11_waysOn_81 (lv_at hl 0 rfl) ?_
              refine lv_if_ne (tgt := 89) hx hb dX11_waysOn_83 (by decide) (fun c83 => ?_) (fun c83 => ?_)
              · have rx72_83 : ir x72 1 2 := rf_ne0 c83 r72
                refine lv_aload_n hx hb dX11_waysOn_89 rfl (lv_at hl 1 rfl) ?_
                refine wt_get hx hb hts cfX11 hown hK hW (cg11 k0) rfl 44 (by decide) q916 dX11_waysOn_90 (fun v hv => ?_)
                obtain ⟨x90, rfl, k90⟩ : gr N 57 v := hv
                refine lv_iload_n hx hb dX11_waysOn_93 rfl (lv_at hl 2 rfl) ?_
                refine lv_iload hx hb dX11_waysOn_94 (lv_at hl 5 rfl) ?_
                refine wt_iastp hx hb hK hW hS 0 (cg57 k90) (ce k90 (by decide)) rfl (ir_in (ir_w (lo' := 0) (hi' := 2) rv47_1 (by decide) (by decide)) (by decide) (by decide)) (gi_mk rv47_4) dX11_waysOn_96 (fun H locs hW hS oq => ?_)
                have nh0_49 := nh0_49.kept (oq _ (ne_kind k0 k90 (by decide)))
                have nh0_50 := nh0_50.kept (oq _ (ne_kind k0 k90 (by decide)))
                have nh0_51 := nh0_51.kept (oq _ (ne_kind k0 k90 (by decide)))
                have hV := hV.keep (oq _ (ne_kind k0 k90 (by decide)))
                have hQ := hQ.fr (fun a ka => oq a (ne_kind ka k90 (by decide)))
                have hI := mI.fr.arr hI k0 k90 oq (by decide) (by decide)
                refine lv_aload_n hx hb dX11_waysOn_97 rfl (lv_at hl 1 rfl) ?_
                refine wt_get hx hb hts cfX11 hown hK hW (cg11 k0) rfl 45 (by decide) q917 dX11_waysOn_98 (fun v hv => ?_)
                obtain ⟨x98, rfl, k98⟩ : gr N 58 v := hv
                refine lv_iload_n hx hb dX11_waysOn_101 rfl (lv_at hl 2 rfl) ?_
                refine lv_iload hx hb dX11_waysOn_102 (lv_at hl 6 rfl) ?_
                refine wt_iastp hx hb hK hW hS 0 (cg58 k98) (ce k98 (by decide)) rfl (ir_in (ir_w (lo' := 0) (hi' := 2) rv47_1 (by decide) (by decide)) (by decide) (by decide)) (gi_mk rv47_5_51) dX11_waysOn_104 (fun H locs hW hS oq => ?_)
                have nh0_49 := nh0_49.kept (oq _ (ne_kind k0 k98 (by decide)))
                have nh0_50 := nh0_50.kept (oq _ (ne_kind k0 k98 (by decide)))
                have nh0_51 := nh0_51.kept (oq _ (ne_kind k0 k98 (by decide)))
                have hV := hV.keep (oq _ (ne_kind k0 k98 (by decide)))
                have hQ := hQ.fr (fun a ka => oq a (ne_kind ka k98 (by decide)))
                have hI := mI.fr.arr hI k0 k98 oq (by decide) (by decide)
                refine lv_iload_n hx hb dX11_waysOn_105 rfl (lv_at hl 2 rfl) ?_
                refine lv_iconst (v := 1) hx hb dX11_waysOn_106 (by decide) ?_
                refine lv_iadd hx hb dX11_waysOn_107 ?_
                refine lv_topi (fun x107 e107 => ?_)
                have t107 : x107.toInt = p1.toInt + (1) := it_add e107 rv47_1 (ir_c (1) (by decide) : ir (1 : Int32) (1) (1)) (by decide) (by decide)
                have r107 : ir x107 3 3 := ir_w (ir_add e107 rv47_1 (ir_c (1) (by decide) : ir (1 : Int32) (1) (1)) (by decide) (by decide)) (by decide) (by decide)
                refine lv_iload_n hx hb dX11_waysOn_108 rfl (lv_at hl 3 rfl) ?_
                refine lv_icmp_ge (tgt := 126) hx hb dX11_waysOn_109 (by decide) (fun c109 => ?_) (fun c109 => ?_)
                · refine lv_iload hx hb dX11_waysOn_126 (lv_at hl 0 rfl) ?_
                  refine lv_iconst (v := 2) hx hb dX11_waysOn_128 (by decide) ?_
                  refine lv_icmp_ne (tgt := 140) hx hb dX11_waysOn_129 (by decide) (fun c129 => ?_) (fun c129 => ?_)
                  · exact w2 _ _ _ (J140 _ _ _ v47_3 x55 hW hI hV (hQ.sub js72) hS (lv_sub hl [1, 2, 3, 4, 5, 6] rfl) rv47_1 rv47_2 rv47_4 rv47_5_51 nh0_49 nh0_50 nh0_51)
                  · have rx72_129 : ir x72 2 2 := rf_eq c129 (ir_c (2) (by decide) : ir (2 : Int32) (2) (2))
                    refine lv_iload_n hx hb dX11_waysOn_132 rfl (lv_at hl 4 rfl) ?_
                    refine lv_aload_n hx hb dX11_waysOn_133 rfl (lv_at hl 1 rfl) ?_
                    refine lv_iload_n hx hb dX11_waysOn_134 rfl (lv_at hl 3 rfl) ?_
                    obtain ⟨V1, hV1⟩ := kp_all hW k0
                    have hWo := hW
                    refine cc_i2 (B2 := fun _ H => mI N h0 H ∧ kp N h0 [48] V1 H) (wt_runV (As := [.int p2]) (rest := [.int v47_3]) ⟨hx, hb, hml, hown, hts⟩ (m_X11_finds l N h0 k0 hO V1 p2 rv47_2) wm_X11_finds q1362 ⟨rfl, rfl⟩ ⟨Nat.le_of_ble_eq_true rfl, Nat.le_of_ble_eq_true rfl⟩ (cS_preV (B := fun H => mI N h0 H ∧ kp N h0 [48] V1 H) hK hW hT hnn hS (cg11 k0) rfl rfl (And.intro hI (kp_of (F := [48]) hV1))) rfl hl.1 rfl (Nat.le_of_ble_eq_true rfl) dX11_waysOn_135 ⟨Nat.zero_le _, Nat.zero_le _⟩) hS (by decide) (fun x135 H locs hp hW hS oq hB2 => ?_)
                    obtain ⟨hI, hV2⟩ := hB2
                    have hQ := hQ.fr (fun a ka => oq a (hW_lt hWo ka) (cE_not ka (by decide)))
                    have hV := kp_call hV hV1 hV2 (by decide)
                    have nh0_49 := kp_use hV1 hV2 (by decide) (by decide) nh0_49
                    have nh0_50 := kp_use hV1 hV2 (by decide) (by decide) nh0_50
                    have nh0_51 := kp_use hV1 hV2 (by decide) (by decide) nh0_51
                    have r135 : ir x135 0 1 := hp
                    refine lv_iadd hx hb dX11_waysOn_138 ?_
                    refine lv_topi (fun x138 e138 => ?_)
                    refine lv_istore_n (lv' := [(3, .int x138), (6, .int x72), (0, .ref h0), (1, .int p1), (2, .int p2), (4, .int v5_4), (5, .int v47_5)]) hx hb dX11_waysOn_139 rfl hl (by decide) rfl (fun ls hl => ?_)
                    exact w2 _ _ _ (J140 _ _ _ x138 x55 hW hI hV (hQ.sub js72) hS (lv_sub hl [2, 3, 4, 0, 5, 6] rfl) rv47_1 rv47_2 rv47_4 rv47_5_51 nh0_49 nh0_50 nh0_51)
                · exact absurd (rf_lt (rf_nle c109) r107 rv47_2) (by have h8 := r107; have h9 := rv47_2; omega)
              · have rx72_83 : ir x72 0 0 := rf_eq c83 (ir_c (0) (by decide) : ir (0 : Int32) (0) (0))
                refine lv_goto (tgt := 140) hx hb dX11_waysOn_86 (by decide) ?_
                exact w2 _ _ _ (J140 _ _ _ v47_3 x55 hW hI hV (hQ.sub js72) hS (lv_sub hl [1, 2, 3, 4, 5, 6] rfl) rv47_1 rv47_2 rv47_4 rv47_5_51 nh0_49 nh0_50 nh0_51)
      have J44 : ∀ (H : Heap) (locs : List Loc) (ls : Array Slot) (u44_1 : Int32), cW N H → mI N h0 H → kp N h0 [32, 33, 34, 35, 36, 37, 38, 39, 40, 41, 42, 48] V H → tJ N J H → va_S (cE N [11, 56, 57, 58, 59, 60]) s.heap H locs → lv_has ls 7 [(0, .ref h0), (1, .int p1), (2, .int p2), (3, .int v5_3), (4, .int v5_4)] → ir p1 2 2 → ir p2 1 3 → ir v5_4 0 5 → wt_pin N.1 vwCl h0 11 49 (.int g49) H → wt_pin N.1 vwCl h0 11 50 (.int u44_1) H → WW H locs (F0 m 44 ls []) := by
        intro H locs ls u44_1 hW hI hV hQ hS hl rv44_1 rv44_2 rv44_4 nh0_49 nh0_50
        refine w1 _ _ _ ?_
        refine lv_iconst (v := 0) hx hb dX11_waysOn_44 (by decide) ?_
        refine lv_istore (lv' := [(5, .int (0 : Int32)), (0, .ref h0), (1, .int p1), (2, .int p2), (3, .int v5_3), (4, .int v5_4)]) hx hb dX11_waysOn_45 hl (by decide) rfl (fun ls hl => ?_)
        exact w2 _ _ _ (L47 8 _ _ _ v5_3 (0 : Int32) u44_1 hW hI hV hQ hS (lv_sub hl [1, 2, 3, 4, 5, 0] rfl) rv44_1 rv44_2 rv44_4 (ir_w (lo' := 0) (hi' := 7) (ir_c (0) (by decide) : ir (0 : Int32) (0) (0)) (by decide) (by decide)) nh0_49 nh0_50 (by have h9 := (ir_c (0) (by decide) : ir (0 : Int32) (0) (0)); omega))
      refine w1 _ _ _ ?_
      refine lv_iload hx hb dX11_waysOn_5 (lv_at hl 4 rfl) ?_
      refine lv_bipush (v := 6) hx hb dX11_waysOn_7 (by decide) ?_
      refine lv_icmp_ge (tgt := 152) hx hb dX11_waysOn_9 (by decide) (fun c9 => ?_) (fun c9 => ?_)
      · have rv5_4_9 : ir v5_4 6 6 := ⟨Int.le_trans (by decide) (rf_le c9 (ir_c (6) (by decide) : ir (6 : Int32) (6) (6)) rv5_4).2, (rv5_4).2⟩
        refine lv_iload_n hx hb dX11_waysOn_152 rfl (lv_at hl 3 rfl) ?_
        exact W.iret (v := v5_3) hx hb hr (fun t ht _ => ⟨⟨v5_3, v5_3, rfl, ⟨rfl, trivial⟩, cW_at ht hW, ⟨mI_at ht hI, kp_at ht hV, tJ_at ht hQ⟩⟩, hS.F ht⟩) hS.2.2 dX11_waysOn_153
      · have rv5_4_9 : ir v5_4 0 5 := ⟨(rv5_4).1, Int.le_trans (rf_lt (rf_nle c9) rv5_4 (ir_c (6) (by decide) : ir (6 : Int32) (6) (6))).1 (by decide)⟩
        refine lv_aload_n hx hb dX11_waysOn_12 rfl (lv_at hl 0 rfl) ?_
        refine wt_getp hx hb hts cfX11 hown hK hW (cg11 k0) rfl 50 (by decide) (Or.inl (hts _ q922)) dX11_waysOn_13 (fun v hv nh0_50 => ?_)
        obtain ⟨x13, rfl⟩ : ga v := hv
        refine lv_iload hx hb dX11_waysOn_16 (lv_at hl 4 rfl) ?_
        refine cp_i (wt_runS (As := [.int x13, .int v5_4]) (rest := []) ⟨hx, hb, hml, hown, hts⟩ (m_X11_has l x13 v5_4) wm_X11_has q1312 ⟨rfl, rfl⟩ ⟨Nat.le_of_ble_eq_true rfl, Nat.le_of_ble_eq_true rfl⟩ pS_pre rfl hl.1 rfl (Nat.le_of_ble_eq_true rfl) dX11_waysOn_18 ⟨Nat.zero_le _, Nat.zero_le _⟩) hW hS (fun x18 H locs hp hW1 hS oq => ?_)
        have hV := hV.same hW k0 oq
        have hQ := hQ.fr (fun a ka => oq a (hW_lt hW ka) (cE_nil _))
        have hI := mI.fr.same hI hW oq
        have hW := hW1
        have nh0_49 := nh0_49.kept (oq _ nh0_49.lt (cE_not k0 (by decide)))
        have nh0_50 := nh0_50.kept (oq _ nh0_50.lt (cE_not k0 (by decide)))
        have r18 : ir x18 0 1 := hp
        refine lv_if_eq (tgt := 146) hx hb dX11_waysOn_21 (by decide) (fun c21 => ?_) (fun c21 => ?_)
        · have rx18_21 : ir x18 0 0 := rf_eq c21 (ir_c (0) (by decide) : ir (0 : Int32) (0) (0))
          exact w2 _ _ _ (J146 _ _ _ v5_3 x13 hW hI hV hQ hS (lv_sub hl [0, 1, 2, 3, 4] rfl) rv5_1 rv5_2 rv5_4_9 nh0_49 nh0_50)
        · have rx18_21 : ir x18 1 1 := rf_ne0 c21 r18
          refine lv_iload_n hx hb dX11_waysOn_24 rfl (lv_at hl 1 rfl) ?_
          refine lv_if_le (tgt := 44) hx hb dX11_waysOn_25 (by decide) (fun c25 => ?_) (fun c25 => ?_)
          · exact absurd (rf_le c25 rv5_1 (ir_c (0) (by decide) : ir (0 : Int32) (0) (0))) (by have h8 := rv5_1; have h9 := (ir_c (0) (by decide) : ir (0 : Int32) (0) (0)); omega)
          · refine lv_aload_n hx hb dX11_waysOn_28 rfl (lv_at hl 0 rfl) ?_
            refine wt_get hx hb hts cfX11 hown hK hW (cg11 k0) rfl 44 (by decide) q916 dX11_waysOn_29 (fun v hv => ?_)
            obtain ⟨x29, rfl, k29⟩ : gr N 57 v := hv
            refine lv_iload_n hx hb dX11_waysOn_32 rfl (lv_at hl 1 rfl) ?_
            refine lv_iconst (v := 1) hx hb dX11_waysOn_33 (by decide) ?_
            refine lv_isub hx hb dX11_waysOn_34 ?_
            refine lv_topi (fun x34 e34 => ?_)
            have t34 : x34.toInt = p1.toInt - (1) := it_sub e34 rv5_1 (ir_c (1) (by decide) : ir (1 : Int32) (1) (1)) (by decide) (by decide)
            have r34 : ir x34 1 1 := ir_w (ir_sub e34 rv5_1 (ir_c (1) (by decide) : ir (1 : Int32) (1) (1)) (by decide) (by decide)) (by decide) (by decide)
            refine wt_iald hx hb hK hW 0 (cg57 k29) rfl (ir_in (ir_w (lo' := 0) (hi' := 2) r34 (by decide) (by decide)) (by decide) (by decide)) dX11_waysOn_35 (fun v hv => ?_)
            obtain ⟨x35, rfl, r35⟩ : gi 0 5 v := hv
            refine lv_iload hx hb dX11_waysOn_36 (lv_at hl 4 rfl) ?_
            refine lv_icmp_ne (tgt := 44) hx hb dX11_waysOn_38 (by decide) (fun c38 => ?_) (fun c38 => ?_)
            · exact w2 _ _ _ (J44 _ _ _ x13 hW hI hV hQ hS (lv_sub hl [0, 1, 2, 3, 4] rfl) rv5_1 rv5_2 rv5_4_9 nh0_49 nh0_50)
            · refine lv_goto (tgt := 146) hx hb dX11_waysOn_41 (by decide) ?_
              exact w2 _ _ _ (J146 _ _ _ v5_3 x13 hW hI hV hQ hS (lv_sub hl [0, 1, 2, 3, 4] rfl) rv5_1 rv5_2 rv5_4_9 nh0_49 nh0_50)
  refine lv_iconst (v := 0) hx hb dX11_waysOn_0 (by decide) ?_
  refine lv_istore_n (lv' := [(3, .int (0 : Int32)), (0, .ref h0), (1, .int p1), (2, .int p2)]) hx hb dX11_waysOn_1 rfl hl (by decide) rfl (fun ls hl => ?_)
  refine lv_iconst (v := 0) hx hb dX11_waysOn_2 (by decide) ?_
  refine lv_istore (lv' := [(4, .int (0 : Int32)), (3, .int (0 : Int32)), (0, .ref h0), (1, .int p1), (2, .int p2)]) hx hb dX11_waysOn_3 hl (by decide) rfl (fun ls hl => ?_)
  exact w2 _ _ _ (L5 7 _ _ _ (0 : Int32) (0 : Int32) hW hI hV hQ hS (lv_sub hl [2, 3, 4, 1, 0] rfl) rp1 rp2 (ir_w (lo' := 0) (hi' := 6) (ir_c (0) (by decide) : ir (0 : Int32) (0) (0)) (by decide) (by decide)) nh0_49 (by have h9 := (ir_c (0) (by decide) : ir (0 : Int32) (0) (0)); omega))
set_option maxHeartbeats 4000000 in
set_option maxRecDepth 100000 in
theorem m_X11_waysOn_1 (l : Launch) (N : c_N) (h0 : Nat) (k0 : N.2.2.1 h0 = some 11) (hO : mOK N) (V : Nat → Value) (p1 : Int32) (rp1 : ir p1 1 1) (p2 : Int32) (rp2 : ir p2 1 3) (g49 : Int32) (J : Nat → Prop) (hJ : ∀ mk : Int32, ir mk 1 4 → ¬ hv g49 (mk - 1) = 0 → J (sl p1 mk)) : cMi2 l yX11_waysOn cX11_waysOn 7 .int { frames := 6, cells := 0, slots := 0, locals := 180 } [.ref h0, .int p1, .int p2] N [11, 56, 57, 58, 59, 60] (fun H => mI N h0 H ∧ kp N h0 [32, 33, 34, 35, 36, 37, 38, 39, 40, 41, 42, 48] V H ∧ wt_pin N.1 vwCl h0 11 49 (.int g49) H ∧ tJ N J H) (fun _ => True) (fun r H => mI N h0 H ∧ kp N h0 [32, 33, 34, 35, 36, 37, 38, 39, 40, 41, 42, 48] V H ∧ tJ N J H) := by
  refine Met.ofW (cc := cX11_waysOn) (maxL := 7) (ret := some .int) (by decide) rfl ?_
  intro p e s m args below meth c s₁ B hml hv
  obtain ⟨rfl, ⟨hK, hW, hT, hnn⟩, hB⟩ := hv
  obtain ⟨hI, hV, hB⟩ := hB
  have hQ : tJ N J s.heap := hB.2
  have nh0_49 := hB.1
  have hx := B.exec
  have hb := B.bytes
  have hr := B.returns
  have hts : ∀ w ∈ lw_g, w.before _ s = true := fun w h => atoms_spec (ws := wc_ws yX11_waysOn cX11_waysOn 7 (some .int)) B.pre w (List.mem_cons_of_mem _ h)
  have hown : s.vm.findClass RX11 = some m.cls := findClass_of_methodNamed B.named
  have hlocks := B.notSynchronized
  have hS : va_S (cE N [11, 56, 57, 58, 59, 60]) s.heap s.heap [] := va_S.rf
  have hl := lv_entry ([.ref h0, .int p1, .int p2]) (n := 7) (Nat.le_of_ble_eq_true rfl)
  rw [lg_entry_eq]
  generalize (lg_sl ([.ref h0, .int p1, .int p2]) ++ List.replicate (7 - (lg_sl ([.ref h0, .int p1, .int p2])).length) Slot.unset).toArray = ls at hl ⊢
  have hl : lv_has ls 7 [(0, .ref h0), (1, .int p1), (2, .int p2)] := hl
  refine wq_all ?_
  intro WW w1 w2
  have L5 : ∀ (n : Nat) (H : Heap) (locs : List Loc) (ls : Array Slot) (v5_3 : Int32) (v5_4 : Int32), cW N H → mI N h0 H → kp N h0 [32, 33, 34, 35, 36, 37, 38, 39, 40, 41, 42, 48] V H → tJ N J H → va_S (cE N [11, 56, 57, 58, 59, 60]) s.heap H locs → lv_has ls 7 [(0, .ref h0), (1, .int p1), (2, .int p2), (3, .int v5_3), (4, .int v5_4)] → ir p1 1 1 → ir p2 1 3 → ir v5_4 0 6 → wt_pin N.1 vwCl h0 11 49 (.int g49) H → 6 - v5_4.toInt < (n : Int) → WW H locs (F0 m 5 ls []) := by
    intro n
    induction n with
    | zero =>
      intro H locs ls v5_3 v5_4 hW hI hV hQ hS hl rv5_1 rv5_2 rv5_4 nh0_49 mu5
      exfalso
      omega
    | succ n ih5 =>
      intro H locs ls v5_3 v5_4 hW hI hV hQ hS hl rv5_1 rv5_2 rv5_4 nh0_49 mu5
      have J146 : ∀ (H : Heap) (locs : List Loc) (ls : Array Slot) (v146_3 : Int32) (u146_1 : Int32), cW N H → mI N h0 H → kp N h0 [32, 33, 34, 35, 36, 37, 38, 39, 40, 41, 42, 48] V H → tJ N J H → va_S (cE N [11, 56, 57, 58, 59, 60]) s.heap H locs → lv_has ls 7 [(0, .ref h0), (1, .int p1), (2, .int p2), (3, .int v146_3), (4, .int v5_4)] → ir p1 1 1 → ir p2 1 3 → ir v5_4 0 5 → wt_pin N.1 vwCl h0 11 49 (.int g49) H → wt_pin N.1 vwCl h0 11 50 (.int u146_1) H → WW H locs (F0 m 146 ls []) := by
        intro H locs ls v146_3 u146_1 hW hI hV hQ hS hl rv146_1 rv146_2 rv146_4 nh0_49 nh0_50
        refine w1 _ _ _ ?_
        obtain ⟨x146, e146⟩ : ∃ y : Int32, y = v5_4 + 1 := ⟨_, rfl⟩
        have r146 : ir x146 1 6 := ir_w (ir_add e146 rv146_4 (ir_c (1) (by decide) : ir (1 : Int32) (1) (1)) (by decide) (by decide)) (by decide) (by decide)
        have t146 : x146.toInt = v5_4.toInt + (1) := it_add e146 rv146_4 (ir_c (1) (by decide) : ir (1 : Int32) (1) (1)) (by decide) (by decide)
        refine lv_iinc (v := x146) (lv' := [(4, .int x146), (0, .ref h0), (1, .int p1), (2, .int p2), (3, .int v146_3)]) hx hb dX11_waysOn_146 hl (k := 4) rfl (by rw [e146]; rfl) (by decide) rfl (fun ls hl => ?_)
        refine lv_goto (tgt := 5) hx hb dX11_waysOn_149 (by decide) ?_
        exact w2 _ _ _ (ih5 _ _ _ v146_3 x146 hW hI hV hQ hS (lv_sub hl [1, 2, 3, 4, 0] rfl) rv146_1 rv146_2 (ir_w (lo' := 0) (hi' := 6) r146 (by decide) (by decide)) nh0_49 (by have h9 := r146; omega))
      have L47 : ∀ (n : Nat) (H : Heap) (locs : List Loc) (ls : Array Slot) (v47_3 : Int32) (v47_5 : Int32) (u47_1 : Int32), cW N H → mI N h0 H → kp N h0 [32, 33, 34, 35, 36, 37, 38, 39, 40, 41, 42, 48] V H → tJ N J H → va_S (cE N [11, 56, 57, 58, 59, 60]) s.heap H locs → lv_has ls 7 [(0, .ref h0), (1, .int p1), (2, .int p2), (3, .int v47_3), (4, .int v5_4), (5, .int v47_5)] → ir p1 1 1 → ir p2 1 3 → ir v5_4 0 5 → ir v47_5 0 7 → wt_pin N.1 vwCl h0 11 49 (.int g49) H → wt_pin N.1 vwCl h0 11 50 (.int u47_1) H → 7 - v47_5.toInt < (n : Int) → WW H locs (F0 m 47 ls []) := by
        intro n
        induction n with
        | zero =>
          intro H locs ls v47_3 v47_5 u47_1 hW hI hV hQ hS hl rv47_1 rv47_2 rv47_4 rv47_5 nh0_49 nh0_50 mu47
          exfalso
          omega
        | succ n ih47 =>
          intro H locs ls v47_3 v47_5 u47_1 hW hI hV hQ hS hl rv47_1 rv47_2 rv47_4 rv47_5 nh0_49 nh0_50 mu47
          have J140 : ∀ (H : Heap) (locs : List Loc) (ls : Array Slot) (v140_3 : Int32) (u140_2 : Int32), cW N H → mI N h0 H → kp N h0 [32, 33, 34, 35, 36, 37, 38, 39, 40, 41, 42, 48] V H → tJ N J H → va_S (cE N [11, 56, 57, 58, 59, 60]) s.heap H locs → lv_has ls 7 [(0, .ref h0), (1, .int p1), (2, .int p2), (3, .int v140_3), (4, .int v5_4), (5, .int v47_5)] → ir p1 1 1 → ir p2 1 3 → ir v5_4 0 5 → ir v47_5 0 6 → wt_pin N.1 vwCl h0 11 49 (.int g49) H → wt_pin N.1 vwCl h0 11 50 (.int u47_1) H → wt_pin N.1 vwCl h0 11 51 (.int u140_2) H → WW H locs (F0 m 140 ls []) := by
            intro H locs ls v140_3 u140_2 hW hI hV hQ hS hl rv140_1 rv140_2 rv140_4 rv140_5 nh0_49 nh0_50 nh0_51
            refine w1 _ _ _ ?_
            obtain ⟨x140, e140⟩ : ∃ y : Int32, y = v47_5 + 1 := ⟨_, rfl⟩
            have r140 : ir x140 1 7 := ir_w (ir_add e140 rv140_5 (ir_c (1) (by decide) : ir (1 : Int32) (1) (1)) (by decide) (by decide)) (by decide) (by decide)
            have t140 : x140.toInt = v47_5.toInt + (1) := it_add e140 rv140_5 (ir_c (1) (by decide) : ir (1 : Int32) (1) (1)) (by decide) (by decide)
            refine lv_iinc (v := x140) (lv' := [(5, .int x140), (0, .ref h0), (1, .int p1), (2, .int p2), (3, .int v140_3), (4, .int v5_4)]) hx hb dX11_waysOn_140 hl (k := 5) rfl (by rw [e140]; rfl) (by decide) rfl (fun ls hl => ?_)
            refine lv_goto (tgt := 47) hx hb dX11_waysOn_143 (by decide) ?_
            exact w2 _ _ _ (ih47 _ _ _ v140_3 x140 u47_1 hW hI hV hQ hS (lv_sub hl [1, 2, 3, 4, 5, 0] rfl) rv140_1 rv140_2 rv140_4 (ir_w (lo' := 0) (hi' := 7) r140 (by decide) (by decide)) nh0_49 nh0_50 (by have h9 := r140; omega))
          refine w1 _ _ _ ?_
          refine lv_iload hx hb dX11_waysOn_47 (lv_at hl 5 rfl) ?_
          refine lv_bipush (v := 7) hx hb dX11_waysOn_49 (by decide) ?_
          refine lv_icmp_ge (tgt := 146) hx hb dX11_waysOn_51 (by decide) (fun c51 => ?_) (fun c51 => ?_)
          · have rv47_5_51 : ir v47_5 7 7 := ⟨Int.le_trans (by decide) (rf_le c51 (ir_c (7) (by decide) : ir (7 : Int32) (7) (7)) rv47_5).2, (rv47_5).2⟩
            exact w2 _ _ _ (J146 _ _ _ v47_3 u47_1 hW hI hV hQ hS (lv_sub hl [0, 1, 2, 3, 4] rfl) rv47_1 rv47_2 rv47_4 nh0_49 nh0_50)
          · have rv47_5_51 : ir v47_5 0 6 := ⟨(rv47_5).1, Int.le_trans (rf_lt (rf_nle c51) rv47_5 (ir_c (7) (by decide) : ir (7 : Int32) (7) (7))).1 (by decide)⟩
            refine lv_aload_n hx hb dX11_waysOn_54 rfl (lv_at hl 0 rfl) ?_
            refine wt_getp hx hb hts cfX11 hown hK hW (cg11 k0) rfl 51 (by decide) (Or.inl (hts _ q923)) dX11_waysOn_55 (fun v hv nh0_51 => ?_)
            obtain ⟨x55, rfl⟩ : ga v := hv
            refine lv_iload hx hb dX11_waysOn_58 (lv_at hl 5 rfl) ?_
            refine cp_i (wt_runS (As := [.int x55, .int v47_5]) (rest := []) ⟨hx, hb, hml, hown, hts⟩ (m_X11_has l x55 v47_5) wm_X11_has q1312 ⟨rfl, rfl⟩ ⟨Nat.le_of_ble_eq_true rfl, Nat.le_of_ble_eq_true rfl⟩ pS_pre rfl hl.1 rfl (Nat.le_of_ble_eq_true rfl) dX11_waysOn_60 ⟨Nat.zero_le _, Nat.zero_le _⟩) hW hS (fun x60 H locs hp hW1 hS oq => ?_)
            have hV := hV.same hW k0 oq
            have hQ := hQ.fr (fun a ka => oq a (hW_lt hW ka) (cE_nil _))
            have hI := mI.fr.same hI hW oq
            have hW := hW1
            have nh0_49 := nh0_49.kept (oq _ nh0_49.lt (cE_not k0 (by decide)))
            have nh0_50 := nh0_50.kept (oq _ nh0_50.lt (cE_not k0 (by decide)))
            have nh0_51 := nh0_51.kept (oq _ nh0_51.lt (cE_not k0 (by decide)))
            have r60 : ir x60 0 1 := hp
            refine lv_if_eq (tgt := 78) hx hb dX11_waysOn_63 (by decide) (fun c63 => ?_) (fun c63 => ?_)
            · have rx60_63 : ir x60 0 0 := rf_eq c63 (ir_c (0) (by decide) : ir (0 : Int32) (0) (0))
              refine lv_iconst (v := 0) hx hb dX11_waysOn_78 (by decide) ?_
              refine lv_istore (lv' := [(6, .int (0 : Int32)), (0, .ref h0), (1, .int p1), (2, .int p2), (3, .int v47_3), (4, .int v5_4), (5, .int v47_5)]) hx hb dX11_waysOn_79 hl (by decide) rfl (fun ls hl => ?_)
              refine lv_iload hx hb dX11_waysOn_81 (lv_at hl 0 rfl) ?_
              refine lv_if_ne (tgt := 89) hx hb dX11_waysOn_83 (by decide) (fun c83 => ?_) (fun c83 => ?_)
              · exact absurd rfl c83
              · refine lv_goto (tgt := 140) hx hb dX11_waysOn_86 (by decide) ?_
                exact w2 _ _ _ (J140 _ _ _ v47_3 x55 hW hI hV hQ hS (lv_sub hl [1, 2, 3, 4, 5, 6] rfl) rv47_1 rv47_2 rv47_4 rv47_5_51 nh0_49 nh0_50 nh0_51)
            · have rx60_63 : ir x60 1 1 := rf_ne0 c63 r60
              refine lv_aload_n hx hb dX11_waysOn_66 rfl (lv_at hl 0 rfl) ?_
              refine lv_iload_n hx hb dX11_waysOn_67 rfl (lv_at hl 1 rfl) ?_
              refine lv_iload hx hb dX11_waysOn_68 (lv_at hl 4 rfl) ?_
              refine lv_iload hx hb dX11_waysOn_70 (lv_at hl 5 rfl) ?_
              obtain ⟨V1, hV1⟩ := kp_all hW k0
              have hWo := hW
              refine cc_i2 (B2 := fun r H => mI N h0 H ∧ kp N h0 [32, 33, 34, 35, 36, 37, 38, 39, 40, 41, 42] V1 H ∧ ∃ J2 : Nat → Prop, (∀ j, J j → J2 j) ∧ tJ N J2 H ∧ (¬ r = 0 → ∀ mk : Int32, ir mk 1 4 → ¬ hv g49 (mk - 1) = 0 → J2 (sl (p1 + 1) mk))) (wt_runV (As := [.int p1, .int v5_4, .int v47_5]) (rest := []) ⟨hx, hb, hml, hown, hts⟩ (m_X11_triesOne l N h0 k0 hO V1 p1 (ir_w (lo' := 0) (hi' := 2) rv47_1 (by decide) (by decide)) v5_4 rv47_4 v47_5 g49 J hJ) wm_X11_triesOne q1348 ⟨rfl, rfl⟩ ⟨Nat.le_of_ble_eq_true rfl, Nat.le_of_ble_eq_true rfl⟩ (cS_preV (B := fun H => mI N h0 H ∧ kp N h0 [32, 33, 34, 35, 36, 37, 38, 39, 40, 41, 42] V1 H ∧ wt_pin N.1 vwCl h0 11 49 (.int g49) H ∧ tJ N J H) hK hW hT hnn hS (cg11 k0) rfl rfl (And.intro hI (And.intro (kp_of (F := [32, 33, 34, 35, 36, 37, 38, 39, 40, 41, 42]) hV1) (And.intro nh0_49 hQ)))) rfl hl.1 rfl (Nat.le_of_ble_eq_true rfl) dX11_waysOn_72 ⟨Nat.zero_le _, Nat.zero_le _⟩) hS (by decide) (fun x72 H locs hp hW hS oq hB2 => ?_)
              obtain ⟨hI, hV2, hB2⟩ := hB2
              have hV := kp_call hV hV1 hV2 (by decide)
              obtain ⟨J72, js72, hQ, jw72⟩ := hB2
              have nh0_49 := kp_use hV1 hV2 (by decide) (by decide) nh0_49
              have nh0_50 := kp_use hV1 hV2 (by decide) (by decide) nh0_50
              have nh0_51 := kp_use hV1 hV2 (by decide) (by decide) nh0_51
              have r72 : ir x72 0 2 := hp
              refine lv_goto (tgt := 79) hx hb dX11_waysOn_75 (by decide) ?_
              refine lv_istore (lv' := [(6, .int x72), (0, .ref h0), (1, .int p1), (2, .int p2), (3, .int v47_3), (4, .int v5_4), (5, .int v47_5)]) hx hb dX11_waysOn_79 hl (by decide) rfl (fun ls hl => ?_)
              refine lv_iload hx hb dX11_waysOn_81 (lv_at hl 0 rfl) ?_
              refine lv_if_ne (tgt := 89) hx hb dX11_waysOn_83 (by decide) (fun c83 => ?_) (fun c83 => ?_)
              · have rx72_83 : ir x72 1 2 := rf_ne0 c83 r72
                refine lv_aload_n hx hb dX11_waysOn_89 rfl (lv_at hl 1 rfl) ?_
                refine wt_get hx hb hts cfX11 hown hK hW (cg11 k0) rfl 44 (by decide) q916 dX11_waysOn_90 (fun v hv => ?_)
                obtain ⟨x90, rfl, k90⟩ : gr N 57 v := hv
                refine lv_iload_n hx hb dX11_waysOn_93 rfl (lv_at hl 2 rfl) ?_
                refine lv_iload hx hb dX11_waysOn_94 (lv_at hl 5 rfl) ?_
                refine wt_iastp hx hb hK hW hS 0 (cg57 k90) (ce k90 (by decide)) rfl (ir_in (ir_w (lo' := 0) (hi' := 2) rv47_1 (by decide) (by decide)) (by decide) (by decide)) (gi_mk rv47_4) dX11_waysOn_96 (fun H locs hW hS oq => ?_)
                have nh0_49 := nh0_49.kept (oq _ (ne_kind k0 k90 (by decide)))
                have nh0_50 := nh0_50.kept (oq _ (ne_kind k0 k90 (by decide)))
                have nh0_51 := nh0_51.kept (oq _ (ne_kind k0 k90 (by decide)))
                have hV := hV.keep (oq _ (ne_kind k0 k90 (by decide)))
                have hQ := hQ.fr (fun a ka => oq a (ne_kind ka k90 (by decide)))
                have hI := mI.fr.arr hI k0 k90 oq (by decide) (by decide)
                refine lv_aload_n hx hb dX11_waysOn_97 rfl (lv_at hl 1 rfl) ?_
                refine wt_get hx hb hts cfX11 hown hK hW (cg11 k0) rfl 45 (by decide) q917 dX11_waysOn_98 (fun v hv => ?_)
                obtain ⟨x98, rfl, k98⟩ : gr N 58 v := hv
                refine lv_iload_n hx hb dX11_waysOn_101 rfl (lv_at hl 2 rfl) ?_
                refine lv_iload hx hb dX11_waysOn_102 (lv_at hl 6 rfl) ?_
                refine wt_iastp hx hb hK hW hS 0 (cg58 k98) (ce k98 (by decide)) rfl (ir_in (ir_w (lo' := 0) (hi' := 2) rv47_1 (by decide) (by decide)) (by decide) (by decide)) (gi_mk rv47_5_51) dX11_waysOn_104 (fun H locs hW hS oq => ?_)
                have nh0_49 := nh0_49.kept (oq _ (ne_kind k0 k98 (by decide)))
                have nh0_50 := nh0_50.kept (oq _ (ne_kind k0 k98 (by decide)))
                have nh0_51 := nh0_51.kept (oq _ (ne_kind k0 k98 (by decide)))
                have hV := hV.keep (oq _ (ne_kind k0 k98 (by decide)))
                have hQ := hQ.fr (fun a ka => oq a (ne_kind ka k98 (by decide)))
                have hI := mI.fr.arr hI k0 k98 oq (by decide) (by decide)
                refine lv_iload_n hx hb dX11_waysOn_105 rfl (lv_at hl 2 rfl) ?_
                refine lv_iconst (v := 1) hx hb dX11_waysOn_106 (by decide) ?_
                refine lv_iadd hx hb dX11_waysOn_107 ?_
                refine lv_topi (fun x107 e107 => ?_)
                have t107 : x107.toInt = p1.toInt + (1) := it_add e107 rv47_1 (ir_c (1) (by decide) : ir (1 : Int32) (1) (1)) (by decide) (by decide)
                have r107 : ir x107 2 2 := ir_w (ir_add e107 rv47_1 (ir_c (1) (by decide) : ir (1 : Int32) (1) (1)) (by decide) (by decide)) (by decide) (by decide)
                refine lv_iload_n hx hb dX11_waysOn_108 rfl (lv_at hl 3 rfl) ?_
                refine lv_icmp_ge (tgt := 126) hx hb dX11_waysOn_109 (by decide) (fun c109 => ?_) (fun c109 => ?_)
                · have rp2_109 : ir p2 1 2 := ⟨(rv47_2).1, Int.le_trans (rf_le c109 rv47_2 r107).1 (by decide)⟩
                  refine lv_iload hx hb dX11_waysOn_126 (lv_at hl 0 rfl) ?_
                  refine lv_iconst (v := 2) hx hb dX11_waysOn_128 (by decide) ?_
                  refine lv_icmp_ne (tgt := 140) hx hb dX11_waysOn_129 (by decide) (fun c129 => ?_) (fun c129 => ?_)
                  · exact w2 _ _ _ (J140 _ _ _ v47_3 x55 hW hI hV (hQ.sub js72) hS (lv_sub hl [1, 2, 3, 4, 5, 6] rfl) rv47_1 (ir_w (lo' := 1) (hi' := 3) rp2_109 (by decide) (by decide)) rv47_4 rv47_5_51 nh0_49 nh0_50 nh0_51)
                  · have rx72_129 : ir x72 2 2 := rf_eq c129 (ir_c (2) (by decide) : ir (2 : Int32) (2) (2))
                    refine lv_iload_n hx hb dX11_waysOn_132 rfl (lv_at hl 4 rfl) ?_
                    refine lv_aload_n hx hb dX11_waysOn_133 rfl (lv_at hl 1 rfl) ?_
                    refine lv_iload_n hx hb dX11_waysOn_134 rfl (lv_at hl 3 rfl) ?_
                    obtain ⟨V1, hV1⟩ := kp_all hW k0
                    have hWo := hW
                    refine cc_i2 (B2 := fun _ H => mI N h0 H ∧ kp N h0 [48] V1 H) (wt_runV (As := [.int p2]) (rest := [.int v47_3]) ⟨hx, hb, hml, hown, hts⟩ (m_X11_finds l N h0 k0 hO V1 p2 (ir_w (lo' := 1) (hi' := 3) rp2_109 (by decide) (by decide))) wm_X11_finds q1362 ⟨rfl, rfl⟩ ⟨Nat.le_of_ble_eq_true rfl, Nat.le_of_ble_eq_true rfl⟩ (cS_preV (B := fun H => mI N h0 H ∧ kp N h0 [48] V1 H) hK hW hT hnn hS (cg11 k0) rfl rfl (And.intro hI (kp_of (F := [48]) hV1))) rfl hl.1 rfl (Nat.le_of_ble_eq_true rfl) dX11_waysOn_135 ⟨Nat.zero_le _, Nat.zero_le _⟩) hS (by decide) (fun x135 H locs hp hW hS oq hB2 => ?_)
                    obtain ⟨hI, hV2⟩ := hB2
                    have hQ := hQ.fr (fun a ka => oq a (hW_lt hWo ka) (cE_not ka (by decide)))
                    have hV := kp_call hV hV1 hV2 (by decide)
                    have nh0_49 := kp_use hV1 hV2 (by decide) (by decide) nh0_49
                    have nh0_50 := kp_use hV1 hV2 (by decide) (by decide) nh0_50
                    have nh0_51 := kp_use hV1 hV2 (by decide) (by decide) nh0_51
                    have r135 : ir x135 0 1 := hp
                    refine lv_iadd hx hb dX11_waysOn_138 ?_
                    refine lv_topi (fun x138 e138 => ?_)
                    refine lv_istore_n (lv' := [(3, .int x138), (6, .int x72), (0, .ref h0), (1, .int p1), (2, .int p2), (4, .int v5_4), (5, .int v47_5)]) hx hb dX11_waysOn_139 rfl hl (by decide) rfl (fun ls hl => ?_)
                    exact w2 _ _ _ (J140 _ _ _ x138 x55 hW hI hV (hQ.sub js72) hS (lv_sub hl [2, 3, 4, 0, 5, 6] rfl) rv47_1 (ir_w (lo' := 1) (hi' := 3) rp2_109 (by decide) (by decide)) rv47_4 rv47_5_51 nh0_49 nh0_50 nh0_51)
                · have rp2_109 : ir p2 3 3 := ⟨Int.le_trans (by decide) (rf_lt (rf_nle c109) r107 rv47_2).2, (rv47_2).2⟩
                  refine lv_iload_n hx hb dX11_waysOn_112 rfl (lv_at hl 4 rfl) ?_
                  refine lv_aload_n hx hb dX11_waysOn_113 rfl (lv_at hl 1 rfl) ?_
                  refine lv_iload_n hx hb dX11_waysOn_114 rfl (lv_at hl 2 rfl) ?_
                  refine lv_iconst (v := 1) hx hb dX11_waysOn_115 (by decide) ?_
                  refine lv_iadd hx hb dX11_waysOn_116 ?_
                  refine lv_topi (fun x116 e116 => ?_)
                  have t116 : x116.toInt = p1.toInt + (1) := it_add e116 rv47_1 (ir_c (1) (by decide) : ir (1 : Int32) (1) (1)) (by decide) (by decide)
                  have r116 : ir x116 2 2 := rf_eq (e116.trans e107.symm) r107
                  refine lv_iload_n hx hb dX11_waysOn_117 rfl (lv_at hl 3 rfl) ?_
                  obtain ⟨V1, hV1⟩ := kp_all hW k0
                  have hWo := hW
                  refine cc_i2 (B2 := fun r H => mI N h0 H ∧ kp N h0 [32, 33, 34, 35, 36, 37, 38, 39, 40, 41, 42, 48] V1 H ∧ tJ N J72 H) (wt_runV (As := [.int x116, .int p2]) (rest := [.int v47_3]) ⟨hx, hb, hml, hown, hts⟩ (m_X11_waysOn_2 l N h0 k0 hO V1 x116 r116 p2 (ir_w (lo' := 1) (hi' := 3) rp2_109 (by decide) (by decide)) g49 J72 (fun mk rm h => by rw [e116]; exact jw72 c83 mk rm h)) wm_X11_waysOn q1344 ⟨rfl, rfl⟩ ⟨Nat.le_of_ble_eq_true rfl, Nat.le_of_ble_eq_true rfl⟩ (cS_preV (B := fun H => mI N h0 H ∧ kp N h0 [32, 33, 34, 35, 36, 37, 38, 39, 40, 41, 42, 48] V1 H ∧ wt_pin N.1 vwCl h0 11 49 (.int g49) H ∧ tJ N J72 H) hK hW hT hnn hS (cg11 k0) rfl rfl (And.intro hI (And.intro (kp_of (F := [32, 33, 34, 35, 36, 37, 38, 39, 40, 41, 42, 48]) hV1) (And.intro nh0_49 hQ)))) rfl hl.1 rfl (Nat.le_of_ble_eq_true rfl) dX11_waysOn_118 ⟨Nat.zero_le _, Nat.zero_le _⟩) hS (by decide) (fun x118 H locs hp hW hS oq hB2 => ?_)
                  obtain ⟨hI, hV2, hB2⟩ := hB2
                  have hV := kp_call hV hV1 hV2 (by decide)
                  have hQ := hB2
                  have nh0_49 := kp_use hV1 hV2 (by decide) (by decide) nh0_49
                  have nh0_50 := kp_use hV1 hV2 (by decide) (by decide) nh0_50
                  have nh0_51 := kp_use hV1 hV2 (by decide) (by decide) nh0_51
                  refine lv_iadd hx hb dX11_waysOn_121 ?_
                  refine lv_topi (fun x121 e121 => ?_)
                  refine lv_istore_n (lv' := [(3, .int x121), (6, .int x72), (0, .ref h0), (1, .int p1), (2, .int p2), (4, .int v5_4), (5, .int v47_5)]) hx hb dX11_waysOn_122 rfl hl (by decide) rfl (fun ls hl => ?_)
                  refine lv_goto (tgt := 140) hx hb dX11_waysOn_123 (by decide) ?_
                  exact w2 _ _ _ (J140 _ _ _ x121 x55 hW hI hV (hQ.sub js72) hS (lv_sub hl [2, 3, 4, 0, 5, 6] rfl) rv47_1 (ir_w (lo' := 1) (hi' := 3) rp2_109 (by decide) (by decide)) rv47_4 rv47_5_51 nh0_49 nh0_50 nh0_51)
              · have rx72_83 : ir x72 0 0 := rf_eq c83 (ir_c (0) (by decide) : ir (0 : Int32) (0) (0))
                refine lv_goto (tgt := 140) hx hb dX11_waysOn_86 (by decide) ?_
                exact w2 _ _ _ (J140 _ _ _ v47_3 x55 hW hI hV (hQ.sub js72) hS (lv_sub hl [1, 2, 3, 4, 5, 6] rfl) rv47_1 rv47_2 rv47_4 rv47_5_51 nh0_49 nh0_50 nh0_51)
      have J44 : ∀ (H : Heap) (locs : List Loc) (ls : Array Slot) (u44_1 : Int32), cW N H → mI N h0 H → kp N h0 [32, 33, 34, 35, 36, 37, 38, 39, 40, 41, 42, 48] V H → tJ N J H → va_S (cE N [11, 56, 57, 58, 59, 60]) s.heap H locs → lv_has ls 7 [(0, .ref h0), (1, .int p1), (2, .int p2), (3, .int v5_3), (4, .int v5_4)] → ir p1 1 1 → ir p2 1 3 → ir v5_4 0 5 → wt_pin N.1 vwCl h0 11 49 (.int g49) H → wt_pin N.1 vwCl h0 11 50 (.int u44_1) H → WW H locs (F0 m 44 ls []) := by
        intro H locs ls u44_1 hW hI hV hQ hS hl rv44_1 rv44_2 rv44_4 nh0_49 nh0_50
        refine w1 _ _ _ ?_
        refine lv_iconst (v := 0) hx hb dX11_waysOn_44 (by decide) ?_
        refine lv_istore (lv' := [(5, .int (0 : Int32)), (0, .ref h0), (1, .int p1), (2, .int p2), (3, .int v5_3), (4, .int v5_4)]) hx hb dX11_waysOn_45 hl (by decide) rfl (fun ls hl => ?_)
        exact w2 _ _ _ (L47 8 _ _ _ v5_3 (0 : Int32) u44_1 hW hI hV hQ hS (lv_sub hl [1, 2, 3, 4, 5, 0] rfl) rv44_1 rv44_2 rv44_4 (ir_w (lo' := 0) (hi' := 7) (ir_c (0) (by decide) : ir (0 : Int32) (0) (0)) (by decide) (by decide)) nh0_49 nh0_50 (by have h9 := (ir_c (0) (by decide) : ir (0 : Int32) (0) (0)); omega))
      refine w1 _ _ _ ?_
      refine lv_iload hx hb dX11_waysOn_5 (lv_at hl 4 rfl) ?_
      refine lv_bipush (v := 6) hx hb dX11_waysOn_7 (by decide) ?_
      refine lv_icmp_ge (tgt := 152) hx hb dX11_waysOn_9 (by decide) (fun c9 => ?_) (fun c9 => ?_)
      · have rv5_4_9 : ir v5_4 6 6 := ⟨Int.le_trans (by decide) (rf_le c9 (ir_c (6) (by decide) : ir (6 : Int32) (6) (6)) rv5_4).2, (rv5_4).2⟩
        refine lv_iload_n hx hb dX11_waysOn_152 rfl (lv_at hl 3 rfl) ?_
        exact W.iret (v := v5_3) hx hb hr (fun t ht _ => ⟨⟨v5_3, v5_3, rfl, ⟨rfl, trivial⟩, cW_at ht hW, ⟨mI_at ht hI, kp_at ht hV, tJ_at ht hQ⟩⟩, hS.F ht⟩) hS.2.2 dX11_waysOn_153
      · have rv5_4_9 : ir v5_4 0 5 := ⟨(rv5_4).1, Int.le_trans (rf_lt (rf_nle c9) rv5_4 (ir_c (6) (by decide) : ir (6 : Int32) (6) (6))).1 (by decide)⟩
        refine lv_aload_n hx hb dX11_waysOn_12 rfl (lv_at hl 0 rfl) ?_
        refine wt_getp hx hb hts cfX11 hown hK hW (cg11 k0) rfl 50 (by decide) (Or.inl (hts _ q922)) dX11_waysOn_13 (fun v hv nh0_50 => ?_)
        obtain ⟨x13, rfl⟩ : ga v := hv
        refine lv_iload hx hb dX11_waysOn_16 (lv_at hl 4 rfl) ?_
        refine cp_i (wt_runS (As := [.int x13, .int v5_4]) (rest := []) ⟨hx, hb, hml, hown, hts⟩ (m_X11_has l x13 v5_4) wm_X11_has q1312 ⟨rfl, rfl⟩ ⟨Nat.le_of_ble_eq_true rfl, Nat.le_of_ble_eq_true rfl⟩ pS_pre rfl hl.1 rfl (Nat.le_of_ble_eq_true rfl) dX11_waysOn_18 ⟨Nat.zero_le _, Nat.zero_le _⟩) hW hS (fun x18 H locs hp hW1 hS oq => ?_)
        have hV := hV.same hW k0 oq
        have hQ := hQ.fr (fun a ka => oq a (hW_lt hW ka) (cE_nil _))
        have hI := mI.fr.same hI hW oq
        have hW := hW1
        have nh0_49 := nh0_49.kept (oq _ nh0_49.lt (cE_not k0 (by decide)))
        have nh0_50 := nh0_50.kept (oq _ nh0_50.lt (cE_not k0 (by decide)))
        have r18 : ir x18 0 1 := hp
        refine lv_if_eq (tgt := 146) hx hb dX11_waysOn_21 (by decide) (fun c21 => ?_) (fun c21 => ?_)
        · have rx18_21 : ir x18 0 0 := rf_eq c21 (ir_c (0) (by decide) : ir (0 : Int32) (0) (0))
          exact w2 _ _ _ (J146 _ _ _ v5_3 x13 hW hI hV hQ hS (lv_sub hl [0, 1, 2, 3, 4] rfl) rv5_1 rv5_2 rv5_4_9 nh0_49 nh0_50)
        · have rx18_21 : ir x18 1 1 := rf_ne0 c21 r18
          refine lv_iload_n hx hb dX11_waysOn_24 rfl (lv_at hl 1 rfl) ?_
          refine lv_if_le (tgt := 44) hx hb dX11_waysOn_25 (by decide) (fun c25 => ?_) (fun c25 => ?_)
          · exact absurd (rf_le c25 rv5_1 (ir_c (0) (by decide) : ir (0 : Int32) (0) (0))) (by have h8 := rv5_1; have h9 := (ir_c (0) (by decide) : ir (0 : Int32) (0) (0)); omega)
          · refine lv_aload_n hx hb dX11_waysOn_28 rfl (lv_at hl 0 rfl) ?_
            refine wt_get hx hb hts cfX11 hown hK hW (cg11 k0) rfl 44 (by decide) q916 dX11_waysOn_29 (fun v hv => ?_)
            obtain ⟨x29, rfl, k29⟩ : gr N 57 v := hv
            refine lv_iload_n hx hb dX11_waysOn_32 rfl (lv_at hl 1 rfl) ?_
            refine lv_iconst (v := 1) hx hb dX11_waysOn_33 (by decide) ?_
            refine lv_isub hx hb dX11_waysOn_34 ?_
            refine lv_topi (fun x34 e34 => ?_)
            have t34 : x34.toInt = p1.toInt - (1) := it_sub e34 rv5_1 (ir_c (1) (by decide) : ir (1 : Int32) (1) (1)) (by decide) (by decide)
            have r34 : ir x34 0 0 := ir_w (ir_sub e34 rv5_1 (ir_c (1) (by decide) : ir (1 : Int32) (1) (1)) (by decide) (by decide)) (by decide) (by decide)
            refine wt_iald hx hb hK hW 0 (cg57 k29) rfl (ir_in (ir_w (lo' := 0) (hi' := 2) r34 (by decide) (by decide)) (by decide) (by decide)) dX11_waysOn_35 (fun v hv => ?_)
            obtain ⟨x35, rfl, r35⟩ : gi 0 5 v := hv
            refine lv_iload hx hb dX11_waysOn_36 (lv_at hl 4 rfl) ?_
            refine lv_icmp_ne (tgt := 44) hx hb dX11_waysOn_38 (by decide) (fun c38 => ?_) (fun c38 => ?_)
            · exact w2 _ _ _ (J44 _ _ _ x13 hW hI hV hQ hS (lv_sub hl [0, 1, 2, 3, 4] rfl) rv5_1 rv5_2 rv5_4_9 nh0_49 nh0_50)
            · refine lv_goto (tgt := 146) hx hb dX11_waysOn_41 (by decide) ?_
              exact w2 _ _ _ (J146 _ _ _ v5_3 x13 hW hI hV hQ hS (lv_sub hl [0, 1, 2, 3, 4] rfl) rv5_1 rv5_2 rv5_4_9 nh0_49 nh0_50)
  refine lv_iconst (v := 0) hx hb dX11_waysOn_0 (by decide) ?_
  refine lv_istore_n (lv' := [(3, .int (0 : Int32)), (0, .ref h0), (1, .int p1), (2, .int p2)]) hx hb dX11_waysOn_1 rfl hl (by decide) rfl (fun ls hl => ?_)
  refine lv_iconst (v := 0) hx hb dX11_waysOn_2 (by decide) ?_
  refine lv_istore (lv' := [(4, .int (0 : Int32)), (3, .int (0 : Int32)), (0, .ref h0), (1, .int p1), (2, .int p2)]) hx hb dX11_waysOn_3 hl (by decide) rfl (fun ls hl => ?_)
  exact w2 _ _ _ (L5 7 _ _ _ (0 : Int32) (0 : Int32) hW hI hV hQ hS (lv_sub hl [2, 3, 4, 1, 0] rfl) rp1 rp2 (ir_w (lo' := 0) (hi' := 6) (ir_c (0) (by decide) : ir (0 : Int32) (0) (0)) (by decide) (by decide)) nh0_49 (by have h9 := (ir_c (0) (by decide) : ir (0 : Int32) (0) (0)); omega))
set_option maxHeartbeats 4000000 in
set_option maxRecDepth 100000 in
theorem m_X11_waysOn_0 (l : Launch) (N : c_N) (h0 : Nat) (k0 : N.2.2.1 h0 = some 11) (hO : mOK N) (V : Nat → Value) (p1 : Int32) (rp1 : ir p1 0 0) (p2 : Int32) (rp2 : ir p2 1 3) (g49 : Int32) (J : Nat → Prop) (hJ : ∀ mk : Int32, ir mk 1 4 → ¬ hv g49 (mk - 1) = 0 → J (sl p1 mk)) : cMi2 l yX11_waysOn cX11_waysOn 7 .int { frames := 7, cells := 0, slots := 0, locals := 206 } [.ref h0, .int p1, .int p2] N [11, 56, 57, 58, 59, 60] (fun H => mI N h0 H ∧ kp N h0 [32, 33, 34, 35, 36, 37, 38, 39, 40, 41, 42, 48] V H ∧ wt_pin N.1 vwCl h0 11 49 (.int g49) H ∧ tJ N J H) (fun _ => True) (fun r H => mI N h0 H ∧ kp N h0 [32, 33, 34, 35, 36, 37, 38, 39, 40, 41, 42, 48] V H ∧ tJ N J H) := by
  refine Met.ofW (cc := cX11_waysOn) (maxL := 7) (ret := some .int) (by decide) rfl ?_
  intro p e s m args below meth c s₁ B hml hv
  obtain ⟨rfl, ⟨hK, hW, hT, hnn⟩, hB⟩ := hv
  obtain ⟨hI, hV, hB⟩ := hB
  have hQ : tJ N J s.heap := hB.2
  have nh0_49 := hB.1
  have hx := B.exec
  have hb := B.bytes
  have hr := B.returns
  have hts : ∀ w ∈ lw_g, w.before _ s = true := fun w h => atoms_spec (ws := wc_ws yX11_waysOn cX11_waysOn 7 (some .int)) B.pre w (List.mem_cons_of_mem _ h)
  have hown : s.vm.findClass RX11 = some m.cls := findClass_of_methodNamed B.named
  have hlocks := B.notSynchronized
  have hS : va_S (cE N [11, 56, 57, 58, 59, 60]) s.heap s.heap [] := va_S.rf
  have hl := lv_entry ([.ref h0, .int p1, .int p2]) (n := 7) (Nat.le_of_ble_eq_true rfl)
  rw [lg_entry_eq]
  generalize (lg_sl ([.ref h0, .int p1, .int p2]) ++ List.replicate (7 - (lg_sl ([.ref h0, .int p1, .int p2])).length) Slot.unset).toArray = ls at hl ⊢
  have hl : lv_has ls 7 [(0, .ref h0), (1, .int p1), (2, .int p2)] := hl
  refine wq_all ?_
  intro WW w1 w2
  have L5 : ∀ (n : Nat) (H : Heap) (locs : List Loc) (ls : Array Slot) (v5_3 : Int32) (v5_4 : Int32), cW N H → mI N h0 H → kp N h0 [32, 33, 34, 35, 36, 37, 38, 39, 40, 41, 42, 48] V H → tJ N J H → va_S (cE N [11, 56, 57, 58, 59, 60]) s.heap H locs → lv_has ls 7 [(0, .ref h0), (1, .int p1), (2, .int p2), (3, .int v5_3), (4, .int v5_4)] → ir p1 0 0 → ir p2 1 3 → ir v5_4 0 6 → wt_pin N.1 vwCl h0 11 49 (.int g49) H → 6 - v5_4.toInt < (n : Int) → WW H locs (F0 m 5 ls []) := by
    intro n
    induction n with
    | zero =>
      intro H locs ls v5_3 v5_4 hW hI hV hQ hS hl rv5_1 rv5_2 rv5_4 nh0_49 mu5
      exfalso
      omega
    | succ n ih5 =>
      intro H locs ls v5_3 v5_4 hW hI hV hQ hS hl rv5_1 rv5_2 rv5_4 nh0_49 mu5
      have J146 : ∀ (H : Heap) (locs : List Loc) (ls : Array Slot) (v146_3 : Int32) (u146_1 : Int32), cW N H → mI N h0 H → kp N h0 [32, 33, 34, 35, 36, 37, 38, 39, 40, 41, 42, 48] V H → tJ N J H → va_S (cE N [11, 56, 57, 58, 59, 60]) s.heap H locs → lv_has ls 7 [(0, .ref h0), (1, .int p1), (2, .int p2), (3, .int v146_3), (4, .int v5_4)] → ir p1 0 0 → ir p2 1 3 → ir v5_4 0 5 → wt_pin N.1 vwCl h0 11 49 (.int g49) H → wt_pin N.1 vwCl h0 11 50 (.int u146_1) H → WW H locs (F0 m 146 ls []) := by
        intro H locs ls v146_3 u146_1 hW hI hV hQ hS hl rv146_1 rv146_2 rv146_4 nh0_49 nh0_50
        refine w1 _ _ _ ?_
        obtain ⟨x146, e146⟩ : ∃ y : Int32, y = v5_4 + 1 := ⟨_, rfl⟩
        have r146 : ir x146 1 6 := ir_w (ir_add e146 rv146_4 (ir_c (1) (by decide) : ir (1 : Int32) (1) (1)) (by decide) (by decide)) (by decide) (by decide)
        have t146 : x146.toInt = v5_4.toInt + (1) := it_add e146 rv146_4 (ir_c (1) (by decide) : ir (1 : Int32) (1) (1)) (by decide) (by decide)
        refine lv_iinc (v := x146) (lv' := [(4, .int x146), (0, .ref h0), (1, .int p1), (2, .int p2), (3, .int v146_3)]) hx hb dX11_waysOn_146 hl (k := 4) rfl (by rw [e146]; rfl) (by decide) rfl (fun ls hl => ?_)
        refine lv_goto (tgt := 5) hx hb dX11_waysOn_149 (by decide) ?_
        exact w2 _ _ _ (ih5 _ _ _ v146_3 x146 hW hI hV hQ hS (lv_sub hl [1, 2, 3, 4, 0] rfl) rv146_1 rv146_2 (ir_w (lo' := 0) (hi' := 6) r146 (by decide) (by decide)) nh0_49 (by have h9 := r146; omega))
      have L47 : ∀ (n : Nat) (H : Heap) (locs : List Loc) (ls : Array Slot) (v47_3 : Int32) (v47_5 : Int32) (u47_1 : Int32), cW N H → mI N h0 H → kp N h0 [32, 33, 34, 35, 36, 37, 38, 39, 40, 41, 42, 48] V H → tJ N J H → va_S (cE N [11, 56, 57, 58, 59, 60]) s.heap H locs → lv_has ls 7 [(0, .ref h0), (1, .int p1), (2, .int p2), (3, .int v47_3), (4, .int v5_4), (5, .int v47_5)] → ir p1 0 0 → ir p2 1 3 → ir v5_4 0 5 → ir v47_5 0 7 → wt_pin N.1 vwCl h0 11 49 (.int g49) H → wt_pin N.1 vwCl h0 11 50 (.int u47_1) H → 7 - v47_5.toInt < (n : Int) → WW H locs (F0 m 47 ls []) := by
        intro n
        induction n with
        | zero =>
          intro H locs ls v47_3 v47_5 u47_1 hW hI hV hQ hS hl rv47_1 rv47_2 rv47_4 rv47_5 nh0_49 nh0_50 mu47
          exfalso
          omega
        | succ n ih47 =>
          intro H locs ls v47_3 v47_5 u47_1 hW hI hV hQ hS hl rv47_1 rv47_2 rv47_4 rv47_5 nh0_49 nh0_50 mu47
          have J140 : ∀ (H : Heap) (locs : List Loc) (ls : Array Slot) (v140_3 : Int32) (u140_2 : Int32), cW N H → mI N h0 H → kp N h0 [32, 33, 34, 35, 36, 37, 38, 39, 40, 41, 42, 48] V H → tJ N J H → va_S (cE N [11, 56, 57, 58, 59, 60]) s.heap H locs → lv_has ls 7 [(0, .ref h0), (1, .int p1), (2, .int p2), (3, .int v140_3), (4, .int v5_4), (5, .int v47_5)] → ir p1 0 0 → ir p2 1 3 → ir v5_4 0 5 → ir v47_5 0 6 → wt_pin N.1 vwCl h0 11 49 (.int g49) H → wt_pin N.1 vwCl h0 11 50 (.int u47_1) H → wt_pin N.1 vwCl h0 11 51 (.int u140_2) H → WW H locs (F0 m 140 ls []) := by
            intro H locs ls v140_3 u140_2 hW hI hV hQ hS hl rv140_1 rv140_2 rv140_4 rv140_5 nh0_49 nh0_50 nh0_51
            refine w1 _ _ _ ?_
            obtain ⟨x140, e140⟩ : ∃ y : Int32, y = v47_5 + 1 := ⟨_, rfl⟩
            have r140 : ir x140 1 7 := ir_w (ir_add e140 rv140_5 (ir_c (1) (by decide) : ir (1 : Int32) (1) (1)) (by decide) (by decide)) (by decide) (by decide)
            have t140 : x140.toInt = v47_5.toInt + (1) := it_add e140 rv140_5 (ir_c (1) (by decide) : ir (1 : Int32) (1) (1)) (by decide) (by decide)
            refine lv_iinc (v := x140) (lv' := [(5, .int x140), (0, .ref h0), (1, .int p1), (2, .int p2), (3, .int v140_3), (4, .int v5_4)]) hx hb dX11_waysOn_140 hl (k := 5) rfl (by rw [e140]; rfl) (by decide) rfl (fun ls hl => ?_)
            refine lv_goto (tgt := 47) hx hb dX11_waysOn_143 (by decide) ?_
            exact w2 _ _ _ (ih47 _ _ _ v140_3 x140 u47_1 hW hI hV hQ hS (lv_sub hl [1, 2, 3, 4, 5, 0] rfl) rv140_1 rv140_2 rv140_4 (ir_w (lo' := 0) (hi' := 7) r140 (by decide) (by decide)) nh0_49 nh0_50 (by have h9 := r140; omega))
          refine w1 _ _ _ ?_
          refine lv_iload hx hb dX11_waysOn_47 (lv_at hl 5 rfl) ?_
          refine lv_bipush (v := 7) hx hb dX11_waysOn_49 (by decide) ?_
          refine lv_icmp_ge (tgt := 146) hx hb dX11_waysOn_51 (by decide) (fun c51 => ?_) (fun c51 => ?_)
          · have rv47_5_51 : ir v47_5 7 7 := ⟨Int.le_trans (by decide) (rf_le c51 (ir_c (7) (by decide) : ir (7 : Int32) (7) (7)) rv47_5).2, (rv47_5).2⟩
            exact w2 _ _ _ (J146 _ _ _ v47_3 u47_1 hW hI hV hQ hS (lv_sub hl [0, 1, 2, 3, 4] rfl) rv47_1 rv47_2 rv47_4 nh0_49 nh0_50)
          · have rv47_5_51 : ir v47_5 0 6 := ⟨(rv47_5).1, Int.le_trans (rf_lt (rf_nle c51) rv47_5 (ir_c (7) (by decide) : ir (7 : Int32) (7) (7))).1 (by decide)⟩
            refine lv_aload_n hx hb dX11_waysOn_54 rfl (lv_at hl 0 rfl) ?_
            refine wt_getp hx hb hts cfX11 hown hK hW (cg11 k0) rfl 51 (by decide) (Or.inl (hts _ q923)) dX11_waysOn_55 (fun v hv nh0_51 => ?_)
            obtain ⟨x55, rfl⟩ : ga v := hv
            refine lv_iload hx hb dX11_waysOn_58 (lv_at hl 5 rfl) ?_
            refine cp_i (wt_runS (As := [.int x55, .int v47_5]) (rest := []) ⟨hx, hb, hml, hown, hts⟩ (m_X11_has l x55 v47_5) wm_X11_has q1312 ⟨rfl, rfl⟩ ⟨Nat.le_of_ble_eq_true rfl, Nat.le_of_ble_eq_true rfl⟩ pS_pre rfl hl.1 rfl (Nat.le_of_ble_eq_true rfl) dX11_waysOn_60 ⟨Nat.zero_le _, Nat.zero_le _⟩) hW hS (fun x60 H locs hp hW1 hS oq => ?_)
            have hV := hV.same hW k0 oq
            have hQ := hQ.fr (fun a ka => oq a (hW_lt hW ka) (cE_nil _))
            have hI := mI.fr.same hI hW oq
            have hW := hW1
            have nh0_49 := nh0_49.kept (oq _ nh0_49.lt (cE_not k0 (by decide)))
            have nh0_50 := nh0_50.kept (oq _ nh0_50.lt (cE_not k0 (by decide)))
            have nh0_51 := nh0_51.kept (oq _ nh0_51.lt (cE_not k0 (by decide)))
            have r60 : ir x60 0 1 := hp
            refine lv_if_eq (tgt := 78) hx hb dX11_waysOn_63 (by decide) (fun c63 => ?_) (fun c63 => ?_)
            · have rx60_63 : ir x60 0 0 := rf_eq c63 (ir_c (0) (by decide) : ir (0 : Int32) (0) (0))
              refine lv_iconst (v := 0) hx hb dX11_waysOn_78 (by decide) ?_
              refine lv_istore (lv' := [(6, .int (0 : Int32)), (0, .ref h0), (1, .int p1), (2, .int p2), (3, .int v47_3), (4, .int v5_4), (5, .int v47_5)]) hx hb dX11_waysOn_79 hl (by decide) rfl (fun ls hl => ?_)
              refine lv_iload hx hb dX11_waysOn_81 (lv_at hl 0 rfl) ?_
              refine lv_if_ne (tgt := 89) hx hb dX11_waysOn_83 (by decide) (fun c83 => ?_) (fun c83 => ?_)
              · exact absurd rfl c83
              · refine lv_goto (tgt := 140) hx hb dX11_waysOn_86 (by decide) ?_
                exact w2 _ _ _ (J140 _ _ _ v47_3 x55 hW hI hV hQ hS (lv_sub hl [1, 2, 3, 4, 5, 6] rfl) rv47_1 rv47_2 rv47_4 rv47_5_51 nh0_49 nh0_50 nh0_51)
            · have rx60_63 : ir x60 1 1 := rf_ne0 c63 r60
              refine lv_aload_n hx hb dX11_waysOn_66 rfl (lv_at hl 0 rfl) ?_
              refine lv_iload_n hx hb dX11_waysOn_67 rfl (lv_at hl 1 rfl) ?_
              refine lv_iload hx hb dX11_waysOn_68 (lv_at hl 4 rfl) ?_
              refine lv_iload hx hb dX11_waysOn_70 (lv_at hl 5 rfl) ?_
              obtain ⟨V1, hV1⟩ := kp_all hW k0
              have hWo := hW
              refine cc_i2 (B2 := fun r H => mI N h0 H ∧ kp N h0 [32, 33, 34, 35, 36, 37, 38, 39, 40, 41, 42] V1 H ∧ ∃ J2 : Nat → Prop, (∀ j, J j → J2 j) ∧ tJ N J2 H ∧ (¬ r = 0 → ∀ mk : Int32, ir mk 1 4 → ¬ hv g49 (mk - 1) = 0 → J2 (sl (p1 + 1) mk))) (wt_runV (As := [.int p1, .int v5_4, .int v47_5]) (rest := []) ⟨hx, hb, hml, hown, hts⟩ (m_X11_triesOne l N h0 k0 hO V1 p1 (ir_w (lo' := 0) (hi' := 2) rv47_1 (by decide) (by decide)) v5_4 rv47_4 v47_5 g49 J hJ) wm_X11_triesOne q1348 ⟨rfl, rfl⟩ ⟨Nat.le_of_ble_eq_true rfl, Nat.le_of_ble_eq_true rfl⟩ (cS_preV (B := fun H => mI N h0 H ∧ kp N h0 [32, 33, 34, 35, 36, 37, 38, 39, 40, 41, 42] V1 H ∧ wt_pin N.1 vwCl h0 11 49 (.int g49) H ∧ tJ N J H) hK hW hT hnn hS (cg11 k0) rfl rfl (And.intro hI (And.intro (kp_of (F := [32, 33, 34, 35, 36, 37, 38, 39, 40, 41, 42]) hV1) (And.intro nh0_49 hQ)))) rfl hl.1 rfl (Nat.le_of_ble_eq_true rfl) dX11_waysOn_72 ⟨Nat.zero_le _, Nat.zero_le _⟩) hS (by decide) (fun x72 H locs hp hW hS oq hB2 => ?_)
              obtain ⟨hI, hV2, hB2⟩ := hB2
              have hV := kp_call hV hV1 hV2 (by decide)
              obtain ⟨J72, js72, hQ, jw72⟩ := hB2
              have nh0_49 := kp_use hV1 hV2 (by decide) (by decide) nh0_49
              have nh0_50 := kp_use hV1 hV2 (by decide) (by decide) nh0_50
              have nh0_51 := kp_use hV1 hV2 (by decide) (by decide) nh0_51
              have r72 : ir x72 0 2 := hp
              refine lv_goto (tgt := 79) hx hb dX11_waysOn_75 (by decide) ?_
              refine lv_istore (lv' := [(6, .int x72), (0, .ref h0), (1, .int p1), (2, .int p2), (3, .int v47_3), (4, .int v5_4), (5, .int v47_5)]) hx hb dX11_waysOn_79 hl (by decide) rfl (fun ls hl => ?_)
              refine lv_iload hx hb dX11_waysOn_81 (lv_at hl 0 rfl) ?_
              refine lv_if_ne (tgt := 89) hx hb dX11_waysOn_83 (by decide) (fun c83 => ?_) (fun c83 => ?_)
              · have rx72_83 : ir x72 1 2 := rf_ne0 c83 r72
                refine lv_aload_n hx hb dX11_waysOn_89 rfl (lv_at hl 1 rfl) ?_
                refine wt_get hx hb hts cfX11 hown hK hW (cg11 k0) rfl 44 (by decide) q916 dX11_waysOn_90 (fun v hv => ?_)
                obtain ⟨x90, rfl, k90⟩ : gr N 57 v := hv
                refine lv_iload_n hx hb dX11_waysOn_93 rfl (lv_at hl 2 rfl) ?_
                refine lv_iload hx hb dX11_waysOn_94 (lv_at hl 5 rfl) ?_
                refine wt_iastp hx hb hK hW hS 0 (cg57 k90) (ce k90 (by decide)) rfl (ir_in (ir_w (lo' := 0) (hi' := 2) rv47_1 (by decide) (by decide)) (by decide) (by decide)) (gi_mk rv47_4) dX11_waysOn_96 (fun H locs hW hS oq => ?_)
                have nh0_49 := nh0_49.kept (oq _ (ne_kind k0 k90 (by decide)))
                have nh0_50 := nh0_50.kept (oq _ (ne_kind k0 k90 (by decide)))
                have nh0_51 := nh0_51.kept (oq _ (ne_kind k0 k90 (by decide)))
                have hV := hV.keep (oq _ (ne_kind k0 k90 (by decide)))
                have hQ := hQ.fr (fun a ka => oq a (ne_kind ka k90 (by decide)))
                have hI := mI.fr.arr hI k0 k90 oq (by decide) (by decide)
                refine lv_aload_n hx hb dX11_waysOn_97 rfl (lv_at hl 1 rfl) ?_
                refine wt_get hx hb hts cfX11 hown hK hW (cg11 k0) rfl 45 (by decide) q917 dX11_waysOn_98 (fun v hv => ?_)
                obtain ⟨x98, rfl, k98⟩ : gr N 58 v := hv
                refine lv_iload_n hx hb dX11_waysOn_101 rfl (lv_at hl 2 rfl) ?_
                refine lv_iload hx hb dX11_waysOn_102 (lv_at hl 6 rfl) ?_
                refine wt_iastp hx hb hK hW hS 0 (cg58 k98) (ce k98 (by decide)) rfl (ir_in (ir_w (lo' := 0) (hi' := 2) rv47_1 (by decide) (by decide)) (by decide) (by decide)) (gi_mk rv47_5_51) dX11_waysOn_104 (fun H locs hW hS oq => ?_)
                have nh0_49 := nh0_49.kept (oq _ (ne_kind k0 k98 (by decide)))
                have nh0_50 := nh0_50.kept (oq _ (ne_kind k0 k98 (by decide)))
                have nh0_51 := nh0_51.kept (oq _ (ne_kind k0 k98 (by decide)))
                have hV := hV.keep (oq _ (ne_kind k0 k98 (by decide)))
                have hQ := hQ.fr (fun a ka => oq a (ne_kind ka k98 (by decide)))
                have hI := mI.fr.arr hI k0 k98 oq (by decide) (by decide)
                refine lv_iload_n hx hb dX11_waysOn_105 rfl (lv_at hl 2 rfl) ?_
                refine lv_iconst (v := 1) hx hb dX11_waysOn_106 (by decide) ?_
                refine lv_iadd hx hb dX11_waysOn_107 ?_
                refine lv_topi (fun x107 e107 => ?_)
                have t107 : x107.toInt = p1.toInt + (1) := it_add e107 rv47_1 (ir_c (1) (by decide) : ir (1 : Int32) (1) (1)) (by decide) (by decide)
                have r107 : ir x107 1 1 := ir_w (ir_add e107 rv47_1 (ir_c (1) (by decide) : ir (1 : Int32) (1) (1)) (by decide) (by decide)) (by decide) (by decide)
                refine lv_iload_n hx hb dX11_waysOn_108 rfl (lv_at hl 3 rfl) ?_
                refine lv_icmp_ge (tgt := 126) hx hb dX11_waysOn_109 (by decide) (fun c109 => ?_) (fun c109 => ?_)
                · have rp2_109 : ir p2 1 1 := ⟨(rv47_2).1, Int.le_trans (rf_le c109 rv47_2 r107).1 (by decide)⟩
                  refine lv_iload hx hb dX11_waysOn_126 (lv_at hl 0 rfl) ?_
                  refine lv_iconst (v := 2) hx hb dX11_waysOn_128 (by decide) ?_
                  refine lv_icmp_ne (tgt := 140) hx hb dX11_waysOn_129 (by decide) (fun c129 => ?_) (fun c129 => ?_)
                  · exact w2 _ _ _ (J140 _ _ _ v47_3 x55 hW hI hV (hQ.sub js72) hS (lv_sub hl [1, 2, 3, 4, 5, 6] rfl) rv47_1 (ir_w (lo' := 1) (hi' := 3) rp2_109 (by decide) (by decide)) rv47_4 rv47_5_51 nh0_49 nh0_50 nh0_51)
                  · have rx72_129 : ir x72 2 2 := rf_eq c129 (ir_c (2) (by decide) : ir (2 : Int32) (2) (2))
                    refine lv_iload_n hx hb dX11_waysOn_132 rfl (lv_at hl 4 rfl) ?_
                    refine lv_aload_n hx hb dX11_waysOn_133 rfl (lv_at hl 1 rfl) ?_
                    refine lv_iload_n hx hb dX11_waysOn_134 rfl (lv_at hl 3 rfl) ?_
                    obtain ⟨V1, hV1⟩ := kp_all hW k0
                    have hWo := hW
                    refine cc_i2 (B2 := fun _ H => mI N h0 H ∧ kp N h0 [48] V1 H) (wt_runV (As := [.int p2]) (rest := [.int v47_3]) ⟨hx, hb, hml, hown, hts⟩ (m_X11_finds l N h0 k0 hO V1 p2 (ir_w (lo' := 1) (hi' := 3) rp2_109 (by decide) (by decide))) wm_X11_finds q1362 ⟨rfl, rfl⟩ ⟨Nat.le_of_ble_eq_true rfl, Nat.le_of_ble_eq_true rfl⟩ (cS_preV (B := fun H => mI N h0 H ∧ kp N h0 [48] V1 H) hK hW hT hnn hS (cg11 k0) rfl rfl (And.intro hI (kp_of (F := [48]) hV1))) rfl hl.1 rfl (Nat.le_of_ble_eq_true rfl) dX11_waysOn_135 ⟨Nat.zero_le _, Nat.zero_le _⟩) hS (by decide) (fun x135 H locs hp hW hS oq hB2 => ?_)
                    obtain ⟨hI, hV2⟩ := hB2
                    have hQ := hQ.fr (fun a ka => oq a (hW_lt hWo ka) (cE_not ka (by decide)))
                    have hV := kp_call hV hV1 hV2 (by decide)
                    have nh0_49 := kp_use hV1 hV2 (by decide) (by decide) nh0_49
                    have nh0_50 := kp_use hV1 hV2 (by decide) (by decide) nh0_50
                    have nh0_51 := kp_use hV1 hV2 (by decide) (by decide) nh0_51
                    have r135 : ir x135 0 1 := hp
                    refine lv_iadd hx hb dX11_waysOn_138 ?_
                    refine lv_topi (fun x138 e138 => ?_)
                    refine lv_istore_n (lv' := [(3, .int x138), (6, .int x72), (0, .ref h0), (1, .int p1), (2, .int p2), (4, .int v5_4), (5, .int v47_5)]) hx hb dX11_waysOn_139 rfl hl (by decide) rfl (fun ls hl => ?_)
                    exact w2 _ _ _ (J140 _ _ _ x138 x55 hW hI hV (hQ.sub js72) hS (lv_sub hl [2, 3, 4, 0, 5, 6] rfl) rv47_1 (ir_w (lo' := 1) (hi' := 3) rp2_109 (by decide) (by decide)) rv47_4 rv47_5_51 nh0_49 nh0_50 nh0_51)
                · have rp2_109 : ir p2 2 3 := ⟨Int.le_trans (by decide) (rf_lt (rf_nle c109) r107 rv47_2).2, (rv47_2).2⟩
                  refine lv_iload_n hx hb dX11_waysOn_112 rfl (lv_at hl 4 rfl) ?_
                  refine lv_aload_n hx hb dX11_waysOn_113 rfl (lv_at hl 1 rfl) ?_
                  refine lv_iload_n hx hb dX11_waysOn_114 rfl (lv_at hl 2 rfl) ?_
                  refine lv_iconst (v := 1) hx hb dX11_waysOn_115 (by decide) ?_
                  refine lv_iadd hx hb dX11_waysOn_116 ?_
                  refine lv_topi (fun x116 e116 => ?_)
                  have t116 : x116.toInt = p1.toInt + (1) := it_add e116 rv47_1 (ir_c (1) (by decide) : ir (1 : Int32) (1) (1)) (by decide) (by decide)
                  have r116 : ir x116 1 1 := rf_eq (e116.trans e107.symm) r107
                  refine lv_iload_n hx hb dX11_waysOn_117 rfl (lv_at hl 3 rfl) ?_
                  obtain ⟨V1, hV1⟩ := kp_all hW k0
                  have hWo := hW
                  refine cc_i2 (B2 := fun r H => mI N h0 H ∧ kp N h0 [32, 33, 34, 35, 36, 37, 38, 39, 40, 41, 42, 48] V1 H ∧ tJ N J72 H) (wt_runV (As := [.int x116, .int p2]) (rest := [.int v47_3]) ⟨hx, hb, hml, hown, hts⟩ (m_X11_waysOn_1 l N h0 k0 hO V1 x116 r116 p2 (ir_w (lo' := 1) (hi' := 3) rp2_109 (by decide) (by decide)) g49 J72 (fun mk rm h => by rw [e116]; exact jw72 c83 mk rm h)) wm_X11_waysOn q1344 ⟨rfl, rfl⟩ ⟨Nat.le_of_ble_eq_true rfl, Nat.le_of_ble_eq_true rfl⟩ (cS_preV (B := fun H => mI N h0 H ∧ kp N h0 [32, 33, 34, 35, 36, 37, 38, 39, 40, 41, 42, 48] V1 H ∧ wt_pin N.1 vwCl h0 11 49 (.int g49) H ∧ tJ N J72 H) hK hW hT hnn hS (cg11 k0) rfl rfl (And.intro hI (And.intro (kp_of (F := [32, 33, 34, 35, 36, 37, 38, 39, 40, 41, 42, 48]) hV1) (And.intro nh0_49 hQ)))) rfl hl.1 rfl (Nat.le_of_ble_eq_true rfl) dX11_waysOn_118 ⟨Nat.zero_le _, Nat.zero_le _⟩) hS (by decide) (fun x118 H locs hp hW hS oq hB2 => ?_)
                  obtain ⟨hI, hV2, hB2⟩ := hB2
                  have hV := kp_call hV hV1 hV2 (by decide)
                  have hQ := hB2
                  have nh0_49 := kp_use hV1 hV2 (by decide) (by decide) nh0_49
                  have nh0_50 := kp_use hV1 hV2 (by decide) (by decide) nh0_50
                  have nh0_51 := kp_use hV1 hV2 (by decide) (by decide) nh0_51
                  refine lv_iadd hx hb dX11_waysOn_121 ?_
                  refine lv_topi (fun x121 e121 => ?_)
                  refine lv_istore_n (lv' := [(3, .int x121), (6, .int x72), (0, .ref h0), (1, .int p1), (2, .int p2), (4, .int v5_4), (5, .int v47_5)]) hx hb dX11_waysOn_122 rfl hl (by decide) rfl (fun ls hl => ?_)
                  refine lv_goto (tgt := 140) hx hb dX11_waysOn_123 (by decide) ?_
                  exact w2 _ _ _ (J140 _ _ _ x121 x55 hW hI hV (hQ.sub js72) hS (lv_sub hl [2, 3, 4, 0, 5, 6] rfl) rv47_1 (ir_w (lo' := 1) (hi' := 3) rp2_109 (by decide) (by decide)) rv47_4 rv47_5_51 nh0_49 nh0_50 nh0_51)
              · have rx72_83 : ir x72 0 0 := rf_eq c83 (ir_c (0) (by decide) : ir (0 : Int32) (0) (0))
                refine lv_goto (tgt := 140) hx hb dX11_waysOn_86 (by decide) ?_
                exact w2 _ _ _ (J140 _ _ _ v47_3 x55 hW hI hV (hQ.sub js72) hS (lv_sub hl [1, 2, 3, 4, 5, 6] rfl) rv47_1 rv47_2 rv47_4 rv47_5_51 nh0_49 nh0_50 nh0_51)
      have J44 : ∀ (H : Heap) (locs : List Loc) (ls : Array Slot) (u44_1 : Int32), cW N H → mI N h0 H → kp N h0 [32, 33, 34, 35, 36, 37, 38, 39, 40, 41, 42, 48] V H → tJ N J H → va_S (cE N [11, 56, 57, 58, 59, 60]) s.heap H locs → lv_has ls 7 [(0, .ref h0), (1, .int p1), (2, .int p2), (3, .int v5_3), (4, .int v5_4)] → ir p1 0 0 → ir p2 1 3 → ir v5_4 0 5 → wt_pin N.1 vwCl h0 11 49 (.int g49) H → wt_pin N.1 vwCl h0 11 50 (.int u44_1) H → WW H locs (F0 m 44 ls []) := by
        intro H locs ls u44_1 hW hI hV hQ hS hl rv44_1 rv44_2 rv44_4 nh0_49 nh0_50
        refine w1 _ _ _ ?_
        refine lv_iconst (v := 0) hx hb dX11_waysOn_44 (by decide) ?_
        refine lv_istore (lv' := [(5, .int (0 : Int32)), (0, .ref h0), (1, .int p1), (2, .int p2), (3, .int v5_3), (4, .int v5_4)]) hx hb dX11_waysOn_45 hl (by decide) rfl (fun ls hl => ?_)
        exact w2 _ _ _ (L47 8 _ _ _ v5_3 (0 : Int32) u44_1 hW hI hV hQ hS (lv_sub hl [1, 2, 3, 4, 5, 0] rfl) rv44_1 rv44_2 rv44_4 (ir_w (lo' := 0) (hi' := 7) (ir_c (0) (by decide) : ir (0 : Int32) (0) (0)) (by decide) (by decide)) nh0_49 nh0_50 (by have h9 := (ir_c (0) (by decide) : ir (0 : Int32) (0) (0)); omega))
      refine w1 _ _ _ ?_
      refine lv_iload hx hb dX11_waysOn_5 (lv_at hl 4 rfl) ?_
      refine lv_bipush (v := 6) hx hb dX11_waysOn_7 (by decide) ?_
      refine lv_icmp_ge (tgt := 152) hx hb dX11_waysOn_9 (by decide) (fun c9 => ?_) (fun c9 => ?_)
      · have rv5_4_9 : ir v5_4 6 6 := ⟨Int.le_trans (by decide) (rf_le c9 (ir_c (6) (by decide) : ir (6 : Int32) (6) (6)) rv5_4).2, (rv5_4).2⟩
        refine lv_iload_n hx hb dX11_waysOn_152 rfl (lv_at hl 3 rfl) ?_
        exact W.iret (v := v5_3) hx hb hr (fun t ht _ => ⟨⟨v5_3, v5_3, rfl, ⟨rfl, trivial⟩, cW_at ht hW, ⟨mI_at ht hI, kp_at ht hV, tJ_at ht hQ⟩⟩, hS.F ht⟩) hS.2.2 dX11_waysOn_153
      · have rv5_4_9 : ir v5_4 0 5 := ⟨(rv5_4).1, Int.le_trans (rf_lt (rf_nle c9) rv5_4 (ir_c (6) (by decide) : ir (6 : Int32) (6) (6))).1 (by decide)⟩
        refine lv_aload_n hx hb dX11_waysOn_12 rfl (lv_at hl 0 rfl) ?_
        refine wt_getp hx hb hts cfX11 hown hK hW (cg11 k0) rfl 50 (by decide) (Or.inl (hts _ q922)) dX11_waysOn_13 (fun v hv nh0_50 => ?_)
        obtain ⟨x13, rfl⟩ : ga v := hv
        refine lv_iload hx hb dX11_waysOn_16 (lv_at hl 4 rfl) ?_
        refine cp_i (wt_runS (As := [.int x13, .int v5_4]) (rest := []) ⟨hx, hb, hml, hown, hts⟩ (m_X11_has l x13 v5_4) wm_X11_has q1312 ⟨rfl, rfl⟩ ⟨Nat.le_of_ble_eq_true rfl, Nat.le_of_ble_eq_true rfl⟩ pS_pre rfl hl.1 rfl (Nat.le_of_ble_eq_true rfl) dX11_waysOn_18 ⟨Nat.zero_le _, Nat.zero_le _⟩) hW hS (fun x18 H locs hp hW1 hS oq => ?_)
        have hV := hV.same hW k0 oq
        have hQ := hQ.fr (fun a ka => oq a (hW_lt hW ka) (cE_nil _))
        have hI := mI.fr.same hI hW oq
        have hW := hW1
        have nh0_49 := nh0_49.kept (oq _ nh0_49.lt (cE_not k0 (by decide)))
        have nh0_50 := nh0_50.kept (oq _ nh0_50.lt (cE_not k0 (by decide)))
        have r18 : ir x18 0 1 := hp
        refine lv_if_eq (tgt := 146) hx hb dX11_waysOn_21 (by decide) (fun c21 => ?_) (fun c21 => ?_)
        · have rx18_21 : ir x18 0 0 := rf_eq c21 (ir_c (0) (by decide) : ir (0 : Int32) (0) (0))
          exact w2 _ _ _ (J146 _ _ _ v5_3 x13 hW hI hV hQ hS (lv_sub hl [0, 1, 2, 3, 4] rfl) rv5_1 rv5_2 rv5_4_9 nh0_49 nh0_50)
        · have rx18_21 : ir x18 1 1 := rf_ne0 c21 r18
          refine lv_iload_n hx hb dX11_waysOn_24 rfl (lv_at hl 1 rfl) ?_
          refine lv_if_le (tgt := 44) hx hb dX11_waysOn_25 (by decide) (fun c25 => ?_) (fun c25 => ?_)
          · exact w2 _ _ _ (J44 _ _ _ x13 hW hI hV hQ hS (lv_sub hl [0, 1, 2, 3, 4] rfl) rv5_1 rv5_2 rv5_4_9 nh0_49 nh0_50)
          · exact absurd (rf_lt (rf_nle c25) (ir_c (0) (by decide) : ir (0 : Int32) (0) (0)) rv5_1) (by have h8 := (ir_c (0) (by decide) : ir (0 : Int32) (0) (0)); have h9 := rv5_1; omega)
  refine lv_iconst (v := 0) hx hb dX11_waysOn_0 (by decide) ?_
  refine lv_istore_n (lv' := [(3, .int (0 : Int32)), (0, .ref h0), (1, .int p1), (2, .int p2)]) hx hb dX11_waysOn_1 rfl hl (by decide) rfl (fun ls hl => ?_)
  refine lv_iconst (v := 0) hx hb dX11_waysOn_2 (by decide) ?_
  refine lv_istore (lv' := [(4, .int (0 : Int32)), (3, .int (0 : Int32)), (0, .ref h0), (1, .int p1), (2, .int p2)]) hx hb dX11_waysOn_3 hl (by decide) rfl (fun ls hl => ?_)
  exact w2 _ _ _ (L5 7 _ _ _ (0 : Int32) (0 : Int32) hW hI hV hQ hS (lv_sub hl [2, 3, 4, 1, 0] rfl) rp1 rp2 (ir_w (lo' := 0) (hi' := 6) (ir_c (0) (by decide) : ir (0 : Int32) (0) (0)) (by decide) (by decide)) nh0_49 (by have h9 := (ir_c (0) (by decide) : ir (0 : Int32) (0) (0)); omega))
set_option maxHeartbeats 4000000 in
set_option maxRecDepth 100000 in
theorem m_X11_waysOf (l : Launch) (N : c_N) (h0 : Nat) (k0 : N.2.2.1 h0 = some 11) (hO : mOK N) (V : Nat → Value) (p1 : Int32) (p2 : Int32) (p3 : Int32) (p4 : Int32) (rp4 : ir p4 1 3) : cMi2 l yX11_waysOf cX11_waysOf 6 .int { frames := 8, cells := 0, slots := 0, locals := 232 } [.ref h0, .int p1, .int p2, .int p3, .int p4] N [11, 56, 57, 58, 59, 60] (fun H => mI N h0 H ∧ kp N h0 [32, 33, 34, 35, 36, 37, 38, 39, 40, 41, 42, 48, 49, 50, 51] V H) (fun _ => True) (fun _ H => mI N h0 H ∧ kp N h0 [32, 33, 34, 35, 36, 37, 38, 39, 40, 41, 42, 48, 49, 50, 51] V H) := by
  refine Met.ofW (cc := cX11_waysOf) (maxL := 6) (ret := some .int) (by decide) rfl ?_
  intro p e s m args below meth c s₁ B hml hv
  obtain ⟨rfl, ⟨hK, hW, hT, hnn⟩, hB⟩ := hv
  obtain ⟨hI, hV⟩ := hB
  have hx := B.exec
  have hb := B.bytes
  have hr := B.returns
  have hts : ∀ w ∈ lw_g, w.before _ s = true := fun w h => atoms_spec (ws := wc_ws yX11_waysOf cX11_waysOf 6 (some .int)) B.pre w (List.mem_cons_of_mem _ h)
  have hown : s.vm.findClass RX11 = some m.cls := findClass_of_methodNamed B.named
  have hlocks := B.notSynchronized
  have hS : va_S (cE N [11, 56, 57, 58, 59, 60]) s.heap s.heap [] := va_S.rf
  have hl := lv_entry ([.ref h0, .int p1, .int p2, .int p3, .int p4]) (n := 6) (Nat.le_of_ble_eq_true rfl)
  rw [lg_entry_eq]
  generalize (lg_sl ([.ref h0, .int p1, .int p2, .int p3, .int p4]) ++ List.replicate (6 - (lg_sl ([.ref h0, .int p1, .int p2, .int p3, .int p4])).length) Slot.unset).toArray = ls at hl ⊢
  have hl : lv_has ls 6 [(0, .ref h0), (1, .int p1), (2, .int p2), (3, .int p3), (4, .int p4)] := hl
  refine wq_all ?_
  intro WW w1 w2
  refine lv_aload_n hx hb dX11_waysOf_0 rfl (lv_at hl 0 rfl) ?_
  refine lv_iload_n hx hb dX11_waysOf_1 rfl (lv_at hl 1 rfl) ?_
  refine wt_putp hx hb hts cfX11 tyX11 tyX11_ok nmX11 hown hK hW hS (cg11 k0) (ce k0 (by decide)) rfl 49 (by decide) (Or.inl (hts _ q921)) rfl rfl rfl ga_mk dX11_waysOf_2 (fun H locs hW hS oq o2 np => ?_)
  have nh0_49 : wt_pin N.1 vwCl h0 11 49 (.int p1) H := np
  have hV := hV.put (by decide) o2
  have hI := mI.fr.put hI k0 oq o2 (by decide) (by decide)
  refine lv_aload_n hx hb dX11_waysOf_5 rfl (lv_at hl 0 rfl) ?_
  refine lv_iload_n hx hb dX11_waysOf_6 rfl (lv_at hl 2 rfl) ?_
  refine wt_putp hx hb hts cfX11 tyX11 tyX11_ok nmX11 hown hK hW hS (cg11 k0) (ce k0 (by decide)) rfl 50 (by decide) (Or.inl (hts _ q922)) rfl rfl rfl ga_mk dX11_waysOf_7 (fun H locs hW hS oq o2 np => ?_)
  have nh0_49 := o2 49 _ (by decide) (by decide) nh0_49
  have nh0_50 : wt_pin N.1 vwCl h0 11 50 (.int p2) H := np
  have hV := hV.put (by decide) o2
  have hI := mI.fr.put hI k0 oq o2 (by decide) (by decide)
  refine lv_aload_n hx hb dX11_waysOf_10 rfl (lv_at hl 0 rfl) ?_
  refine lv_iload_n hx hb dX11_waysOf_11 rfl (lv_at hl 3 rfl) ?_
  refine wt_putp hx hb hts cfX11 tyX11 tyX11_ok nmX11 hown hK hW hS (cg11 k0) (ce k0 (by decide)) rfl 51 (by decide) (Or.inl (hts _ q923)) rfl rfl rfl ga_mk dX11_waysOf_12 (fun H locs hW hS oq o2 np => ?_)
  have nh0_49 := o2 49 _ (by decide) (by decide) nh0_49
  have nh0_50 := o2 50 _ (by decide) (by decide) nh0_50
  have nh0_51 : wt_pin N.1 vwCl h0 11 51 (.int p3) H := np
  have hV := hV.put (by decide) o2
  have hI := mI.fr.put hI k0 oq o2 (by decide) (by decide)
  refine lv_aload_n hx hb dX11_waysOf_15 rfl (lv_at hl 0 rfl) ?_
  refine lv_iconst (v := 0) hx hb dX11_waysOf_16 (by decide) ?_
  refine wt_putp hx hb hts cfX11 tyX11 tyX11_ok nmX11 hown hK hW hS (cg11 k0) (ce k0 (by decide)) rfl 48 (by decide) (Or.inl (hts _ q920)) rfl rfl rfl (gi_mk (ir_w (lo' := 0) (hi' := 1) (ir_c (0) (by decide) : ir (0 : Int32) (0) (0)) (by decide) (by decide))) dX11_waysOf_17 (fun H locs hW hS oq o2 np => ?_)
  have nh0_49 := o2 49 _ (by decide) (by decide) nh0_49
  have nh0_50 := o2 50 _ (by decide) (by decide) nh0_50
  have nh0_51 := o2 51 _ (by decide) (by decide) nh0_51
  have nh0_48 : wt_pin N.1 vwCl h0 11 48 (.int (0 : Int32)) H := np
  have hV := hV.put (by decide) o2
  have hI := mI.fr.put hI k0 oq o2 (by decide) (by decide)
  refine lv_aload_n hx hb dX11_waysOf_20 rfl (lv_at hl 0 rfl) ?_
  obtain ⟨V1, hV1⟩ := kp_all hW k0
  refine cc_v (B2 := fun H => mI N h0 H ∧ kp N h0 [34, 35, 36, 37, 38] V1 H ∧ pL N h0 34 1 H ∧ pL N h0 35 0 H ∧ pL N h0 36 0 H ∧ pL N h0 37 1 H ∧ pI N h0 38 1 H) (wt_runV (As := []) (rest := []) ⟨hx, hb, hml, hown, hts⟩ (m_X11_begins l N h0 k0 hO V1) wm_X11_begins q1219 ⟨rfl, rfl⟩ ⟨Nat.le_of_ble_eq_true rfl, Nat.le_of_ble_eq_true rfl⟩ (cS_preV (B := fun H => mI N h0 H ∧ kp N h0 [34, 35, 36, 37, 38] V1 H) hK hW hT hnn hS (cg11 k0) rfl rfl (And.intro hI (kp_of (F := [34, 35, 36, 37, 38]) hV1))) rfl hl.1 rfl (Nat.le_of_ble_eq_true rfl) dX11_waysOf_21 ⟨Nat.zero_le _, Nat.zero_le _⟩) hS (by decide) (fun H locs hW hS oq hB2 => ?_)
  obtain ⟨hI, hV2, hB2⟩ := hB2
  have hV := kp_call hV hV1 hV2 (by decide)
  obtain ⟨nh0_34, nh0_35, nh0_36, nh0_37, nh0_38⟩ := hB2
  have nh0_49 := kp_use hV1 hV2 (by decide) (by decide) nh0_49
  have nh0_50 := kp_use hV1 hV2 (by decide) (by decide) nh0_50
  have nh0_51 := kp_use hV1 hV2 (by decide) (by decide) nh0_51
  have nh0_48 := kp_use hV1 hV2 (by decide) (by decide) nh0_48
  have hQ : tJ N (fun _ => False) H := tJ_none
  refine lv_iconst (v := 1) hx hb dX11_waysOf_24 (by decide) ?_
  refine lv_istore (lv' := [(5, .int (1 : Int32)), (0, .ref h0), (1, .int p1), (2, .int p2), (3, .int p3), (4, .int p4)]) hx hb dX11_waysOf_25 hl (by decide) rfl (fun ls hl => ?_)
  refine lv_iload hx hb dX11_waysOf_27 (lv_at hl 0 rfl) ?_
  refine lv_iconst (v := 4) hx hb dX11_waysOf_29 (by decide) ?_
  refine lv_icmp_gt (tgt := 46) hx hb dX11_waysOf_30 (by decide) (fun c30 => ?_) (fun c30 => ?_)
  · exact absurd c30 (by decide)
  · have d30 := Int32.le_iff_toInt_le.mp (rf_nlt c30)
    refine lv_aload_n hx hb dX11_waysOf_33 rfl (lv_at hl 1 rfl) ?_
    refine lv_iconst (v := 0) hx hb dX11_waysOf_34 (by decide) ?_
    refine lv_iload hx hb dX11_waysOf_35 (lv_at hl 0 rfl) ?_
    obtain ⟨V1, hV1⟩ := kp_all hW k0
    have hWo := hW
    refine cc_v (B2 := fun H => mI N h0 H ∧ kp N h0 [] V1 H ∧ tJ N (fun i => (fun _ => False) i ∨ i = sl (0 : Int32) (1 : Int32)) H) (wt_runV (As := [.int (0 : Int32), .int (1 : Int32)]) (rest := []) ⟨hx, hb, hml, hown, hts⟩ (m_X11_notes l N h0 k0 hO V1 (0 : Int32) (ir_w (lo' := 0) (hi' := 3) (ir_c (0) (by decide) : ir (0 : Int32) (0) (0)) (by decide) (by decide)) (1 : Int32) (ir_w (lo' := 1) (hi' := 4) (ir_c (1) (by decide) : ir (1 : Int32) (1) (1)) (by decide) (by decide)) (1 : Int32) (i_ne0 (ir_c (1) (by decide) : ir (1 : Int32) (1) (1)) (by decide)) (fun _ => False)) wm_X11_notes q1340 ⟨rfl, rfl⟩ ⟨Nat.le_of_ble_eq_true rfl, Nat.le_of_ble_eq_true rfl⟩ (cS_preV (B := fun H => mI N h0 H ∧ kp N h0 [] V1 H ∧ wt_pin N.1 vwCl h0 11 38 (.int (1 : Int32)) H ∧ tJ N (fun _ => False) H) hK hW hT hnn hS (cg11 k0) rfl rfl (And.intro hI (And.intro (kp_of (F := []) hV1) (And.intro nh0_38 hQ)))) rfl hl.1 rfl (Nat.le_of_ble_eq_true rfl) dX11_waysOf_37 ⟨Nat.zero_le _, Nat.zero_le _⟩) hS (by decide) (fun H locs hW hS oq hB2 => ?_)
    obtain ⟨hI, hV2, hB2⟩ := hB2
    have hV := kp_call hV hV1 hV2 (by decide)
    have hQ := hB2
    have nh0_49 := kp_use hV1 hV2 (by decide) (by decide) nh0_49
    have nh0_50 := kp_use hV1 hV2 (by decide) (by decide) nh0_50
    have nh0_51 := kp_use hV1 hV2 (by decide) (by decide) nh0_51
    have nh0_48 := kp_use hV1 hV2 (by decide) (by decide) nh0_48
    have nh0_34 := kp_use hV1 hV2 (by decide) (by decide) nh0_34
    have nh0_35 := kp_use hV1 hV2 (by decide) (by decide) nh0_35
    have nh0_36 := kp_use hV1 hV2 (by decide) (by decide) nh0_36
    have nh0_37 := kp_use hV1 hV2 (by decide) (by decide) nh0_37
    have nh0_38 := kp_use hV1 hV2 (by decide) (by decide) nh0_38
    obtain ⟨x40, e40⟩ : ∃ y : Int32, y = (1 : Int32) + 1 := ⟨_, rfl⟩
    have r40 : ir x40 2 2 := ir_w (ir_add e40 (ir_c (1) (by decide) : ir (1 : Int32) (1) (1)) (ir_c (1) (by decide) : ir (1 : Int32) (1) (1)) (by decide) (by decide)) (by decide) (by decide)
    have t40 : x40.toInt = (1 : Int32).toInt + (1) := it_add e40 (ir_c (1) (by decide) : ir (1 : Int32) (1) (1)) (ir_c (1) (by decide) : ir (1 : Int32) (1) (1)) (by decide) (by decide)
    refine lv_iinc (v := x40) (lv' := [(5, .int x40), (0, .ref h0), (1, .int p1), (2, .int p2), (3, .int p3), (4, .int p4)]) hx hb dX11_waysOf_40 hl (k := 0) rfl (by rw [e40]; rfl) (by decide) rfl (fun ls hl => ?_)
    refine lv_goto (tgt := 27) hx hb dX11_waysOf_43 (by decide) ?_
    refine lv_iload hx hb dX11_waysOf_27 (lv_at hl 0 rfl) ?_
    refine lv_iconst (v := 4) hx hb dX11_waysOf_29 (by decide) ?_
    refine lv_icmp_gt (tgt := 46) hx hb dX11_waysOf_30 (by decide) (fun c10030 => ?_) (fun c10030 => ?_)
    · exact absurd (rf_lt c10030 (ir_c (4) (by decide) : ir (4 : Int32) (4) (4)) r40) (by have h8 := (ir_c (4) (by decide) : ir (4 : Int32) (4) (4)); have h9 := r40; omega)
    · have d10030 := Int32.le_iff_toInt_le.mp (rf_nlt c10030)
      refine lv_aload_n hx hb dX11_waysOf_33 rfl (lv_at hl 1 rfl) ?_
      refine lv_iconst (v := 0) hx hb dX11_waysOf_34 (by decide) ?_
      refine lv_iload hx hb dX11_waysOf_35 (lv_at hl 0 rfl) ?_
      obtain ⟨V1, hV1⟩ := kp_all hW k0
      have hWo := hW
      refine cc_v (B2 := fun H => mI N h0 H ∧ kp N h0 [] V1 H ∧ tJ N (fun i => (fun i => (fun _ => False) i ∨ i = sl (0 : Int32) (1 : Int32)) i ∨ i = sl (0 : Int32) x40) H) (wt_runV (As := [.int (0 : Int32), .int x40]) (rest := []) ⟨hx, hb, hml, hown, hts⟩ (m_X11_notes l N h0 k0 hO V1 (0 : Int32) (ir_w (lo' := 0) (hi' := 3) (ir_c (0) (by decide) : ir (0 : Int32) (0) (0)) (by decide) (by decide)) x40 (ir_w (lo' := 1) (hi' := 4) r40 (by decide) (by decide)) (1 : Int32) (i_ne0 (ir_c (1) (by decide) : ir (1 : Int32) (1) (1)) (by decide)) (fun i => (fun _ => False) i ∨ i = sl (0 : Int32) (1 : Int32))) wm_X11_notes q1340 ⟨rfl, rfl⟩ ⟨Nat.le_of_ble_eq_true rfl, Nat.le_of_ble_eq_true rfl⟩ (cS_preV (B := fun H => mI N h0 H ∧ kp N h0 [] V1 H ∧ wt_pin N.1 vwCl h0 11 38 (.int (1 : Int32)) H ∧ tJ N (fun i => (fun _ => False) i ∨ i = sl (0 : Int32) (1 : Int32)) H) hK hW hT hnn hS (cg11 k0) rfl rfl (And.intro hI (And.intro (kp_of (F := []) hV1) (And.intro nh0_38 hQ)))) rfl hl.1 rfl (Nat.le_of_ble_eq_true rfl) dX11_waysOf_37 ⟨Nat.zero_le _, Nat.zero_le _⟩) hS (by decide) (fun H locs hW hS oq hB2 => ?_)
      obtain ⟨hI, hV2, hB2⟩ := hB2
      have hV := kp_call hV hV1 hV2 (by decide)
      have hQ := hB2
      have nh0_49 := kp_use hV1 hV2 (by decide) (by decide) nh0_49
      have nh0_50 := kp_use hV1 hV2 (by decide) (by decide) nh0_50
      have nh0_51 := kp_use hV1 hV2 (by decide) (by decide) nh0_51
      have nh0_48 := kp_use hV1 hV2 (by decide) (by decide) nh0_48
      have nh0_34 := kp_use hV1 hV2 (by decide) (by decide) nh0_34
      have nh0_35 := kp_use hV1 hV2 (by decide) (by decide) nh0_35
      have nh0_36 := kp_use hV1 hV2 (by decide) (by decide) nh0_36
      have nh0_37 := kp_use hV1 hV2 (by decide) (by decide) nh0_37
      have nh0_38 := kp_use hV1 hV2 (by decide) (by decide) nh0_38
      obtain ⟨x10040, e10040⟩ : ∃ y : Int32, y = x40 + 1 := ⟨_, rfl⟩
      have r10040 : ir x10040 3 3 := ir_w (ir_add e10040 r40 (ir_c (1) (by decide) : ir (1 : Int32) (1) (1)) (by decide) (by decide)) (by decide) (by decide)
      have t10040 : x10040.toInt = x40.toInt + (1) := it_add e10040 r40 (ir_c (1) (by decide) : ir (1 : Int32) (1) (1)) (by decide) (by decide)
      refine lv_iinc (v := x10040) (lv' := [(5, .int x10040), (0, .ref h0), (1, .int p1), (2, .int p2), (3, .int p3), (4, .int p4)]) hx hb dX11_waysOf_40 hl (k := 0) rfl (by rw [e10040]; rfl) (by decide) rfl (fun ls hl => ?_)
      refine lv_goto (tgt := 27) hx hb dX11_waysOf_43 (by decide) ?_
      refine lv_iload hx hb dX11_waysOf_27 (lv_at hl 0 rfl) ?_
      refine lv_iconst (v := 4) hx hb dX11_waysOf_29 (by decide) ?_
      refine lv_icmp_gt (tgt := 46) hx hb dX11_waysOf_30 (by decide) (fun c20030 => ?_) (fun c20030 => ?_)
      · exact absurd (rf_lt c20030 (ir_c (4) (by decide) : ir (4 : Int32) (4) (4)) r10040) (by have h8 := (ir_c (4) (by decide) : ir (4 : Int32) (4) (4)); have h9 := r10040; omega)
      · have d20030 := Int32.le_iff_toInt_le.mp (rf_nlt c20030)
        refine lv_aload_n hx hb dX11_waysOf_33 rfl (lv_at hl 1 rfl) ?_
        refine lv_iconst (v := 0) hx hb dX11_waysOf_34 (by decide) ?_
        refine lv_iload hx hb dX11_waysOf_35 (lv_at hl 0 rfl) ?_
        obtain ⟨V1, hV1⟩ := kp_all hW k0
        have hWo := hW
        refine cc_v (B2 := fun H => mI N h0 H ∧ kp N h0 [] V1 H ∧ tJ N (fun i => (fun i => (fun i => (fun _ => False) i ∨ i = sl (0 : Int32) (1 : Int32)) i ∨ i = sl (0 : Int32) x40) i ∨ i = sl (0 : Int32) x10040) H) (wt_runV (As := [.int (0 : Int32), .int x10040]) (rest := []) ⟨hx, hb, hml, hown, hts⟩ (m_X11_notes l N h0 k0 hO V1 (0 : Int32) (ir_w (lo' := 0) (hi' := 3) (ir_c (0) (by decide) : ir (0 : Int32) (0) (0)) (by decide) (by decide)) x10040 (ir_w (lo' := 1) (hi' := 4) r10040 (by decide) (by decide)) (1 : Int32) (i_ne0 (ir_c (1) (by decide) : ir (1 : Int32) (1) (1)) (by decide)) (fun i => (fun i => (fun _ => False) i ∨ i = sl (0 : Int32) (1 : Int32)) i ∨ i = sl (0 : Int32) x40)) wm_X11_notes q1340 ⟨rfl, rfl⟩ ⟨Nat.le_of_ble_eq_true rfl, Nat.le_of_ble_eq_true rfl⟩ (cS_preV (B := fun H => mI N h0 H ∧ kp N h0 [] V1 H ∧ wt_pin N.1 vwCl h0 11 38 (.int (1 : Int32)) H ∧ tJ N (fun i => (fun i => (fun _ => False) i ∨ i = sl (0 : Int32) (1 : Int32)) i ∨ i = sl (0 : Int32) x40) H) hK hW hT hnn hS (cg11 k0) rfl rfl (And.intro hI (And.intro (kp_of (F := []) hV1) (And.intro nh0_38 hQ)))) rfl hl.1 rfl (Nat.le_of_ble_eq_true rfl) dX11_waysOf_37 ⟨Nat.zero_le _, Nat.zero_le _⟩) hS (by decide) (fun H locs hW hS oq hB2 => ?_)
        obtain ⟨hI, hV2, hB2⟩ := hB2
        have hV := kp_call hV hV1 hV2 (by decide)
        have hQ := hB2
        have nh0_49 := kp_use hV1 hV2 (by decide) (by decide) nh0_49
        have nh0_50 := kp_use hV1 hV2 (by decide) (by decide) nh0_50
        have nh0_51 := kp_use hV1 hV2 (by decide) (by decide) nh0_51
        have nh0_48 := kp_use hV1 hV2 (by decide) (by decide) nh0_48
        have nh0_34 := kp_use hV1 hV2 (by decide) (by decide) nh0_34
        have nh0_35 := kp_use hV1 hV2 (by decide) (by decide) nh0_35
        have nh0_36 := kp_use hV1 hV2 (by decide) (by decide) nh0_36
        have nh0_37 := kp_use hV1 hV2 (by decide) (by decide) nh0_37
        have nh0_38 := kp_use hV1 hV2 (by decide) (by decide) nh0_38
        obtain ⟨x20040, e20040⟩ : ∃ y : Int32, y = x10040 + 1 := ⟨_, rfl⟩
        have r20040 : ir x20040 4 4 := ir_w (ir_add e20040 r10040 (ir_c (1) (by decide) : ir (1 : Int32) (1) (1)) (by decide) (by decide)) (by decide) (by decide)
        have t20040 : x20040.toInt = x10040.toInt + (1) := it_add e20040 r10040 (ir_c (1) (by decide) : ir (1 : Int32) (1) (1)) (by decide) (by decide)
        refine lv_iinc (v := x20040) (lv' := [(5, .int x20040), (0, .ref h0), (1, .int p1), (2, .int p2), (3, .int p3), (4, .int p4)]) hx hb dX11_waysOf_40 hl (k := 0) rfl (by rw [e20040]; rfl) (by decide) rfl (fun ls hl => ?_)
        refine lv_goto (tgt := 27) hx hb dX11_waysOf_43 (by decide) ?_
        refine lv_iload hx hb dX11_waysOf_27 (lv_at hl 0 rfl) ?_
        refine lv_iconst (v := 4) hx hb dX11_waysOf_29 (by decide) ?_
        refine lv_icmp_gt (tgt := 46) hx hb dX11_waysOf_30 (by decide) (fun c30030 => ?_) (fun c30030 => ?_)
        · exact absurd (rf_lt c30030 (ir_c (4) (by decide) : ir (4 : Int32) (4) (4)) r20040) (by have h8 := (ir_c (4) (by decide) : ir (4 : Int32) (4) (4)); have h9 := r20040; omega)
        · have d30030 := Int32.le_iff_toInt_le.mp (rf_nlt c30030)
          refine lv_aload_n hx hb dX11_waysOf_33 rfl (lv_at hl 1 rfl) ?_
          refine lv_iconst (v := 0) hx hb dX11_waysOf_34 (by decide) ?_
          refine lv_iload hx hb dX11_waysOf_35 (lv_at hl 0 rfl) ?_
          obtain ⟨V1, hV1⟩ := kp_all hW k0
          have hWo := hW
          refine cc_v (B2 := fun H => mI N h0 H ∧ kp N h0 [] V1 H ∧ tJ N (fun i => (fun i => (fun i => (fun i => (fun _ => False) i ∨ i = sl (0 : Int32) (1 : Int32)) i ∨ i = sl (0 : Int32) x40) i ∨ i = sl (0 : Int32) x10040) i ∨ i = sl (0 : Int32) x20040) H) (wt_runV (As := [.int (0 : Int32), .int x20040]) (rest := []) ⟨hx, hb, hml, hown, hts⟩ (m_X11_notes l N h0 k0 hO V1 (0 : Int32) (ir_w (lo' := 0) (hi' := 3) (ir_c (0) (by decide) : ir (0 : Int32) (0) (0)) (by decide) (by decide)) x20040 (ir_w (lo' := 1) (hi' := 4) r20040 (by decide) (by decide)) (1 : Int32) (i_ne0 (ir_c (1) (by decide) : ir (1 : Int32) (1) (1)) (by decide)) (fun i => (fun i => (fun i => (fun _ => False) i ∨ i = sl (0 : Int32) (1 : Int32)) i ∨ i = sl (0 : Int32) x40) i ∨ i = sl (0 : Int32) x10040)) wm_X11_notes q1340 ⟨rfl, rfl⟩ ⟨Nat.le_of_ble_eq_true rfl, Nat.le_of_ble_eq_true rfl⟩ (cS_preV (B := fun H => mI N h0 H ∧ kp N h0 [] V1 H ∧ wt_pin N.1 vwCl h0 11 38 (.int (1 : Int32)) H ∧ tJ N (fun i => (fun i => (fun i => (fun _ => False) i ∨ i = sl (0 : Int32) (1 : Int32)) i ∨ i = sl (0 : Int32) x40) i ∨ i = sl (0 : Int32) x10040) H) hK hW hT hnn hS (cg11 k0) rfl rfl (And.intro hI (And.intro (kp_of (F := []) hV1) (And.intro nh0_38 hQ)))) rfl hl.1 rfl (Nat.le_of_ble_eq_true rfl) dX11_waysOf_37 ⟨Nat.zero_le _, Nat.zero_le _⟩) hS (by decide) (fun H locs hW hS oq hB2 => ?_)
          obtain ⟨hI, hV2, hB2⟩ := hB2
          have hV := kp_call hV hV1 hV2 (by decide)
          have hQ := hB2
          have nh0_49 := kp_use hV1 hV2 (by decide) (by decide) nh0_49
          have nh0_50 := kp_use hV1 hV2 (by decide) (by decide) nh0_50
          have nh0_51 := kp_use hV1 hV2 (by decide) (by decide) nh0_51
          have nh0_48 := kp_use hV1 hV2 (by decide) (by decide) nh0_48
          have nh0_34 := kp_use hV1 hV2 (by decide) (by decide) nh0_34
          have nh0_35 := kp_use hV1 hV2 (by decide) (by decide) nh0_35
          have nh0_36 := kp_use hV1 hV2 (by decide) (by decide) nh0_36
          have nh0_37 := kp_use hV1 hV2 (by decide) (by decide) nh0_37
          have nh0_38 := kp_use hV1 hV2 (by decide) (by decide) nh0_38
          obtain ⟨x30040, e30040⟩ : ∃ y : Int32, y = x20040 + 1 := ⟨_, rfl⟩
          have r30040 : ir x30040 5 5 := ir_w (ir_add e30040 r20040 (ir_c (1) (by decide) : ir (1 : Int32) (1) (1)) (by decide) (by decide)) (by decide) (by decide)
          have t30040 : x30040.toInt = x20040.toInt + (1) := it_add e30040 r20040 (ir_c (1) (by decide) : ir (1 : Int32) (1) (1)) (by decide) (by decide)
          refine lv_iinc (v := x30040) (lv' := [(5, .int x30040), (0, .ref h0), (1, .int p1), (2, .int p2), (3, .int p3), (4, .int p4)]) hx hb dX11_waysOf_40 hl (k := 0) rfl (by rw [e30040]; rfl) (by decide) rfl (fun ls hl => ?_)
          refine lv_goto (tgt := 27) hx hb dX11_waysOf_43 (by decide) ?_
          refine lv_iload hx hb dX11_waysOf_27 (lv_at hl 0 rfl) ?_
          refine lv_iconst (v := 4) hx hb dX11_waysOf_29 (by decide) ?_
          refine lv_icmp_gt (tgt := 46) hx hb dX11_waysOf_30 (by decide) (fun c40030 => ?_) (fun c40030 => ?_)
          · have d40030 := Int32.lt_iff_toInt_lt.mp c40030
            refine lv_aload_n hx hb dX11_waysOf_46 rfl (lv_at hl 1 rfl) ?_
            refine lv_iconst (v := 0) hx hb dX11_waysOf_47 (by decide) ?_
            refine lv_iload hx hb dX11_waysOf_48 (lv_at hl 5 rfl) ?_
            obtain ⟨V1, hV1⟩ := kp_all hW k0
            have hWo := hW
            refine cc_i2 (B2 := fun r H => mI N h0 H ∧ kp N h0 [32, 33, 34, 35, 36, 37, 38, 39, 40, 41, 42, 48] V1 H ∧ tJ N (fun i => (fun i => (fun i => (fun i => (fun _ => False) i ∨ i = sl (0 : Int32) (1 : Int32)) i ∨ i = sl (0 : Int32) x40) i ∨ i = sl (0 : Int32) x10040) i ∨ i = sl (0 : Int32) x20040) H) (wt_runV (As := [.int (0 : Int32), .int p4]) (rest := []) ⟨hx, hb, hml, hown, hts⟩ (m_X11_waysOn_0 l N h0 k0 hO V1 (0 : Int32) (ir_c (0) (by decide) : ir (0 : Int32) (0) (0)) p4 rp4 p1 (fun i => (fun i => (fun i => (fun i => (fun _ => False) i ∨ i = sl (0 : Int32) (1 : Int32)) i ∨ i = sl (0 : Int32) x40) i ∨ i = sl (0 : Int32) x10040) i ∨ i = sl (0 : Int32) x20040) (fun mk rm _ => by have q1 : (1 : Int32).toInt = 1 := rfl; have q0 : (0 : Int32).toInt = 0 := rfl; rcases (show mk.toInt = 1 ∨ mk.toInt = 2 ∨ mk.toInt = 3 ∨ mk.toInt = 4 by omega) with h | h | h | h; exact Or.inl (Or.inl (Or.inl (Or.inr (by unfold sl; omega)))); exact Or.inl (Or.inl (Or.inr (by unfold sl; omega))); exact Or.inl (Or.inr (by unfold sl; omega)); exact Or.inr (by unfold sl; omega))) wm_X11_waysOn q1344 ⟨rfl, rfl⟩ ⟨Nat.le_of_ble_eq_true rfl, Nat.le_of_ble_eq_true rfl⟩ (cS_preV (B := fun H => mI N h0 H ∧ kp N h0 [32, 33, 34, 35, 36, 37, 38, 39, 40, 41, 42, 48] V1 H ∧ wt_pin N.1 vwCl h0 11 49 (.int p1) H ∧ tJ N (fun i => (fun i => (fun i => (fun i => (fun _ => False) i ∨ i = sl (0 : Int32) (1 : Int32)) i ∨ i = sl (0 : Int32) x40) i ∨ i = sl (0 : Int32) x10040) i ∨ i = sl (0 : Int32) x20040) H) hK hW hT hnn hS (cg11 k0) rfl rfl (And.intro hI (And.intro (kp_of (F := [32, 33, 34, 35, 36, 37, 38, 39, 40, 41, 42, 48]) hV1) (And.intro nh0_49 hQ)))) rfl hl.1 rfl (Nat.le_of_ble_eq_true rfl) dX11_waysOf_50 ⟨Nat.zero_le _, Nat.zero_le _⟩) hS (by decide) (fun x50 H locs hp hW hS oq hB2 => ?_)
            obtain ⟨hI, hV2, hB2⟩ := hB2
            have hV := kp_call hV hV1 hV2 (by decide)
            have hQ := hB2
            have nh0_49 := kp_use hV1 hV2 (by decide) (by decide) nh0_49
            have nh0_50 := kp_use hV1 hV2 (by decide) (by decide) nh0_50
            have nh0_51 := kp_use hV1 hV2 (by decide) (by decide) nh0_51
            exact W.iret (v := x50) hx hb hr (fun t ht _ => ⟨⟨x50, x50, rfl, ⟨rfl, trivial⟩, cW_at ht hW, ⟨mI_at ht hI, kp_at ht hV⟩⟩, hS.F ht⟩) hS.2.2 dX11_waysOf_53
          · exact absurd (rf_le (rf_nlt c40030) r30040 (ir_c (4) (by decide) : ir (4 : Int32) (4) (4))) (by have h8 := r30040; have h9 := (ir_c (4) (by decide) : ir (4 : Int32) (4) (4)); omega)
set_option maxHeartbeats 4000000 in
set_option maxRecDepth 100000 in
theorem m_X11_ways (l : Launch) (N : c_N) (h0 : Nat) (k0 : N.2.2.1 h0 = some 11) (hO : mOK N) (V : Nat → Value) (p1 : Int32) (p2 : Int32) (p3 : Int32) (p4 : Int32) : cMi2 l yX11_ways cX11_ways 5 .int { frames := 9, cells := 0, slots := 0, locals := 257 } [.ref h0, .int p1, .int p2, .int p3, .int p4] N [11, 56, 57, 58, 59, 60] (fun H => mI N h0 H ∧ kp N h0 [32, 33, 34, 35, 36, 37, 38, 39, 40, 41, 42, 48, 49, 50, 51] V H) (fun _ => True) (fun _ H => mI N h0 H ∧ kp N h0 [32, 33, 34, 35, 36, 37, 38, 39, 40, 41, 42, 48, 49, 50, 51] V H) := by
  refine Met.ofW (cc := cX11_ways) (maxL := 5) (ret := some .int) (by decide) rfl ?_
  intro p e s m args below meth c s₁ B hml hv
  obtain ⟨rfl, ⟨hK, hW, hT, hnn⟩, hB⟩ := hv
  obtain ⟨hI, hV⟩ := hB
  have hx := B.exec
  have hb := B.bytes
  have hr := B.returns
  have hts : ∀ w ∈ lw_g, w.before _ s = true := fun w h => atoms_spec (ws := wc_ws yX11_ways cX11_ways 5 (some .int)) B.pre w (List.mem_cons_of_mem _ h)
  have hown : s.vm.findClass RX11 = some m.cls := findClass_of_methodNamed B.named
  have hlocks := B.notSynchronized
  have hS : va_S (cE N [11, 56, 57, 58, 59, 60]) s.heap s.heap [] := va_S.rf
  have hl := lv_entry ([.ref h0, .int p1, .int p2, .int p3, .int p4]) (n := 5) (Nat.le_of_ble_eq_true rfl)
  rw [lg_entry_eq]
  generalize (lg_sl ([.ref h0, .int p1, .int p2, .int p3, .int p4]) ++ List.replicate (5 - (lg_sl ([.ref h0, .int p1, .int p2, .int p3, .int p4])).length) Slot.unset).toArray = ls at hl ⊢
  have hl : lv_has ls 5 [(0, .ref h0), (1, .int p1), (2, .int p2), (3, .int p3), (4, .int p4)] := hl
  refine wq_all ?_
  intro WW w1 w2
  refine lv_iload_n hx hb dX11_ways_0 rfl (lv_at hl 1 rfl) ?_
  refine lv_iload_n hx hb dX11_ways_1 rfl (lv_at hl 2 rfl) ?_
  refine lv_iload_n hx hb dX11_ways_2 rfl (lv_at hl 3 rfl) ?_
  refine cp_i (wt_runS (As := [.int p1, .int p2, .int p3]) (rest := []) ⟨hx, hb, hml, hown, hts⟩ (m_X11_areSets l p1 p2 p3) wm_X11_areSets q1330 ⟨rfl, rfl⟩ ⟨Nat.le_of_ble_eq_true rfl, Nat.le_of_ble_eq_true rfl⟩ pS_pre rfl hl.1 rfl (Nat.le_of_ble_eq_true rfl) dX11_ways_3 ⟨Nat.zero_le _, Nat.zero_le _⟩) hW hS (fun x3 H locs hp hW1 hS oq => ?_)
  have hV := hV.same hW k0 oq
  have hI := mI.fr.same hI hW oq
  have hW := hW1
  have r3 : ir x3 0 1 := hp
  refine lv_if_eq (tgt := 34) hx hb dX11_ways_6 (by decide) (fun c6 => ?_) (fun c6 => ?_)
  · have rx3_6 : ir x3 0 0 := rf_eq c6 (ir_c (0) (by decide) : ir (0 : Int32) (0) (0))
    refine lv_bipush (v := -2) hx hb dX11_ways_34 (by decide) ?_
    exact W.iret (v := (-2 : Int32)) hx hb hr (fun t ht _ => ⟨⟨(-2 : Int32), (-2 : Int32), rfl, ⟨rfl, trivial⟩, cW_at ht hW, ⟨mI_at ht hI, kp_at ht hV⟩⟩, hS.F ht⟩) hS.2.2 dX11_ways_36
  · have rx3_6 : ir x3 1 1 := rf_ne0 c6 r3
    refine lv_iload hx hb dX11_ways_9 (lv_at hl 4 rfl) ?_
    refine lv_i2l hx hb dX11_ways_11 rfl ?_
    refine lv_topl (fun x11 e11 => ?_)
    have r11 : lr x11 (-2147483648) 2147483647 := by rw [e11]; exact i2l_r (ir_any p4)
    refine lv_lconst (v := 1) hx hb dX11_ways_12 (by decide) ?_
    refine lv_ldc2 hx hb hown (hts _ q1209) dX11_ways_13 ?_
    refine cp_i (wt_runS (As := [.long x11, .long (1 : Int64), .long (3 : Int64)]) (rest := []) ⟨hx, hb, hml, hown, hts⟩ (m_X11_isIn l x11 (1 : Int64) (3 : Int64)) wm_X11_isIn q1050 ⟨rfl, rfl⟩ ⟨Nat.le_of_ble_eq_true rfl, Nat.le_of_ble_eq_true rfl⟩ pS_pre rfl hl.1 rfl (Nat.le_of_ble_eq_true rfl) dX11_ways_16 ⟨Nat.zero_le _, Nat.zero_le _⟩) hW hS (fun x16 H locs hp hW1 hS oq => ?_)
    have hV := hV.same hW k0 oq
    have hI := mI.fr.same hI hW oq
    have hW := hW1
    obtain ⟨r16, b16⟩ := hp
    refine lv_if_eq (tgt := 34) hx hb dX11_ways_19 (by decide) (fun c19 => ?_) (fun c19 => ?_)
    · have rx16_19 : ir x16 0 0 := rf_eq c19 (ir_c (0) (by decide) : ir (0 : Int32) (0) (0))
      refine lv_bipush (v := -2) hx hb dX11_ways_34 (by decide) ?_
      exact W.iret (v := (-2 : Int32)) hx hb hr (fun t ht _ => ⟨⟨(-2 : Int32), (-2 : Int32), rfl, ⟨rfl, trivial⟩, cW_at ht hW, ⟨mI_at ht hI, kp_at ht hV⟩⟩, hS.F ht⟩) hS.2.2 dX11_ways_36
    · have rx16_19 : ir x16 1 1 := rf_ne0 c19 r16
      have bx16_19 := b16 c19
      have rbx11_19 : lr x11 1 3 := by have h5 := bx16_19; have h6 := r11; have h7 := (lr_c (1) (by decide) : lr (1 : Int64) (1) (1)); have h8 := (lr_c (3) (by decide) : lr (3 : Int64) (3) (3)); constructor <;> omega
      have rp4_19 : ir p4 1 3 := i2l_b e11 rbx11_19
      refine lv_aload_n hx hb dX11_ways_22 rfl (lv_at hl 0 rfl) ?_
      refine lv_iload_n hx hb dX11_ways_23 rfl (lv_at hl 1 rfl) ?_
      refine lv_iload_n hx hb dX11_ways_24 rfl (lv_at hl 2 rfl) ?_
      refine lv_iload_n hx hb dX11_ways_25 rfl (lv_at hl 3 rfl) ?_
      refine lv_iload hx hb dX11_ways_26 (lv_at hl 4 rfl) ?_
      obtain ⟨V1, hV1⟩ := kp_all hW k0
      refine cc_i2 (B2 := fun _ H => mI N h0 H ∧ kp N h0 [32, 33, 34, 35, 36, 37, 38, 39, 40, 41, 42, 48, 49, 50, 51] V1 H) (wt_runV (As := [.int p1, .int p2, .int p3, .int p4]) (rest := []) ⟨hx, hb, hml, hown, hts⟩ (m_X11_waysOf l N h0 k0 hO V1 p1 p2 p3 p4 rp4_19) wm_X11_waysOf q1336 ⟨rfl, rfl⟩ ⟨Nat.le_of_ble_eq_true rfl, Nat.le_of_ble_eq_true rfl⟩ (cS_preV (B := fun H => mI N h0 H ∧ kp N h0 [32, 33, 34, 35, 36, 37, 38, 39, 40, 41, 42, 48, 49, 50, 51] V1 H) hK hW hT hnn hS (cg11 k0) rfl rfl (And.intro hI (kp_of (F := [32, 33, 34, 35, 36, 37, 38, 39, 40, 41, 42, 48, 49, 50, 51]) hV1))) rfl hl.1 rfl (Nat.le_of_ble_eq_true rfl) dX11_ways_28 ⟨Nat.zero_le _, Nat.zero_le _⟩) hS (by decide) (fun x28 H locs hp hW hS oq hB2 => ?_)
      obtain ⟨hI, hV2⟩ := hB2
      have hV := kp_call hV hV1 hV2 (by decide)
      refine lv_goto (tgt := 36) hx hb dX11_ways_31 (by decide) ?_
      exact W.iret (v := x28) hx hb hr (fun t ht _ => ⟨⟨x28, x28, rfl, ⟨rfl, trivial⟩, cW_at ht hW, ⟨mI_at ht hI, kp_at ht hV⟩⟩, hS.F ht⟩) hS.2.2 dX11_ways_36
