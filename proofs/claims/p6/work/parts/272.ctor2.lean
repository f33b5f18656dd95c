set_option maxHeartbeats 4000000 in
set_option maxRecDepth 100000 in
theorem i_X5 (l : Launch) (N : c_N) (n00 n0 h0 : Nat) (h00 : n00 ≤ h0 ∧ n00 ≤ n0) : cMI l yX5_init cX5_init 1 { frames := 1, cells := 2, slots := 12, locals := 40 } h0 5 (fun k v => v = defaultValue (tyX5 k)) N n00 n0 2 12 p5 (m5 n0) := by
  refine Met.ofW (cc := cX5_init) (maxL := 1) (ret := none) (by decide) rfl ?_
  intro p e s m args below meth c s₁ B hml hv
  obtain ⟨rfl, hK, hW0, hT, hnn, hAO, hO, hno, hsz⟩ := hv
  have hx := B.exec
  have hb := B.bytes
  have hr := B.returns
  have hts : ∀ w ∈ lw_g, w.before _ s = true := fun w h => atoms_spec (ws := wc_ws yX5_init cX5_init 1 none) B.pre w (List.mem_cons_of_mem _ h)
  have hown : s.vm.findClass RX5 = some m.cls := findClass_of_methodNamed B.named
  have hlocks := B.notSynchronized
  have hin : meth.name = "<init>" := (name_of_methodNamed B.named B.method).1
  have hS : va_S (iA n0 h0) s.heap s.heap [] := va_S.rf
  have hl := lv_entry ([.ref h0]) (n := 1) (Nat.le_of_ble_eq_true rfl)
  rw [lg_entry_eq]
  generalize (lg_sl ([.ref h0]) ++ List.replicate (1 - (lg_sl ([.ref h0])).length) Slot.unset).toArray = ls at hl ⊢
  have hl : lv_has ls 1 [(0, .ref h0)] := hl
  have hh0 : h0 < n0 := by have := hO.lt; omega
  have hge : n0 ≤ s.heap.size := by omega
  have hR : iR p5 N n0 h0 (N.2.2.1, N.2.2.2) := iR_0 hW0 hsz
  obtain ⟨u0, eu0⟩ : ∃ u : iU, u = (N.2.2.1, N.2.2.2) := ⟨_, rfl⟩
  rw [← eu0] at hR
  have hW : cW (nN N u0) s.heap := by rw [eu0]; exact hW0
  have hno : u0.1 h0 = none := by rw [eu0]; exact hno
  refine wq_all2 ?_
  intro WW w1 w2
  refine lv_aload_n hx hb dX5_init_0 rfl (lv_at hl 0 rfl) ?_
  refine W.objInit hx hb hown (hts _ q125) (hts _ q25) (hts _ q26) rfl (by rw [hml]; exact hl.1) rfl dX5_init_1 (Nat.le_of_ble_eq_true rfl) (Nat.le_of_ble_eq_true rfl) ?_
  refine lv_aload_n hx hb dX5_init_4 rfl (lv_at hl 0 rfl) ?_
  obtain ⟨s_FIRST_U, c_FIRST_U, hZ_FIRST_U, f1_FIRST_U, f2_FIRST_U, f3_FIRST_U, f4_FIRST_U, f5_FIRST_U, f6_FIRST_U, f7_FIRST_U⟩ := hT.2.1
  skip
  refine va_getsN hx hb hZ_FIRST_U (hS.up (fun z hz9 => by show n00 ≤ z; rcases hz9 with hz9 | hz9 <;> omega)) hown (lw_n_use hnn q126) (fun _ h9 => h9) dX5_init_5 ?_
  refine wi_clone hx hb (hml.trans hl.1.symm) hown (hts _ q128) (hts _ q129) (hts _ q130) (hts _ q131) (hts _ q132) hAO.2.2.2 hK hS 0 rfl (hK.2 0 _ rfl).2 f1_FIRST_U f2_FIRST_U f3_FIRST_U f4_FIRST_U f5_FIRST_U f6_FIRST_U (Nat.le_of_ble_eq_true rfl) (Nat.le_of_ble_eq_true rfl) (Nat.le_of_ble_eq_true rfl) (Nat.le_of_ble_eq_true rfl) dX5_init_8 (fun a8 H eq hz o1 hN_a8 hS => ?_)
  have n_a8 := cW_none hW (Nat.le_of_eq eq.symm)
  have g_a8 : n0 ≤ a8 := by omega
  have l_a8_h0 : h0 < a8 := by have := hO.lt; omega
  have hW := cW_kept hW (fun b t hb => o1 b (by have := hW_lt (N := nN N u0) hW hb; omega))
  have hO := hO.kept (o1 h0 l_a8_h0)
  have hge : n0 ≤ H.size := by omega
  refine wi_cast hx hb hown (hts _ q134) hN_a8 (hK.2 0 _ rfl).2 dX5_init_11 ?_
  obtain ⟨u1, eu1⟩ : ∃ w : iU, w = aX u0 a8 27 fsU := ⟨_, rfl⟩
  have hW : cW (nN N u1) H := by rw [eu1]; exact cW_addX (f := fsU) hW n_a8 hN_a8 ⟨rfl, rfl, fun j v _ h => aX_val j h⟩
  have hR : iR p5 N n0 h0 u1 := by rw [eu1]; exact iR_addX hR g_a8 (by decide)
  have hno : u1.1 h0 = none := by rw [eu1]; exact (if_neg (by omega)).trans hno
  have k_a8 : u1.1 a8 = some 27 := by rw [eu1]; exact aX_self
  refine wi_put (v := .ref a8) hx hb hts cfX5 tyX5 tyX5_ok nmX5 hown hin hK hO hS (Or.inl rfl) rfl 0 (by decide) q137 rfl rfl rfl dX5_init_14 (fun H locs hO oq hz hS => ?_)
  have hW := cW_kept hW (fun b t hb => oq b (by intro z; rw [z, hno] at hb; cases hb))
  have hge : n0 ≤ H.size := by omega
  refine lv_aload_n hx hb dX5_init_17 rfl (lv_at hl 0 rfl) ?_
  obtain ⟨s_FIRST_V, c_FIRST_V, hZ_FIRST_V, f1_FIRST_V, f2_FIRST_V, f3_FIRST_V, f4_FIRST_V, f5_FIRST_V, f6_FIRST_V, f7_FIRST_V⟩ := hT.2.2
  have f1_FIRST_V : H[s_FIRST_V]? = some c_FIRST_V := by rw [hS.2.1 _ (Array.getElem?_eq_some_iff.mp f1_FIRST_V).1 (fun z => f7_FIRST_V (by show n00 ≤ _; rcases z with z | z <;> omega))]; exact f1_FIRST_V
  refine va_getsN hx hb hZ_FIRST_V (hS.up (fun z hz9 => by show n00 ≤ z; rcases hz9 with hz9 | hz9 <;> omega)) hown (lw_n_use hnn q135) (fun _ h9 => h9) dX5_init_18 ?_
  refine wi_clone hx hb (hml.trans hl.1.symm) hown (hts _ q128) (hts _ q129) (hts _ q130) (hts _ q131) (hts _ q132) hAO.2.2.2 hK hS 0 rfl (hK.2 0 _ rfl).2 f1_FIRST_V f2_FIRST_V f3_FIRST_V f4_FIRST_V f5_FIRST_V f6_FIRST_V (Nat.le_of_ble_eq_true rfl) (Nat.le_of_ble_eq_true rfl) (Nat.le_of_ble_eq_true rfl) (Nat.le_of_ble_eq_true rfl) dX5_init_21 (fun a21 H eq hz o1 hN_a21 hS => ?_)
  have n_a21 := cW_none hW (Nat.le_of_eq eq.symm)
  have g_a21 : n0 ≤ a21 := by omega
  have l_a21_h0 : h0 < a21 := by have := hO.lt; omega
  have hW := cW_kept hW (fun b t hb => o1 b (by have := hW_lt (N := nN N u1) hW hb; omega))
  have hO := hO.kept (o1 h0 l_a21_h0)
  have hge : n0 ≤ H.size := by omega
  refine wi_cast hx hb hown (hts _ q134) hN_a21 (hK.2 0 _ rfl).2 dX5_init_24 ?_
  obtain ⟨u2, eu2⟩ : ∃ w : iU, w = aX u1 a21 28 fsV := ⟨_, rfl⟩
  have hW : cW (nN N u2) H := by rw [eu2]; exact cW_addX (f := fsV) hW n_a21 hN_a21 ⟨rfl, rfl, fun j v _ h => aX_val j h⟩
  have hR : iR p5 N n0 h0 u2 := by rw [eu2]; exact iR_addX hR g_a21 (by decide)
  have k_a8 : u2.1 a8 = some 27 := by rw [eu2]; exact aX_old n_a21 k_a8
  have hno : u2.1 h0 = none := by rw [eu2]; exact (if_neg (by omega)).trans hno
  have k_a21 : u2.1 a21 = some 28 := by rw [eu2]; exact aX_self
  refine wi_put (v := .ref a21) hx hb hts cfX5 tyX5 tyX5_ok nmX5 hown hin hK hO hS (Or.inl rfl) rfl 1 (by decide) q140 rfl rfl rfl dX5_init_27 (fun H locs hO oq hz hS => ?_)
  have hW := cW_kept hW (fun b t hb => oq b (by intro z; rw [z, hno] at hb; cases hb))
  have hge : n0 ≤ H.size := by omega
  refine lv_aload_n hx hb dX5_init_30 rfl (lv_at hl 0 rfl) ?_
  refine lv_iconst (v := 0) hx hb dX5_init_31 (by decide) ?_
  refine wi_put (v := .int (0 : Int32)) hx hb hts cfX5 tyX5 tyX5_ok nmX5 hown hin hK hO hS (Or.inl rfl) rfl 2 (by decide) q143 rfl rfl rfl dX5_init_32 (fun H locs hO oq hz hS => ?_)
  have hW := cW_kept hW (fun b t hb => oq b (by intro z; rw [z, hno] at hb; cases hb))
  have hge : n0 ≤ H.size := by omega
  refine lv_aload_n hx hb dX5_init_35 rfl (lv_at hl 0 rfl) ?_
  refine lv_iconst (v := 1) hx hb dX5_init_36 (by decide) ?_
  refine wi_put (v := .int (1 : Int32)) hx hb hts cfX5 tyX5 tyX5_ok nmX5 hown hin hK hO hS (Or.inl rfl) rfl 3 (by decide) q145 rfl rfl rfl dX5_init_37 (fun H locs hO oq hz hS => ?_)
  have hW := cW_kept hW (fun b t hb => oq b (by intro z; rw [z, hno] at hb; cases hb))
  have hge : n0 ≤ H.size := by omega
  have m5h : m5 n0 (aU u2 h0 5) := by rw [eu2, eu1]; exact m5_mk g_a8 g_a21 hh0 (by omega) (fun q hq => by rw [eu0]; exact cW_none (N := N) (u := (N.2.2.1, N.2.2.2)) hW0 (by omega))
  have hO : wt_at N.1 vwCl h0 (.inl (5, cP5 (nN N (aU u2 h0 5)))) H := hO.obj (P' := cP5 (nN N (aU u2 h0 5))) rfl (fun k v hk h => by
      match k, hk with
      | 0, _ => have h : v = .ref a8 := h; exact ⟨a8, h, aU_old hno k_a8⟩
      | 1, _ => have h : v = .ref a21 := h; exact ⟨a21, h, aU_old hno k_a21⟩
      | 2, _ => have h : v = .int (0 : Int32) := h; exact ⟨(0 : Int32), h, by decide⟩
      | 3, _ => have h : v = .int (1 : Int32) := h; exact ⟨(1 : Int32), h, by decide⟩
      | k + 4, hk => exact absurd hk (by show ¬ _ < 4; omega))
  have hW := cW_add (t := 5) hW hno hO (wt_le_rfl _)
  refine W.widen (k := 2) (n := 12) (Nat.le_of_ble_eq_true rfl) (Nat.le_of_ble_eq_true rfl) ?_
  exact W.vret hx hb hr (fun t ht _ => ⟨⟨aU u2 h0 5, rfl, ⟨(iR_end hR hh0).1, (iR_end hR hh0).2, m5h⟩, cW_at (N := nN N (aU u2 h0 5)) ht hW⟩, hS.F ht⟩) hS.2.2 dX5_init_40
set_option maxHeartbeats 4000000 in
set_option maxRecDepth 100000 in
theorem i_X10 (l : Launch) (N : c_N) (n00 n0 h0 : Nat) (h00 : n00 ≤ h0 ∧ n00 ≤ n0) (hN0 : ∀ q : Nat, N.2.2.1 q = none) : cMI l yX10_init cX10_init 2 { frames := 3, cells := 448, slots := 3067, locals := 81 } h0 10 (fun k v => v = defaultValue (tyX10 k)) N n00 n0 448 3067 p10 (fun u => ∃ rU rV : Nat, uM rU rV u) := by
  refine Met.ofW (cc := cX10_init) (maxL := 2) (ret := none) (by decide) rfl ?_
  intro p e s m args below meth c s₁ B hml hv
  obtain ⟨rfl, hK, hW0, hT, hnn, hAO, hO, hno, hsz⟩ := hv
  have hx := B.exec
  have hb := B.bytes
  have hr := B.returns
  have hts : ∀ w ∈ lw_g, w.before _ s = true := fun w h => atoms_spec (ws := wc_ws yX10_init cX10_init 2 none) B.pre w (List.mem_cons_of_mem _ h)
  have hown : s.vm.findClass RX10 = some m.cls := findClass_of_methodNamed B.named
  have hlocks := B.notSynchronized
  have hin : meth.name = "<init>" := (name_of_methodNamed B.named B.method).1
  have hS : va_S (iA n0 h0) s.heap s.heap [] := va_S.rf
  have hl := lv_entry ([.ref h0]) (n := 2) (Nat.le_of_ble_eq_true rfl)
  rw [lg_entry_eq]
  generalize (lg_sl ([.ref h0]) ++ List.replicate (2 - (lg_sl ([.ref h0])).length) Slot.unset).toArray = ls at hl ⊢
  have hl : lv_has ls 2 [(0, .ref h0)] := hl
  have hh0 : h0 < n0 := by have := hO.lt; omega
  have hge : n0 ≤ s.heap.size := by omega
  have hR : iR p10 N n0 h0 (N.2.2.1, N.2.2.2) := iR_0 hW0 hsz
  obtain ⟨u0, eu0⟩ : ∃ u : iU, u = (N.2.2.1, N.2.2.2) := ⟨_, rfl⟩
  rw [← eu0] at hR
  have hW : cW (nN N u0) s.heap := by rw [eu0]; exact hW0
  have hno : u0.1 h0 = none := by rw [eu0]; exact hno
  have hM : pM u0 := fun q t h => by rw [eu0, hN0] at h; cases h
  refine wq_all2 ?_
  intro WW w1 w2
  refine lv_aload_n hx hb dX10_init_0 rfl (lv_at hl 0 rfl) ?_
  refine W.objInit hx hb hown (hts _ q24) (hts _ q25) (hts _ q26) rfl (by rw [hml]; exact hl.1) rfl dX10_init_1 (Nat.le_of_ble_eq_true rfl) (Nat.le_of_ble_eq_true rfl) ?_
  refine lv_aload_n hx hb dX10_init_4 rfl (lv_at hl 0 rfl) ?_
  refine wi_new (ci := 9) hx hb hts cfX9 tyX9 tyX9_ok hown q27 q28 q2 hK hS rfl (Nat.le_of_ble_eq_true rfl) (Nat.le_of_ble_eq_true rfl) dX10_init_5 (fun a5 H eq hz o1 hN_a5 hS => ?_)
  have hs_a5 := hz
  have n_a5 := cW_none hW (Nat.le_of_eq eq.symm)
  have g_a5 : n0 ≤ a5 := by omega
  have l_a5_h0 : h0 < a5 := by have := hO.lt; omega
  have hW := cW_kept hW (fun b t hb => o1 b (by have := hW_lt (N := nN N u0) hW hb; omega))
  have hO := hO.kept (o1 h0 l_a5_h0)
  have hge : n0 ≤ H.size := by omega
  refine lv_dup hx hb dX10_init_8 rfl ?_
  refine va_callv (wt_runIN (As := []) (rest := [.ref a5, .ref h0]) ⟨hx, hb, hml, hown, hts⟩ hnn (i_X9 l (nN N u0) n00 H.size a5 ⟨by omega, by omega⟩) wm_X9_init q29 ⟨rfl, rfl⟩ ⟨Nat.le_of_ble_eq_true rfl, Nat.le_of_ble_eq_true rfl⟩ (cI_pre hK hW hT hnn hAO hS h00 hN_a5 n_a5) rfl hl.1 rfl (Nat.le_of_ble_eq_true rfl) dX10_init_9 ⟨Nat.le_of_ble_eq_true rfl, Nat.le_of_ble_eq_true rfl⟩) hS (fun x hx9 h9 => Or.inr (by rcases h9 with h9 | h9 <;> omega)) (fun x h9 => Or.inr (by rcases h9 with h9 | h9 <;> omega)) (fun u1 t H1 locs ht hvm hp hB hz hk hS => ?_)
  have hz0 : H.size = a5 + 1 := hs_a5
  have hR : iR p10 N n0 h0 u1 := iR_call hR hp.1 (fun t h => pq_pl_p10 h) hp.2.1 (by decide) g_a5 (by omega)
  have hno : u1.1 h0 = none := (hp.1.1 h0 (by omega) (by omega)).1.trans hno
  have hO := hO.kept (show t.heap[h0]? = _ by rw [ht]; exact hk h0 (by omega) (by intro z; rcases z with z | z <;> omega))
  have k_a5 : u1.1 a5 = some 9 := hp.2.1
  have hM := pM_call hM hp.1 hp.2.1 (by decide)
  have hW : cW (nN N u1) t.heap := hB
  rw [ht] at hW hO
  have hge : n0 ≤ H1.size := by omega
  clear hB
  obtain ⟨H, eH⟩ : ∃ X : Heap, X = H1 := ⟨_, rfl⟩
  rw [← eH] at hW hge hS hO ⊢
  refine wi_put (v := .ref a5) hx hb hts cfX10 tyX10 tyX10_ok nmX10 hown hin hK hO hS (Or.inl rfl) rfl 0 (by decide) q293 rfl rfl rfl dX10_init_12 (fun H locs hO oq hz hS => ?_)
  have hW := cW_kept hW (fun b t hb => oq b (by intro z; rw [z, hno] at hb; cases hb))
  have hge : n0 ≤ H.size := by omega
  refine lv_aload_n hx hb dX10_init_15 rfl (lv_at hl 0 rfl) ?_
  refine wi_new (ci := 3) hx hb hts cfX3 tyX3 tyX3_ok hown q94 q34 q3 hK hS rfl (Nat.le_of_ble_eq_true rfl) (Nat.le_of_ble_eq_true rfl) dX10_init_16 (fun a16 H eq hz o1 hN_a16 hS => ?_)
  have hs_a16 := hz
  have n_a16 := cW_none hW (Nat.le_of_eq eq.symm)
  have g_a16 : n0 ≤ a16 := by omega
  have l_a16_h0 : h0 < a16 := by have := hO.lt; omega
  have hW := cW_kept hW (fun b t hb => o1 b (by have := hW_lt (N := nN N u1) hW hb; omega))
  have hO := hO.kept (o1 h0 l_a16_h0)
  have hge : n0 ≤ H.size := by omega
  refine lv_dup hx hb dX10_init_19 rfl ?_
  refine va_callv (wt_runIN (As := []) (rest := [.ref a16, .ref h0]) ⟨hx, hb, hml, hown, hts⟩ hnn (i_X3 l (nN N u1) n00 H.size a16 ⟨by omega, by omega⟩) wm_X3_init q95 ⟨rfl, rfl⟩ ⟨Nat.le_of_ble_eq_true rfl, Nat.le_of_ble_eq_true rfl⟩ (cI_pre hK hW hT hnn hAO hS h00 hN_a16 n_a16) rfl hl.1 rfl (Nat.le_of_ble_eq_true rfl) dX10_init_20 ⟨Nat.le_of_ble_eq_true rfl, Nat.le_of_ble_eq_true rfl⟩) hS (fun x hx9 h9 => Or.inr (by rcases h9 with h9 | h9 <;> omega)) (fun x h9 => Or.inr (by rcases h9 with h9 | h9 <;> omega)) (fun u2 t H1 locs ht hvm hp hB hz hk hS => ?_)
  have hz0 : H.size = a16 + 1 := hs_a16
  have hR : iR p10 N n0 h0 u2 := iR_call hR hp.1 (fun t h => pq_pl_p10 h) hp.2.1 (by decide) g_a16 (by omega)
  have k_a5 : u2.1 a5 = some 9 := iX_k hp.1 hW n_a16 (Nat.le_refl _) k_a5
  have hno : u2.1 h0 = none := (hp.1.1 h0 (by omega) (by omega)).1.trans hno
  have hO := hO.kept (show t.heap[h0]? = _ by rw [ht]; exact hk h0 (by omega) (by intro z; rcases z with z | z <;> omega))
  have k_a16 : u2.1 a16 = some 3 := hp.2.1
  have hM := pM_call hM hp.1 hp.2.1 (by decide)
  have hW : cW (nN N u2) t.heap := hB
  rw [ht] at hW hO
  have hge : n0 ≤ H1.size := by omega
  clear hB
  obtain ⟨H, eH⟩ : ∃ X : Heap, X = H1 := ⟨_, rfl⟩
  rw [← eH] at hW hge hS hO ⊢
  refine wi_put (v := .ref a16) hx hb hts cfX10 tyX10 tyX10_ok nmX10 hown hin hK hO hS (Or.inl rfl) rfl 1 (by decide) q294 rfl rfl rfl dX10_init_23 (fun H locs hO oq hz hS => ?_)
  have hW := cW_kept hW (fun b t hb => oq b (by intro z; rw [z, hno] at hb; cases hb))
  have hge : n0 ≤ H.size := by omega
  refine lv_aload_n hx hb dX10_init_26 rfl (lv_at hl 0 rfl) ?_
  refine wi_new (ci := 1) hx hb hts cfX1 tyX1 tyX1_ok hown q96 q97 q4 hK hS rfl (Nat.le_of_ble_eq_true rfl) (Nat.le_of_ble_eq_true rfl) dX10_init_27 (fun a27 H eq hz o1 hN_a27 hS => ?_)
  have hs_a27 := hz
  have n_a27 := cW_none hW (Nat.le_of_eq eq.symm)
  have g_a27 : n0 ≤ a27 := by omega
  have l_a27_h0 : h0 < a27 := by have := hO.lt; omega
  have hW := cW_kept hW (fun b t hb => o1 b (by have := hW_lt (N := nN N u2) hW hb; omega))
  have hO := hO.kept (o1 h0 l_a27_h0)
  have hge : n0 ≤ H.size := by omega
  refine lv_dup hx hb dX10_init_30 rfl ?_
  refine va_callv (wt_runI (As := []) (rest := [.ref a27, .ref h0]) ⟨hx, hb, hml, hown, hts⟩ (i_X1 l (nN N u2) n00 H.size a27 ⟨by omega, by omega⟩) wm_X1_init q98 ⟨rfl, rfl⟩ ⟨Nat.le_of_ble_eq_true rfl, Nat.le_of_ble_eq_true rfl⟩ (cI_pre hK hW hT hnn hAO hS h00 hN_a27 n_a27) rfl hl.1 rfl (Nat.le_of_ble_eq_true rfl) dX10_init_31 ⟨Nat.le_of_ble_eq_true rfl, Nat.le_of_ble_eq_true rfl⟩) hS (fun x hx9 h9 => Or.inr (by rcases h9 with h9 | h9 <;> omega)) (fun x h9 => Or.inr (by rcases h9 with h9 | h9 <;> omega)) (fun u3 t H1 locs ht hvm hp hB hz hk hS => ?_)
  have hz0 : H.size = a27 + 1 := hs_a27
  have hR : iR p10 N n0 h0 u3 := iR_call hR hp.1 (fun t h => pq_pl_p10 h) hp.2.1 (by decide) g_a27 (by omega)
  have k_a5 : u3.1 a5 = some 9 := iX_k hp.1 hW n_a27 (Nat.le_refl _) k_a5
  have k_a16 : u3.1 a16 = some 3 := iX_k hp.1 hW n_a27 (Nat.le_refl _) k_a16
  have hno : u3.1 h0 = none := (hp.1.1 h0 (by omega) (by omega)).1.trans hno
  have hO := hO.kept (show t.heap[h0]? = _ by rw [ht]; exact hk h0 (by omega) (by intro z; rcases z with z | z <;> omega))
  have k_a27 : u3.1 a27 = some 1 := hp.2.1
  have hM := pM_call hM hp.1 hp.2.1 (by decide)
  have hW : cW (nN N u3) t.heap := hB
  rw [ht] at hW hO
  have hge : n0 ≤ H1.size := by omega
  clear hB
  obtain ⟨H, eH⟩ : ∃ X : Heap, X = H1 := ⟨_, rfl⟩
  rw [← eH] at hW hge hS hO ⊢
  refine wi_put (v := .ref a27) hx hb hts cfX10 tyX10 tyX10_ok nmX10 hown hin hK hO hS (Or.inl rfl) rfl 2 (by decide) q295 rfl rfl rfl dX10_init_34 (fun H locs hO oq hz hS => ?_)
  have hW := cW_kept hW (fun b t hb => oq b (by intro z; rw [z, hno] at hb; cases hb))
  have hge : n0 ≤ H.size := by omega
  refine lv_aload_n hx hb dX10_init_37 rfl (lv_at hl 0 rfl) ?_
  refine wi_new (ci := 5) hx hb hts cfX5 tyX5 tyX5_ok hown q120 q121 q5 hK hS rfl (Nat.le_of_ble_eq_true rfl) (Nat.le_of_ble_eq_true rfl) dX10_init_38 (fun a38 H eq hz o1 hN_a38 hS => ?_)
  have hs_a38 := hz
  have n_a38 := cW_none hW (Nat.le_of_eq eq.symm)
  have g_a38 : n0 ≤ a38 := by omega
  have l_a38_h0 : h0 < a38 := by have := hO.lt; omega
  have hW := cW_kept hW (fun b t hb => o1 b (by have := hW_lt (N := nN N u3) hW hb; omega))
  have hO := hO.kept (o1 h0 l_a38_h0)
  have hge : n0 ≤ H.size := by omega
  refine lv_dup hx hb dX10_init_41 rfl ?_
  refine va_callv (wt_runIN (As := []) (rest := [.ref a38, .ref h0]) ⟨hx, hb, hml, hown, hts⟩ hnn (i_X5 l (nN N u3) n00 H.size a38 ⟨by omega, by omega⟩) wm_X5_init q122 ⟨rfl, rfl⟩ ⟨Nat.le_of_ble_eq_true rfl, Nat.le_of_ble_eq_true rfl⟩ (cI_pre hK hW hT hnn hAO hS h00 hN_a38 n_a38) rfl hl.1 rfl (Nat.le_of_ble_eq_true rfl) dX10_init_42 ⟨Nat.le_of_ble_eq_true rfl, Nat.le_of_ble_eq_true rfl⟩) hS (fun x hx9 h9 => Or.inr (by rcases h9 with h9 | h9 <;> omega)) (fun x h9 => Or.inr (by rcases h9 with h9 | h9 <;> omega)) (fun u4 t H1 locs ht hvm hp hB hz hk hS => ?_)
  have hz0 : H.size = a38 + 1 := hs_a38
  have hR : iR p10 N n0 h0 u4 := iR_call hR hp.1 (fun t h => pq_p5_p10 h) hp.2.1 (by decide) g_a38 (by omega)
  have k_a5 : u4.1 a5 = some 9 := iX_k hp.1 hW n_a38 (Nat.le_refl _) k_a5
  have k_a16 : u4.1 a16 = some 3 := iX_k hp.1 hW n_a38 (Nat.le_refl _) k_a16
  have k_a27 : u4.1 a27 = some 1 := iX_k hp.1 hW n_a38 (Nat.le_refl _) k_a27
  have hno : u4.1 h0 = none := (hp.1.1 h0 (by omega) (by omega)).1.trans hno
  have hO := hO.kept (show t.heap[h0]? = _ by rw [ht]; exact hk h0 (by omega) (by intro z; rcases z with z | z <;> omega))
  have k_a38 : u4.1 a38 = some 5 := hp.2.1
  obtain ⟨rU, rV, hM⟩ := uM_media hM hp.1 hp.2.1 (by omega) hp.2.2
  have hW : cW (nN N u4) t.heap := hB
  rw [ht] at hW hO
  have hge : n0 ≤ H1.size := by omega
  clear hB
  obtain ⟨H, eH⟩ : ∃ X : Heap, X = H1 := ⟨_, rfl⟩
  rw [← eH] at hW hge hS hO ⊢
  refine wi_put (v := .ref a38) hx hb hts cfX10 tyX10 tyX10_ok nmX10 hown hin hK hO hS (Or.inl rfl) rfl 3 (by decide) q296 rfl rfl rfl dX10_init_45 (fun H locs hO oq hz hS => ?_)
  have hW := cW_kept hW (fun b t hb => oq b (by intro z; rw [z, hno] at hb; cases hb))
  have hge : n0 ≤ H.size := by omega
  refine lv_aload_n hx hb dX10_init_48 rfl (lv_at hl 0 rfl) ?_
  refine wi_new (ci := 6) hx hb hts cfX6 tyX6 tyX6_ok hown q156 q157 q6 hK hS rfl (Nat.le_of_ble_eq_true rfl) (Nat.le_of_ble_eq_true rfl) dX10_init_49 (fun a49 H eq hz o1 hN_a49 hS => ?_)
  have hs_a49 := hz
  have n_a49 := cW_none hW (Nat.le_of_eq eq.symm)
  have g_a49 : n0 ≤ a49 := by omega
  have l_a49_h0 : h0 < a49 := by have := hO.lt; omega
  have hW := cW_kept hW (fun b t hb => o1 b (by have := hW_lt (N := nN N u4) hW hb; omega))
  have hO := hO.kept (o1 h0 l_a49_h0)
  have hge : n0 ≤ H.size := by omega
  refine lv_dup hx hb dX10_init_52 rfl ?_
  refine va_callv (wt_runI (As := []) (rest := [.ref a49, .ref h0]) ⟨hx, hb, hml, hown, hts⟩ (i_X6 l (nN N u4) n00 H.size a49 ⟨by omega, by omega⟩) wm_X6_init q158 ⟨rfl, rfl⟩ ⟨Nat.le_of_ble_eq_true rfl, Nat.le_of_ble_eq_true rfl⟩ (cI_pre hK hW hT hnn hAO hS h00 hN_a49 n_a49) rfl hl.1 rfl (Nat.le_of_ble_eq_true rfl) dX10_init_53 ⟨Nat.le_of_ble_eq_true rfl, Nat.le_of_ble_eq_true rfl⟩) hS (fun x hx9 h9 => Or.inr (by rcases h9 with h9 | h9 <;> omega)) (fun x h9 => Or.inr (by rcases h9 with h9 | h9 <;> omega)) (fun u5 t H1 locs ht hvm hp hB hz hk hS => ?_)
  have hz0 : H.size = a49 + 1 := hs_a49
  have hR : iR p10 N n0 h0 u5 := iR_call hR hp.1 (fun t h => pq_pl_p10 h) hp.2.1 (by decide) g_a49 (by omega)
  have k_a5 : u5.1 a5 = some 9 := iX_k hp.1 hW n_a49 (Nat.le_refl _) k_a5
  have k_a16 : u5.1 a16 = some 3 := iX_k hp.1 hW n_a49 (Nat.le_refl _) k_a16
  have k_a27 : u5.1 a27 = some 1 := iX_k hp.1 hW n_a49 (Nat.le_refl _) k_a27
  have k_a38 : u5.1 a38 = some 5 := iX_k hp.1 hW n_a49 (Nat.le_refl _) k_a38
  have hno : u5.1 h0 = none := (hp.1.1 h0 (by omega) (by omega)).1.trans hno
  have hO := hO.kept (show t.heap[h0]? = _ by rw [ht]; exact hk h0 (by omega) (by intro z; rcases z with z | z <;> omega))
  have k_a49 : u5.1 a49 = some 6 := hp.2.1
  have hM := uM_call hM hp.1 hp.2.1 (by decide) hW n_a49 (Nat.le_refl _)
  have hW : cW (nN N u5) t.heap := hB
  rw [ht] at hW hO
  have hge : n0 ≤ H1.size := by omega
  clear hB
  obtain ⟨H, eH⟩ : ∃ X : Heap, X = H1 := ⟨_, rfl⟩
  rw [← eH] at hW hge hS hO ⊢
  refine wi_put (v := .ref a49) hx hb hts cfX10 tyX10 tyX10_ok nmX10 hown hin hK hO hS (Or.inl rfl) rfl 4 (by decide) q297 rfl rfl rfl dX10_init_56 (fun H locs hO oq hz hS => ?_)
  have hW := cW_kept hW (fun b t hb => oq b (by intro z; rw [z, hno] at hb; cases hb))
  have hge : n0 ≤ H.size := by omega
  refine lv_aload_n hx hb dX10_init_59 rfl (lv_at hl 0 rfl) ?_
  refine wi_new (ci := 7) hx hb hts cfX7 tyX7 tyX7_ok hown q230 q231 q9 hK hS rfl (Nat.le_of_ble_eq_true rfl) (Nat.le_of_ble_eq_true rfl) dX10_init_60 (fun a60 H eq hz o1 hN_a60 hS => ?_)
  have hs_a60 := hz
  have n_a60 := cW_none hW (Nat.le_of_eq eq.symm)
  have g_a60 : n0 ≤ a60 := by omega
  have l_a60_h0 : h0 < a60 := by have := hO.lt; omega
  have hW := cW_kept hW (fun b t hb => o1 b (by have := hW_lt (N := nN N u5) hW hb; omega))
  have hO := hO.kept (o1 h0 l_a60_h0)
  have hge : n0 ≤ H.size := by omega
  refine lv_dup hx hb dX10_init_63 rfl ?_
  refine va_callv (wt_runI (As := []) (rest := [.ref a60, .ref h0]) ⟨hx, hb, hml, hown, hts⟩ (i_X7 l (nN N u5) n00 H.size a60 ⟨by omega, by omega⟩) wm_X7_init q232 ⟨rfl, rfl⟩ ⟨Nat.le_of_ble_eq_true rfl, Nat.le_of_ble_eq_true rfl⟩ (cI_pre hK hW hT hnn hAO hS h00 hN_a60 n_a60) rfl hl.1 rfl (Nat.le_of_ble_eq_true rfl) dX10_init_64 ⟨Nat.le_of_ble_eq_true rfl, Nat.le_of_ble_eq_true rfl⟩) hS (fun x hx9 h9 => Or.inr (by rcases h9 with h9 | h9 <;> omega)) (fun x h9 => Or.inr (by rcases h9 with h9 | h9 <;> omega)) (fun u6 t H1 locs ht hvm hp hB hz hk hS => ?_)
  have hz0 : H.size = a60 + 1 := hs_a60
  have hR : iR p10 N n0 h0 u6 := iR_call hR hp.1 (fun t h => pq_pl_p10 h) hp.2.1 (by decide) g_a60 (by omega)
  have k_a5 : u6.1 a5 = some 9 := iX_k hp.1 hW n_a60 (Nat.le_refl _) k_a5
  have k_a16 : u6.1 a16 = some 3 := iX_k hp.1 hW n_a60 (Nat.le_refl _) k_a16
  have k_a27 : u6.1 a27 = some 1 := iX_k hp.1 hW n_a60 (Nat.le_refl _) k_a27
  have k_a38 : u6.1 a38 = some 5 := iX_k hp.1 hW n_a60 (Nat.le_refl _) k_a38
  have k_a49 : u6.1 a49 = some 6 := iX_k hp.1 hW n_a60 (Nat.le_refl _) k_a49
  have hno : u6.1 h0 = none := (hp.1.1 h0 (by omega) (by omega)).1.trans hno
  have hO := hO.kept (show t.heap[h0]? = _ by rw [ht]; exact hk h0 (by omega) (by intro z; rcases z with z | z <;> omega))
  have k_a60 : u6.1 a60 = some 7 := hp.2.1
  have hM := uM_call hM hp.1 hp.2.1 (by decide) hW n_a60 (Nat.le_refl _)
  have hW : cW (nN N u6) t.heap := hB
  rw [ht] at hW hO
  have hge : n0 ≤ H1.size := by omega
  clear hB
  obtain ⟨H, eH⟩ : ∃ X : Heap, X = H1 := ⟨_, rfl⟩
  rw [← eH] at hW hge hS hO ⊢
  refine wi_put (v := .ref a60) hx hb hts cfX10 tyX10 tyX10_ok nmX10 hown hin hK hO hS (Or.inl rfl) rfl 5 (by decide) q298 rfl rfl rfl dX10_init_67 (fun H locs hO oq hz hS => ?_)
  have hW := cW_kept hW (fun b t hb => oq b (by intro z; rw [z, hno] at hb; cases hb))
  have hge : n0 ≤ H.size := by omega
  refine lv_aload_n hx hb dX10_init_70 rfl (lv_at hl 0 rfl) ?_
  refine lv_iconst (v := 4) hx hb dX10_init_71 (by decide) ?_
  refine wi_anew (n := 4) (N := 4) hx hb hts hown q246 hAO.2.2.1 hK hS 3 rfl (by decide) (by decide) (Nat.le_of_ble_eq_true rfl) (Nat.le_of_ble_eq_true rfl) (Nat.le_of_ble_eq_true rfl) dX10_init_72 (fun a72 H eq hz o1 hN_a72 hS => ?_)
  have n_a72 := cW_none hW (Nat.le_of_eq eq.symm)
  have g_a72 : n0 ≤ a72 := by omega
  have l_a72_h0 : h0 < a72 := by have := hO.lt; omega
  have hW := cW_kept hW (fun b t hb => o1 b (by have := hW_lt (N := nN N u6) hW hb; omega))
  have hO := hO.kept (o1 h0 l_a72_h0)
  have hge : n0 ≤ H.size := by omega
  refine wi_put (v := .ref a72) hx hb hts cfX10 tyX10 tyX10_ok nmX10 hown hin hK hO hS (Or.inl rfl) rfl 6 (by decide) q299 rfl rfl rfl dX10_init_75 (fun H locs hO oq hz hS => ?_)
  have hW := cW_kept hW (fun b t hb => oq b (by intro z; rw [z, hno] at hb; cases hb))
  have hN_a72 := hN_a72.kept (oq a72 (by omega))
  have hge : n0 ≤ H.size := by omega
  refine lv_aload_n hx hb dX10_init_78 rfl (lv_at hl 0 rfl) ?_
  refine wi_new (ci := 4) hx hb hts cfX4 tyX4 tyX4_ok hown q248 q181 q8 hK hS rfl (Nat.le_of_ble_eq_true rfl) (Nat.le_of_ble_eq_true rfl) dX10_init_79 (fun a79 H eq hz o1 hN_a79 hS => ?_)
  have hs_a79 := hz
  have n_a79 := cW_none hW (Nat.le_of_eq eq.symm)
  have g_a79 : n0 ≤ a79 := by omega
  have l_a79_h0 : h0 < a79 := by have := hO.lt; omega
  have l_a79_a72 : a72 < a79 := by have := hN_a72.lt; omega
  have hW := cW_kept hW (fun b t hb => o1 b (by have := hW_lt (N := nN N u6) hW hb; omega))
  have hO := hO.kept (o1 h0 l_a79_h0)
  have hN_a72 := hN_a72.kept (o1 a72 l_a79_a72)
  have hge : n0 ≤ H.size := by omega
  refine lv_dup hx hb dX10_init_82 rfl ?_
  refine va_callv (wt_runIN (As := []) (rest := [.ref a79, .ref h0]) ⟨hx, hb, hml, hown, hts⟩ hnn (i_X4 l (nN N u6) n00 H.size a79 ⟨by omega, by omega⟩) wm_X4_init q249 ⟨rfl, rfl⟩ ⟨Nat.le_of_ble_eq_true rfl, Nat.le_of_ble_eq_true rfl⟩ (cI_pre hK hW hT hnn hAO hS h00 hN_a79 n_a79) rfl hl.1 rfl (Nat.le_of_ble_eq_true rfl) dX10_init_83 ⟨Nat.le_of_ble_eq_true rfl, Nat.le_of_ble_eq_true rfl⟩) hS (fun x hx9 h9 => Or.inr (by rcases h9 with h9 | h9 <;> omega)) (fun x h9 => Or.inr (by rcases h9 with h9 | h9 <;> omega)) (fun u7 t H1 locs ht hvm hp hB hz hk hS => ?_)
  have hz0 : H.size = a79 + 1 := hs_a79
  have hR : iR p10 N n0 h0 u7 := iR_call hR hp.1 (fun t h => pq_pl_p10 h) hp.2.1 (by decide) g_a79 (by omega)
  have k_a5 : u7.1 a5 = some 9 := iX_k hp.1 hW n_a79 (Nat.le_refl _) k_a5
  have k_a16 : u7.1 a16 = some 3 := iX_k hp.1 hW n_a79 (Nat.le_refl _) k_a16
  have k_a27 : u7.1 a27 = some 1 := iX_k hp.1 hW n_a79 (Nat.le_refl _) k_a27
  have k_a38 : u7.1 a38 = some 5 := iX_k hp.1 hW n_a79 (Nat.le_refl _) k_a38
  have k_a49 : u7.1 a49 = some 6 := iX_k hp.1 hW n_a79 (Nat.le_refl _) k_a49
  have k_a60 : u7.1 a60 = some 7 := iX_k hp.1 hW n_a79 (Nat.le_refl _) k_a60
  have hno : u7.1 h0 = none := (hp.1.1 h0 (by omega) (by omega)).1.trans hno
  have hO := hO.kept (show t.heap[h0]? = _ by rw [ht]; exact hk h0 (by omega) (by intro z; rcases z with z | z <;> omega))
  have n_a72 : u7.1 a72 = none := (hp.1.1 a72 (by omega) (by omega)).1.trans n_a72
  have hN_a72 := hN_a72.kept (show t.heap[a72]? = _ by rw [ht]; exact hk a72 (by omega) (by intro z; rcases z with z | z <;> omega))
  have k_a79 : u7.1 a79 = some 4 := hp.2.1
  have hM := uM_call hM hp.1 hp.2.1 (by decide) hW n_a79 (Nat.le_refl _)
  have hW : cW (nN N u7) t.heap := hB
  rw [ht] at hW hO hN_a72
  have hge : n0 ≤ H1.size := by omega
  clear hB
  obtain ⟨H, eH⟩ : ∃ X : Heap, X = H1 := ⟨_, rfl⟩
  rw [← eH] at hW hge hS hO hN_a72 ⊢
  refine wi_put (v := .ref a79) hx hb hts cfX10 tyX10 tyX10_ok nmX10 hown hin hK hO hS (Or.inl rfl) rfl 7 (by decide) q300 rfl rfl rfl dX10_init_86 (fun H locs hO oq hz hS => ?_)
  have hW := cW_kept hW (fun b t hb => oq b (by intro z; rw [z, hno] at hb; cases hb))
  have hN_a72 := hN_a72.kept (oq a72 (by omega))
  have hge : n0 ≤ H.size := by omega
  refine lv_aload_n hx hb dX10_init_89 rfl (lv_at hl 0 rfl) ?_
  refine wi_new (ci := 8) hx hb hts cfX8 tyX8 tyX8_ok hown q250 q165 q7 hK hS rfl (Nat.le_of_ble_eq_true rfl) (Nat.le_of_ble_eq_true rfl) dX10_init_90 (fun a90 H eq hz o1 hN_a90 hS => ?_)
  have hs_a90 := hz
  have n_a90 := cW_none hW (Nat.le_of_eq eq.symm)
  have g_a90 : n0 ≤ a90 := by omega
  have l_a90_h0 : h0 < a90 := by have := hO.lt; omega
  have l_a90_a72 : a72 < a90 := by have := hN_a72.lt; omega
  have hW := cW_kept hW (fun b t hb => o1 b (by have := hW_lt (N := nN N u7) hW hb; omega))
  have hO := hO.kept (o1 h0 l_a90_h0)
  have hN_a72 := hN_a72.kept (o1 a72 l_a90_a72)
  have hge : n0 ≤ H.size := by omega
  refine lv_dup hx hb dX10_init_93 rfl ?_
  refine va_callv (wt_runIN (As := []) (rest := [.ref a90, .ref h0]) ⟨hx, hb, hml, hown, hts⟩ hnn (i_X8 l (nN N u7) n00 H.size a90 ⟨by omega, by omega⟩) wm_X8_init q251 ⟨rfl, rfl⟩ ⟨Nat.le_of_ble_eq_true rfl, Nat.le_of_ble_eq_true rfl⟩ (cI_pre hK hW hT hnn hAO hS h00 hN_a90 n_a90) rfl hl.1 rfl (Nat.le_of_ble_eq_true rfl) dX10_init_94 ⟨Nat.le_of_ble_eq_true rfl, Nat.le_of_ble_eq_true rfl⟩) hS (fun x hx9 h9 => Or.inr (by rcases h9 with h9 | h9 <;> omega)) (fun x h9 => Or.inr (by rcases h9 with h9 | h9 <;> omega)) (fun u8 t H1 locs ht hvm hp hB hz hk hS => ?_)
  have hz0 : H.size = a90 + 1 := hs_a90
  have hR : iR p10 N n0 h0 u8 := iR_call hR hp.1 (fun t h => pq_pl_p10 h) hp.2.1 (by decide) g_a90 (by omega)
  have k_a5 : u8.1 a5 = some 9 := iX_k hp.1 hW n_a90 (Nat.le_refl _) k_a5
  have k_a16 : u8.1 a16 = some 3 := iX_k hp.1 hW n_a90 (Nat.le_refl _) k_a16
  have k_a27 : u8.1 a27 = some 1 := iX_k hp.1 hW n_a90 (Nat.le_refl _) k_a27
  have k_a38 : u8.1 a38 = some 5 := iX_k hp.1 hW n_a90 (Nat.le_refl _) k_a38
  have k_a49 : u8.1 a49 = some 6 := iX_k hp.1 hW n_a90 (Nat.le_refl _) k_a49
  have k_a60 : u8.1 a60 = some 7 := iX_k hp.1 hW n_a90 (Nat.le_refl _) k_a60
  have k_a79 : u8.1 a79 = some 4 := iX_k hp.1 hW n_a90 (Nat.le_refl _) k_a79
  have hno : u8.1 h0 = none := (hp.1.1 h0 (by omega) (by omega)).1.trans hno
  have hO := hO.kept (show t.heap[h0]? = _ by rw [ht]; exact hk h0 (by omega) (by intro z; rcases z with z | z <;> omega))
  have n_a72 : u8.1 a72 = none := (hp.1.1 a72 (by omega) (by omega)).1.trans n_a72
  have hN_a72 := hN_a72.kept (show t.heap[a72]? = _ by rw [ht]; exact hk a72 (by omega) (by intro z; rcases z with z | z <;> omega))
  have k_a90 : u8.1 a90 = some 8 := hp.2.1
  have hM := uM_call hM hp.1 hp.2.1 (by decide) hW n_a90 (Nat.le_refl _)
  have hW : cW (nN N u8) t.heap := hB
  rw [ht] at hW hO hN_a72
  have hge : n0 ≤ H1.size := by omega
  clear hB
  obtain ⟨H, eH⟩ : ∃ X : Heap, X = H1 := ⟨_, rfl⟩
  rw [← eH] at hW hge hS hO hN_a72 ⊢
  refine wi_put (v := .ref a90) hx hb hts cfX10 tyX10 tyX10_ok nmX10 hown hin hK hO hS (Or.inl rfl) rfl 8 (by decide) q301 rfl rfl rfl dX10_init_97 (fun H locs hO oq hz hS => ?_)
  have hW := cW_kept hW (fun b t hb => oq b (by intro z; rw [z, hno] at hb; cases hb))
  have hN_a72 := hN_a72.kept (oq a72 (by omega))
  have hge : n0 ≤ H.size := by omega
  refine lv_aload_n hx hb dX10_init_100 rfl (lv_at hl 0 rfl) ?_
  refine wi_new (ci := 0) hx hb hts cfX0 tyX0 tyX0_ok hown q252 q253 q10 hK hS rfl (Nat.le_of_ble_eq_true rfl) (Nat.le_of_ble_eq_true rfl) dX10_init_101 (fun a101 H eq hz o1 hN_a101 hS => ?_)
  have hs_a101 := hz
  have n_a101 := cW_none hW (Nat.le_of_eq eq.symm)
  have g_a101 : n0 ≤ a101 := by omega
  have l_a101_h0 : h0 < a101 := by have := hO.lt; omega
  have l_a101_a72 : a72 < a101 := by have := hN_a72.lt; omega
  have hW := cW_kept hW (fun b t hb => o1 b (by have := hW_lt (N := nN N u8) hW hb; omega))
  have hO := hO.kept (o1 h0 l_a101_h0)
  have hN_a72 := hN_a72.kept (o1 a72 l_a101_a72)
  have hge : n0 ≤ H.size := by omega
  refine lv_dup hx hb dX10_init_104 rfl ?_
  refine va_callv (wt_runIN (As := []) (rest := [.ref a101, .ref h0]) ⟨hx, hb, hml, hown, hts⟩ hnn (i_X0 l (nN N u8) n00 H.size a101 ⟨by omega, by omega⟩) wm_X0_init q254 ⟨rfl, rfl⟩ ⟨Nat.le_of_ble_eq_true rfl, Nat.le_of_ble_eq_true rfl⟩ (cI_pre hK hW hT hnn hAO hS h00 hN_a101 n_a101) rfl hl.1 rfl (Nat.le_of_ble_eq_true rfl) dX10_init_105 ⟨Nat.le_of_ble_eq_true rfl, Nat.le_of_ble_eq_true rfl⟩) hS (fun x hx9 h9 => Or.inr (by rcases h9 with h9 | h9 <;> omega)) (fun x h9 => Or.inr (by rcases h9 with h9 | h9 <;> omega)) (fun u9 t H1 locs ht hvm hp hB hz hk hS => ?_)
  have hz0 : H.size = a101 + 1 := hs_a101
  have hR : iR p10 N n0 h0 u9 := iR_call hR hp.1 (fun t h => pq_pl_p10 h) hp.2.1 (by decide) g_a101 (by omega)
  have k_a5 : u9.1 a5 = some 9 := iX_k hp.1 hW n_a101 (Nat.le_refl _) k_a5
  have k_a16 : u9.1 a16 = some 3 := iX_k hp.1 hW n_a101 (Nat.le_refl _) k_a16
  have k_a27 : u9.1 a27 = some 1 := iX_k hp.1 hW n_a101 (Nat.le_refl _) k_a27
  have k_a38 : u9.1 a38 = some 5 := iX_k hp.1 hW n_a101 (Nat.le_refl _) k_a38
  have k_a49 : u9.1 a49 = some 6 := iX_k hp.1 hW n_a101 (Nat.le_refl _) k_a49
  have k_a60 : u9.1 a60 = some 7 := iX_k hp.1 hW n_a101 (Nat.le_refl _) k_a60
  have k_a79 : u9.1 a79 = some 4 := iX_k hp.1 hW n_a101 (Nat.le_refl _) k_a79
  have k_a90 : u9.1 a90 = some 8 := iX_k hp.1 hW n_a101 (Nat.le_refl _) k_a90
  have hno : u9.1 h0 = none := (hp.1.1 h0 (by omega) (by omega)).1.trans hno
  have hO := hO.kept (show t.heap[h0]? = _ by rw [ht]; exact hk h0 (by omega) (by intro z; rcases z with z | z <;> omega))
  have n_a72 : u9.1 a72 = none := (hp.1.1 a72 (by omega) (by omega)).1.trans n_a72
  have hN_a72 := hN_a72.kept (show t.heap[a72]? = _ by rw [ht]; exact hk a72 (by omega) (by intro z; rcases z with z | z <;> omega))
  have k_a101 : u9.1 a101 = some 0 := hp.2.1
  have hM := uM_call hM hp.1 hp.2.1 (by decide) hW n_a101 (Nat.le_refl _)
  have hW : cW (nN N u9) t.heap := hB
  rw [ht] at hW hO hN_a72
  have hge : n0 ≤ H1.size := by omega
  clear hB
  obtain ⟨H, eH⟩ : ∃ X : Heap, X = H1 := ⟨_, rfl⟩
  rw [← eH] at hW hge hS hO hN_a72 ⊢
  refine wi_put (v := .ref a101) hx hb hts cfX10 tyX10 tyX10_ok nmX10 hown hin hK hO hS (Or.inl rfl) rfl 9 (by decide) q302 rfl rfl rfl dX10_init_108 (fun H locs hO oq hz hS => ?_)
  have hW := cW_kept hW (fun b t hb => oq b (by intro z; rw [z, hno] at hb; cases hb))
  have hN_a72 := hN_a72.kept (oq a72 (by omega))
  have hge : n0 ≤ H.size := by omega
  refine lv_aload_n hx hb dX10_init_111 rfl (lv_at hl 0 rfl) ?_
  refine wi_new (ci := 0) hx hb hts cfX0 tyX0 tyX0_ok hown q252 q253 q10 hK hS rfl (Nat.le_of_ble_eq_true rfl) (Nat.le_of_ble_eq_true rfl) dX10_init_112 (fun a112 H eq hz o1 hN_a112 hS => ?_)
  have hs_a112 := hz
  have n_a112 := cW_none hW (Nat.le_of_eq eq.symm)
  have g_a112 : n0 ≤ a112 := by omega
  have l_a112_h0 : h0 < a112 := by have := hO.lt; omega
  have l_a112_a72 : a72 < a112 := by have := hN_a72.lt; omega
  have hW := cW_kept hW (fun b t hb => o1 b (by have := hW_lt (N := nN N u9) hW hb; omega))
  have hO := hO.kept (o1 h0 l_a112_h0)
  have hN_a72 := hN_a72.kept (o1 a72 l_a112_a72)
  have hge : n0 ≤ H.size := by omega
  refine lv_dup hx hb dX10_init_115 rfl ?_
  refine va_callv (wt_runIN (As := []) (rest := [.ref a112, .ref h0]) ⟨hx, hb, hml, hown, hts⟩ hnn (i_X0 l (nN N u9) n00 H.size a112 ⟨by omega, by omega⟩) wm_X0_init q254 ⟨rfl, rfl⟩ ⟨Nat.le_of_ble_eq_true rfl, Nat.le_of_ble_eq_true rfl⟩ (cI_pre hK hW hT hnn hAO hS h00 hN_a112 n_a112) rfl hl.1 rfl (Nat.le_of_ble_eq_true rfl) dX10_init_116 ⟨Nat.le_of_ble_eq_true rfl, Nat.le_of_ble_eq_true rfl⟩) hS (fun x hx9 h9 => Or.inr (by rcases h9 with h9 | h9 <;> omega)) (fun x h9 => Or.inr (by rcases h9 with h9 | h9 <;> omega)) (fun u10 t H1 locs ht hvm hp hB hz hk hS => ?_)
  have hz0 : H.size = a112 + 1 := hs_a112
  have hR : iR p10 N n0 h0 u10 := iR_call hR hp.1 (fun t h => pq_pl_p10 h) hp.2.1 (by decide) g_a112 (by omega)
  have k_a5 : u10.1 a5 = some 9 := iX_k hp.1 hW n_a112 (Nat.le_refl _) k_a5
  have k_a16 : u10.1 a16 = some 3 := iX_k hp.1 hW n_a112 (Nat.le_refl _) k_a16
  have k_a27 : u10.1 a27 = some 1 := iX_k hp.1 hW n_a112 (Nat.le_refl _) k_a27
  have k_a38 : u10.1 a38 = some 5 := iX_k hp.1 hW n_a112 (Nat.le_refl _) k_a38
  have k_a49 : u10.1 a49 = some 6 := iX_k hp.1 hW n_a112 (Nat.le_refl _) k_a49
  have k_a60 : u10.1 a60 = some 7 := iX_k hp.1 hW n_a112 (Nat.le_refl _) k_a60
  have k_a79 : u10.1 a79 = some 4 := iX_k hp.1 hW n_a112 (Nat.le_refl _) k_a79
  have k_a90 : u10.1 a90 = some 8 := iX_k hp.1 hW n_a112 (Nat.le_refl _) k_a90
  have k_a101 : u10.1 a101 = some 0 := iX_k hp.1 hW n_a112 (Nat.le_refl _) k_a101
  have hno : u10.1 h0 = none := (hp.1.1 h0 (by omega) (by omega)).1.trans hno
  have hO := hO.kept (show t.heap[h0]? = _ by rw [ht]; exact hk h0 (by omega) (by intro z; rcases z with z | z <;> omega))
  have n_a72 : u10.1 a72 = none := (hp.1.1 a72 (by omega) (by omega)).1.trans n_a72
  have hN_a72 := hN_a72.kept (show t.heap[a72]? = _ by rw [ht]; exact hk a72 (by omega) (by intro z; rcases z with z | z <;> omega))
  have k_a112 : u10.1 a112 = some 0 := hp.2.1
  have hM := uM_call hM hp.1 hp.2.1 (by decide) hW n_a112 (Nat.le_refl _)
  have hW : cW (nN N u10) t.heap := hB
  rw [ht] at hW hO hN_a72
  have hge : n0 ≤ H1.size := by omega
  clear hB
  obtain ⟨H, eH⟩ : ∃ X : Heap, X = H1 := ⟨_, rfl⟩
  rw [← eH] at hW hge hS hO hN_a72 ⊢
  refine wi_put (v := .ref a112) hx hb hts cfX10 tyX10 tyX10_ok nmX10 hown hin hK hO hS (Or.inl rfl) rfl 10 (by decide) q303 rfl rfl rfl dX10_init_119 (fun H locs hO oq hz hS => ?_)
  have hW := cW_kept hW (fun b t hb => oq b (by intro z; rw [z, hno] at hb; cases hb))
  have hN_a72 := hN_a72.kept (oq a72 (by omega))
  have hge : n0 ≤ H.size := by omega
  refine lv_aload_n hx hb dX10_init_122 rfl (lv_at hl 0 rfl) ?_
  refine wi_new (ci := 0) hx hb hts cfX0 tyX0 tyX0_ok hown q252 q253 q10 hK hS rfl (Nat.le_of_ble_eq_true rfl) (Nat.le_of_ble_eq_true rfl) dX10_init_123 (fun a123 H eq hz o1 hN_a123 hS => ?_)
  have hs_a123 := hz
  have n_a123 := cW_none hW (Nat.le_of_eq eq.symm)
  have g_a123 : n0 ≤ a123 := by omega
  have l_a123_h0 : h0 < a123 := by have := hO.lt; omega
  have l_a123_a72 : a72 < a123 := by have := hN_a72.lt; omega
  have hW := cW_kept hW (fun b t hb => o1 b (by have := hW_lt (N := nN N u10) hW hb; omega))
  have hO := hO.kept (o1 h0 l_a123_h0)
  have hN_a72 := hN_a72.kept (o1 a72 l_a123_a72)
  have hge : n0 ≤ H.size := by omega
  refine lv_dup hx hb dX10_init_126 rfl ?_
  refine va_callv (wt_runIN (As := []) (rest := [.ref a123, .ref h0]) ⟨hx, hb, hml, hown, hts⟩ hnn (i_X0 l (nN N u10) n00 H.size a123 ⟨by omega, by omega⟩) wm_X0_init q254 ⟨rfl, rfl⟩ ⟨Nat.le_of_ble_eq_true rfl, Nat.le_of_ble_eq_true rfl⟩ (cI_pre hK hW hT hnn hAO hS h00 hN_a123 n_a123) rfl hl.1 rfl (Nat.le_of_ble_eq_true rfl) dX10_init_127 ⟨Nat.le_of_ble_eq_true rfl, Nat.le_of_ble_eq_true rfl⟩) hS (fun x hx9 h9 => Or.inr (by rcases h9 with h9 | h9 <;> omega)) (fun x h9 => Or.inr (by rcases h9 with h9 | h9 <;> omega)) (fun u11 t H1 locs ht hvm hp hB hz hk hS => ?_)
  have hz0 : H.size = a123 + 1 := hs_a123
  have hR : iR p10 N n0 h0 u11 := iR_call hR hp.1 (fun t h => pq_pl_p10 h) hp.2.1 (by decide) g_a123 (by omega)
  have k_a5 : u11.1 a5 = some 9 := iX_k hp.1 hW n_a123 (Nat.le_refl _) k_a5
  have k_a16 : u11.1 a16 = some 3 := iX_k hp.1 hW n_a123 (Nat.le_refl _) k_a16
  have k_a27 : u11.1 a27 = some 1 := iX_k hp.1 hW n_a123 (Nat.le_refl _) k_a27
  have k_a38 : u11.1 a38 = some 5 := iX_k hp.1 hW n_a123 (Nat.le_refl _) k_a38
  have k_a49 : u11.1 a49 = some 6 := iX_k hp.1 hW n_a123 (Nat.le_refl _) k_a49
  have k_a60 : u11.1 a60 = some 7 := iX_k hp.1 hW n_a123 (Nat.le_refl _) k_a60
  have k_a79 : u11.1 a79 = some 4 := iX_k hp.1 hW n_a123 (Nat.le_refl _) k_a79
  have k_a90 : u11.1 a90 = some 8 := iX_k hp.1 hW n_a123 (Nat.le_refl _) k_a90
  have k_a101 : u11.1 a101 = some 0 := iX_k hp.1 hW n_a123 (Nat.le_refl _) k_a101
  have k_a112 : u11.1 a112 = some 0 := iX_k hp.1 hW n_a123 (Nat.le_refl _) k_a112
  have hno : u11.1 h0 = none := (hp.1.1 h0 (by omega) (by omega)).1.trans hno
  have hO := hO.kept (show t.heap[h0]? = _ by rw [ht]; exact hk h0 (by omega) (by intro z; rcases z with z | z <;> omega))
  have n_a72 : u11.1 a72 = none := (hp.1.1 a72 (by omega) (by omega)).1.trans n_a72
  have hN_a72 := hN_a72.kept (show t.heap[a72]? = _ by rw [ht]; exact hk a72 (by omega) (by intro z; rcases z with z | z <;> omega))
  have k_a123 : u11.1 a123 = some 0 := hp.2.1
  have hM := uM_call hM hp.1 hp.2.1 (by decide) hW n_a123 (Nat.le_refl _)
  have hW : cW (nN N u11) t.heap := hB
  rw [ht] at hW hO hN_a72
  have hge : n0 ≤ H1.size := by omega
  clear hB
  obtain ⟨H, eH⟩ : ∃ X : Heap, X = H1 := ⟨_, rfl⟩
  rw [← eH] at hW hge hS hO hN_a72 ⊢
  refine wi_put (v := .ref a123) hx hb hts cfX10 tyX10 tyX10_ok nmX10 hown hin hK hO hS (Or.inl rfl) rfl 11 (by decide) q304 rfl rfl rfl dX10_init_130 (fun H locs hO oq hz hS => ?_)
  have hW := cW_kept hW (fun b t hb => oq b (by intro z; rw [z, hno] at hb; cases hb))
  have hN_a72 := hN_a72.kept (oq a72 (by omega))
  have hge : n0 ≤ H.size := by omega
  refine lv_aload_n hx hb dX10_init_133 rfl (lv_at hl 0 rfl) ?_
  refine lv_bipush (v := 96) hx hb dX10_init_134 (by decide) ?_
  refine wi_newa (atype := .int) (n := 96) (N := 96) hx hb (hts _ q52) hK hS 0 rfl (fun h => h) (by decide) (by decide) (Nat.le_of_ble_eq_true rfl) (Nat.le_of_ble_eq_true rfl) (Nat.le_of_ble_eq_true rfl) dX10_init_136 (fun a136 H eq hz o1 hN_a136 hS => ?_)
  have n_a136 := cW_none hW (Nat.le_of_eq eq.symm)
  have g_a136 : n0 ≤ a136 := by omega
  have l_a136_h0 : h0 < a136 := by have := hO.lt; omega
  have l_a136_a72 : a72 < a136 := by have := hN_a72.lt; omega
  have hW := cW_kept hW (fun b t hb => o1 b (by have := hW_lt (N := nN N u11) hW hb; omega))
  have hO := hO.kept (o1 h0 l_a136_h0)
  have hN_a72 := hN_a72.kept (o1 a72 l_a136_a72)
  have hge : n0 ≤ H.size := by omega
  obtain ⟨u12, eu12⟩ : ∃ w : iU, w = aU u11 a136 26 := ⟨_, rfl⟩
  have hW : cW (nN N u12) H := by rw [eu12]; exact cW_add hW n_a136 hN_a136 ⟨rfl, rfl, fun j v _ h => ⟨0, h⟩⟩
  have hR : iR p10 N n0 h0 u12 := by rw [eu12]; exact iR_add hR g_a136 (by decide)
  have k_a5 : u12.1 a5 = some 9 := by rw [eu12]; exact aU_old n_a136 k_a5
  have k_a16 : u12.1 a16 = some 3 := by rw [eu12]; exact aU_old n_a136 k_a16
  have k_a27 : u12.1 a27 = some 1 := by rw [eu12]; exact aU_old n_a136 k_a27
  have k_a38 : u12.1 a38 = some 5 := by rw [eu12]; exact aU_old n_a136 k_a38
  have k_a49 : u12.1 a49 = some 6 := by rw [eu12]; exact aU_old n_a136 k_a49
  have k_a60 : u12.1 a60 = some 7 := by rw [eu12]; exact aU_old n_a136 k_a60
  have k_a79 : u12.1 a79 = some 4 := by rw [eu12]; exact aU_old n_a136 k_a79
  have k_a90 : u12.1 a90 = some 8 := by rw [eu12]; exact aU_old n_a136 k_a90
  have k_a101 : u12.1 a101 = some 0 := by rw [eu12]; exact aU_old n_a136 k_a101
  have k_a112 : u12.1 a112 = some 0 := by rw [eu12]; exact aU_old n_a136 k_a112
  have k_a123 : u12.1 a123 = some 0 := by rw [eu12]; exact aU_old n_a136 k_a123
  have hno : u12.1 h0 = none := by rw [eu12]; exact (if_neg (by omega)).trans hno
  have n_a72 : u12.1 a72 = none := by rw [eu12]; exact (if_neg (by omega)).trans n_a72
  have k_a136 : u12.1 a136 = some 26 := by rw [eu12]; exact aU_self
  have hM : uM rU rV u12 := by rw [eu12]; exact uM_add hM n_a136 (by decide)
  refine wi_put (v := .ref a136) hx hb hts cfX10 tyX10 tyX10_ok nmX10 hown hin hK hO hS (Or.inl rfl) rfl 12 (by decide) q305 rfl rfl rfl dX10_init_138 (fun H locs hO oq hz hS => ?_)
  have hW := cW_kept hW (fun b t hb => oq b (by intro z; rw [z, hno] at hb; cases hb))
  have hN_a72 := hN_a72.kept (oq a72 (by omega))
  have hge : n0 ≤ H.size := by omega
  refine lv_aload_n hx hb dX10_init_141 rfl (lv_at hl 0 rfl) ?_
  refine lv_iconst (v := 0) hx hb dX10_init_142 (by decide) ?_
  refine wi_put (v := .int (0 : Int32)) hx hb hts cfX10 tyX10 tyX10_ok nmX10 hown hin hK hO hS (Or.inl rfl) rfl 13 (by decide) q306 rfl rfl rfl dX10_init_143 (fun H locs hO oq hz hS => ?_)
  have hW := cW_kept hW (fun b t hb => oq b (by intro z; rw [z, hno] at hb; cases hb))
  have hN_a72 := hN_a72.kept (oq a72 (by omega))
  have hge : n0 ≤ H.size := by omega
  refine lv_iconst (v := 0) hx hb dX10_init_146 (by decide) ?_
  refine lv_istore_n (lv' := [(1, .int (0 : Int32)), (0, .ref h0)]) hx hb dX10_init_147 rfl hl (by decide) rfl (fun ls hl => ?_)
  have hN_a72 := hN_a72.mono (E' := .inr (N.2.1 3, 4, fun j w => j < 0 → gr (nN N u12) 2 w)) ⟨rfl, rfl, fun _ _ _ _ z => absurd z (Nat.not_lt_zero _)⟩
  have L148 : ∀ (k : Nat) (H : Heap) (locs : List Loc) (ls : Array Slot) (u : iU) (v : Int32) (i : Nat), v.toInt = (i : Int) → i ≤ 4 → 4 < k + i → cW (nN N u) H → wt_at N.1 vwCl h0 (.inl (10, wt_fu (wt_fu (wt_fu (wt_fu (wt_fu (wt_fu (wt_fu (wt_fu (wt_fu (wt_fu (wt_fu (wt_fu (wt_fu (wt_fu (fun k v => v = defaultValue (tyX10 k)) 0 (.ref a5)) 1 (.ref a16)) 2 (.ref a27)) 3 (.ref a38)) 4 (.ref a49)) 5 (.ref a60)) 6 (.ref a72)) 7 (.ref a79)) 8 (.ref a90)) 9 (.ref a101)) 10 (.ref a112)) 11 (.ref a123)) 12 (.ref a136)) 13 (.int (0 : Int32)))) H → u.1 h0 = none → iR p10 N n0 h0 u → va_S (iA n0 h0) s.heap H locs → n0 ≤ H.size → u.1 a5 = some 9 → u.1 a16 = some 3 → u.1 a27 = some 1 → u.1 a38 = some 5 → u.1 a49 = some 6 → u.1 a60 = some 7 → u.1 a79 = some 4 → u.1 a90 = some 8 → u.1 a101 = some 0 → u.1 a112 = some 0 → u.1 a123 = some 0 → u.1 a136 = some 26 → u.1 a72 = none → wt_at N.1 vwCl a72 (.inr (N.2.1 3, 4, fun j w => j < i → gr (nN N u) 2 w)) H → uM rU rV u → lv_has ls 2 [(1, .int v), (0, .ref h0)] → WW H locs (232 + i * 54) (1843 + i * 306) (F0 m 148 ls []) := by
    intro k
    induction k with
    | zero =>
      intro H locs ls u v i hv hi mu hW hO hno hR hS hge k_a5 k_a16 k_a27 k_a38 k_a49 k_a60 k_a79 k_a90 k_a101 k_a112 k_a123 k_a136 n_a72 hN_a72 hM hl
      exfalso
      omega
    | succ k ih =>
      intro H locs ls u v i hv hi mu hW hO hno hR hS hge k_a5 k_a16 k_a27 k_a38 k_a49 k_a60 k_a79 k_a90 k_a101 k_a112 k_a123 k_a136 n_a72 hN_a72 hM hl
      refine w1 _ _ _ _ _ ?_
      refine lv_iload_n hx hb dX10_init_148 rfl (lv_at hl 0 rfl) ?_
      refine lv_iconst (v := 4) hx hb dX10_init_149 (by decide) ?_
      refine lv_icmp_ge (tgt := 172) hx hb dX10_init_150 (by decide) (fun cb => ?_) (fun cb => ?_)
      · have qb : (4 : Int32).toInt = 4 := by decide
        have cb := Int32.le_iff_toInt_le.mp cb
        have hi2 : i = 4 := by omega
        subst hi2
        obtain ⟨u13, eu13⟩ : ∃ w : iU, w = aU u a72 31 := ⟨_, rfl⟩
        have hW : cW (nN N u13) H := by rw [eu13]; exact cW_add hW n_a72 hN_a72 ⟨rfl, rfl, fun j w hj h => gr_mono (N := nN N u) (fun q t hq => aU_old n_a72 hq) (h hj)⟩
        have hR : iR p10 N n0 h0 u13 := by rw [eu13]; exact iR_add hR g_a72 (by decide)
        have k_a5 : u13.1 a5 = some 9 := by rw [eu13]; exact aU_old n_a72 k_a5
        have k_a16 : u13.1 a16 = some 3 := by rw [eu13]; exact aU_old n_a72 k_a16
        have k_a27 : u13.1 a27 = some 1 := by rw [eu13]; exact aU_old n_a72 k_a27
        have k_a38 : u13.1 a38 = some 5 := by rw [eu13]; exact aU_old n_a72 k_a38
        have k_a49 : u13.1 a49 = some 6 := by rw [eu13]; exact aU_old n_a72 k_a49
        have k_a60 : u13.1 a60 = some 7 := by rw [eu13]; exact aU_old n_a72 k_a60
        have k_a79 : u13.1 a79 = some 4 := by rw [eu13]; exact aU_old n_a72 k_a79
        have k_a90 : u13.1 a90 = some 8 := by rw [eu13]; exact aU_old n_a72 k_a90
        have k_a101 : u13.1 a101 = some 0 := by rw [eu13]; exact aU_old n_a72 k_a101
        have k_a112 : u13.1 a112 = some 0 := by rw [eu13]; exact aU_old n_a72 k_a112
        have k_a123 : u13.1 a123 = some 0 := by rw [eu13]; exact aU_old n_a72 k_a123
        have k_a136 : u13.1 a136 = some 26 := by rw [eu13]; exact aU_old n_a72 k_a136
        have hno : u13.1 h0 = none := by rw [eu13]; exact (if_neg (by omega)).trans hno
        have k_a72 : u13.1 a72 = some 31 := by rw [eu13]; exact aU_self
        have hM : uM rU rV u13 := by rw [eu13]; exact uM_add hM n_a72 (by decide)
        have hM2 := uM_add (t := 10) hM hno (by decide)
        have hO : wt_at N.1 vwCl h0 (.inl (10, cP10 (nN N (aU u13 h0 10)))) H := hO.obj (P' := cP10 (nN N (aU u13 h0 10))) rfl (fun k v hk h => by
            match k, hk with
            | 0, _ => have h : v = .ref a5 := h; exact ⟨a5, h, aU_old hno k_a5⟩
            | 1, _ => have h : v = .ref a16 := h; exact ⟨a16, h, aU_old hno k_a16⟩
            | 2, _ => have h : v = .ref a27 := h; exact ⟨a27, h, aU_old hno k_a27⟩
            | 3, _ => have h : v = .ref a38 := h; exact ⟨a38, h, aU_old hno k_a38⟩
            | 4, _ => have h : v = .ref a49 := h; exact ⟨a49, h, aU_old hno k_a49⟩
            | 5, _ => have h : v = .ref a60 := h; exact ⟨a60, h, aU_old hno k_a60⟩
            | 6, _ => have h : v = .ref a72 := h; exact ⟨a72, h, aU_old hno k_a72⟩
            | 7, _ => have h : v = .ref a79 := h; exact ⟨a79, h, aU_old hno k_a79⟩
            | 8, _ => have h : v = .ref a90 := h; exact ⟨a90, h, aU_old hno k_a90⟩
            | 9, _ => have h : v = .ref a101 := h; exact ⟨a101, h, aU_old hno k_a101⟩
            | 10, _ => have h : v = .ref a112 := h; exact ⟨a112, h, aU_old hno k_a112⟩
            | 11, _ => have h : v = .ref a123 := h; exact ⟨a123, h, aU_old hno k_a123⟩
            | 12, _ => have h : v = .ref a136 := h; exact ⟨a136, h, aU_old hno k_a136⟩
            | 13, _ => have h : v = .int (0 : Int32) := h; exact ⟨(0 : Int32), h, by decide⟩
            | k + 14, hk => exact absurd hk (by show ¬ _ < 14; omega))
        have hW := cW_add (t := 10) hW hno hO (wt_le_rfl _)
        refine W.widen (k := 448) (n := 3067) (by omega) (by omega) ?_
        exact W.vret hx hb hr (fun t ht _ => ⟨⟨aU u13 h0 10, rfl, ⟨(iR_end hR hh0).1, (iR_end hR hh0).2, ⟨rU, rV, hM2⟩⟩, cW_at (N := nN N (aU u13 h0 10)) ht hW⟩, hS.F ht⟩) hS.2.2 dX10_init_172
      · have qb : (4 : Int32).toInt = 4 := by decide
        have cb := Int32.lt_iff_toInt_lt.mp (Int32.not_le.mp cb)
        have hi3 : i < 4 := by omega
        have rv : ir v 0 3 := by constructor <;> omega
        refine lv_aload_n hx hb dX10_init_153 rfl (lv_at hl 1 rfl) ?_
        refine wi_get (v := .ref a72) hx hb hts cfX10 hown hK hO rfl 6 (by decide) q299 (fun w h => h) dX10_init_154 ?_
        refine lv_iload_n hx hb dX10_init_157 rfl (lv_at hl 0 rfl) ?_
        refine wi_new (ci := 2) hx hb hts cfX2 tyX2 tyX2_ok hown q246 q267 q11 hK hS rfl (by show _ ≤ 448; omega) (by show _ ≤ 3067; omega) dX10_init_158 (fun a158 H eq hz o1 hN_a158 hS => ?_)
        have hs_a158 := hz
        have n_a158 := cW_none hW (Nat.le_of_eq eq.symm)
        have g_a158 : n0 ≤ a158 := by omega
        have l_a158_h0 : h0 < a158 := by have := hO.lt; omega
        have l_a158_a72 : a72 < a158 := by have := hN_a72.lt; omega
        have hW := cW_kept hW (fun b t hb => o1 b (by have := hW_lt (N := nN N u) hW hb; omega))
        have hO := hO.kept (o1 h0 l_a158_h0)
        have hN_a72 := hN_a72.kept (o1 a72 l_a158_a72)
        have hge : n0 ≤ H.size := by omega
        refine lv_dup hx hb dX10_init_161 rfl ?_
        refine va_callv (wt_runI (As := []) (rest := [.ref a158, .int v, .ref a72]) ⟨hx, hb, hml, hown, hts⟩ (i_X2 l (nN N u) n00 H.size a158 ⟨by omega, by omega⟩) wm_X2_init q268 ⟨rfl, rfl⟩ ⟨Nat.le_of_ble_eq_true rfl, Nat.le_of_ble_eq_true rfl⟩ (cI_pre hK hW hT hnn hAO hS h00 hN_a158 n_a158) rfl hl.1 rfl (Nat.le_of_ble_eq_true rfl) dX10_init_162 ⟨by show _ ≤ 448; omega, by show _ ≤ 3067; omega⟩) hS (fun x hx9 h9 => Or.inr (by rcases h9 with h9 | h9 <;> omega)) (fun x h9 => Or.inr (by rcases h9 with h9 | h9 <;> omega)) (fun u14 t H1 locs ht hvm hp hB hz hk hS => ?_)
        have hz0 : H.size = a158 + 1 := hs_a158
        have hR : iR p10 N n0 h0 u14 := iR_call hR hp.1 (fun t h => pq_pl_p10 h) hp.2.1 (by decide) g_a158 (by omega)
        have k_a5 : u14.1 a5 = some 9 := iX_k hp.1 hW n_a158 (Nat.le_refl _) k_a5
        have k_a16 : u14.1 a16 = some 3 := iX_k hp.1 hW n_a158 (Nat.le_refl _) k_a16
        have k_a27 : u14.1 a27 = some 1 := iX_k hp.1 hW n_a158 (Nat.le_refl _) k_a27
        have k_a38 : u14.1 a38 = some 5 := iX_k hp.1 hW n_a158 (Nat.le_refl _) k_a38
        have k_a49 : u14.1 a49 = some 6 := iX_k hp.1 hW n_a158 (Nat.le_refl _) k_a49
        have k_a60 : u14.1 a60 = some 7 := iX_k hp.1 hW n_a158 (Nat.le_refl _) k_a60
        have k_a79 : u14.1 a79 = some 4 := iX_k hp.1 hW n_a158 (Nat.le_refl _) k_a79
        have k_a90 : u14.1 a90 = some 8 := iX_k hp.1 hW n_a158 (Nat.le_refl _) k_a90
        have k_a101 : u14.1 a101 = some 0 := iX_k hp.1 hW n_a158 (Nat.le_refl _) k_a101
        have k_a112 : u14.1 a112 = some 0 := iX_k hp.1 hW n_a158 (Nat.le_refl _) k_a112
        have k_a123 : u14.1 a123 = some 0 := iX_k hp.1 hW n_a158 (Nat.le_refl _) k_a123
        have k_a136 : u14.1 a136 = some 26 := iX_k hp.1 hW n_a158 (Nat.le_refl _) k_a136
        have hno : u14.1 h0 = none := (hp.1.1 h0 (by omega) (by omega)).1.trans hno
        have hO := hO.kept (show t.heap[h0]? = _ by rw [ht]; exact hk h0 (by omega) (by intro z; rcases z with z | z <;> omega))
        have n_a72 : u14.1 a72 = none := (hp.1.1 a72 (by omega) (by omega)).1.trans n_a72
        have hN_a72 := hN_a72.kept (show t.heap[a72]? = _ by rw [ht]; exact hk a72 (by omega) (by intro z; rcases z with z | z <;> omega))
        have hN_a72 := wt_lift hN_a72 hp.1 hW n_a158 (Nat.le_refl _)
        have k_a158 : u14.1 a158 = some 2 := hp.2.1
        have hM := uM_call hM hp.1 hp.2.1 (by decide) hW n_a158 (Nat.le_refl _)
        have hW : cW (nN N u14) t.heap := hB
        rw [ht] at hW hO hN_a72
        have hge : n0 ≤ H1.size := by omega
        clear hB
        obtain ⟨H, eH⟩ : ∃ X : Heap, X = H1 := ⟨_, rfl⟩
        rw [← eH] at hW hge hS hO hN_a72 ⊢
        refine wi_aast hx hb hK hS 3 2 hN_a72 (Or.inr g_a72) rfl (hW _ _ (cg2 (N := nN N u14) k_a158)) rfl (ir_in rv (by decide) (by decide)) dX10_init_165 (fun H locs hN_a72 oq hz hS => ?_)
        have hW := cW_kept hW (fun b t hb => oq b (by intro z; rw [z, n_a72] at hb; cases hb))
        have hO := hO.kept (oq h0 (by omega))
        have hge : n0 ≤ H.size := by omega
        have hN_a72 := wt_fill hN_a72 (by have := (ir_clamp rv (by decide)).1; omega) k_a158
        obtain ⟨w, ew⟩ : ∃ y : Int32, y = v + 1 := ⟨_, rfl⟩
        have tw : w.toInt = v.toInt + 1 := it_add ew rv (ir_c 1 (by decide) : ir (1 : Int32) 1 1) (by decide) (by decide)
        refine lv_iinc (v := w) (lv' := [(1, .int w), (0, .ref h0)]) hx hb dX10_init_166 hl (k := 0) rfl (by rw [ew]; rfl) (by decide) rfl (fun ls hl => ?_)
        refine lv_goto (tgt := 148) hx hb dX10_init_169 (by decide) ?_
        refine W.widen (k := 232 + (i + 1) * 54) (n := 1843 + (i + 1) * 306) (by omega) (by omega) ?_
        exact w2 _ _ _ _ _ (ih _ _ _ u14 w (i + 1) (by omega) (by omega) (by omega) hW hO hno hR hS hge k_a5 k_a16 k_a27 k_a38 k_a49 k_a60 k_a79 k_a90 k_a101 k_a112 k_a123 k_a136 n_a72 hN_a72 hM (lv_sub hl [0, 1] rfl))
  refine W.widen (k := 232 + 0 * 54) (n := 1843 + 0 * 306) (Nat.le_of_ble_eq_true rfl) (Nat.le_of_ble_eq_true rfl) ?_
  exact w2 _ _ _ _ _ (L148 5 _ _ _ u12 (0 : Int32) 0 (by decide) (Nat.zero_le _) (by decide) hW hO hno hR hS hge k_a5 k_a16 k_a27 k_a38 k_a49 k_a60 k_a79 k_a90 k_a101 k_a112 k_a123 k_a136 n_a72 hN_a72 hM (lv_sub hl [0, 1] rfl))
