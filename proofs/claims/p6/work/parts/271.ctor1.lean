set_option maxHeartbeats 4000000 in
set_option maxRecDepth 100000 in
theorem i_X0 (l : Launch) (N : c_N) (n00 n0 h0 : Nat) (h00 : n00 ≤ h0 ∧ n00 ≤ n0) : cMI l yX0_init cX0_init 1 { frames := 1, cells := 0, slots := 0, locals := 40 } h0 0 (fun k v => v = defaultValue (tyX0 k)) N n00 n0 0 0 pl (fun _ => True) := by
  refine Met.ofW (cc := cX0_init) (maxL := 1) (ret := none) (by decide) rfl ?_
  intro p e s m args below meth c s₁ B hml hv
  obtain ⟨rfl, hK, hW0, hT, hnn, hAO, hO, hno, hsz⟩ := hv
  have hx := B.exec
  have hb := B.bytes
  have hr := B.returns
  have hts : ∀ w ∈ lw_g, w.before _ s = true := fun w h => atoms_spec (ws := wc_ws yX0_init cX0_init 1 none) B.pre w (List.mem_cons_of_mem _ h)
  have hown : s.vm.findClass RX0 = some m.cls := findClass_of_methodNamed B.named
  have hlocks := B.notSynchronized
  have hin : meth.name = "<init>" := (name_of_methodNamed B.named B.method).1
  have hS : va_S (iA n0 h0) s.heap s.heap [] := va_S.rf
  have hl := lv_entry ([.ref h0]) (n := 1) (Nat.le_of_ble_eq_true rfl)
  rw [lg_entry_eq]
  generalize (lg_sl ([.ref h0]) ++ List.replicate (1 - (lg_sl ([.ref h0])).length) Slot.unset).toArray = ls at hl ⊢
  have hl : lv_has ls 1 [(0, .ref h0)] := hl
  have hh0 : h0 < n0 := by have := hO.lt; omega
  have hge : n0 ≤ s.heap.size := by omega
  have hR : iR pl N n0 h0 (N.2.2.1, N.2.2.2) := iR_0 hW0 hsz
  obtain ⟨u0, eu0⟩ : ∃ u : iU, u = (N.2.2.1, N.2.2.2) := ⟨_, rfl⟩
  rw [← eu0] at hR
  have hW : cW (nN N u0) s.heap := by rw [eu0]; exact hW0
  have hno : u0.1 h0 = none := by rw [eu0]; exact hno
  refine wq_all2 ?_
  intro WW w1 w2
  refine lv_aload_n hx hb dX0_init_0 rfl (lv_at hl 0 rfl) ?_
  refine W.objInit hx hb hown (hts _ q257) (hts _ q25) (hts _ q26) rfl (by rw [hml]; exact hl.1) rfl dX0_init_1 (Nat.le_of_ble_eq_true rfl) (Nat.le_of_ble_eq_true rfl) ?_
  refine lv_aload_n hx hb dX0_init_4 rfl (lv_at hl 0 rfl) ?_
  refine lv_lconst (v := 0) hx hb dX0_init_5 (by decide) ?_
  refine wi_put (v := .long (0 : Int64)) hx hb hts cfX0 tyX0 tyX0_ok nmX0 hown hin hK hO hS (Or.inl rfl) rfl 0 (by decide) q258 rfl rfl rfl dX0_init_6 (fun H locs hO oq hz hS => ?_)
  have hW := cW_kept hW (fun b t hb => oq b (by intro z; rw [z, hno] at hb; cases hb))
  have hge : n0 ≤ H.size := by omega
  refine lv_aload_n hx hb dX0_init_9 rfl (lv_at hl 0 rfl) ?_
  refine lv_lconst (v := 1) hx hb dX0_init_10 (by decide) ?_
  refine wi_put (v := .long (1 : Int64)) hx hb hts cfX0 tyX0 tyX0_ok nmX0 hown hin hK hO hS (Or.inl rfl) rfl 1 (by decide) q260 rfl rfl rfl dX0_init_11 (fun H locs hO oq hz hS => ?_)
  have hW := cW_kept hW (fun b t hb => oq b (by intro z; rw [z, hno] at hb; cases hb))
  have hge : n0 ≤ H.size := by omega
  have hO : wt_at N.1 vwCl h0 (.inl (0, cP0 (nN N (aU u0 h0 0)))) H := hO.obj (P' := cP0 (nN N (aU u0 h0 0))) rfl (fun k v hk h => by
      match k, hk with
      | 0, _ => have h : v = .long (0 : Int64) := h; exact ⟨(0 : Int64), h⟩
      | 1, _ => have h : v = .long (1 : Int64) := h; exact ⟨(1 : Int64), h⟩
      | k + 2, hk => exact absurd hk (by show ¬ _ < 2; omega))
  have hW := cW_add (t := 0) hW hno hO (wt_le_rfl _)
  refine W.widen (k := 0) (n := 0) (Nat.le_of_ble_eq_true rfl) (Nat.le_of_ble_eq_true rfl) ?_
  exact W.vret hx hb hr (fun t ht _ => ⟨⟨aU u0 h0 0, rfl, ⟨(iR_end hR hh0).1, (iR_end hR hh0).2, trivial⟩, cW_at (N := nN N (aU u0 h0 0)) ht hW⟩, hS.F ht⟩) hS.2.2 dX0_init_14
set_option maxHeartbeats 4000000 in
set_option maxRecDepth 100000 in
theorem i_X8 (l : Launch) (N : c_N) (n00 n0 h0 : Nat) (h00 : n00 ≤ h0 ∧ n00 ≤ n0) : cMI l yX8_init cX8_init 1 { frames := 1, cells := 0, slots := 0, locals := 40 } h0 8 (fun k v => v = defaultValue (tyX8 k)) N n00 n0 0 0 pl (fun _ => True) := by
  refine Met.ofW (cc := cX8_init) (maxL := 1) (ret := none) (by decide) rfl ?_
  intro p e s m args below meth c s₁ B hml hv
  obtain ⟨rfl, hK, hW0, hT, hnn, hAO, hO, hno, hsz⟩ := hv
  have hx := B.exec
  have hb := B.bytes
  have hr := B.returns
  have hts : ∀ w ∈ lw_g, w.before _ s = true := fun w h => atoms_spec (ws := wc_ws yX8_init cX8_init 1 none) B.pre w (List.mem_cons_of_mem _ h)
  have hown : s.vm.findClass RX8 = some m.cls := findClass_of_methodNamed B.named
  have hlocks := B.notSynchronized
  have hin : meth.name = "<init>" := (name_of_methodNamed B.named B.method).1
  have hS : va_S (iA n0 h0) s.heap s.heap [] := va_S.rf
  have hl := lv_entry ([.ref h0]) (n := 1) (Nat.le_of_ble_eq_true rfl)
  rw [lg_entry_eq]
  generalize (lg_sl ([.ref h0]) ++ List.replicate (1 - (lg_sl ([.ref h0])).length) Slot.unset).toArray = ls at hl ⊢
  have hl : lv_has ls 1 [(0, .ref h0)] := hl
  have hh0 : h0 < n0 := by have := hO.lt; omega
  have hge : n0 ≤ s.heap.size := by omega
  have hR : iR pl N n0 h0 (N.2.2.1, N.2.2.2) := iR_0 hW0 hsz
  obtain ⟨u0, eu0⟩ : ∃ u : iU, u = (N.2.2.1, N.2.2.2) := ⟨_, rfl⟩
  rw [← eu0] at hR
  have hW : cW (nN N u0) s.heap := by rw [eu0]; exact hW0
  have hno : u0.1 h0 = none := by rw [eu0]; exact hno
  refine wq_all2 ?_
  intro WW w1 w2
  refine lv_aload_n hx hb dX8_init_0 rfl (lv_at hl 0 rfl) ?_
  refine W.objInit hx hb hown (hts _ q169) (hts _ q25) (hts _ q26) rfl (by rw [hml]; exact hl.1) rfl dX8_init_1 (Nat.le_of_ble_eq_true rfl) (Nat.le_of_ble_eq_true rfl) ?_
  refine lv_aload_n hx hb dX8_init_4 rfl (lv_at hl 0 rfl) ?_
  refine lv_lconst (v := 0) hx hb dX8_init_5 (by decide) ?_
  refine wi_put (v := .long (0 : Int64)) hx hb hts cfX8 tyX8 tyX8_ok nmX8 hown hin hK hO hS (Or.inl rfl) rfl 0 (by decide) q170 rfl rfl rfl dX8_init_6 (fun H locs hO oq hz hS => ?_)
  have hW := cW_kept hW (fun b t hb => oq b (by intro z; rw [z, hno] at hb; cases hb))
  have hge : n0 ≤ H.size := by omega
  refine lv_aload_n hx hb dX8_init_9 rfl (lv_at hl 0 rfl) ?_
  refine lv_lconst (v := 1) hx hb dX8_init_10 (by decide) ?_
  refine wi_put (v := .long (1 : Int64)) hx hb hts cfX8 tyX8 tyX8_ok nmX8 hown hin hK hO hS (Or.inl rfl) rfl 1 (by decide) q173 rfl rfl rfl dX8_init_11 (fun H locs hO oq hz hS => ?_)
  have hW := cW_kept hW (fun b t hb => oq b (by intro z; rw [z, hno] at hb; cases hb))
  have hge : n0 ≤ H.size := by omega
  have hO : wt_at N.1 vwCl h0 (.inl (8, cP8 (nN N (aU u0 h0 8)))) H := hO.obj (P' := cP8 (nN N (aU u0 h0 8))) rfl (fun k v hk h => by
      match k, hk with
      | 0, _ => have h : v = .long (0 : Int64) := h; exact ⟨(0 : Int64), h⟩
      | 1, _ => have h : v = .long (1 : Int64) := h; exact ⟨(1 : Int64), h⟩
      | k + 2, hk => exact absurd hk (by show ¬ _ < 2; omega))
  have hW := cW_add (t := 8) hW hno hO (wt_le_rfl _)
  refine W.widen (k := 0) (n := 0) (Nat.le_of_ble_eq_true rfl) (Nat.le_of_ble_eq_true rfl) ?_
  exact W.vret hx hb hr (fun t ht _ => ⟨⟨aU u0 h0 8, rfl, ⟨(iR_end hR hh0).1, (iR_end hR hh0).2, trivial⟩, cW_at (N := nN N (aU u0 h0 8)) ht hW⟩, hS.F ht⟩) hS.2.2 dX8_init_14
set_option maxHeartbeats 4000000 in
set_option maxRecDepth 100000 in
theorem i_X4 (l : Launch) (N : c_N) (n00 n0 h0 : Nat) (h00 : n00 ≤ h0 ∧ n00 ≤ n0) : cMI l yX4_init cX4_init 1 { frames := 1, cells := 0, slots := 0, locals := 40 } h0 4 (fun k v => v = defaultValue (tyX4 k)) N n00 n0 0 0 pl (fun _ => True) := by
  refine Met.ofW (cc := cX4_init) (maxL := 1) (ret := none) (by decide) rfl ?_
  intro p e s m args below meth c s₁ B hml hv
  obtain ⟨rfl, hK, hW0, hT, hnn, hAO, hO, hno, hsz⟩ := hv
  have hx := B.exec
  have hb := B.bytes
  have hr := B.returns
  have hts : ∀ w ∈ lw_g, w.before _ s = true := fun w h => atoms_spec (ws := wc_ws yX4_init cX4_init 1 none) B.pre w (List.mem_cons_of_mem _ h)
  have hown : s.vm.findClass RX4 = some m.cls := findClass_of_methodNamed B.named
  have hlocks := B.notSynchronized
  have hin : meth.name = "<init>" := (name_of_methodNamed B.named B.method).1
  have hS : va_S (iA n0 h0) s.heap s.heap [] := va_S.rf
  have hl := lv_entry ([.ref h0]) (n := 1) (Nat.le_of_ble_eq_true rfl)
  rw [lg_entry_eq]
  generalize (lg_sl ([.ref h0]) ++ List.replicate (1 - (lg_sl ([.ref h0])).length) Slot.unset).toArray = ls at hl ⊢
  have hl : lv_has ls 1 [(0, .ref h0)] := hl
  have hh0 : h0 < n0 := by have := hO.lt; omega
  have hge : n0 ≤ s.heap.size := by omega
  have hR : iR pl N n0 h0 (N.2.2.1, N.2.2.2) := iR_0 hW0 hsz
  obtain ⟨u0, eu0⟩ : ∃ u : iU, u = (N.2.2.1, N.2.2.2) := ⟨_, rfl⟩
  rw [← eu0] at hR
  have hW : cW (nN N u0) s.heap := by rw [eu0]; exact hW0
  have hno : u0.1 h0 = none := by rw [eu0]; exact hno
  refine wq_all2 ?_
  intro WW w1 w2
  refine lv_aload_n hx hb dX4_init_0 rfl (lv_at hl 0 rfl) ?_
  refine W.objInit hx hb hown (hts _ q185) (hts _ q25) (hts _ q26) rfl (by rw [hml]; exact hl.1) rfl dX4_init_1 (Nat.le_of_ble_eq_true rfl) (Nat.le_of_ble_eq_true rfl) ?_
  refine lv_aload_n hx hb dX4_init_4 rfl (lv_at hl 0 rfl) ?_
  refine lv_lconst (v := 1) hx hb dX4_init_5 (by decide) ?_
  refine wi_put (v := .long (1 : Int64)) hx hb hts cfX4 tyX4 tyX4_ok nmX4 hown hin hK hO hS (Or.inl rfl) rfl 0 (by decide) q186 rfl rfl rfl dX4_init_6 (fun H locs hO oq hz hS => ?_)
  have hW := cW_kept hW (fun b t hb => oq b (by intro z; rw [z, hno] at hb; cases hb))
  have hge : n0 ≤ H.size := by omega
  refine lv_aload_n hx hb dX4_init_9 rfl (lv_at hl 0 rfl) ?_
  refine lv_lconst (v := 0) hx hb dX4_init_10 (by decide) ?_
  refine wi_put (v := .long (0 : Int64)) hx hb hts cfX4 tyX4 tyX4_ok nmX4 hown hin hK hO hS (Or.inl rfl) rfl 1 (by decide) q188 rfl rfl rfl dX4_init_11 (fun H locs hO oq hz hS => ?_)
  have hW := cW_kept hW (fun b t hb => oq b (by intro z; rw [z, hno] at hb; cases hb))
  have hge : n0 ≤ H.size := by omega
  refine lv_aload_n hx hb dX4_init_14 rfl (lv_at hl 0 rfl) ?_
  refine lv_lconst (v := 0) hx hb dX4_init_15 (by decide) ?_
  refine wi_put (v := .long (0 : Int64)) hx hb hts cfX4 tyX4 tyX4_ok nmX4 hown hin hK hO hS (Or.inl rfl) rfl 2 (by decide) q190 rfl rfl rfl dX4_init_16 (fun H locs hO oq hz hS => ?_)
  have hW := cW_kept hW (fun b t hb => oq b (by intro z; rw [z, hno] at hb; cases hb))
  have hge : n0 ≤ H.size := by omega
  refine lv_aload_n hx hb dX4_init_19 rfl (lv_at hl 0 rfl) ?_
  refine lv_lconst (v := 1) hx hb dX4_init_20 (by decide) ?_
  refine wi_put (v := .long (1 : Int64)) hx hb hts cfX4 tyX4 tyX4_ok nmX4 hown hin hK hO hS (Or.inl rfl) rfl 3 (by decide) q192 rfl rfl rfl dX4_init_21 (fun H locs hO oq hz hS => ?_)
  have hW := cW_kept hW (fun b t hb => oq b (by intro z; rw [z, hno] at hb; cases hb))
  have hge : n0 ≤ H.size := by omega
  refine lv_aload_n hx hb dX4_init_24 rfl (lv_at hl 0 rfl) ?_
  refine lv_iconst (v := 0) hx hb dX4_init_25 (by decide) ?_
  refine wi_put (v := .int (0 : Int32)) hx hb hts cfX4 tyX4 tyX4_ok nmX4 hown hin hK hO hS (Or.inl rfl) rfl 4 (by decide) q194 rfl rfl rfl dX4_init_26 (fun H locs hO oq hz hS => ?_)
  have hW := cW_kept hW (fun b t hb => oq b (by intro z; rw [z, hno] at hb; cases hb))
  have hge : n0 ≤ H.size := by omega
  have hO : wt_at N.1 vwCl h0 (.inl (4, cP4 (nN N (aU u0 h0 4)))) H := hO.obj (P' := cP4 (nN N (aU u0 h0 4))) rfl (fun k v hk h => by
      match k, hk with
      | 0, _ => have h : v = .long (1 : Int64) := h; exact ⟨(1 : Int64), h⟩
      | 1, _ => have h : v = .long (0 : Int64) := h; exact ⟨(0 : Int64), h⟩
      | 2, _ => have h : v = .long (0 : Int64) := h; exact ⟨(0 : Int64), h⟩
      | 3, _ => have h : v = .long (1 : Int64) := h; exact ⟨(1 : Int64), h⟩
      | 4, _ => have h : v = .int (0 : Int32) := h; exact ⟨(0 : Int32), h, by decide⟩
      | k + 5, hk => exact absurd hk (by show ¬ _ < 5; omega))
  have hW := cW_add (t := 4) hW hno hO (wt_le_rfl _)
  refine W.widen (k := 0) (n := 0) (Nat.le_of_ble_eq_true rfl) (Nat.le_of_ble_eq_true rfl) ?_
  exact W.vret hx hb hr (fun t ht _ => ⟨⟨aU u0 h0 4, rfl, ⟨(iR_end hR hh0).1, (iR_end hR hh0).2, trivial⟩, cW_at (N := nN N (aU u0 h0 4)) ht hW⟩, hS.F ht⟩) hS.2.2 dX4_init_29
set_option maxHeartbeats 4000000 in
set_option maxRecDepth 100000 in
theorem i_X3 (l : Launch) (N : c_N) (n00 n0 h0 : Nat) (h00 : n00 ≤ h0 ∧ n00 ≤ n0) : cMI l yX3_init cX3_init 1 { frames := 1, cells := 1, slots := 24, locals := 40 } h0 3 (fun k v => v = defaultValue (tyX3 k)) N n00 n0 1 24 pl (fun _ => True) := by
  refine Met.ofW (cc := cX3_init) (maxL := 1) (ret := none) (by decide) rfl ?_
  intro p e s m args below meth c s₁ B hml hv
  obtain ⟨rfl, hK, hW0, hT, hnn, hAO, hO, hno, hsz⟩ := hv
  have hx := B.exec
  have hb := B.bytes
  have hr := B.returns
  have hts : ∀ w ∈ lw_g, w.before _ s = true := fun w h => atoms_spec (ws := wc_ws yX3_init cX3_init 1 none) B.pre w (List.mem_cons_of_mem _ h)
  have hown : s.vm.findClass RX3 = some m.cls := findClass_of_methodNamed B.named
  have hlocks := B.notSynchronized
  have hin : meth.name = "<init>" := (name_of_methodNamed B.named B.method).1
  have hS : va_S (iA n0 h0) s.heap s.heap [] := va_S.rf
  have hl := lv_entry ([.ref h0]) (n := 1) (Nat.le_of_ble_eq_true rfl)
  rw [lg_entry_eq]
  generalize (lg_sl ([.ref h0]) ++ List.replicate (1 - (lg_sl ([.ref h0])).length) Slot.unset).toArray = ls at hl ⊢
  have hl : lv_has ls 1 [(0, .ref h0)] := hl
  have hh0 : h0 < n0 := by have := hO.lt; omega
  have hge : n0 ≤ s.heap.size := by omega
  have hR : iR pl N n0 h0 (N.2.2.1, N.2.2.2) := iR_0 hW0 hsz
  obtain ⟨u0, eu0⟩ : ∃ u : iU, u = (N.2.2.1, N.2.2.2) := ⟨_, rfl⟩
  rw [← eu0] at hR
  have hW : cW (nN N u0) s.heap := by rw [eu0]; exact hW0
  have hno : u0.1 h0 = none := by rw [eu0]; exact hno
  refine wq_all2 ?_
  intro WW w1 w2
  refine lv_aload_n hx hb dX3_init_0 rfl (lv_at hl 0 rfl) ?_
  refine W.objInit hx hb hown (hts _ q38) (hts _ q25) (hts _ q26) rfl (by rw [hml]; exact hl.1) rfl dX3_init_1 (Nat.le_of_ble_eq_true rfl) (Nat.le_of_ble_eq_true rfl) ?_
  refine lv_aload_n hx hb dX3_init_4 rfl (lv_at hl 0 rfl) ?_
  refine lv_bipush (v := 24) hx hb dX3_init_5 (by decide) ?_
  refine wi_newa (atype := .int) (n := 24) (N := 24) hx hb (hts _ q52) hK hS 0 rfl (fun h => h) (by decide) (by decide) (Nat.le_of_ble_eq_true rfl) (Nat.le_of_ble_eq_true rfl) (Nat.le_of_ble_eq_true rfl) dX3_init_7 (fun a7 H eq hz o1 hN_a7 hS => ?_)
  have n_a7 := cW_none hW (Nat.le_of_eq eq.symm)
  have g_a7 : n0 ≤ a7 := by omega
  have l_a7_h0 : h0 < a7 := by have := hO.lt; omega
  have hW := cW_kept hW (fun b t hb => o1 b (by have := hW_lt (N := nN N u0) hW hb; omega))
  have hO := hO.kept (o1 h0 l_a7_h0)
  have hge : n0 ≤ H.size := by omega
  obtain ⟨u1, eu1⟩ : ∃ w : iU, w = aU u0 a7 20 := ⟨_, rfl⟩
  have hW : cW (nN N u1) H := by rw [eu1]; exact cW_add hW n_a7 hN_a7 ⟨rfl, rfl, fun j v _ h => ⟨0, h, by decide⟩⟩
  have hR : iR pl N n0 h0 u1 := by rw [eu1]; exact iR_add hR g_a7 (by decide)
  have hno : u1.1 h0 = none := by rw [eu1]; exact (if_neg (by omega)).trans hno
  have k_a7 : u1.1 a7 = some 20 := by rw [eu1]; exact aU_self
  refine wi_put (v := .ref a7) hx hb hts cfX3 tyX3 tyX3_ok nmX3 hown hin hK hO hS (Or.inl rfl) rfl 0 (by decide) q39 rfl rfl rfl dX3_init_9 (fun H locs hO oq hz hS => ?_)
  have hW := cW_kept hW (fun b t hb => oq b (by intro z; rw [z, hno] at hb; cases hb))
  have hge : n0 ≤ H.size := by omega
  refine lv_aload_n hx hb dX3_init_12 rfl (lv_at hl 0 rfl) ?_
  refine lv_iconst (v := 0) hx hb dX3_init_13 (by decide) ?_
  refine wi_put (v := .int (0 : Int32)) hx hb hts cfX3 tyX3 tyX3_ok nmX3 hown hin hK hO hS (Or.inl rfl) rfl 1 (by decide) q43 rfl rfl rfl dX3_init_14 (fun H locs hO oq hz hS => ?_)
  have hW := cW_kept hW (fun b t hb => oq b (by intro z; rw [z, hno] at hb; cases hb))
  have hge : n0 ≤ H.size := by omega
  have hO : wt_at N.1 vwCl h0 (.inl (3, cP3 (nN N (aU u1 h0 3)))) H := hO.obj (P' := cP3 (nN N (aU u1 h0 3))) rfl (fun k v hk h => by
      match k, hk with
      | 0, _ => have h : v = .ref a7 := h; exact ⟨a7, h, aU_old hno k_a7⟩
      | 1, _ => have h : v = .int (0 : Int32) := h; exact ⟨(0 : Int32), h, by decide⟩
      | k + 2, hk => exact absurd hk (by show ¬ _ < 2; omega))
  have hW := cW_add (t := 3) hW hno hO (wt_le_rfl _)
  refine W.widen (k := 1) (n := 24) (Nat.le_of_ble_eq_true rfl) (Nat.le_of_ble_eq_true rfl) ?_
  exact W.vret hx hb hr (fun t ht _ => ⟨⟨aU u1 h0 3, rfl, ⟨(iR_end hR hh0).1, (iR_end hR hh0).2, trivial⟩, cW_at (N := nN N (aU u1 h0 3)) ht hW⟩, hS.F ht⟩) hS.2.2 dX3_init_17
set_option maxHeartbeats 4000000 in
set_option maxRecDepth 100000 in
theorem i_X9 (l : Launch) (N : c_N) (n00 n0 h0 : Nat) (h00 : n00 ≤ h0 ∧ n00 ≤ n0) : cMI l yX9_init cX9_init 1 { frames := 2, cells := 5, slots := 234, locals := 60 } h0 9 (fun k v => v = defaultValue (tyX9 k)) N n00 n0 5 234 pl (fun _ => True) := by
  refine Met.ofW (cc := cX9_init) (maxL := 1) (ret := none) (by decide) rfl ?_
  intro p e s m args below meth c s₁ B hml hv
  obtain ⟨rfl, hK, hW0, hT, hnn, hAO, hO, hno, hsz⟩ := hv
  have hx := B.exec
  have hb := B.bytes
  have hr := B.returns
  have hts : ∀ w ∈ lw_g, w.before _ s = true := fun w h => atoms_spec (ws := wc_ws yX9_init cX9_init 1 none) B.pre w (List.mem_cons_of_mem _ h)
  have hown : s.vm.findClass RX9 = some m.cls := findClass_of_methodNamed B.named
  have hlocks := B.notSynchronized
  have hin : meth.name = "<init>" := (name_of_methodNamed B.named B.method).1
  have hS : va_S (iA n0 h0) s.heap s.heap [] := va_S.rf
  have hl := lv_entry ([.ref h0]) (n := 1) (Nat.le_of_ble_eq_true rfl)
  rw [lg_entry_eq]
  generalize (lg_sl ([.ref h0]) ++ List.replicate (1 - (lg_sl ([.ref h0])).length) Slot.unset).toArray = ls at hl ⊢
  have hl : lv_has ls 1 [(0, .ref h0)] := hl
  have hh0 : h0 < n0 := by have := hO.lt; omega
  have hge : n0 ≤ s.heap.size := by omega
  have hR : iR pl N n0 h0 (N.2.2.1, N.2.2.2) := iR_0 hW0 hsz
  obtain ⟨u0, eu0⟩ : ∃ u : iU, u = (N.2.2.1, N.2.2.2) := ⟨_, rfl⟩
  rw [← eu0] at hR
  have hW : cW (nN N u0) s.heap := by rw [eu0]; exact hW0
  have hno : u0.1 h0 = none := by rw [eu0]; exact hno
  refine wq_all2 ?_
  intro WW w1 w2
  refine lv_aload_n hx hb dX9_init_0 rfl (lv_at hl 0 rfl) ?_
  refine W.objInit hx hb hown (hts _ q32) (hts _ q25) (hts _ q26) rfl (by rw [hml]; exact hl.1) rfl dX9_init_1 (Nat.le_of_ble_eq_true rfl) (Nat.le_of_ble_eq_true rfl) ?_
  refine lv_aload_n hx hb dX9_init_4 rfl (lv_at hl 0 rfl) ?_
  refine lv_sipush (v := 200) hx hb dX9_init_5 (by decide) ?_
  refine wi_newa (atype := .int) (n := 200) (N := 200) hx hb (hts _ q52) hK hS 0 rfl (fun h => h) (by decide) (by decide) (Nat.le_of_ble_eq_true rfl) (Nat.le_of_ble_eq_true rfl) (Nat.le_of_ble_eq_true rfl) dX9_init_8 (fun a8 H eq hz o1 hN_a8 hS => ?_)
  have n_a8 := cW_none hW (Nat.le_of_eq eq.symm)
  have g_a8 : n0 ≤ a8 := by omega
  have l_a8_h0 : h0 < a8 := by have := hO.lt; omega
  have hW := cW_kept hW (fun b t hb => o1 b (by have := hW_lt (N := nN N u0) hW hb; omega))
  have hO := hO.kept (o1 h0 l_a8_h0)
  have hge : n0 ≤ H.size := by omega
  obtain ⟨u1, eu1⟩ : ∃ w : iU, w = aU u0 a8 21 := ⟨_, rfl⟩
  have hW : cW (nN N u1) H := by rw [eu1]; exact cW_add hW n_a8 hN_a8 ⟨rfl, rfl, fun j v _ h => ⟨0, h, by decide⟩⟩
  have hR : iR pl N n0 h0 u1 := by rw [eu1]; exact iR_add hR g_a8 (by decide)
  have hno : u1.1 h0 = none := by rw [eu1]; exact (if_neg (by omega)).trans hno
  have k_a8 : u1.1 a8 = some 21 := by rw [eu1]; exact aU_self
  refine wi_put (v := .ref a8) hx hb hts cfX9 tyX9 tyX9_ok nmX9 hown hin hK hO hS (Or.inl rfl) rfl 0 (by decide) q53 rfl rfl rfl dX9_init_10 (fun H locs hO oq hz hS => ?_)
  have hW := cW_kept hW (fun b t hb => oq b (by intro z; rw [z, hno] at hb; cases hb))
  have hge : n0 ≤ H.size := by omega
  refine lv_aload_n hx hb dX9_init_13 rfl (lv_at hl 0 rfl) ?_
  refine lv_iconst (v := 0) hx hb dX9_init_14 (by decide) ?_
  refine wi_put (v := .int (0 : Int32)) hx hb hts cfX9 tyX9 tyX9_ok nmX9 hown hin hK hO hS (Or.inl rfl) rfl 1 (by decide) q54 rfl rfl rfl dX9_init_15 (fun H locs hO oq hz hS => ?_)
  have hW := cW_kept hW (fun b t hb => oq b (by intro z; rw [z, hno] at hb; cases hb))
  have hge : n0 ≤ H.size := by omega
  refine lv_aload_n hx hb dX9_init_18 rfl (lv_at hl 0 rfl) ?_
  refine lv_iconst (v := 0) hx hb dX9_init_19 (by decide) ?_
  refine wi_put (v := .int (0 : Int32)) hx hb hts cfX9 tyX9 tyX9_ok nmX9 hown hin hK hO hS (Or.inl rfl) rfl 2 (by decide) q56 rfl rfl rfl dX9_init_20 (fun H locs hO oq hz hS => ?_)
  have hW := cW_kept hW (fun b t hb => oq b (by intro z; rw [z, hno] at hb; cases hb))
  have hge : n0 ≤ H.size := by omega
  refine lv_aload_n hx hb dX9_init_23 rfl (lv_at hl 0 rfl) ?_
  refine lv_iconst (v := -1) hx hb dX9_init_24 (by decide) ?_
  refine wi_put (v := .int (-1 : Int32)) hx hb hts cfX9 tyX9 tyX9_ok nmX9 hown hin hK hO hS (Or.inl rfl) rfl 3 (by decide) q58 rfl rfl rfl dX9_init_25 (fun H locs hO oq hz hS => ?_)
  have hW := cW_kept hW (fun b t hb => oq b (by intro z; rw [z, hno] at hb; cases hb))
  have hge : n0 ≤ H.size := by omega
  refine lv_aload_n hx hb dX9_init_28 rfl (lv_at hl 0 rfl) ?_
  refine wi_new (ci := 3) hx hb hts cfX3 tyX3 tyX3_ok hown q33 q34 q3 hK hS rfl (Nat.le_of_ble_eq_true rfl) (Nat.le_of_ble_eq_true rfl) dX9_init_29 (fun a29 H eq hz o1 hN_a29 hS => ?_)
  have hs_a29 := hz
  have n_a29 := cW_none hW (Nat.le_of_eq eq.symm)
  have g_a29 : n0 ≤ a29 := by omega
  have l_a29_h0 : h0 < a29 := by have := hO.lt; omega
  have hW := cW_kept hW (fun b t hb => o1 b (by have := hW_lt (N := nN N u1) hW hb; omega))
  have hO := hO.kept (o1 h0 l_a29_h0)
  have hge : n0 ≤ H.size := by omega
  refine lv_dup hx hb dX9_init_32 rfl ?_
  refine va_callv (wt_runIN (As := []) (rest := [.ref a29, .ref h0]) ⟨hx, hb, hml, hown, hts⟩ hnn (i_X3 l (nN N u1) n00 H.size a29 ⟨by omega, by omega⟩) wm_X3_init q35 ⟨rfl, rfl⟩ ⟨Nat.le_of_ble_eq_true rfl, Nat.le_of_ble_eq_true rfl⟩ (cI_pre hK hW hT hnn hAO hS h00 hN_a29 n_a29) rfl hl.1 rfl (Nat.le_of_ble_eq_true rfl) dX9_init_33 ⟨Nat.le_of_ble_eq_true rfl, Nat.le_of_ble_eq_true rfl⟩) hS (fun x hx9 h9 => Or.inr (by rcases h9 with h9 | h9 <;> omega)) (fun x h9 => Or.inr (by rcases h9 with h9 | h9 <;> omega)) (fun u2 t H1 locs ht hvm hp hB hz hk hS => ?_)
  have hz0 : H.size = a29 + 1 := hs_a29
  have hR : iR pl N n0 h0 u2 := iR_call hR hp.1 (fun t h => h) hp.2.1 (by decide) g_a29 (by omega)
  have k_a8 : u2.1 a8 = some 21 := iX_k hp.1 hW n_a29 (Nat.le_refl _) k_a8
  have hno : u2.1 h0 = none := (hp.1.1 h0 (by omega) (by omega)).1.trans hno
  have hO := hO.kept (show t.heap[h0]? = _ by rw [ht]; exact hk h0 (by omega) (by intro z; rcases z with z | z <;> omega))
  have k_a29 : u2.1 a29 = some 3 := hp.2.1
  have hW : cW (nN N u2) t.heap := hB
  rw [ht] at hW hO
  have hge : n0 ≤ H1.size := by omega
  clear hB
  obtain ⟨H, eH⟩ : ∃ X : Heap, X = H1 := ⟨_, rfl⟩
  rw [← eH] at hW hge hS hO ⊢
  refine wi_put (v := .ref a29) hx hb hts cfX9 tyX9 tyX9_ok nmX9 hown hin hK hO hS (Or.inl rfl) rfl 4 (by decide) q60 rfl rfl rfl dX9_init_36 (fun H locs hO oq hz hS => ?_)
  have hW := cW_kept hW (fun b t hb => oq b (by intro z; rw [z, hno] at hb; cases hb))
  have hge : n0 ≤ H.size := by omega
  refine lv_aload_n hx hb dX9_init_39 rfl (lv_at hl 0 rfl) ?_
  refine lv_iconst (v := 4) hx hb dX9_init_40 (by decide) ?_
  refine wi_newa (atype := .int) (n := 4) (N := 4) hx hb (hts _ q52) hK hS 0 rfl (fun h => h) (by decide) (by decide) (Nat.le_of_ble_eq_true rfl) (Nat.le_of_ble_eq_true rfl) (Nat.le_of_ble_eq_true rfl) dX9_init_41 (fun a41 H eq hz o1 hN_a41 hS => ?_)
  have n_a41 := cW_none hW (Nat.le_of_eq eq.symm)
  have g_a41 : n0 ≤ a41 := by omega
  have l_a41_h0 : h0 < a41 := by have := hO.lt; omega
  have hW := cW_kept hW (fun b t hb => o1 b (by have := hW_lt (N := nN N u2) hW hb; omega))
  have hO := hO.kept (o1 h0 l_a41_h0)
  have hge : n0 ≤ H.size := by omega
  obtain ⟨u3, eu3⟩ : ∃ w : iU, w = aU u2 a41 22 := ⟨_, rfl⟩
  have hW : cW (nN N u3) H := by rw [eu3]; exact cW_add hW n_a41 hN_a41 ⟨rfl, rfl, fun j v _ h => ⟨0, h, by decide⟩⟩
  have hR : iR pl N n0 h0 u3 := by rw [eu3]; exact iR_add hR g_a41 (by decide)
  have k_a8 : u3.1 a8 = some 21 := by rw [eu3]; exact aU_old n_a41 k_a8
  have k_a29 : u3.1 a29 = some 3 := by rw [eu3]; exact aU_old n_a41 k_a29
  have hno : u3.1 h0 = none := by rw [eu3]; exact (if_neg (by omega)).trans hno
  have k_a41 : u3.1 a41 = some 22 := by rw [eu3]; exact aU_self
  refine wi_put (v := .ref a41) hx hb hts cfX9 tyX9 tyX9_ok nmX9 hown hin hK hO hS (Or.inl rfl) rfl 5 (by decide) q62 rfl rfl rfl dX9_init_43 (fun H locs hO oq hz hS => ?_)
  have hW := cW_kept hW (fun b t hb => oq b (by intro z; rw [z, hno] at hb; cases hb))
  have hge : n0 ≤ H.size := by omega
  refine lv_aload_n hx hb dX9_init_46 rfl (lv_at hl 0 rfl) ?_
  refine lv_iconst (v := 4) hx hb dX9_init_47 (by decide) ?_
  refine wi_newa (atype := .int) (n := 4) (N := 4) hx hb (hts _ q52) hK hS 0 rfl (fun h => h) (by decide) (by decide) (Nat.le_of_ble_eq_true rfl) (Nat.le_of_ble_eq_true rfl) (Nat.le_of_ble_eq_true rfl) dX9_init_48 (fun a48 H eq hz o1 hN_a48 hS => ?_)
  have n_a48 := cW_none hW (Nat.le_of_eq eq.symm)
  have g_a48 : n0 ≤ a48 := by omega
  have l_a48_h0 : h0 < a48 := by have := hO.lt; omega
  have hW := cW_kept hW (fun b t hb => o1 b (by have := hW_lt (N := nN N u3) hW hb; omega))
  have hO := hO.kept (o1 h0 l_a48_h0)
  have hge : n0 ≤ H.size := by omega
  obtain ⟨u4, eu4⟩ : ∃ w : iU, w = aU u3 a48 23 := ⟨_, rfl⟩
  have hW : cW (nN N u4) H := by rw [eu4]; exact cW_add hW n_a48 hN_a48 ⟨rfl, rfl, fun j v _ h => ⟨0, h, by decide⟩⟩
  have hR : iR pl N n0 h0 u4 := by rw [eu4]; exact iR_add hR g_a48 (by decide)
  have k_a8 : u4.1 a8 = some 21 := by rw [eu4]; exact aU_old n_a48 k_a8
  have k_a29 : u4.1 a29 = some 3 := by rw [eu4]; exact aU_old n_a48 k_a29
  have k_a41 : u4.1 a41 = some 22 := by rw [eu4]; exact aU_old n_a48 k_a41
  have hno : u4.1 h0 = none := by rw [eu4]; exact (if_neg (by omega)).trans hno
  have k_a48 : u4.1 a48 = some 23 := by rw [eu4]; exact aU_self
  refine wi_put (v := .ref a48) hx hb hts cfX9 tyX9 tyX9_ok nmX9 hown hin hK hO hS (Or.inl rfl) rfl 6 (by decide) q63 rfl rfl rfl dX9_init_50 (fun H locs hO oq hz hS => ?_)
  have hW := cW_kept hW (fun b t hb => oq b (by intro z; rw [z, hno] at hb; cases hb))
  have hge : n0 ≤ H.size := by omega
  refine lv_aload_n hx hb dX9_init_53 rfl (lv_at hl 0 rfl) ?_
  refine lv_iconst (v := 0) hx hb dX9_init_54 (by decide) ?_
  refine wi_put (v := .int (0 : Int32)) hx hb hts cfX9 tyX9 tyX9_ok nmX9 hown hin hK hO hS (Or.inl rfl) rfl 7 (by decide) q64 rfl rfl rfl dX9_init_55 (fun H locs hO oq hz hS => ?_)
  have hW := cW_kept hW (fun b t hb => oq b (by intro z; rw [z, hno] at hb; cases hb))
  have hge : n0 ≤ H.size := by omega
  refine lv_aload_n hx hb dX9_init_58 rfl (lv_at hl 0 rfl) ?_
  refine lv_iconst (v := 0) hx hb dX9_init_59 (by decide) ?_
  refine wi_put (v := .int (0 : Int32)) hx hb hts cfX9 tyX9 tyX9_ok nmX9 hown hin hK hO hS (Or.inl rfl) rfl 8 (by decide) q65 rfl rfl rfl dX9_init_60 (fun H locs hO oq hz hS => ?_)
  have hW := cW_kept hW (fun b t hb => oq b (by intro z; rw [z, hno] at hb; cases hb))
  have hge : n0 ≤ H.size := by omega
  refine lv_aload_n hx hb dX9_init_63 rfl (lv_at hl 0 rfl) ?_
  refine lv_iconst (v := 0) hx hb dX9_init_64 (by decide) ?_
  refine wi_put (v := .int (0 : Int32)) hx hb hts cfX9 tyX9 tyX9_ok nmX9 hown hin hK hO hS (Or.inl rfl) rfl 9 (by decide) q66 rfl rfl rfl dX9_init_65 (fun H locs hO oq hz hS => ?_)
  have hW := cW_kept hW (fun b t hb => oq b (by intro z; rw [z, hno] at hb; cases hb))
  have hge : n0 ≤ H.size := by omega
  refine lv_aload_n hx hb dX9_init_68 rfl (lv_at hl 0 rfl) ?_
  refine lv_iconst (v := 0) hx hb dX9_init_69 (by decide) ?_
  refine wi_put (v := .int (0 : Int32)) hx hb hts cfX9 tyX9 tyX9_ok nmX9 hown hin hK hO hS (Or.inl rfl) rfl 10 (by decide) q67 rfl rfl rfl dX9_init_70 (fun H locs hO oq hz hS => ?_)
  have hW := cW_kept hW (fun b t hb => oq b (by intro z; rw [z, hno] at hb; cases hb))
  have hge : n0 ≤ H.size := by omega
  refine lv_aload_n hx hb dX9_init_73 rfl (lv_at hl 0 rfl) ?_
  refine lv_iconst (v := -1) hx hb dX9_init_74 (by decide) ?_
  refine wi_put (v := .int (-1 : Int32)) hx hb hts cfX9 tyX9 tyX9_ok nmX9 hown hin hK hO hS (Or.inl rfl) rfl 11 (by decide) q68 rfl rfl rfl dX9_init_75 (fun H locs hO oq hz hS => ?_)
  have hW := cW_kept hW (fun b t hb => oq b (by intro z; rw [z, hno] at hb; cases hb))
  have hge : n0 ≤ H.size := by omega
  have hO : wt_at N.1 vwCl h0 (.inl (9, cP9 (nN N (aU u4 h0 9)))) H := hO.obj (P' := cP9 (nN N (aU u4 h0 9))) rfl (fun k v hk h => by
      match k, hk with
      | 0, _ => have h : v = .ref a8 := h; exact ⟨a8, h, aU_old hno k_a8⟩
      | 1, _ => have h : v = .int (0 : Int32) := h; exact ⟨(0 : Int32), h, by decide⟩
      | 2, _ => have h : v = .int (0 : Int32) := h; exact ⟨(0 : Int32), h⟩
      | 3, _ => have h : v = .int (-1 : Int32) := h; exact ⟨(-1 : Int32), h⟩
      | 4, _ => have h : v = .ref a29 := h; exact ⟨a29, h, aU_old hno k_a29⟩
      | 5, _ => have h : v = .ref a41 := h; exact ⟨a41, h, aU_old hno k_a41⟩
      | 6, _ => have h : v = .ref a48 := h; exact ⟨a48, h, aU_old hno k_a48⟩
      | 7, _ => have h : v = .int (0 : Int32) := h; exact ⟨(0 : Int32), h, by decide⟩
      | 8, _ => have h : v = .int (0 : Int32) := h; exact ⟨(0 : Int32), h⟩
      | 9, _ => have h : v = .int (0 : Int32) := h; exact ⟨(0 : Int32), h, by decide⟩
      | 10, _ => have h : v = .int (0 : Int32) := h; exact ⟨(0 : Int32), h⟩
      | 11, _ => have h : v = .int (-1 : Int32) := h; exact ⟨(-1 : Int32), h⟩
      | k + 12, hk => exact absurd hk (by show ¬ _ < 12; omega))
  have hW := cW_add (t := 9) hW hno hO (wt_le_rfl _)
  refine W.widen (k := 5) (n := 234) (Nat.le_of_ble_eq_true rfl) (Nat.le_of_ble_eq_true rfl) ?_
  exact W.vret hx hb hr (fun t ht _ => ⟨⟨aU u4 h0 9, rfl, ⟨(iR_end hR hh0).1, (iR_end hR hh0).2, trivial⟩, cW_at (N := nN N (aU u4 h0 9)) ht hW⟩, hS.F ht⟩) hS.2.2 dX9_init_78
set_option maxHeartbeats 4000000 in
set_option maxRecDepth 100000 in
theorem i_X7 (l : Launch) (N : c_N) (n00 n0 h0 : Nat) (h00 : n00 ≤ h0 ∧ n00 ≤ n0) : cMI l yX7_init cX7_init 2 { frames := 2, cells := 18, slots := 99, locals := 60 } h0 7 (fun k v => v = defaultValue (tyX7 k)) N n00 n0 18 99 pl (fun _ => True) := by
  refine Met.ofW (cc := cX7_init) (maxL := 2) (ret := none) (by decide) rfl ?_
  intro p e s m args below meth c s₁ B hml hv
  obtain ⟨rfl, hK, hW0, hT, hnn, hAO, hO, hno, hsz⟩ := hv
  have hx := B.exec
  have hb := B.bytes
  have hr := B.returns
  have hts : ∀ w ∈ lw_g, w.before _ s = true := fun w h => atoms_spec (ws := wc_ws yX7_init cX7_init 2 none) B.pre w (List.mem_cons_of_mem _ h)
  have hown : s.vm.findClass RX7 = some m.cls := findClass_of_methodNamed B.named
  have hlocks := B.notSynchronized
  have hin : meth.name = "<init>" := (name_of_methodNamed B.named B.method).1
  have hS : va_S (iA n0 h0) s.heap s.heap [] := va_S.rf
  have hl := lv_entry ([.ref h0]) (n := 2) (Nat.le_of_ble_eq_true rfl)
  rw [lg_entry_eq]
  generalize (lg_sl ([.ref h0]) ++ List.replicate (2 - (lg_sl ([.ref h0])).length) Slot.unset).toArray = ls at hl ⊢
  have hl : lv_has ls 2 [(0, .ref h0)] := hl
  have hh0 : h0 < n0 := by have := hO.lt; omega
  have hge : n0 ≤ s.heap.size := by omega
  have hR : iR pl N n0 h0 (N.2.2.1, N.2.2.2) := iR_0 hW0 hsz
  obtain ⟨u0, eu0⟩ : ∃ u : iU, u = (N.2.2.1, N.2.2.2) := ⟨_, rfl⟩
  rw [← eu0] at hR
  have hW : cW (nN N u0) s.heap := by rw [eu0]; exact hW0
  have hno : u0.1 h0 = none := by rw [eu0]; exact hno
  refine wq_all2 ?_
  intro WW w1 w2
  refine lv_aload_n hx hb dX7_init_0 rfl (lv_at hl 0 rfl) ?_
  refine W.objInit hx hb hown (hts _ q235) (hts _ q25) (hts _ q26) rfl (by rw [hml]; exact hl.1) rfl dX7_init_1 (Nat.le_of_ble_eq_true rfl) (Nat.le_of_ble_eq_true rfl) ?_
  refine lv_aload_n hx hb dX7_init_4 rfl (lv_at hl 0 rfl) ?_
  refine lv_bipush (v := 16) hx hb dX7_init_5 (by decide) ?_
  refine wi_anew (n := 16) (N := 16) hx hb hts hown q236 hAO.2.1 hK hS 5 rfl (by decide) (by decide) (Nat.le_of_ble_eq_true rfl) (Nat.le_of_ble_eq_true rfl) (Nat.le_of_ble_eq_true rfl) dX7_init_7 (fun a7 H eq hz o1 hN_a7 hS => ?_)
  have n_a7 := cW_none hW (Nat.le_of_eq eq.symm)
  have g_a7 : n0 ≤ a7 := by omega
  have l_a7_h0 : h0 < a7 := by have := hO.lt; omega
  have hW := cW_kept hW (fun b t hb => o1 b (by have := hW_lt (N := nN N u0) hW hb; omega))
  have hO := hO.kept (o1 h0 l_a7_h0)
  have hge : n0 ≤ H.size := by omega
  refine wi_put (v := .ref a7) hx hb hts cfX7 tyX7 tyX7_ok nmX7 hown hin hK hO hS (Or.inl rfl) rfl 0 (by decide) q238 rfl rfl rfl dX7_init_10 (fun H locs hO oq hz hS => ?_)
  have hW := cW_kept hW (fun b t hb => oq b (by intro z; rw [z, hno] at hb; cases hb))
  have hN_a7 := hN_a7.kept (oq a7 (by omega))
  have hge : n0 ≤ H.size := by omega
  refine lv_aload_n hx hb dX7_init_13 rfl (lv_at hl 0 rfl) ?_
  refine lv_iconst (v := 3) hx hb dX7_init_14 (by decide) ?_
  refine wi_newa (atype := .int) (n := 3) (N := 3) hx hb (hts _ q52) hK hS 0 rfl (fun h => h) (by decide) (by decide) (Nat.le_of_ble_eq_true rfl) (Nat.le_of_ble_eq_true rfl) (Nat.le_of_ble_eq_true rfl) dX7_init_15 (fun a15 H eq hz o1 hN_a15 hS => ?_)
  have n_a15 := cW_none hW (Nat.le_of_eq eq.symm)
  have g_a15 : n0 ≤ a15 := by omega
  have l_a15_h0 : h0 < a15 := by have := hO.lt; omega
  have l_a15_a7 : a7 < a15 := by have := hN_a7.lt; omega
  have hW := cW_kept hW (fun b t hb => o1 b (by have := hW_lt (N := nN N u0) hW hb; omega))
  have hO := hO.kept (o1 h0 l_a15_h0)
  have hN_a7 := hN_a7.kept (o1 a7 l_a15_a7)
  have hge : n0 ≤ H.size := by omega
  obtain ⟨u1, eu1⟩ : ∃ w : iU, w = aU u0 a15 25 := ⟨_, rfl⟩
  have hW : cW (nN N u1) H := by rw [eu1]; exact cW_add hW n_a15 hN_a15 ⟨rfl, rfl, fun j v _ h => ⟨0, h, by decide⟩⟩
  have hR : iR pl N n0 h0 u1 := by rw [eu1]; exact iR_add hR g_a15 (by decide)
  have hno : u1.1 h0 = none := by rw [eu1]; exact (if_neg (by omega)).trans hno
  have n_a7 : u1.1 a7 = none := by rw [eu1]; exact (if_neg (by omega)).trans n_a7
  have k_a15 : u1.1 a15 = some 25 := by rw [eu1]; exact aU_self
  refine wi_put (v := .ref a15) hx hb hts cfX7 tyX7 tyX7_ok nmX7 hown hin hK hO hS (Or.inl rfl) rfl 1 (by decide) q239 rfl rfl rfl dX7_init_17 (fun H locs hO oq hz hS => ?_)
  have hW := cW_kept hW (fun b t hb => oq b (by intro z; rw [z, hno] at hb; cases hb))
  have hN_a7 := hN_a7.kept (oq a7 (by omega))
  have hge : n0 ≤ H.size := by omega
  refine lv_iconst (v := 0) hx hb dX7_init_20 (by decide) ?_
  refine lv_istore_n (lv' := [(1, .int (0 : Int32)), (0, .ref h0)]) hx hb dX7_init_21 rfl hl (by decide) rfl (fun ls hl => ?_)
  have hN_a7 := hN_a7.mono (E' := .inr (N.2.1 5, 16, fun j w => j < 0 → gr (nN N u1) 4 w)) ⟨rfl, rfl, fun _ _ _ _ z => absurd z (Nat.not_lt_zero _)⟩
  have L22 : ∀ (k : Nat) (H : Heap) (locs : List Loc) (ls : Array Slot) (u : iU) (v : Int32) (i : Nat), v.toInt = (i : Int) → i ≤ 16 → 16 < k + i → cW (nN N u) H → wt_at N.1 vwCl h0 (.inl (7, wt_fu (wt_fu (fun k v => v = defaultValue (tyX7 k)) 0 (.ref a7)) 1 (.ref a15))) H → u.1 h0 = none → iR pl N n0 h0 u → va_S (iA n0 h0) s.heap H locs → n0 ≤ H.size → u.1 a15 = some 25 → u.1 a7 = none → wt_at N.1 vwCl a7 (.inr (N.2.1 5, 16, fun j w => j < i → gr (nN N u) 4 w)) H → lv_has ls 2 [(1, .int v), (0, .ref h0)] → WW H locs (2 + i * 1) (19 + i * 5) (F0 m 22 ls []) := by
    intro k
    induction k with
    | zero =>
      intro H locs ls u v i hv hi mu hW hO hno hR hS hge k_a15 n_a7 hN_a7 hl
      exfalso
      omega
    | succ k ih =>
      intro H locs ls u v i hv hi mu hW hO hno hR hS hge k_a15 n_a7 hN_a7 hl
      refine w1 _ _ _ _ _ ?_
      refine lv_iload_n hx hb dX7_init_22 rfl (lv_at hl 0 rfl) ?_
      refine lv_aload_n hx hb dX7_init_23 rfl (lv_at hl 1 rfl) ?_
      refine wi_get (v := .ref a7) hx hb hts cfX7 hown hK hO rfl 0 (by decide) q238 (fun w h => h) dX7_init_24 ?_
      refine wi_alen (v := 16) hx hb hK hN_a7 5 rfl (by decide) dX7_init_27 ?_
      refine lv_icmp_ge (tgt := 50) hx hb dX7_init_28 (by decide) (fun cb => ?_) (fun cb => ?_)
      · have qb : (16 : Int32).toInt = 16 := by decide
        have cb := Int32.le_iff_toInt_le.mp cb
        have hi2 : i = 16 := by omega
        subst hi2
        obtain ⟨u2, eu2⟩ : ∃ w : iU, w = aU u a7 35 := ⟨_, rfl⟩
        have hW : cW (nN N u2) H := by rw [eu2]; exact cW_add hW n_a7 hN_a7 ⟨rfl, rfl, fun j w hj h => gr_mono (N := nN N u) (fun q t hq => aU_old n_a7 hq) (h hj)⟩
        have hR : iR pl N n0 h0 u2 := by rw [eu2]; exact iR_add hR g_a7 (by decide)
        have k_a15 : u2.1 a15 = some 25 := by rw [eu2]; exact aU_old n_a7 k_a15
        have hno : u2.1 h0 = none := by rw [eu2]; exact (if_neg (by omega)).trans hno
        have k_a7 : u2.1 a7 = some 35 := by rw [eu2]; exact aU_self
        have hO : wt_at N.1 vwCl h0 (.inl (7, cP7 (nN N (aU u2 h0 7)))) H := hO.obj (P' := cP7 (nN N (aU u2 h0 7))) rfl (fun k v hk h => by
            match k, hk with
            | 0, _ => have h : v = .ref a7 := h; exact ⟨a7, h, aU_old hno k_a7⟩
            | 1, _ => have h : v = .ref a15 := h; exact ⟨a15, h, aU_old hno k_a15⟩
            | k + 2, hk => exact absurd hk (by show ¬ _ < 2; omega))
        have hW := cW_add (t := 7) hW hno hO (wt_le_rfl _)
        refine W.widen (k := 18) (n := 99) (by omega) (by omega) ?_
        exact W.vret hx hb hr (fun t ht _ => ⟨⟨aU u2 h0 7, rfl, ⟨(iR_end hR hh0).1, (iR_end hR hh0).2, trivial⟩, cW_at (N := nN N (aU u2 h0 7)) ht hW⟩, hS.F ht⟩) hS.2.2 dX7_init_50
      · have qb : (16 : Int32).toInt = 16 := by decide
        have cb := Int32.lt_iff_toInt_lt.mp (Int32.not_le.mp cb)
        have hi3 : i < 16 := by omega
        have rv : ir v 0 15 := by constructor <;> omega
        refine lv_aload_n hx hb dX7_init_31 rfl (lv_at hl 1 rfl) ?_
        refine wi_get (v := .ref a7) hx hb hts cfX7 hown hK hO rfl 0 (by decide) q238 (fun w h => h) dX7_init_32 ?_
        refine lv_iload_n hx hb dX7_init_35 rfl (lv_at hl 0 rfl) ?_
        refine wi_new (ci := 4) hx hb hts cfX4 tyX4 tyX4_ok hown q236 q181 q8 hK hS rfl (by show _ ≤ 18; omega) (by show _ ≤ 99; omega) dX7_init_36 (fun a36 H eq hz o1 hN_a36 hS => ?_)
        have hs_a36 := hz
        have n_a36 := cW_none hW (Nat.le_of_eq eq.symm)
        have g_a36 : n0 ≤ a36 := by omega
        have l_a36_h0 : h0 < a36 := by have := hO.lt; omega
        have l_a36_a7 : a7 < a36 := by have := hN_a7.lt; omega
        have hW := cW_kept hW (fun b t hb => o1 b (by have := hW_lt (N := nN N u) hW hb; omega))
        have hO := hO.kept (o1 h0 l_a36_h0)
        have hN_a7 := hN_a7.kept (o1 a7 l_a36_a7)
        have hge : n0 ≤ H.size := by omega
        refine lv_dup hx hb dX7_init_39 rfl ?_
        refine va_callv (wt_runIN (As := []) (rest := [.ref a36, .int v, .ref a7]) ⟨hx, hb, hml, hown, hts⟩ hnn (i_X4 l (nN N u) n00 H.size a36 ⟨by omega, by omega⟩) wm_X4_init q237 ⟨rfl, rfl⟩ ⟨Nat.le_of_ble_eq_true rfl, Nat.le_of_ble_eq_true rfl⟩ (cI_pre hK hW hT hnn hAO hS h00 hN_a36 n_a36) rfl hl.1 rfl (Nat.le_of_ble_eq_true rfl) dX7_init_40 ⟨by show _ ≤ 18; omega, by show _ ≤ 99; omega⟩) hS (fun x hx9 h9 => Or.inr (by rcases h9 with h9 | h9 <;> omega)) (fun x h9 => Or.inr (by rcases h9 with h9 | h9 <;> omega)) (fun u3 t H1 locs ht hvm hp hB hz hk hS => ?_)
        have hz0 : H.size = a36 + 1 := hs_a36
        have hR : iR pl N n0 h0 u3 := iR_call hR hp.1 (fun t h => h) hp.2.1 (by decide) g_a36 (by omega)
        have k_a15 : u3.1 a15 = some 25 := iX_k hp.1 hW n_a36 (Nat.le_refl _) k_a15
        have hno : u3.1 h0 = none := (hp.1.1 h0 (by omega) (by omega)).1.trans hno
        have hO := hO.kept (show t.heap[h0]? = _ by rw [ht]; exact hk h0 (by omega) (by intro z; rcases z with z | z <;> omega))
        have n_a7 : u3.1 a7 = none := (hp.1.1 a7 (by omega) (by omega)).1.trans n_a7
        have hN_a7 := hN_a7.kept (show t.heap[a7]? = _ by rw [ht]; exact hk a7 (by omega) (by intro z; rcases z with z | z <;> omega))
        have hN_a7 := wt_lift hN_a7 hp.1 hW n_a36 (Nat.le_refl _)
        have k_a36 : u3.1 a36 = some 4 := hp.2.1
        have hW : cW (nN N u3) t.heap := hB
        rw [ht] at hW hO hN_a7
        have hge : n0 ≤ H1.size := by omega
        clear hB
        obtain ⟨H, eH⟩ : ∃ X : Heap, X = H1 := ⟨_, rfl⟩
        rw [← eH] at hW hge hS hO hN_a7 ⊢
        refine wi_aast hx hb hK hS 5 4 hN_a7 (Or.inr g_a7) rfl (hW _ _ (cg4 (N := nN N u3) k_a36)) rfl (ir_in rv (by decide) (by decide)) dX7_init_43 (fun H locs hN_a7 oq hz hS => ?_)
        have hW := cW_kept hW (fun b t hb => oq b (by intro z; rw [z, n_a7] at hb; cases hb))
        have hO := hO.kept (oq h0 (by omega))
        have hge : n0 ≤ H.size := by omega
        have hN_a7 := wt_fill hN_a7 (by have := (ir_clamp rv (by decide)).1; omega) k_a36
        obtain ⟨w, ew⟩ : ∃ y : Int32, y = v + 1 := ⟨_, rfl⟩
        have tw : w.toInt = v.toInt + 1 := it_add ew rv (ir_c 1 (by decide) : ir (1 : Int32) 1 1) (by decide) (by decide)
        refine lv_iinc (v := w) (lv' := [(1, .int w), (0, .ref h0)]) hx hb dX7_init_44 hl (k := 0) rfl (by rw [ew]; rfl) (by decide) rfl (fun ls hl => ?_)
        refine lv_goto (tgt := 22) hx hb dX7_init_47 (by decide) ?_
        refine W.widen (k := 2 + (i + 1) * 1) (n := 19 + (i + 1) * 5) (by omega) (by omega) ?_
        exact w2 _ _ _ _ _ (ih _ _ _ u3 w (i + 1) (by omega) (by omega) (by omega) hW hO hno hR hS hge k_a15 n_a7 hN_a7 (lv_sub hl [0, 1] rfl))
  refine W.widen (k := 2 + 0 * 1) (n := 19 + 0 * 5) (Nat.le_of_ble_eq_true rfl) (Nat.le_of_ble_eq_true rfl) ?_
  exact w2 _ _ _ _ _ (L22 17 _ _ _ u1 (0 : Int32) 0 (by decide) (Nat.zero_le _) (by decide) hW hO hno hR hS hge k_a15 n_a7 hN_a7 (lv_sub hl [0, 1] rfl))
set_option maxHeartbeats 4000000 in
set_option maxRecDepth 100000 in
theorem i_X1 (l : Launch) (N : c_N) (n00 n0 h0 : Nat) (h00 : n00 ≤ h0 ∧ n00 ≤ n0) : cMI l yX1_init cX1_init 2 { frames := 2, cells := 22, slots := 280, locals := 60 } h0 1 (fun k v => v = defaultValue (tyX1 k)) N n00 n0 22 280 pl (fun _ => True) := by
  refine Met.ofW (cc := cX1_init) (maxL := 2) (ret := none) (by decide) rfl ?_
  intro p e s m args below meth c s₁ B hml hv
  obtain ⟨rfl, hK, hW0, hT, hnn, hAO, hO, hno, hsz⟩ := hv
  have hx := B.exec
  have hb := B.bytes
  have hr := B.returns
  have hts : ∀ w ∈ lw_g, w.before _ s = true := fun w h => atoms_spec (ws := wc_ws yX1_init cX1_init 2 none) B.pre w (List.mem_cons_of_mem _ h)
  have hown : s.vm.findClass RX1 = some m.cls := findClass_of_methodNamed B.named
  have hlocks := B.notSynchronized
  have hin : meth.name = "<init>" := (name_of_methodNamed B.named B.method).1
  have hS : va_S (iA n0 h0) s.heap s.heap [] := va_S.rf
  have hl := lv_entry ([.ref h0]) (n := 2) (Nat.le_of_ble_eq_true rfl)
  rw [lg_entry_eq]
  generalize (lg_sl ([.ref h0]) ++ List.replicate (2 - (lg_sl ([.ref h0])).length) Slot.unset).toArray = ls at hl ⊢
  have hl : lv_has ls 2 [(0, .ref h0)] := hl
  have hh0 : h0 < n0 := by have := hO.lt; omega
  have hge : n0 ≤ s.heap.size := by omega
  have hR : iR pl N n0 h0 (N.2.2.1, N.2.2.2) := iR_0 hW0 hsz
  obtain ⟨u0, eu0⟩ : ∃ u : iU, u = (N.2.2.1, N.2.2.2) := ⟨_, rfl⟩
  rw [← eu0] at hR
  have hW : cW (nN N u0) s.heap := by rw [eu0]; exact hW0
  have hno : u0.1 h0 = none := by rw [eu0]; exact hno
  refine wq_all2 ?_
  intro WW w1 w2
  refine lv_aload_n hx hb dX1_init_0 rfl (lv_at hl 0 rfl) ?_
  refine W.objInit hx hb hown (hts _ q101) (hts _ q25) (hts _ q26) rfl (by rw [hml]; exact hl.1) rfl dX1_init_1 (Nat.le_of_ble_eq_true rfl) (Nat.le_of_ble_eq_true rfl) ?_
  refine lv_aload_n hx hb dX1_init_4 rfl (lv_at hl 0 rfl) ?_
  refine lv_bipush (v := 10) hx hb dX1_init_5 (by decide) ?_
  refine wi_anew (n := 10) (N := 10) hx hb hts hown q102 hAO.1 hK hS 4 rfl (by decide) (by decide) (Nat.le_of_ble_eq_true rfl) (Nat.le_of_ble_eq_true rfl) (Nat.le_of_ble_eq_true rfl) dX1_init_7 (fun a7 H eq hz o1 hN_a7 hS => ?_)
  have n_a7 := cW_none hW (Nat.le_of_eq eq.symm)
  have g_a7 : n0 ≤ a7 := by omega
  have l_a7_h0 : h0 < a7 := by have := hO.lt; omega
  have hW := cW_kept hW (fun b t hb => o1 b (by have := hW_lt (N := nN N u0) hW hb; omega))
  have hO := hO.kept (o1 h0 l_a7_h0)
  have hge : n0 ≤ H.size := by omega
  refine wi_put (v := .ref a7) hx hb hts cfX1 tyX1 tyX1_ok nmX1 hown hin hK hO hS (Or.inl rfl) rfl 0 (by decide) q105 rfl rfl rfl dX1_init_10 (fun H locs hO oq hz hS => ?_)
  have hW := cW_kept hW (fun b t hb => oq b (by intro z; rw [z, hno] at hb; cases hb))
  have hN_a7 := hN_a7.kept (oq a7 (by omega))
  have hge : n0 ≤ H.size := by omega
  refine lv_aload_n hx hb dX1_init_13 rfl (lv_at hl 0 rfl) ?_
  refine lv_bipush (v := 10) hx hb dX1_init_14 (by decide) ?_
  refine wi_newa (atype := .boolean) (n := 10) (N := 10) hx hb (hts _ q119) hK hS 2 rfl (fun h => h) (by decide) (by decide) (Nat.le_of_ble_eq_true rfl) (Nat.le_of_ble_eq_true rfl) (Nat.le_of_ble_eq_true rfl) dX1_init_16 (fun a16 H eq hz o1 hN_a16 hS => ?_)
  have n_a16 := cW_none hW (Nat.le_of_eq eq.symm)
  have g_a16 : n0 ≤ a16 := by omega
  have l_a16_h0 : h0 < a16 := by have := hO.lt; omega
  have l_a16_a7 : a7 < a16 := by have := hN_a7.lt; omega
  have hW := cW_kept hW (fun b t hb => o1 b (by have := hW_lt (N := nN N u0) hW hb; omega))
  have hO := hO.kept (o1 h0 l_a16_h0)
  have hN_a7 := hN_a7.kept (o1 a7 l_a16_a7)
  have hge : n0 ≤ H.size := by omega
  obtain ⟨u1, eu1⟩ : ∃ w : iU, w = aU u0 a16 30 := ⟨_, rfl⟩
  have hW : cW (nN N u1) H := by rw [eu1]; exact cW_add hW n_a16 hN_a16 ⟨rfl, rfl, fun j v _ h => ⟨0, h, by decide⟩⟩
  have hR : iR pl N n0 h0 u1 := by rw [eu1]; exact iR_add hR g_a16 (by decide)
  have hno : u1.1 h0 = none := by rw [eu1]; exact (if_neg (by omega)).trans hno
  have n_a7 : u1.1 a7 = none := by rw [eu1]; exact (if_neg (by omega)).trans n_a7
  have k_a16 : u1.1 a16 = some 30 := by rw [eu1]; exact aU_self
  refine wi_put (v := .ref a16) hx hb hts cfX1 tyX1 tyX1_ok nmX1 hown hin hK hO hS (Or.inl rfl) rfl 1 (by decide) q106 rfl rfl rfl dX1_init_18 (fun H locs hO oq hz hS => ?_)
  have hW := cW_kept hW (fun b t hb => oq b (by intro z; rw [z, hno] at hb; cases hb))
  have hN_a7 := hN_a7.kept (oq a7 (by omega))
  have hge : n0 ≤ H.size := by omega
  refine lv_aload_n hx hb dX1_init_21 rfl (lv_at hl 0 rfl) ?_
  refine lv_iconst (v := 0) hx hb dX1_init_22 (by decide) ?_
  refine wi_put (v := .int (0 : Int32)) hx hb hts cfX1 tyX1 tyX1_ok nmX1 hown hin hK hO hS (Or.inl rfl) rfl 2 (by decide) q107 rfl rfl rfl dX1_init_23 (fun H locs hO oq hz hS => ?_)
  have hW := cW_kept hW (fun b t hb => oq b (by intro z; rw [z, hno] at hb; cases hb))
  have hN_a7 := hN_a7.kept (oq a7 (by omega))
  have hge : n0 ≤ H.size := by omega
  refine lv_aload_n hx hb dX1_init_26 rfl (lv_at hl 0 rfl) ?_
  refine lv_iconst (v := 0) hx hb dX1_init_27 (by decide) ?_
  refine wi_put (v := .int (0 : Int32)) hx hb hts cfX1 tyX1 tyX1_ok nmX1 hown hin hK hO hS (Or.inl rfl) rfl 3 (by decide) q108 rfl rfl rfl dX1_init_28 (fun H locs hO oq hz hS => ?_)
  have hW := cW_kept hW (fun b t hb => oq b (by intro z; rw [z, hno] at hb; cases hb))
  have hN_a7 := hN_a7.kept (oq a7 (by omega))
  have hge : n0 ≤ H.size := by omega
  refine lv_iconst (v := 0) hx hb dX1_init_31 (by decide) ?_
  refine lv_istore_n (lv' := [(1, .int (0 : Int32)), (0, .ref h0)]) hx hb dX1_init_32 rfl hl (by decide) rfl (fun ls hl => ?_)
  have hN_a7 := hN_a7.mono (E' := .inr (N.2.1 4, 10, fun j w => j < 0 → gr (nN N u1) 3 w)) ⟨rfl, rfl, fun _ _ _ _ z => absurd z (Nat.not_lt_zero _)⟩
  have L33 : ∀ (k : Nat) (H : Heap) (locs : List Loc) (ls : Array Slot) (u : iU) (v : Int32) (i : Nat), v.toInt = (i : Int) → i ≤ 10 → 10 < k + i → cW (nN N u) H → wt_at N.1 vwCl h0 (.inl (1, wt_fu (wt_fu (wt_fu (wt_fu (fun k v => v = defaultValue (tyX1 k)) 0 (.ref a7)) 1 (.ref a16)) 2 (.int (0 : Int32))) 3 (.int (0 : Int32)))) H → u.1 h0 = none → iR pl N n0 h0 u → va_S (iA n0 h0) s.heap H locs → n0 ≤ H.size → u.1 a16 = some 30 → u.1 a7 = none → wt_at N.1 vwCl a7 (.inr (N.2.1 4, 10, fun j w => j < i → gr (nN N u) 3 w)) H → lv_has ls 2 [(1, .int v), (0, .ref h0)] → WW H locs (2 + i * 2) (20 + i * 26) (F0 m 33 ls []) := by
    intro k
    induction k with
    | zero =>
      intro H locs ls u v i hv hi mu hW hO hno hR hS hge k_a16 n_a7 hN_a7 hl
      exfalso
      omega
    | succ k ih =>
      intro H locs ls u v i hv hi mu hW hO hno hR hS hge k_a16 n_a7 hN_a7 hl
      refine w1 _ _ _ _ _ ?_
      refine lv_iload_n hx hb dX1_init_33 rfl (lv_at hl 0 rfl) ?_
      refine lv_bipush (v := 10) hx hb dX1_init_34 (by decide) ?_
      refine lv_icmp_ge (tgt := 58) hx hb dX1_init_36 (by decide) (fun cb => ?_) (fun cb => ?_)
      · have qb : (10 : Int32).toInt = 10 := by decide
        have cb := Int32.le_iff_toInt_le.mp cb
        have hi2 : i = 10 := by omega
        subst hi2
        obtain ⟨u2, eu2⟩ : ∃ w : iU, w = aU u a7 29 := ⟨_, rfl⟩
        have hW : cW (nN N u2) H := by rw [eu2]; exact cW_add hW n_a7 hN_a7 ⟨rfl, rfl, fun j w hj h => gr_mono (N := nN N u) (fun q t hq => aU_old n_a7 hq) (h hj)⟩
        have hR : iR pl N n0 h0 u2 := by rw [eu2]; exact iR_add hR g_a7 (by decide)
        have k_a16 : u2.1 a16 = some 30 := by rw [eu2]; exact aU_old n_a7 k_a16
        have hno : u2.1 h0 = none := by rw [eu2]; exact (if_neg (by omega)).trans hno
        have k_a7 : u2.1 a7 = some 29 := by rw [eu2]; exact aU_self
        have hO : wt_at N.1 vwCl h0 (.inl (1, cP1 (nN N (aU u2 h0 1)))) H := hO.obj (P' := cP1 (nN N (aU u2 h0 1))) rfl (fun k v hk h => by
            match k, hk with
            | 0, _ => have h : v = .ref a7 := h; exact ⟨a7, h, aU_old hno k_a7⟩
            | 1, _ => have h : v = .ref a16 := h; exact ⟨a16, h, aU_old hno k_a16⟩
            | 2, _ => have h : v = .int (0 : Int32) := h; exact ⟨(0 : Int32), h, by decide⟩
            | 3, _ => have h : v = .int (0 : Int32) := h; exact ⟨(0 : Int32), h, by decide⟩
            | k + 4, hk => exact absurd hk (by show ¬ _ < 4; omega))
        have hW := cW_add (t := 1) hW hno hO (wt_le_rfl _)
        refine W.widen (k := 22) (n := 280) (by omega) (by omega) ?_
        exact W.vret hx hb hr (fun t ht _ => ⟨⟨aU u2 h0 1, rfl, ⟨(iR_end hR hh0).1, (iR_end hR hh0).2, trivial⟩, cW_at (N := nN N (aU u2 h0 1)) ht hW⟩, hS.F ht⟩) hS.2.2 dX1_init_58
      · have qb : (10 : Int32).toInt = 10 := by decide
        have cb := Int32.lt_iff_toInt_lt.mp (Int32.not_le.mp cb)
        have hi3 : i < 10 := by omega
        have rv : ir v 0 9 := by constructor <;> omega
        refine lv_aload_n hx hb dX1_init_39 rfl (lv_at hl 1 rfl) ?_
        refine wi_get (v := .ref a7) hx hb hts cfX1 hown hK hO rfl 0 (by decide) q105 (fun w h => h) dX1_init_40 ?_
        refine lv_iload_n hx hb dX1_init_43 rfl (lv_at hl 0 rfl) ?_
        refine wi_new (ci := 3) hx hb hts cfX3 tyX3 tyX3_ok hown q102 q34 q3 hK hS rfl (by show _ ≤ 22; omega) (by show _ ≤ 280; omega) dX1_init_44 (fun a44 H eq hz o1 hN_a44 hS => ?_)
        have hs_a44 := hz
        have n_a44 := cW_none hW (Nat.le_of_eq eq.symm)
        have g_a44 : n0 ≤ a44 := by omega
        have l_a44_h0 : h0 < a44 := by have := hO.lt; omega
        have l_a44_a7 : a7 < a44 := by have := hN_a7.lt; omega
        have hW := cW_kept hW (fun b t hb => o1 b (by have := hW_lt (N := nN N u) hW hb; omega))
        have hO := hO.kept (o1 h0 l_a44_h0)
        have hN_a7 := hN_a7.kept (o1 a7 l_a44_a7)
        have hge : n0 ≤ H.size := by omega
        refine lv_dup hx hb dX1_init_47 rfl ?_
        refine va_callv (wt_runIN (As := []) (rest := [.ref a44, .int v, .ref a7]) ⟨hx, hb, hml, hown, hts⟩ hnn (i_X3 l (nN N u) n00 H.size a44 ⟨by omega, by omega⟩) wm_X3_init q104 ⟨rfl, rfl⟩ ⟨Nat.le_of_ble_eq_true rfl, Nat.le_of_ble_eq_true rfl⟩ (cI_pre hK hW hT hnn hAO hS h00 hN_a44 n_a44) rfl hl.1 rfl (Nat.le_of_ble_eq_true rfl) dX1_init_48 ⟨by show _ ≤ 22; omega, by show _ ≤ 280; omega⟩) hS (fun x hx9 h9 => Or.inr (by rcases h9 with h9 | h9 <;> omega)) (fun x h9 => Or.inr (by rcases h9 with h9 | h9 <;> omega)) (fun u3 t H1 locs ht hvm hp hB hz hk hS => ?_)
        have hz0 : H.size = a44 + 1 := hs_a44
        have hR : iR pl N n0 h0 u3 := iR_call hR hp.1 (fun t h => h) hp.2.1 (by decide) g_a44 (by omega)
        have k_a16 : u3.1 a16 = some 30 := iX_k hp.1 hW n_a44 (Nat.le_refl _) k_a16
        have hno : u3.1 h0 = none := (hp.1.1 h0 (by omega) (by omega)).1.trans hno
        have hO := hO.kept (show t.heap[h0]? = _ by rw [ht]; exact hk h0 (by omega) (by intro z; rcases z with z | z <;> omega))
        have n_a7 : u3.1 a7 = none := (hp.1.1 a7 (by omega) (by omega)).1.trans n_a7
        have hN_a7 := hN_a7.kept (show t.heap[a7]? = _ by rw [ht]; exact hk a7 (by omega) (by intro z; rcases z with z | z <;> omega))
        have hN_a7 := wt_lift hN_a7 hp.1 hW n_a44 (Nat.le_refl _)
        have k_a44 : u3.1 a44 = some 3 := hp.2.1
        have hW : cW (nN N u3) t.heap := hB
        rw [ht] at hW hO hN_a7
        have hge : n0 ≤ H1.size := by omega
        clear hB
        obtain ⟨H, eH⟩ : ∃ X : Heap, X = H1 := ⟨_, rfl⟩
        rw [← eH] at hW hge hS hO hN_a7 ⊢
        refine wi_aast hx hb hK hS 4 3 hN_a7 (Or.inr g_a7) rfl (hW _ _ (cg3 (N := nN N u3) k_a44)) rfl (ir_in rv (by decide) (by decide)) dX1_init_51 (fun H locs hN_a7 oq hz hS => ?_)
        have hW := cW_kept hW (fun b t hb => oq b (by intro z; rw [z, n_a7] at hb; cases hb))
        have hO := hO.kept (oq h0 (by omega))
        have hge : n0 ≤ H.size := by omega
        have hN_a7 := wt_fill hN_a7 (by have := (ir_clamp rv (by decide)).1; omega) k_a44
        obtain ⟨w, ew⟩ : ∃ y : Int32, y = v + 1 := ⟨_, rfl⟩
        have tw : w.toInt = v.toInt + 1 := it_add ew rv (ir_c 1 (by decide) : ir (1 : Int32) 1 1) (by decide) (by decide)
        refine lv_iinc (v := w) (lv' := [(1, .int w), (0, .ref h0)]) hx hb dX1_init_52 hl (k := 0) rfl (by rw [ew]; rfl) (by decide) rfl (fun ls hl => ?_)
        refine lv_goto (tgt := 33) hx hb dX1_init_55 (by decide) ?_
        refine W.widen (k := 2 + (i + 1) * 2) (n := 20 + (i + 1) * 26) (by omega) (by omega) ?_
        exact w2 _ _ _ _ _ (ih _ _ _ u3 w (i + 1) (by omega) (by omega) (by omega) hW hO hno hR hS hge k_a16 n_a7 hN_a7 (lv_sub hl [0, 1] rfl))
  refine W.widen (k := 2 + 0 * 2) (n := 20 + 0 * 26) (Nat.le_of_ble_eq_true rfl) (Nat.le_of_ble_eq_true rfl) ?_
  exact w2 _ _ _ _ _ (L33 11 _ _ _ u1 (0 : Int32) 0 (by decide) (Nat.zero_le _) (by decide) hW hO hno hR hS hge k_a16 n_a7 hN_a7 (lv_sub hl [0, 1] rfl))
set_option maxHeartbeats 4000000 in
set_option maxRecDepth 100000 in
theorem i_X6 (l : Launch) (N : c_N) (n00 n0 h0 : Nat) (h00 : n00 ≤ h0 ∧ n00 ≤ n0) : cMI l yX6_init cX6_init 2 { frames := 2, cells := 171, slots := 1052, locals := 60 } h0 6 (fun k v => v = defaultValue (tyX6 k)) N n00 n0 171 1052 pl (fun _ => True) := by
  refine Met.ofW (cc := cX6_init) (maxL := 2) (ret := none) (by decide) rfl ?_
  intro p e s m args below meth c s₁ B hml hv
  obtain ⟨rfl, hK, hW0, hT, hnn, hAO, hO, hno, hsz⟩ := hv
  have hx := B.exec
  have hb := B.bytes
  have hr := B.returns
  have hts : ∀ w ∈ lw_g, w.before _ s = true := fun w h => atoms_spec (ws := wc_ws yX6_init cX6_init 2 none) B.pre w (List.mem_cons_of_mem _ h)
  have hown : s.vm.findClass RX6 = some m.cls := findClass_of_methodNamed B.named
  have hlocks := B.notSynchronized
  have hin : meth.name = "<init>" := (name_of_methodNamed B.named B.method).1
  have hS : va_S (iA n0 h0) s.heap s.heap [] := va_S.rf
  have hl := lv_entry ([.ref h0]) (n := 2) (Nat.le_of_ble_eq_true rfl)
  rw [lg_entry_eq]
  generalize (lg_sl ([.ref h0]) ++ List.replicate (2 - (lg_sl ([.ref h0])).length) Slot.unset).toArray = ls at hl ⊢
  have hl : lv_has ls 2 [(0, .ref h0)] := hl
  have hh0 : h0 < n0 := by have := hO.lt; omega
  have hge : n0 ≤ s.heap.size := by omega
  have hR : iR pl N n0 h0 (N.2.2.1, N.2.2.2) := iR_0 hW0 hsz
  obtain ⟨u0, eu0⟩ : ∃ u : iU, u = (N.2.2.1, N.2.2.2) := ⟨_, rfl⟩
  rw [← eu0] at hR
  have hW : cW (nN N u0) s.heap := by rw [eu0]; exact hW0
  have hno : u0.1 h0 = none := by rw [eu0]; exact hno
  refine wq_all2 ?_
  intro WW w1 w2
  refine lv_aload_n hx hb dX6_init_0 rfl (lv_at hl 0 rfl) ?_
  refine W.objInit hx hb hown (hts _ q161) (hts _ q25) (hts _ q26) rfl (by rw [hml]; exact hl.1) rfl dX6_init_1 (Nat.le_of_ble_eq_true rfl) (Nat.le_of_ble_eq_true rfl) ?_
  refine lv_aload_n hx hb dX6_init_4 rfl (lv_at hl 0 rfl) ?_
  refine lv_sipush (v := 168) hx hb dX6_init_5 (by decide) ?_
  refine wi_anew (n := 168) (N := 168) hx hb hts hown q162 hAO.2.1 hK hS 5 rfl (by decide) (by decide) (Nat.le_of_ble_eq_true rfl) (Nat.le_of_ble_eq_true rfl) (Nat.le_of_ble_eq_true rfl) dX6_init_8 (fun a8 H eq hz o1 hN_a8 hS => ?_)
  have n_a8 := cW_none hW (Nat.le_of_eq eq.symm)
  have g_a8 : n0 ≤ a8 := by omega
  have l_a8_h0 : h0 < a8 := by have := hO.lt; omega
  have hW := cW_kept hW (fun b t hb => o1 b (by have := hW_lt (N := nN N u0) hW hb; omega))
  have hO := hO.kept (o1 h0 l_a8_h0)
  have hge : n0 ≤ H.size := by omega
  refine wi_put (v := .ref a8) hx hb hts cfX6 tyX6 tyX6_ok nmX6 hown hin hK hO hS (Or.inl rfl) rfl 0 (by decide) q209 rfl rfl rfl dX6_init_11 (fun H locs hO oq hz hS => ?_)
  have hW := cW_kept hW (fun b t hb => oq b (by intro z; rw [z, hno] at hb; cases hb))
  have hN_a8 := hN_a8.kept (oq a8 (by omega))
  have hge : n0 ≤ H.size := by omega
  refine lv_aload_n hx hb dX6_init_14 rfl (lv_at hl 0 rfl) ?_
  refine wi_new (ci := 8) hx hb hts cfX8 tyX8 tyX8_ok hown q164 q165 q7 hK hS rfl (Nat.le_of_ble_eq_true rfl) (Nat.le_of_ble_eq_true rfl) dX6_init_15 (fun a15 H eq hz o1 hN_a15 hS => ?_)
  have hs_a15 := hz
  have n_a15 := cW_none hW (Nat.le_of_eq eq.symm)
  have g_a15 : n0 ≤ a15 := by omega
  have l_a15_h0 : h0 < a15 := by have := hO.lt; omega
  have l_a15_a8 : a8 < a15 := by have := hN_a8.lt; omega
  have hW := cW_kept hW (fun b t hb => o1 b (by have := hW_lt (N := nN N u0) hW hb; omega))
  have hO := hO.kept (o1 h0 l_a15_h0)
  have hN_a8 := hN_a8.kept (o1 a8 l_a15_a8)
  have hge : n0 ≤ H.size := by omega
  refine lv_dup hx hb dX6_init_18 rfl ?_
  refine va_callv (wt_runIN (As := []) (rest := [.ref a15, .ref h0]) ⟨hx, hb, hml, hown, hts⟩ hnn (i_X8 l (nN N u0) n00 H.size a15 ⟨by omega, by omega⟩) wm_X8_init q166 ⟨rfl, rfl⟩ ⟨Nat.le_of_ble_eq_true rfl, Nat.le_of_ble_eq_true rfl⟩ (cI_pre hK hW hT hnn hAO hS h00 hN_a15 n_a15) rfl hl.1 rfl (Nat.le_of_ble_eq_true rfl) dX6_init_19 ⟨Nat.le_of_ble_eq_true rfl, Nat.le_of_ble_eq_true rfl⟩) hS (fun x hx9 h9 => Or.inr (by rcases h9 with h9 | h9 <;> omega)) (fun x h9 => Or.inr (by rcases h9 with h9 | h9 <;> omega)) (fun u1 t H1 locs ht hvm hp hB hz hk hS => ?_)
  have hz0 : H.size = a15 + 1 := hs_a15
  have hR : iR pl N n0 h0 u1 := iR_call hR hp.1 (fun t h => h) hp.2.1 (by decide) g_a15 (by omega)
  have hno : u1.1 h0 = none := (hp.1.1 h0 (by omega) (by omega)).1.trans hno
  have hO := hO.kept (show t.heap[h0]? = _ by rw [ht]; exact hk h0 (by omega) (by intro z; rcases z with z | z <;> omega))
  have n_a8 : u1.1 a8 = none := (hp.1.1 a8 (by omega) (by omega)).1.trans n_a8
  have hN_a8 := hN_a8.kept (show t.heap[a8]? = _ by rw [ht]; exact hk a8 (by omega) (by intro z; rcases z with z | z <;> omega))
  have k_a15 : u1.1 a15 = some 8 := hp.2.1
  have hW : cW (nN N u1) t.heap := hB
  rw [ht] at hW hO hN_a8
  have hge : n0 ≤ H1.size := by omega
  clear hB
  obtain ⟨H, eH⟩ : ∃ X : Heap, X = H1 := ⟨_, rfl⟩
  rw [← eH] at hW hge hS hO hN_a8 ⊢
  refine wi_put (v := .ref a15) hx hb hts cfX6 tyX6 tyX6_ok nmX6 hown hin hK hO hS (Or.inl rfl) rfl 1 (by decide) q210 rfl rfl rfl dX6_init_22 (fun H locs hO oq hz hS => ?_)
  have hW := cW_kept hW (fun b t hb => oq b (by intro z; rw [z, hno] at hb; cases hb))
  have hN_a8 := hN_a8.kept (oq a8 (by omega))
  have hge : n0 ≤ H.size := by omega
  refine lv_aload_n hx hb dX6_init_25 rfl (lv_at hl 0 rfl) ?_
  refine lv_bipush (v := 42) hx hb dX6_init_26 (by decide) ?_
  refine wi_newa (atype := .int) (n := 42) (N := 42) hx hb (hts _ q52) hK hS 0 rfl (fun h => h) (by decide) (by decide) (Nat.le_of_ble_eq_true rfl) (Nat.le_of_ble_eq_true rfl) (Nat.le_of_ble_eq_true rfl) dX6_init_28 (fun a28 H eq hz o1 hN_a28 hS => ?_)
  have n_a28 := cW_none hW (Nat.le_of_eq eq.symm)
  have g_a28 : n0 ≤ a28 := by omega
  have l_a28_h0 : h0 < a28 := by have := hO.lt; omega
  have l_a28_a8 : a8 < a28 := by have := hN_a8.lt; omega
  have hW := cW_kept hW (fun b t hb => o1 b (by have := hW_lt (N := nN N u1) hW hb; omega))
  have hO := hO.kept (o1 h0 l_a28_h0)
  have hN_a8 := hN_a8.kept (o1 a8 l_a28_a8)
  have hge : n0 ≤ H.size := by omega
  obtain ⟨u2, eu2⟩ : ∃ w : iU, w = aU u1 a28 24 := ⟨_, rfl⟩
  have hW : cW (nN N u2) H := by rw [eu2]; exact cW_add hW n_a28 hN_a28 ⟨rfl, rfl, fun j v _ h => ⟨0, h, by decide⟩⟩
  have hR : iR pl N n0 h0 u2 := by rw [eu2]; exact iR_add hR g_a28 (by decide)
  have k_a15 : u2.1 a15 = some 8 := by rw [eu2]; exact aU_old n_a28 k_a15
  have hno : u2.1 h0 = none := by rw [eu2]; exact (if_neg (by omega)).trans hno
  have n_a8 : u2.1 a8 = none := by rw [eu2]; exact (if_neg (by omega)).trans n_a8
  have k_a28 : u2.1 a28 = some 24 := by rw [eu2]; exact aU_self
  refine wi_put (v := .ref a28) hx hb hts cfX6 tyX6 tyX6_ok nmX6 hown hin hK hO hS (Or.inl rfl) rfl 2 (by decide) q211 rfl rfl rfl dX6_init_30 (fun H locs hO oq hz hS => ?_)
  have hW := cW_kept hW (fun b t hb => oq b (by intro z; rw [z, hno] at hb; cases hb))
  have hN_a8 := hN_a8.kept (oq a8 (by omega))
  have hge : n0 ≤ H.size := by omega
  refine lv_aload_n hx hb dX6_init_33 rfl (lv_at hl 0 rfl) ?_
  refine lv_iconst (v := 0) hx hb dX6_init_34 (by decide) ?_
  refine wi_put (v := .int (0 : Int32)) hx hb hts cfX6 tyX6 tyX6_ok nmX6 hown hin hK hO hS (Or.inl rfl) rfl 3 (by decide) q214 rfl rfl rfl dX6_init_35 (fun H locs hO oq hz hS => ?_)
  have hW := cW_kept hW (fun b t hb => oq b (by intro z; rw [z, hno] at hb; cases hb))
  have hN_a8 := hN_a8.kept (oq a8 (by omega))
  have hge : n0 ≤ H.size := by omega
  refine lv_aload_n hx hb dX6_init_38 rfl (lv_at hl 0 rfl) ?_
  refine lv_iconst (v := 0) hx hb dX6_init_39 (by decide) ?_
  refine wi_put (v := .int (0 : Int32)) hx hb hts cfX6 tyX6 tyX6_ok nmX6 hown hin hK hO hS (Or.inl rfl) rfl 4 (by decide) q217 rfl rfl rfl dX6_init_40 (fun H locs hO oq hz hS => ?_)
  have hW := cW_kept hW (fun b t hb => oq b (by intro z; rw [z, hno] at hb; cases hb))
  have hN_a8 := hN_a8.kept (oq a8 (by omega))
  have hge : n0 ≤ H.size := by omega
  refine lv_iconst (v := 0) hx hb dX6_init_43 (by decide) ?_
  refine lv_istore_n (lv' := [(1, .int (0 : Int32)), (0, .ref h0)]) hx hb dX6_init_44 rfl hl (by decide) rfl (fun ls hl => ?_)
  have hN_a8 := hN_a8.mono (E' := .inr (N.2.1 5, 168, fun j w => j < 0 → gr (nN N u2) 4 w)) ⟨rfl, rfl, fun _ _ _ _ z => absurd z (Nat.not_lt_zero _)⟩
  have L45 : ∀ (k : Nat) (H : Heap) (locs : List Loc) (ls : Array Slot) (u : iU) (v : Int32) (i : Nat), v.toInt = (i : Int) → i ≤ 168 → 168 < k + i → cW (nN N u) H → wt_at N.1 vwCl h0 (.inl (6, wt_fu (wt_fu (wt_fu (wt_fu (wt_fu (fun k v => v = defaultValue (tyX6 k)) 0 (.ref a8)) 1 (.ref a15)) 2 (.ref a28)) 3 (.int (0 : Int32))) 4 (.int (0 : Int32)))) H → u.1 h0 = none → iR pl N n0 h0 u → va_S (iA n0 h0) s.heap H locs → n0 ≤ H.size → u.1 a15 = some 8 → u.1 a28 = some 24 → u.1 a8 = none → wt_at N.1 vwCl a8 (.inr (N.2.1 5, 168, fun j w => j < i → gr (nN N u) 4 w)) H → lv_has ls 2 [(1, .int v), (0, .ref h0)] → WW H locs (3 + i * 1) (212 + i * 5) (F0 m 45 ls []) := by
    intro k
    induction k with
    | zero =>
      intro H locs ls u v i hv hi mu hW hO hno hR hS hge k_a15 k_a28 n_a8 hN_a8 hl
      exfalso
      omega
    | succ k ih =>
      intro H locs ls u v i hv hi mu hW hO hno hR hS hge k_a15 k_a28 n_a8 hN_a8 hl
      refine w1 _ _ _ _ _ ?_
      refine lv_iload_n hx hb dX6_init_45 rfl (lv_at hl 0 rfl) ?_
      refine lv_sipush (v := 168) hx hb dX6_init_46 (by decide) ?_
      refine lv_icmp_ge (tgt := 71) hx hb dX6_init_49 (by decide) (fun cb => ?_) (fun cb => ?_)
      · have qb : (168 : Int32).toInt = 168 := by decide
        have cb := Int32.le_iff_toInt_le.mp cb
        have hi2 : i = 168 := by omega
        subst hi2
        obtain ⟨u3, eu3⟩ : ∃ w : iU, w = aU u a8 34 := ⟨_, rfl⟩
        have hW : cW (nN N u3) H := by rw [eu3]; exact cW_add hW n_a8 hN_a8 ⟨rfl, rfl, fun j w hj h => gr_mono (N := nN N u) (fun q t hq => aU_old n_a8 hq) (h hj)⟩
        have hR : iR pl N n0 h0 u3 := by rw [eu3]; exact iR_add hR g_a8 (by decide)
        have k_a15 : u3.1 a15 = some 8 := by rw [eu3]; exact aU_old n_a8 k_a15
        have k_a28 : u3.1 a28 = some 24 := by rw [eu3]; exact aU_old n_a8 k_a28
        have hno : u3.1 h0 = none := by rw [eu3]; exact (if_neg (by omega)).trans hno
        have k_a8 : u3.1 a8 = some 34 := by rw [eu3]; exact aU_self
        have hO : wt_at N.1 vwCl h0 (.inl (6, cP6 (nN N (aU u3 h0 6)))) H := hO.obj (P' := cP6 (nN N (aU u3 h0 6))) rfl (fun k v hk h => by
            match k, hk with
            | 0, _ => have h : v = .ref a8 := h; exact ⟨a8, h, aU_old hno k_a8⟩
            | 1, _ => have h : v = .ref a15 := h; exact ⟨a15, h, aU_old hno k_a15⟩
            | 2, _ => have h : v = .ref a28 := h; exact ⟨a28, h, aU_old hno k_a28⟩
            | 3, _ => have h : v = .int (0 : Int32) := h; exact ⟨(0 : Int32), h, by decide⟩
            | 4, _ => have h : v = .int (0 : Int32) := h; exact ⟨(0 : Int32), h⟩
            | k + 5, hk => exact absurd hk (by show ¬ _ < 5; omega))
        have hW := cW_add (t := 6) hW hno hO (wt_le_rfl _)
        refine W.widen (k := 171) (n := 1052) (by omega) (by omega) ?_
        exact W.vret hx hb hr (fun t ht _ => ⟨⟨aU u3 h0 6, rfl, ⟨(iR_end hR hh0).1, (iR_end hR hh0).2, trivial⟩, cW_at (N := nN N (aU u3 h0 6)) ht hW⟩, hS.F ht⟩) hS.2.2 dX6_init_71
      · have qb : (168 : Int32).toInt = 168 := by decide
        have cb := Int32.lt_iff_toInt_lt.mp (Int32.not_le.mp cb)
        have hi3 : i < 168 := by omega
        have rv : ir v 0 167 := by constructor <;> omega
        refine lv_aload_n hx hb dX6_init_52 rfl (lv_at hl 1 rfl) ?_
        refine wi_get (v := .ref a8) hx hb hts cfX6 hown hK hO rfl 0 (by decide) q209 (fun w h => h) dX6_init_53 ?_
        refine lv_iload_n hx hb dX6_init_56 rfl (lv_at hl 0 rfl) ?_
        refine wi_new (ci := 4) hx hb hts cfX4 tyX4 tyX4_ok hown q162 q181 q8 hK hS rfl (by show _ ≤ 171; omega) (by show _ ≤ 1052; omega) dX6_init_57 (fun a57 H eq hz o1 hN_a57 hS => ?_)
        have hs_a57 := hz
        have n_a57 := cW_none hW (Nat.le_of_eq eq.symm)
        have g_a57 : n0 ≤ a57 := by omega
        have l_a57_h0 : h0 < a57 := by have := hO.lt; omega
        have l_a57_a8 : a8 < a57 := by have := hN_a8.lt; omega
        have hW := cW_kept hW (fun b t hb => o1 b (by have := hW_lt (N := nN N u) hW hb; omega))
        have hO := hO.kept (o1 h0 l_a57_h0)
        have hN_a8 := hN_a8.kept (o1 a8 l_a57_a8)
        have hge : n0 ≤ H.size := by omega
        refine lv_dup hx hb dX6_init_60 rfl ?_
        refine va_callv (wt_runIN (As := []) (rest := [.ref a57, .int v, .ref a8]) ⟨hx, hb, hml, hown, hts⟩ hnn (i_X4 l (nN N u) n00 H.size a57 ⟨by omega, by omega⟩) wm_X4_init q182 ⟨rfl, rfl⟩ ⟨Nat.le_of_ble_eq_true rfl, Nat.le_of_ble_eq_true rfl⟩ (cI_pre hK hW hT hnn hAO hS h00 hN_a57 n_a57) rfl hl.1 rfl (Nat.le_of_ble_eq_true rfl) dX6_init_61 ⟨by show _ ≤ 171; omega, by show _ ≤ 1052; omega⟩) hS (fun x hx9 h9 => Or.inr (by rcases h9 with h9 | h9 <;> omega)) (fun x h9 => Or.inr (by rcases h9 with h9 | h9 <;> omega)) (fun u4 t H1 locs ht hvm hp hB hz hk hS => ?_)
        have hz0 : H.size = a57 + 1 := hs_a57
        have hR : iR pl N n0 h0 u4 := iR_call hR hp.1 (fun t h => h) hp.2.1 (by decide) g_a57 (by omega)
        have k_a15 : u4.1 a15 = some 8 := iX_k hp.1 hW n_a57 (Nat.le_refl _) k_a15
        have k_a28 : u4.1 a28 = some 24 := iX_k hp.1 hW n_a57 (Nat.le_refl _) k_a28
        have hno : u4.1 h0 = none := (hp.1.1 h0 (by omega) (by omega)).1.trans hno
        have hO := hO.kept (show t.heap[h0]? = _ by rw [ht]; exact hk h0 (by omega) (by intro z; rcases z with z | z <;> omega))
        have n_a8 : u4.1 a8 = none := (hp.1.1 a8 (by omega) (by omega)).1.trans n_a8
        have hN_a8 := hN_a8.kept (show t.heap[a8]? = _ by rw [ht]; exact hk a8 (by omega) (by intro z; rcases z with z | z <;> omega))
        have hN_a8 := wt_lift hN_a8 hp.1 hW n_a57 (Nat.le_refl _)
        have k_a57 : u4.1 a57 = some 4 := hp.2.1
        have hW : cW (nN N u4) t.heap := hB
        rw [ht] at hW hO hN_a8
        have hge : n0 ≤ H1.size := by omega
        clear hB
        obtain ⟨H, eH⟩ : ∃ X : Heap, X = H1 := ⟨_, rfl⟩
        rw [← eH] at hW hge hS hO hN_a8 ⊢
        refine wi_aast hx hb hK hS 5 4 hN_a8 (Or.inr g_a8) rfl (hW _ _ (cg4 (N := nN N u4) k_a57)) rfl (ir_in rv (by decide) (by decide)) dX6_init_64 (fun H locs hN_a8 oq hz hS => ?_)
        have hW := cW_kept hW (fun b t hb => oq b (by intro z; rw [z, n_a8] at hb; cases hb))
        have hO := hO.kept (oq h0 (by omega))
        have hge : n0 ≤ H.size := by omega
        have hN_a8 := wt_fill hN_a8 (by have := (ir_clamp rv (by decide)).1; omega) k_a57
        obtain ⟨w, ew⟩ : ∃ y : Int32, y = v + 1 := ⟨_, rfl⟩
        have tw : w.toInt = v.toInt + 1 := it_add ew rv (ir_c 1 (by decide) : ir (1 : Int32) 1 1) (by decide) (by decide)
        refine lv_iinc (v := w) (lv' := [(1, .int w), (0, .ref h0)]) hx hb dX6_init_65 hl (k := 0) rfl (by rw [ew]; rfl) (by decide) rfl (fun ls hl => ?_)
        refine lv_goto (tgt := 45) hx hb dX6_init_68 (by decide) ?_
        refine W.widen (k := 3 + (i + 1) * 1) (n := 212 + (i + 1) * 5) (by omega) (by omega) ?_
        exact w2 _ _ _ _ _ (ih _ _ _ u4 w (i + 1) (by omega) (by omega) (by omega) hW hO hno hR hS hge k_a15 k_a28 n_a8 hN_a8 (lv_sub hl [0, 1] rfl))
  refine W.widen (k := 3 + 0 * 1) (n := 212 + 0 * 5) (Nat.le_of_ble_eq_true rfl) (Nat.le_of_ble_eq_true rfl) ?_
  exact w2 _ _ _ _ _ (L45 169 _ _ _ u2 (0 : Int32) 0 (by decide) (Nat.zero_le _) (by decide) hW hO hno hR hS hge k_a15 k_a28 n_a8 hN_a8 (lv_sub hl [0, 1] rfl))
set_option maxHeartbeats 4000000 in
set_option maxRecDepth 100000 in
theorem i_X2 (l : Launch) (N : c_N) (n00 n0 h0 : Nat) (h00 : n00 ≤ h0 ∧ n00 ≤ n0) : cMI l yX2_init cX2_init 2 { frames := 2, cells := 53, slots := 301, locals := 60 } h0 2 (fun k v => v = defaultValue (tyX2 k)) N n00 n0 53 301 pl (fun _ => True) := by
  refine Met.ofW (cc := cX2_init) (maxL := 2) (ret := none) (by decide) rfl ?_
  intro p e s m args below meth c s₁ B hml hv
  obtain ⟨rfl, hK, hW0, hT, hnn, hAO, hO, hno, hsz⟩ := hv
  have hx := B.exec
  have hb := B.bytes
  have hr := B.returns
  have hts : ∀ w ∈ lw_g, w.before _ s = true := fun w h => atoms_spec (ws := wc_ws yX2_init cX2_init 2 none) B.pre w (List.mem_cons_of_mem _ h)
  have hown : s.vm.findClass RX2 = some m.cls := findClass_of_methodNamed B.named
  have hlocks := B.notSynchronized
  have hin : meth.name = "<init>" := (name_of_methodNamed B.named B.method).1
  have hS : va_S (iA n0 h0) s.heap s.heap [] := va_S.rf
  have hl := lv_entry ([.ref h0]) (n := 2) (Nat.le_of_ble_eq_true rfl)
  rw [lg_entry_eq]
  generalize (lg_sl ([.ref h0]) ++ List.replicate (2 - (lg_sl ([.ref h0])).length) Slot.unset).toArray = ls at hl ⊢
  have hl : lv_has ls 2 [(0, .ref h0)] := hl
  have hh0 : h0 < n0 := by have := hO.lt; omega
  have hge : n0 ≤ s.heap.size := by omega
  have hR : iR pl N n0 h0 (N.2.2.1, N.2.2.2) := iR_0 hW0 hsz
  obtain ⟨u0, eu0⟩ : ∃ u : iU, u = (N.2.2.1, N.2.2.2) := ⟨_, rfl⟩
  rw [← eu0] at hR
  have hW : cW (nN N u0) s.heap := by rw [eu0]; exact hW0
  have hno : u0.1 h0 = none := by rw [eu0]; exact hno
  refine wq_all2 ?_
  intro WW w1 w2
  refine lv_aload_n hx hb dX2_init_0 rfl (lv_at hl 0 rfl) ?_
  refine W.objInit hx hb hown (hts _ q271) (hts _ q25) (hts _ q26) rfl (by rw [hml]; exact hl.1) rfl dX2_init_1 (Nat.le_of_ble_eq_true rfl) (Nat.le_of_ble_eq_true rfl) ?_
  refine lv_aload_n hx hb dX2_init_4 rfl (lv_at hl 0 rfl) ?_
  refine lv_bipush (v := 24) hx hb dX2_init_5 (by decide) ?_
  refine wi_anew (n := 24) (N := 24) hx hb hts hown q272 hAO.2.1 hK hS 5 rfl (by decide) (by decide) (Nat.le_of_ble_eq_true rfl) (Nat.le_of_ble_eq_true rfl) (Nat.le_of_ble_eq_true rfl) dX2_init_7 (fun a7 H eq hz o1 hN_a7 hS => ?_)
  have n_a7 := cW_none hW (Nat.le_of_eq eq.symm)
  have g_a7 : n0 ≤ a7 := by omega
  have l_a7_h0 : h0 < a7 := by have := hO.lt; omega
  have hW := cW_kept hW (fun b t hb => o1 b (by have := hW_lt (N := nN N u0) hW hb; omega))
  have hO := hO.kept (o1 h0 l_a7_h0)
  have hge : n0 ≤ H.size := by omega
  refine wi_put (v := .ref a7) hx hb hts cfX2 tyX2 tyX2_ok nmX2 hown hin hK hO hS (Or.inl rfl) rfl 0 (by decide) q276 rfl rfl rfl dX2_init_10 (fun H locs hO oq hz hS => ?_)
  have hW := cW_kept hW (fun b t hb => oq b (by intro z; rw [z, hno] at hb; cases hb))
  have hN_a7 := hN_a7.kept (oq a7 (by omega))
  have hge : n0 ≤ H.size := by omega
  refine lv_aload_n hx hb dX2_init_13 rfl (lv_at hl 0 rfl) ?_
  refine lv_bipush (v := 25) hx hb dX2_init_14 (by decide) ?_
  refine wi_anew (n := 25) (N := 25) hx hb hts hown q272 hAO.2.1 hK hS 5 rfl (by decide) (by decide) (Nat.le_of_ble_eq_true rfl) (Nat.le_of_ble_eq_true rfl) (Nat.le_of_ble_eq_true rfl) dX2_init_16 (fun a16 H eq hz o1 hN_a16 hS => ?_)
  have n_a16 := cW_none hW (Nat.le_of_eq eq.symm)
  have g_a16 : n0 ≤ a16 := by omega
  have l_a16_h0 : h0 < a16 := by have := hO.lt; omega
  have l_a16_a7 : a7 < a16 := by have := hN_a7.lt; omega
  have hW := cW_kept hW (fun b t hb => o1 b (by have := hW_lt (N := nN N u0) hW hb; omega))
  have hO := hO.kept (o1 h0 l_a16_h0)
  have hN_a7 := hN_a7.kept (o1 a7 l_a16_a7)
  have hge : n0 ≤ H.size := by omega
  refine wi_put (v := .ref a16) hx hb hts cfX2 tyX2 tyX2_ok nmX2 hown hin hK hO hS (Or.inl rfl) rfl 1 (by decide) q277 rfl rfl rfl dX2_init_19 (fun H locs hO oq hz hS => ?_)
  have hW := cW_kept hW (fun b t hb => oq b (by intro z; rw [z, hno] at hb; cases hb))
  have hN_a7 := hN_a7.kept (oq a7 (by omega))
  have hN_a16 := hN_a16.kept (oq a16 (by omega))
  have hge : n0 ≤ H.size := by omega
  refine lv_aload_n hx hb dX2_init_22 rfl (lv_at hl 0 rfl) ?_
  refine wi_new (ci := 4) hx hb hts cfX4 tyX4 tyX4_ok hown q272 q181 q8 hK hS rfl (Nat.le_of_ble_eq_true rfl) (Nat.le_of_ble_eq_true rfl) dX2_init_23 (fun a23 H eq hz o1 hN_a23 hS => ?_)
  have hs_a23 := hz
  have n_a23 := cW_none hW (Nat.le_of_eq eq.symm)
  have g_a23 : n0 ≤ a23 := by omega
  have l_a23_h0 : h0 < a23 := by have := hO.lt; omega
  have l_a23_a7 : a7 < a23 := by have := hN_a7.lt; omega
  have l_a23_a16 : a16 < a23 := by have := hN_a16.lt; omega
  have hW := cW_kept hW (fun b t hb => o1 b (by have := hW_lt (N := nN N u0) hW hb; omega))
  have hO := hO.kept (o1 h0 l_a23_h0)
  have hN_a7 := hN_a7.kept (o1 a7 l_a23_a7)
  have hN_a16 := hN_a16.kept (o1 a16 l_a23_a16)
  have hge : n0 ≤ H.size := by omega
  refine lv_dup hx hb dX2_init_26 rfl ?_
  refine va_callv (wt_runIN (As := []) (rest := [.ref a23, .ref h0]) ⟨hx, hb, hml, hown, hts⟩ hnn (i_X4 l (nN N u0) n00 H.size a23 ⟨by omega, by omega⟩) wm_X4_init q273 ⟨rfl, rfl⟩ ⟨Nat.le_of_ble_eq_true rfl, Nat.le_of_ble_eq_true rfl⟩ (cI_pre hK hW hT hnn hAO hS h00 hN_a23 n_a23) rfl hl.1 rfl (Nat.le_of_ble_eq_true rfl) dX2_init_27 ⟨Nat.le_of_ble_eq_true rfl, Nat.le_of_ble_eq_true rfl⟩) hS (fun x hx9 h9 => Or.inr (by rcases h9 with h9 | h9 <;> omega)) (fun x h9 => Or.inr (by rcases h9 with h9 | h9 <;> omega)) (fun u1 t H1 locs ht hvm hp hB hz hk hS => ?_)
  have hz0 : H.size = a23 + 1 := hs_a23
  have hR : iR pl N n0 h0 u1 := iR_call hR hp.1 (fun t h => h) hp.2.1 (by decide) g_a23 (by omega)
  have hno : u1.1 h0 = none := (hp.1.1 h0 (by omega) (by omega)).1.trans hno
  have hO := hO.kept (show t.heap[h0]? = _ by rw [ht]; exact hk h0 (by omega) (by intro z; rcases z with z | z <;> omega))
  have n_a7 : u1.1 a7 = none := (hp.1.1 a7 (by omega) (by omega)).1.trans n_a7
  have hN_a7 := hN_a7.kept (show t.heap[a7]? = _ by rw [ht]; exact hk a7 (by omega) (by intro z; rcases z with z | z <;> omega))
  have n_a16 : u1.1 a16 = none := (hp.1.1 a16 (by omega) (by omega)).1.trans n_a16
  have hN_a16 := hN_a16.kept (show t.heap[a16]? = _ by rw [ht]; exact hk a16 (by omega) (by intro z; rcases z with z | z <;> omega))
  have k_a23 : u1.1 a23 = some 4 := hp.2.1
  have hW : cW (nN N u1) t.heap := hB
  rw [ht] at hW hO hN_a7 hN_a16
  have hge : n0 ≤ H1.size := by omega
  clear hB
  obtain ⟨H, eH⟩ : ∃ X : Heap, X = H1 := ⟨_, rfl⟩
  rw [← eH] at hW hge hS hO hN_a7 hN_a16 ⊢
  refine wi_put (v := .ref a23) hx hb hts cfX2 tyX2 tyX2_ok nmX2 hown hin hK hO hS (Or.inl rfl) rfl 2 (by decide) q279 rfl rfl rfl dX2_init_30 (fun H locs hO oq hz hS => ?_)
  have hW := cW_kept hW (fun b t hb => oq b (by intro z; rw [z, hno] at hb; cases hb))
  have hN_a7 := hN_a7.kept (oq a7 (by omega))
  have hN_a16 := hN_a16.kept (oq a16 (by omega))
  have hge : n0 ≤ H.size := by omega
  refine lv_aload_n hx hb dX2_init_33 rfl (lv_at hl 0 rfl) ?_
  refine wi_new (ci := 8) hx hb hts cfX8 tyX8 tyX8_ok hown q274 q165 q7 hK hS rfl (Nat.le_of_ble_eq_true rfl) (Nat.le_of_ble_eq_true rfl) dX2_init_34 (fun a34 H eq hz o1 hN_a34 hS => ?_)
  have hs_a34 := hz
  have n_a34 := cW_none hW (Nat.le_of_eq eq.symm)
  have g_a34 : n0 ≤ a34 := by omega
  have l_a34_h0 : h0 < a34 := by have := hO.lt; omega
  have l_a34_a7 : a7 < a34 := by have := hN_a7.lt; omega
  have l_a34_a16 : a16 < a34 := by have := hN_a16.lt; omega
  have hW := cW_kept hW (fun b t hb => o1 b (by have := hW_lt (N := nN N u1) hW hb; omega))
  have hO := hO.kept (o1 h0 l_a34_h0)
  have hN_a7 := hN_a7.kept (o1 a7 l_a34_a7)
  have hN_a16 := hN_a16.kept (o1 a16 l_a34_a16)
  have hge : n0 ≤ H.size := by omega
  refine lv_dup hx hb dX2_init_37 rfl ?_
  refine va_callv (wt_runIN (As := []) (rest := [.ref a34, .ref h0]) ⟨hx, hb, hml, hown, hts⟩ hnn (i_X8 l (nN N u1) n00 H.size a34 ⟨by omega, by omega⟩) wm_X8_init q275 ⟨rfl, rfl⟩ ⟨Nat.le_of_ble_eq_true rfl, Nat.le_of_ble_eq_true rfl⟩ (cI_pre hK hW hT hnn hAO hS h00 hN_a34 n_a34) rfl hl.1 rfl (Nat.le_of_ble_eq_true rfl) dX2_init_38 ⟨Nat.le_of_ble_eq_true rfl, Nat.le_of_ble_eq_true rfl⟩) hS (fun x hx9 h9 => Or.inr (by rcases h9 with h9 | h9 <;> omega)) (fun x h9 => Or.inr (by rcases h9 with h9 | h9 <;> omega)) (fun u2 t H1 locs ht hvm hp hB hz hk hS => ?_)
  have hz0 : H.size = a34 + 1 := hs_a34
  have hR : iR pl N n0 h0 u2 := iR_call hR hp.1 (fun t h => h) hp.2.1 (by decide) g_a34 (by omega)
  have k_a23 : u2.1 a23 = some 4 := iX_k hp.1 hW n_a34 (Nat.le_refl _) k_a23
  have hno : u2.1 h0 = none := (hp.1.1 h0 (by omega) (by omega)).1.trans hno
  have hO := hO.kept (show t.heap[h0]? = _ by rw [ht]; exact hk h0 (by omega) (by intro z; rcases z with z | z <;> omega))
  have n_a7 : u2.1 a7 = none := (hp.1.1 a7 (by omega) (by omega)).1.trans n_a7
  have hN_a7 := hN_a7.kept (show t.heap[a7]? = _ by rw [ht]; exact hk a7 (by omega) (by intro z; rcases z with z | z <;> omega))
  have n_a16 : u2.1 a16 = none := (hp.1.1 a16 (by omega) (by omega)).1.trans n_a16
  have hN_a16 := hN_a16.kept (show t.heap[a16]? = _ by rw [ht]; exact hk a16 (by omega) (by intro z; rcases z with z | z <;> omega))
  have k_a34 : u2.1 a34 = some 8 := hp.2.1
  have hW : cW (nN N u2) t.heap := hB
  rw [ht] at hW hO hN_a7 hN_a16
  have hge : n0 ≤ H1.size := by omega
  clear hB
  obtain ⟨H, eH⟩ : ∃ X : Heap, X = H1 := ⟨_, rfl⟩
  rw [← eH] at hW hge hS hO hN_a7 hN_a16 ⊢
  refine wi_put (v := .ref a34) hx hb hts cfX2 tyX2 tyX2_ok nmX2 hown hin hK hO hS (Or.inl rfl) rfl 3 (by decide) q280 rfl rfl rfl dX2_init_41 (fun H locs hO oq hz hS => ?_)
  have hW := cW_kept hW (fun b t hb => oq b (by intro z; rw [z, hno] at hb; cases hb))
  have hN_a7 := hN_a7.kept (oq a7 (by omega))
  have hN_a16 := hN_a16.kept (oq a16 (by omega))
  have hge : n0 ≤ H.size := by omega
  refine lv_aload_n hx hb dX2_init_44 rfl (lv_at hl 0 rfl) ?_
  refine lv_iconst (v := 0) hx hb dX2_init_45 (by decide) ?_
  refine wi_put (v := .int (0 : Int32)) hx hb hts cfX2 tyX2 tyX2_ok nmX2 hown hin hK hO hS (Or.inl rfl) rfl 4 (by decide) q281 rfl rfl rfl dX2_init_46 (fun H locs hO oq hz hS => ?_)
  have hW := cW_kept hW (fun b t hb => oq b (by intro z; rw [z, hno] at hb; cases hb))
  have hN_a7 := hN_a7.kept (oq a7 (by omega))
  have hN_a16 := hN_a16.kept (oq a16 (by omega))
  have hge : n0 ≤ H.size := by omega
  refine lv_iconst (v := 0) hx hb dX2_init_49 (by decide) ?_
  refine lv_istore_n (lv' := [(1, .int (0 : Int32)), (0, .ref h0)]) hx hb dX2_init_50 rfl hl (by decide) rfl (fun ls hl => ?_)
  have hN_a7 := hN_a7.mono (E' := .inr (N.2.1 5, 24, fun j w => j < 0 → gr (nN N u2) 4 w)) ⟨rfl, rfl, fun _ _ _ _ z => absurd z (Nat.not_lt_zero _)⟩
  have L51 : ∀ (k : Nat) (H : Heap) (locs : List Loc) (ls : Array Slot) (u : iU) (v : Int32) (i : Nat), v.toInt = (i : Int) → i ≤ 24 → 24 < k + i → cW (nN N u) H → wt_at N.1 vwCl h0 (.inl (2, wt_fu (wt_fu (wt_fu (wt_fu (wt_fu (fun k v => v = defaultValue (tyX2 k)) 0 (.ref a7)) 1 (.ref a16)) 2 (.ref a23)) 3 (.ref a34)) 4 (.int (0 : Int32)))) H → u.1 h0 = none → iR pl N n0 h0 u → va_S (iA n0 h0) s.heap H locs → n0 ≤ H.size → u.1 a23 = some 4 → u.1 a34 = some 8 → u.1 a7 = none → wt_at N.1 vwCl a7 (.inr (N.2.1 5, 24, fun j w => j < i → gr (nN N u) 4 w)) H → u.1 a16 = none → wt_at N.1 vwCl a16 (.inr (N.2.1 5, 25, fun _ _ => True)) H → lv_has ls 2 [(1, .int v), (0, .ref h0)] → WW H locs (4 + i * 1) (56 + i * 5) (F0 m 51 ls []) := by
    intro k
    induction k with
    | zero =>
      intro H locs ls u v i hv hi mu hW hO hno hR hS hge k_a23 k_a34 n_a7 hN_a7 n_a16 hN_a16 hl
      exfalso
      omega
    | succ k ih =>
      intro H locs ls u v i hv hi mu hW hO hno hR hS hge k_a23 k_a34 n_a7 hN_a7 n_a16 hN_a16 hl
      refine w1 _ _ _ _ _ ?_
      refine lv_iload_n hx hb dX2_init_51 rfl (lv_at hl 0 rfl) ?_
      refine lv_bipush (v := 24) hx hb dX2_init_52 (by decide) ?_
      refine lv_icmp_ge (tgt := 76) hx hb dX2_init_54 (by decide) (fun cb => ?_) (fun cb => ?_)
      · have qb : (24 : Int32).toInt = 24 := by decide
        have cb := Int32.le_iff_toInt_le.mp cb
        have hi2 : i = 24 := by omega
        subst hi2
        obtain ⟨u3, eu3⟩ : ∃ w : iU, w = aU u a7 32 := ⟨_, rfl⟩
        have hW : cW (nN N u3) H := by rw [eu3]; exact cW_add hW n_a7 hN_a7 ⟨rfl, rfl, fun j w hj h => gr_mono (N := nN N u) (fun q t hq => aU_old n_a7 hq) (h hj)⟩
        have hR : iR pl N n0 h0 u3 := by rw [eu3]; exact iR_add hR g_a7 (by decide)
        have k_a23 : u3.1 a23 = some 4 := by rw [eu3]; exact aU_old n_a7 k_a23
        have k_a34 : u3.1 a34 = some 8 := by rw [eu3]; exact aU_old n_a7 k_a34
        have hno : u3.1 h0 = none := by rw [eu3]; exact (if_neg (by omega)).trans hno
        have n_a16 : u3.1 a16 = none := by rw [eu3]; exact (if_neg (by omega)).trans n_a16
        have k_a7 : u3.1 a7 = some 32 := by rw [eu3]; exact aU_self
        refine lv_iconst (v := 0) hx hb dX2_init_76 (by decide) ?_
        refine lv_istore_n (lv' := [(1, .int (0 : Int32)), (0, .ref h0)]) hx hb dX2_init_77 rfl hl (by decide) rfl (fun ls hl => ?_)
        have hN_a16 := hN_a16.mono (E' := .inr (N.2.1 5, 25, fun j w => j < 0 → gr (nN N u3) 4 w)) ⟨rfl, rfl, fun _ _ _ _ z => absurd z (Nat.not_lt_zero _)⟩
        have L78 : ∀ (k : Nat) (H : Heap) (locs : List Loc) (ls : Array Slot) (u : iU) (v : Int32) (i : Nat), v.toInt = (i : Int) → i ≤ 25 → 25 < k + i → cW (nN N u) H → wt_at N.1 vwCl h0 (.inl (2, wt_fu (wt_fu (wt_fu (wt_fu (wt_fu (fun k v => v = defaultValue (tyX2 k)) 0 (.ref a7)) 1 (.ref a16)) 2 (.ref a23)) 3 (.ref a34)) 4 (.int (0 : Int32)))) H → u.1 h0 = none → iR pl N n0 h0 u → va_S (iA n0 h0) s.heap H locs → n0 ≤ H.size → u.1 a23 = some 4 → u.1 a34 = some 8 → u.1 a7 = some 32 → u.1 a16 = none → wt_at N.1 vwCl a16 (.inr (N.2.1 5, 25, fun j w => j < i → gr (nN N u) 4 w)) H → lv_has ls 2 [(1, .int v), (0, .ref h0)] → WW H locs (28 + i * 1) (176 + i * 5) (F0 m 78 ls []) := by
          intro k
          induction k with
          | zero =>
            intro H locs ls u v i hv hi mu hW hO hno hR hS hge k_a23 k_a34 k_a7 n_a16 hN_a16 hl
            exfalso
            omega
          | succ k ih =>
            intro H locs ls u v i hv hi mu hW hO hno hR hS hge k_a23 k_a34 k_a7 n_a16 hN_a16 hl
            refine w1 _ _ _ _ _ ?_
            refine lv_iload_n hx hb dX2_init_78 rfl (lv_at hl 0 rfl) ?_
            refine lv_bipush (v := 24) hx hb dX2_init_79 (by decide) ?_
            refine lv_icmp_gt (tgt := 103) hx hb dX2_init_81 (by decide) (fun cb => ?_) (fun cb => ?_)
            · have qb : (24 : Int32).toInt = 24 := by decide
              have cb := Int32.lt_iff_toInt_lt.mp cb
              have hi2 : i = 25 := by omega
              subst hi2
              obtain ⟨u4, eu4⟩ : ∃ w : iU, w = aU u a16 33 := ⟨_, rfl⟩
              have hW : cW (nN N u4) H := by rw [eu4]; exact cW_add hW n_a16 hN_a16 ⟨rfl, rfl, fun j w hj h => gr_mono (N := nN N u) (fun q t hq => aU_old n_a16 hq) (h hj)⟩
              have hR : iR pl N n0 h0 u4 := by rw [eu4]; exact iR_add hR g_a16 (by decide)
              have k_a23 : u4.1 a23 = some 4 := by rw [eu4]; exact aU_old n_a16 k_a23
              have k_a34 : u4.1 a34 = some 8 := by rw [eu4]; exact aU_old n_a16 k_a34
              have k_a7 : u4.1 a7 = some 32 := by rw [eu4]; exact aU_old n_a16 k_a7
              have hno : u4.1 h0 = none := by rw [eu4]; exact (if_neg (by omega)).trans hno
              have k_a16 : u4.1 a16 = some 33 := by rw [eu4]; exact aU_self
              have hO : wt_at N.1 vwCl h0 (.inl (2, cP2 (nN N (aU u4 h0 2)))) H := hO.obj (P' := cP2 (nN N (aU u4 h0 2))) rfl (fun k v hk h => by
                  match k, hk with
                  | 0, _ => have h : v = .ref a7 := h; exact ⟨a7, h, aU_old hno k_a7⟩
                  | 1, _ => have h : v = .ref a16 := h; exact ⟨a16, h, aU_old hno k_a16⟩
                  | 2, _ => have h : v = .ref a23 := h; exact ⟨a23, h, aU_old hno k_a23⟩
                  | 3, _ => have h : v = .ref a34 := h; exact ⟨a34, h, aU_old hno k_a34⟩
                  | 4, _ => have h : v = .int (0 : Int32) := h; exact ⟨(0 : Int32), h, by decide⟩
                  | k + 5, hk => exact absurd hk (by show ¬ _ < 5; omega))
              have hW := cW_add (t := 2) hW hno hO (wt_le_rfl _)
              refine W.widen (k := 53) (n := 301) (by omega) (by omega) ?_
              exact W.vret hx hb hr (fun t ht _ => ⟨⟨aU u4 h0 2, rfl, ⟨(iR_end hR hh0).1, (iR_end hR hh0).2, trivial⟩, cW_at (N := nN N (aU u4 h0 2)) ht hW⟩, hS.F ht⟩) hS.2.2 dX2_init_103
            · have qb : (24 : Int32).toInt = 24 := by decide
              have cb := Int32.le_iff_toInt_le.mp (Int32.not_lt.mp cb)
              have hi3 : i < 25 := by omega
              have rv : ir v 0 24 := by constructor <;> omega
              refine lv_aload_n hx hb dX2_init_84 rfl (lv_at hl 1 rfl) ?_
              refine wi_get (v := .ref a16) hx hb hts cfX2 hown hK hO rfl 1 (by decide) q277 (fun w h => h) dX2_init_85 ?_
              refine lv_iload_n hx hb dX2_init_88 rfl (lv_at hl 0 rfl) ?_
              refine wi_new (ci := 4) hx hb hts cfX4 tyX4 tyX4_ok hown q272 q181 q8 hK hS rfl (by show _ ≤ 53; omega) (by show _ ≤ 301; omega) dX2_init_89 (fun a89 H eq hz o1 hN_a89 hS => ?_)
              have hs_a89 := hz
              have n_a89 := cW_none hW (Nat.le_of_eq eq.symm)
              have g_a89 : n0 ≤ a89 := by omega
              have l_a89_h0 : h0 < a89 := by have := hO.lt; omega
              have l_a89_a16 : a16 < a89 := by have := hN_a16.lt; omega
              have hW := cW_kept hW (fun b t hb => o1 b (by have := hW_lt (N := nN N u) hW hb; omega))
              have hO := hO.kept (o1 h0 l_a89_h0)
              have hN_a16 := hN_a16.kept (o1 a16 l_a89_a16)
              have hge : n0 ≤ H.size := by omega
              refine lv_dup hx hb dX2_init_92 rfl ?_
              refine va_callv (wt_runIN (As := []) (rest := [.ref a89, .int v, .ref a16]) ⟨hx, hb, hml, hown, hts⟩ hnn (i_X4 l (nN N u) n00 H.size a89 ⟨by omega, by omega⟩) wm_X4_init q273 ⟨rfl, rfl⟩ ⟨Nat.le_of_ble_eq_true rfl, Nat.le_of_ble_eq_true rfl⟩ (cI_pre hK hW hT hnn hAO hS h00 hN_a89 n_a89) rfl hl.1 rfl (Nat.le_of_ble_eq_true rfl) dX2_init_93 ⟨by show _ ≤ 53; omega, by show _ ≤ 301; omega⟩) hS (fun x hx9 h9 => Or.inr (by rcases h9 with h9 | h9 <;> omega)) (fun x h9 => Or.inr (by rcases h9 with h9 | h9 <;> omega)) (fun u5 t H1 locs ht hvm hp hB hz hk hS => ?_)
              have hz0 : H.size = a89 + 1 := hs_a89
              have hR : iR pl N n0 h0 u5 := iR_call hR hp.1 (fun t h => h) hp.2.1 (by decide) g_a89 (by omega)
              have k_a23 : u5.1 a23 = some 4 := iX_k hp.1 hW n_a89 (Nat.le_refl _) k_a23
              have k_a34 : u5.1 a34 = some 8 := iX_k hp.1 hW n_a89 (Nat.le_refl _) k_a34
              have k_a7 : u5.1 a7 = some 32 := iX_k hp.1 hW n_a89 (Nat.le_refl _) k_a7
              have hno : u5.1 h0 = none := (hp.1.1 h0 (by omega) (by omega)).1.trans hno
              have hO := hO.kept (show t.heap[h0]? = _ by rw [ht]; exact hk h0 (by omega) (by intro z; rcases z with z | z <;> omega))
              have n_a16 : u5.1 a16 = none := (hp.1.1 a16 (by omega) (by omega)).1.trans n_a16
              have hN_a16 := hN_a16.kept (show t.heap[a16]? = _ by rw [ht]; exact hk a16 (by omega) (by intro z; rcases z with z | z <;> omega))
              have hN_a16 := wt_lift hN_a16 hp.1 hW n_a89 (Nat.le_refl _)
              have k_a89 : u5.1 a89 = some 4 := hp.2.1
              have hW : cW (nN N u5) t.heap := hB
              rw [ht] at hW hO hN_a16
              have hge : n0 ≤ H1.size := by omega
              clear hB
              obtain ⟨H, eH⟩ : ∃ X : Heap, X = H1 := ⟨_, rfl⟩
              rw [← eH] at hW hge hS hO hN_a16 ⊢
              refine wi_aast hx hb hK hS 5 4 hN_a16 (Or.inr g_a16) rfl (hW _ _ (cg4 (N := nN N u5) k_a89)) rfl (ir_in rv (by decide) (by decide)) dX2_init_96 (fun H locs hN_a16 oq hz hS => ?_)
              have hW := cW_kept hW (fun b t hb => oq b (by intro z; rw [z, n_a16] at hb; cases hb))
              have hO := hO.kept (oq h0 (by omega))
              have hge : n0 ≤ H.size := by omega
              have hN_a16 := wt_fill hN_a16 (by have := (ir_clamp rv (by decide)).1; omega) k_a89
              obtain ⟨w, ew⟩ : ∃ y : Int32, y = v + 1 := ⟨_, rfl⟩
              have tw : w.toInt = v.toInt + 1 := it_add ew rv (ir_c 1 (by decide) : ir (1 : Int32) 1 1) (by decide) (by decide)
              refine lv_iinc (v := w) (lv' := [(1, .int w), (0, .ref h0)]) hx hb dX2_init_97 hl (k := 0) rfl (by rw [ew]; rfl) (by decide) rfl (fun ls hl => ?_)
              refine lv_goto (tgt := 78) hx hb dX2_init_100 (by decide) ?_
              refine W.widen (k := 28 + (i + 1) * 1) (n := 176 + (i + 1) * 5) (by omega) (by omega) ?_
              exact w2 _ _ _ _ _ (ih _ _ _ u5 w (i + 1) (by omega) (by omega) (by omega) hW hO hno hR hS hge k_a23 k_a34 k_a7 n_a16 hN_a16 (lv_sub hl [0, 1] rfl))
        refine W.widen (k := 28 + 0 * 1) (n := 176 + 0 * 5) (by omega) (by omega) ?_
        exact w2 _ _ _ _ _ (L78 26 _ _ _ u3 (0 : Int32) 0 (by decide) (Nat.zero_le _) (by decide) hW hO hno hR hS hge k_a23 k_a34 k_a7 n_a16 hN_a16 (lv_sub hl [0, 1] rfl))
      · have qb : (24 : Int32).toInt = 24 := by decide
        have cb := Int32.lt_iff_toInt_lt.mp (Int32.not_le.mp cb)
        have hi3 : i < 24 := by omega
        have rv : ir v 0 23 := by constructor <;> omega
        refine lv_aload_n hx hb dX2_init_57 rfl (lv_at hl 1 rfl) ?_
        refine wi_get (v := .ref a7) hx hb hts cfX2 hown hK hO rfl 0 (by decide) q276 (fun w h => h) dX2_init_58 ?_
        refine lv_iload_n hx hb dX2_init_61 rfl (lv_at hl 0 rfl) ?_
        refine wi_new (ci := 4) hx hb hts cfX4 tyX4 tyX4_ok hown q272 q181 q8 hK hS rfl (by show _ ≤ 53; omega) (by show _ ≤ 301; omega) dX2_init_62 (fun a62 H eq hz o1 hN_a62 hS => ?_)
        have hs_a62 := hz
        have n_a62 := cW_none hW (Nat.le_of_eq eq.symm)
        have g_a62 : n0 ≤ a62 := by omega
        have l_a62_h0 : h0 < a62 := by have := hO.lt; omega
        have l_a62_a7 : a7 < a62 := by have := hN_a7.lt; omega
        have l_a62_a16 : a16 < a62 := by have := hN_a16.lt; omega
        have hW := cW_kept hW (fun b t hb => o1 b (by have := hW_lt (N := nN N u) hW hb; omega))
        have hO := hO.kept (o1 h0 l_a62_h0)
        have hN_a7 := hN_a7.kept (o1 a7 l_a62_a7)
        have hN_a16 := hN_a16.kept (o1 a16 l_a62_a16)
        have hge : n0 ≤ H.size := by omega
        refine lv_dup hx hb dX2_init_65 rfl ?_
        refine va_callv (wt_runIN (As := []) (rest := [.ref a62, .int v, .ref a7]) ⟨hx, hb, hml, hown, hts⟩ hnn (i_X4 l (nN N u) n00 H.size a62 ⟨by omega, by omega⟩) wm_X4_init q273 ⟨rfl, rfl⟩ ⟨Nat.le_of_ble_eq_true rfl, Nat.le_of_ble_eq_true rfl⟩ (cI_pre hK hW hT hnn hAO hS h00 hN_a62 n_a62) rfl hl.1 rfl (Nat.le_of_ble_eq_true rfl) dX2_init_66 ⟨by show _ ≤ 53; omega, by show _ ≤ 301; omega⟩) hS (fun x hx9 h9 => Or.inr (by rcases h9 with h9 | h9 <;> omega)) (fun x h9 => Or.inr (by rcases h9 with h9 | h9 <;> omega)) (fun u6 t H1 locs ht hvm hp hB hz hk hS => ?_)
        have hz0 : H.size = a62 + 1 := hs_a62
        have hR : iR pl N n0 h0 u6 := iR_call hR hp.1 (fun t h => h) hp.2.1 (by decide) g_a62 (by omega)
        have k_a23 : u6.1 a23 = some 4 := iX_k hp.1 hW n_a62 (Nat.le_refl _) k_a23
        have k_a34 : u6.1 a34 = some 8 := iX_k hp.1 hW n_a62 (Nat.le_refl _) k_a34
        have hno : u6.1 h0 = none := (hp.1.1 h0 (by omega) (by omega)).1.trans hno
        have hO := hO.kept (show t.heap[h0]? = _ by rw [ht]; exact hk h0 (by omega) (by intro z; rcases z with z | z <;> omega))
        have n_a7 : u6.1 a7 = none := (hp.1.1 a7 (by omega) (by omega)).1.trans n_a7
        have hN_a7 := hN_a7.kept (show t.heap[a7]? = _ by rw [ht]; exact hk a7 (by omega) (by intro z; rcases z with z | z <;> omega))
        have n_a16 : u6.1 a16 = none := (hp.1.1 a16 (by omega) (by omega)).1.trans n_a16
        have hN_a16 := hN_a16.kept (show t.heap[a16]? = _ by rw [ht]; exact hk a16 (by omega) (by intro z; rcases z with z | z <;> omega))
        have hN_a7 := wt_lift hN_a7 hp.1 hW n_a62 (Nat.le_refl _)
        have k_a62 : u6.1 a62 = some 4 := hp.2.1
        have hW : cW (nN N u6) t.heap := hB
        rw [ht] at hW hO hN_a7 hN_a16
        have hge : n0 ≤ H1.size := by omega
        clear hB
        obtain ⟨H, eH⟩ : ∃ X : Heap, X = H1 := ⟨_, rfl⟩
        rw [← eH] at hW hge hS hO hN_a7 hN_a16 ⊢
        refine wi_aast hx hb hK hS 5 4 hN_a7 (Or.inr g_a7) rfl (hW _ _ (cg4 (N := nN N u6) k_a62)) rfl (ir_in rv (by decide) (by decide)) dX2_init_69 (fun H locs hN_a7 oq hz hS => ?_)
        have hW := cW_kept hW (fun b t hb => oq b (by intro z; rw [z, n_a7] at hb; cases hb))
        have hO := hO.kept (oq h0 (by omega))
        have hN_a16 := hN_a16.kept (oq a16 (by omega))
        have hge : n0 ≤ H.size := by omega
        have hN_a7 := wt_fill hN_a7 (by have := (ir_clamp rv (by decide)).1; omega) k_a62
        obtain ⟨w, ew⟩ : ∃ y : Int32, y = v + 1 := ⟨_, rfl⟩
        have tw : w.toInt = v.toInt + 1 := it_add ew rv (ir_c 1 (by decide) : ir (1 : Int32) 1 1) (by decide) (by decide)
        refine lv_iinc (v := w) (lv' := [(1, .int w), (0, .ref h0)]) hx hb dX2_init_70 hl (k := 0) rfl (by rw [ew]; rfl) (by decide) rfl (fun ls hl => ?_)
        refine lv_goto (tgt := 51) hx hb dX2_init_73 (by decide) ?_
        refine W.widen (k := 4 + (i + 1) * 1) (n := 56 + (i + 1) * 5) (by omega) (by omega) ?_
        exact w2 _ _ _ _ _ (ih _ _ _ u6 w (i + 1) (by omega) (by omega) (by omega) hW hO hno hR hS hge k_a23 k_a34 n_a7 hN_a7 n_a16 hN_a16 (lv_sub hl [0, 1] rfl))
  refine W.widen (k := 4 + 0 * 1) (n := 56 + 0 * 5) (Nat.le_of_ble_eq_true rfl) (Nat.le_of_ble_eq_true rfl) ?_
  exact w2 _ _ _ _ _ (L51 25 _ _ _ u2 (0 : Int32) 0 (by decide) (Nat.zero_le _) (by decide) hW hO hno hR hS hge k_a23 k_a34 n_a7 hN_a7 n_a16 hN_a16 (lv_sub hl [0, 1] rfl))
