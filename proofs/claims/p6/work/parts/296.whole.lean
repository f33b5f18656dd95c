theorem cI_preL {N : c_N} {u : iU} {s : State} {H : Heap} {locs : List Loc} {n00 h1 ci : Nat} {P : Nat → Value → Prop} (hK : va_K N.1 vwCl (ctys N) s) (hW : cW (nN N u) H) (hT : cTF (N.2.1 0) (fun q => n00 ≤ q) s s.heap) (hnn : ∀ w ∈ lw_n, va_Nw w s) (hAO : cAO s) (hS : va_S (fun q => n00 ≤ q) s.heap H locs) (hn : wt_at N.1 vwCl h1 (.inl (ci, P)) H) (hno : u.1 h1 = none) : PreS s H (va_Pc [.ref h1] (cIp (nN N u) n00 H.size h1 ci P)) [.ref h1] := by
  refine ⟨?_, fun U hU hw => ⟨rfl, va_K.moved hw.alike hK, by rw [hU]; exact hW, ?_, lw_n_warm hw hnn, hAO.moved hw.alike hw, by rw [hU]; exact hn, hno, by rw [hU]⟩⟩
  · intro a U g mk q
    obtain ⟨q0, q1, q2, q3, q4, q5, q6⟩ := q
    exact ⟨q0, va_K.moved (u := U) (U := U.calling g mk a) (Vm.Alike.refl U.vm) q1, q2, cTF.moved (u := U) (U := U.calling g mk a) (Vm.Alike.refl U.vm) q3, lw_n_same (s := U) (U := U.calling g mk a) rfl q4, q5, q6⟩
  · rw [hU]
    exact (hT.kept hS.2.1).moved hw.alike
theorem fs_ok : ∀ j : Nat, j < 6 → (1 ≤ (fsU j).toInt ∧ (fsU j).toInt ≤ 9) ∧ (1 ≤ (fsV j).toInt ∧ (fsV j).toInt ≤ 9) ∧ Int.gcd (fsU j).toInt (fsV j).toInt = 1 := by
  intro j hj
  match j, hj with
  | 0, _ => decide +kernel
  | 1, _ => decide +kernel
  | 2, _ => decide +kernel
  | 3, _ => decide +kernel
  | 4, _ => decide +kernel
  | 5, _ => decide +kernel
  | j + 6, h => exact absurd h (by omega)
set_option maxHeartbeats 4000000 in
set_option maxRecDepth 100000 in
theorem whole_start {p : Program} {e : Env} {s : State} {m : MethodId} {below : List Frame} {meth : Method} {c : Code} (l : Launch) (hflags : l.flags = flags0) {b L : Nat} {xs : Nat → Int32} (hL : L ≤ 3072) (C0 : lw_At p s m meth c b L xs) : W p l e room_1 s m #[Value.ref b] below meth c s.heap [] 0 0 (lw_Z below #[Value.ref b] s) (entryFrame m ([Value.ref b] : List Value).toArray 4) := by
  obtain ⟨hx, hb, hr, hml, hown, hts0, hX, hbl, hlocks, hgv⟩ := id C0
  obtain ⟨N, hN0, hK, hT, hnn, hAO⟩ := l_start hts0 hgv
  have hts : ∀ w ∈ lw_g, w.before #[Value.ref b] s = true := fun w h => hts0 w (lw_g_tbl h)
  have hown : s.vm.findClass RL = some m.cls := hown
  have hS : va_S (fun q : Nat => s.heap.size ≤ q) s.heap s.heap [] := va_S.rf
  have hl := lv_entry ([.ref b]) (n := 4) (Nat.le_of_ble_eq_true rfl)
  rw [lg_entry_eq]
  generalize (lg_sl ([.ref b]) ++ List.replicate (4 - (lg_sl ([.ref b])).length) Slot.unset).toArray = ls at hl ⊢
  have hl : lv_has ls 4 [(0, .ref b)] := hl
  have hW0 : cW N s.heap := fun a E hE => by
    have hE : (N.2.2.1 a).map (cK N a) = some E := hE
    rw [hN0 a] at hE
    cases hE
  refine wi_new (ci := 10) hx hb hts cfX10 tyX10 tyX10_ok hown q19 q20 q1 hK hS rfl (Nat.le_of_ble_eq_true rfl) (Nat.le_of_ble_eq_true rfl) dL_law_0 (fun a0 H eq0 hz o1 hN_a0 hS => ?_)
  have hW : cW N H := cW_kept (N := N) (u := (N.2.2.1, N.2.2.2)) hW0 (fun a t h => absurd h (by show ¬ N.2.2.1 a = some t; rw [hN0 a]; exact fun z => by cases z))
  refine lv_dup hx hb dL_law_3 rfl ?_
  refine va_callv (wt_runI (As := []) (rest := [.ref a0]) ⟨hx, hb, hml, hown, hts⟩ (i_X10 l N s.heap.size H.size a0 ⟨by omega, by omega⟩ hN0) wm_X10_init q21 ⟨rfl, rfl⟩ ⟨Nat.le_of_ble_eq_true rfl, Nat.le_of_ble_eq_true rfl⟩ (cI_preL (N := N) (u := (N.2.2.1, N.2.2.2)) hK hW hT hnn hAO hS hN_a0 (hN0 a0)) rfl hl.1 rfl (Nat.le_of_ble_eq_true rfl) dL_law_4 ⟨Nat.le_of_ble_eq_true rfl, Nat.le_of_ble_eq_true rfl⟩) hS (fun q _ h9 => by show _ ≤ _; rcases h9 with h9 | h9 <;> omega) (fun q h9 => by show _ ≤ _; rcases h9 with h9 | h9 <;> omega) (fun u t H1 locs ht hvm hp hB hz1 hk1 hS => ?_)
  obtain ⟨hiX, hk10, rU, rV, hM⟩ := hp
  have hW : cW (nN N u) H1 := by rw [← ht]; exact hB
  have hN1 : ∀ q t : Nat, u.1 q = some t → s.heap.size ≤ q ∧ t < 40 := by
    intro q t' hq
    refine ⟨?_, (hM.2.2.1 q t' hq).2.2.2⟩
    by_cases h1 : q = a0
    · omega
    · by_cases h2 : q < H.size
      · have h3 := (hiX.1 q h2 h1).1
        rw [hN0 q] at h3
        rw [h3] at hq
        cases hq
      · omega
  refine lv_astore_n (lv' := [(1, .ref a0), (0, .ref b)]) hx hb dL_law_7 rfl hl (by decide) rfl (fun ls hl => ?_)
  refine wi_new (ci := 11) hx hb hts cfX11 tyX11 tyX11_ok hown q862 q863 q12 hK hS rfl (Nat.le_of_ble_eq_true rfl) (Nat.le_of_ble_eq_true rfl) dL_law_8 (fun a8 H2 eq8 hz8 o8 hN_a8 hS => ?_)
  have n_a8 : u.1 a8 = none := cW_none hW (Nat.le_of_eq eq8.symm)
  have hlt : ∀ q t : Nat, u.1 q = some t → q < a8 := fun q t h => by have h9 := hW_lt (N := nN N u) hW h; omega
  have hW : cW (nN N u) H2 := cW_kept hW (fun q t h => o8 q (hlt q t h))
  refine lv_dup hx hb dL_law_11 rfl ?_
  have hz9 : s.heap.size ≤ H1.size := by omega
  refine va_callv (wt_runI (As := []) (rest := [.ref a8]) ⟨hx, hb, hml, hown, hts⟩ (i_X11 l (nN N u) s.heap.size H2.size a8 ⟨by omega, by omega⟩ hN1) wm_X11_init q864 ⟨rfl, rfl⟩ ⟨Nat.le_of_ble_eq_true rfl, Nat.le_of_ble_eq_true rfl⟩ (cI_preL (N := N) (u := u) hK hW hT hnn hAO hS hN_a8 n_a8) rfl hl.1 rfl (Nat.le_of_ble_eq_true rfl) dL_law_12 ⟨Nat.le_of_ble_eq_true rfl, Nat.le_of_ble_eq_true rfl⟩) hS (fun q _ h9 => by show _ ≤ _; rcases h9 with h9 | h9 <;> omega) (fun q h9 => by show _ ≤ _; rcases h9 with h9 | h9 <;> omega) (fun u2 t2 H3 locs ht2 hvm2 hp2 hB2 hz2 hk2 hS => ?_)
  obtain ⟨hm1, hm2, hm3, hm4, bU, bV, hbU, hbV, kbU, kbV, hfs⟩ := hp2
  have hW : cW (nN N u2) H3 := by rw [← ht2]; exact hB2.1
  have hI : mI (nN N u2) a8 H3 := by rw [← ht2]; exact hB2.2
  have hold : ∀ q t : Nat, u.1 q = some t → u2.1 q = some t ∧ u2.2 q = u.2 q := fun q t h => by
    have h9 := hlt q t h
    have h8 := hm1 q (by omega) (by omega)
    exact ⟨h8.1.trans h, h8.2⟩
  have hback : ∀ q t : Nat, u2.1 q = some t → t < 40 → t ≠ 11 → u.1 q = some t := fun q t h h40 h11 => by
    by_cases h1 : q < H2.size
    · by_cases h2 : q = a8
      · rw [h2, hm2] at h
        exact absurd (Option.some.inj h).symm h11
      · exact ((hm1 q h1 h2).1).symm.trans h
    · exact absurd (hm3 q t (by omega) h) (by omega)
  have kU := hold rU 27 hM.1
  have kV := hold rV 28 hM.2.1
  have k10 := (hold a0 10 hk10).1
  have hA : ∀ a t : Nat, u2.1 a = some t → s.heap.size ≤ a := fun a t h => by
    by_cases h1 : a < H2.size
    · by_cases h2 : a = a8
      · omega
      · exact (hN1 a t (((hm1 a h1 h2).1).symm.trans h)).1
    · omega
  have uq : ∀ a b t : Nat, 27 ≤ t → t ≤ 28 → u2.1 a = some t → u2.1 b = some t → a = b := fun a b t h1 h2 ha hb9 => by
    have g1 := hM.2.2.1 a t (hback a t ha (by omega) (by omega))
    have g2 := hM.2.2.1 b t (hback b t hb9 (by omega) (by omega))
    rcases (show t = 27 ∨ t = 28 by omega) with h | h
    · rw [g1.1 h, g2.1 h]
    · rw [g1.2.1 h, g2.2.1 h]
  have hV : LV u2.2 rU rV bU bV := fun j hj => by
    have h1 : u2.2 rU j = fsU j := by rw [kU.2, hM.2.2.2.1]
    have h2 : u2.2 rV j = fsV j := by rw [kV.2, hM.2.2.2.2]
    have h3 := hfs j hj
    have h4 := fs_ok j hj
    rw [h1, h2, h3.1, h3.2]
    exact ⟨rfl, rfl, h4.1, h4.2.1, h4.2.2⟩
  have hO : mOK (nN N u2) := ⟨hm4, fun a j ka hj => by
    show ir (u2.2 a j) 1 9
    have h4 := fs_ok j hj
    rcases ka with ka | ka
    · rw [hm4 a bU 40 (by decide) ka kbU, (hfs j hj).1]; exact h4.1
    · rw [hm4 a bV 41 (by decide) ka kbV, (hfs j hj).2]; exact h4.2.1⟩
  refine lv_astore_n (lv' := [(2, .ref a8), (1, .ref a0), (0, .ref b)]) hx hb dL_law_15 rfl hl (by decide) rfl (fun ls hl => ?_)
  refine lv_iconst (v := 0) hx hb dL_law_16 (by decide) ?_
  refine lv_istore_n (lv' := [(3, .int (0 : Int32)), (2, .ref a8), (1, .ref a0), (0, .ref b)]) hx hb dL_law_17 rfl hl (by decide) rfl (fun ls hl => ?_)
  refine W.base ?_
  exact law_loop hr hlocks hL ⟨Nat.le_of_ble_eq_true rfl, Nat.le_of_ble_eq_true rfl⟩ 4000 (nN N u2) H3 _ s.drawn _ 0 ⟨hx, hb, hml, hown, hts, hX, hbl, hK, hT.1, hnn, hA, k10, hm2, hO⟩ ⟨kU.1, kV.1, kbU, kbV, uq, hV⟩ (Drawn.sameBut.refl s.drawn lw_cs) ⟨hW, hI, hS⟩ (by decide) (by show (0 : Int) ≤ (L : Int); omega) (by show (L : Int) + 6 - 0 < 4000; omega) hl
