section LAWC
variable {p : Program} {l : Launch} {e : Env} {s : State} {m : MethodId} {below : List Frame} {meth : Method} {c : Code} {H : Heap} {locs : List Loc} {cells slots : Nat} {Q : State → Prop} {b L : Nat} {xs : Nat → Int32} {N : c_N} {o1 o2 : Nat} {d0 : Drawn} {ls : Array Slot} {i : Int32}
def lawN (N : c_N) (aU aV bU bV : Nat) : Prop := N.2.2.1 aU = some 27 ∧ N.2.2.1 aV = some 28 ∧ N.2.2.1 bU = some 40 ∧ N.2.2.1 bV = some 41 ∧ (∀ a b t : Nat, 27 ≤ t → t ≤ 28 → N.2.2.1 a = some t → N.2.2.1 b = some t → a = b) ∧ LV N.2.2.2 aU aV bU bV
theorem lC_nX {p : Program} {s : State} {m : MethodId} {c : Code} {N : c_N} {o1 o2 b L : Nat} {xs : Nat → Int32} {X : Nat → Nat → Int32} (hC : lC p s m c N o1 o2 b L xs) (hO : mOK (nX N X)) : lC p s m c (nX N X) o1 o2 b L xs := by
  obtain ⟨hx, hb, hml, hown, hts, hX, hbl, hK, hT0, hnn, hA, k10, k11, -⟩ := hC
  exact ⟨hx, hb, hml, hown, hts, hX, hbl, hK, hT0, hnn, hA, k10, k11, hO⟩
theorem ix_keep {N : c_N} {aU aV bU : Nat} {p1 p2 p3 r : Int32} {X : Nat → Nat → Int32} (h : ixq N aU aV p1 p2 p3 r X) (n1 : bU ≠ aU) (n2 : bU ≠ aV) (i : Nat) : X bU i = N.2.2.2 bU i := by
  by_cases hr : ir p1 0 5 ∧ ir p2 1 9 ∧ ir p3 1 9
  · have g1 : (p2 * N.2.2.2 aV p1.toNatClampNeg = p3 * N.2.2.2 aU p1.toNatClampNeg → r = 0 ∧ X = N.2.2.2) ∧ (¬ p2 * N.2.2.2 aV p1.toNatClampNeg = p3 * N.2.2.2 aU p1.toNatClampNeg → r = 1 ∧ X = uX (uX N.2.2.2 aU p1.toNatClampNeg (p2 / gI p2 p3)) aV p1.toNatClampNeg (p3 / gI p2 p3)) := h.1 hr
    by_cases hc : p2 * N.2.2.2 aV p1.toNatClampNeg = p3 * N.2.2.2 aU p1.toNatClampNeg
    · rw [(g1.1 hc).2]
    · rw [(g1.2 hc).2, ix_uX n2, ix_uX n1]
  · rw [(h.2 hr).2]
theorem mOK_of {N : c_N} {X : Nat → Nat → Int32} {bU bV : Nat} (hO : mOK N) (kU : N.2.2.1 bU = some 40) (kV : N.2.2.1 bV = some 41) (h : ∀ j : Nat, j < 6 → ir (X bU j) 1 9 ∧ ir (X bV j) 1 9) : mOK (nX N X) := by
  refine ⟨hO.1, fun a j ka hj => ?_⟩
  show ir (X a j) 1 9
  rcases ka with ka | ka
  · rw [hO.1 a bU 40 (by decide) ka kU]; exact (h j hj).1
  · rw [hO.1 a bV 41 (by decide) ka kV]; exact (h j hj).2
set_option maxHeartbeats 4000000 in
set_option maxRecDepth 100000 in
theorem law_index (hC : lC p s m c N o1 o2 b L xs) (hcs : cells ≤ 600000 ∧ slots ≤ 7302250) (hd0 : s.drawn.sameBut d0 lw_cs) (hD : lD s N o2 H locs) (hl : lv_has ls 4 [(3, .int i), (2, .ref o2), (1, .ref o1), (0, .ref b)]) (hi : 0 ≤ i.toInt ∧ i.toInt + 6 ≤ (L : Int) ∧ L ≤ 3072) {aU aV bU bV : Nat} (hN : lawN N aU aV bU bV)
    (kk : ∀ (X : Nat → Nat → Int32) (H1 : Heap) (locs1 : List Loc) (d1 : Drawn), lC p s m c (nX N X) o1 o2 b L xs → lawN (nX N X) aU aV bU bV → lD s (nX N X) o2 H1 locs1 → s.drawn.sameBut d1 lw_cs → W p l e room_1 (s.setDrawn d1) m #[Value.ref b] below meth c H1 locs1 cells slots Q (F0 m 1249 ls [])) : W p l e room_1 (s.setDrawn d0) m #[Value.ref b] below meth c H locs cells slots Q (F0 m 302 ls []) := by
  obtain ⟨hx, hb, hml, hown, hts, hX, hbl, hK, hT0, hnn, hA, k10, k11, hO⟩ := id hC
  have hbA : ¬ (fun q : Nat => s.heap.size ≤ q) b := Nat.not_le.mpr hbl
  obtain ⟨kU, kV, k40, k41, uq, hV⟩ := hN
  have n1 : aU ≠ aV := ne_kind kU kV (by decide)
  have n2 : aU ≠ bU := ne_kind kU k40 (by decide)
  have n3 : aU ≠ bV := ne_kind kU k41 (by decide)
  have n4 : aV ≠ bU := ne_kind kV k40 (by decide)
  have n5 : aV ≠ bV := ne_kind kV k41 (by decide)
  have n6 : bU ≠ bV := ne_kind k40 k41 (by decide)
  refine lv_aload_n hx hb dL_law_302 rfl (lv_at hl 2 rfl) ?_
  refine lv_aload_n hx hb dL_law_303 rfl (lv_at hl 3 rfl) ?_
  refine lv_iload_n hx hb dL_law_304 rfl (lv_at hl 0 rfl) ?_
  refine lv_iconst (v := 1) hx hb dL_law_305 (by decide) ?_
  refine lv_iadd hx hb dL_law_306 ?_
  refine lv_topi (fun x306 e306 => ?_)
  refine va_sld (s := s.setDrawn d0) (H0 := s.heap) hx hb hX hbl hbA hD.2.2 (l_in e306 (by decide) hi) dL_law_307 ?_
  refine lv_topi (fun y307 f307 => ?_)
  refine lv_aload_n hx hb dL_law_308 rfl (lv_at hl 3 rfl) ?_
  refine lv_iload_n hx hb dL_law_309 rfl (lv_at hl 0 rfl) ?_
  refine lv_iconst (v := 2) hx hb dL_law_310 (by decide) ?_
  refine lv_iadd hx hb dL_law_311 ?_
  refine lv_topi (fun x311 e311 => ?_)
  refine va_sld (s := s.setDrawn d0) (H0 := s.heap) hx hb hX hbl hbA hD.2.2 (l_in e311 (by decide) hi) dL_law_312 ?_
  refine lv_topi (fun y312 f312 => ?_)
  refine lv_aload_n hx hb dL_law_313 rfl (lv_at hl 3 rfl) ?_
  refine lv_iload_n hx hb dL_law_314 rfl (lv_at hl 0 rfl) ?_
  refine lv_iconst (v := 3) hx hb dL_law_315 (by decide) ?_
  refine lv_iadd hx hb dL_law_316 ?_
  refine lv_topi (fun x316 e316 => ?_)
  refine va_sld (s := s.setDrawn d0) (H0 := s.heap) hx hb hX hbl hbA hD.2.2 (l_in e316 (by decide) hi) dL_law_317 ?_
  refine lv_topi (fun y317 f317 => ?_)
  refine lk_x (rest := []) hC hd0 hD hcs kU kV uq (fun j hj => ⟨(hV j hj).2.2.1, (hV j hj).2.2.2.1⟩) q433 hl.1 (Nat.le_of_ble_eq_true rfl) dL_law_318 (fun r X H locs d0 hq hD hd0 => ?_)
  have hO1 : mOK (nX N X) := mOK_of hO k40 k41 (fun j hj => ⟨by rw [ix_keep hq (fun z => n2 z.symm) (fun z => n4 z.symm), ← (hV j hj).1]; exact (hV j hj).2.2.1, by rw [ix_keep hq (fun z => n3 z.symm) (fun z => n5 z.symm), ← (hV j hj).2.1]; exact (hV j hj).2.2.2.1⟩)
  have hC1 := lC_nX (X := X) hC hO1
  refine lv_aload_n hx hb dL_law_321 rfl (lv_at hl 1 rfl) ?_
  refine lv_aload_n hx hb dL_law_322 rfl (lv_at hl 3 rfl) ?_
  refine lv_iload_n hx hb dL_law_323 rfl (lv_at hl 0 rfl) ?_
  refine lv_iconst (v := 1) hx hb dL_law_324 (by decide) ?_
  refine lv_iadd hx hb dL_law_325 ?_
  refine lv_topi (fun x325 e325 => ?_)
  refine va_sld (s := s.setDrawn d0) (H0 := s.heap) hx hb hX hbl hbA hD.2.2 (l_in e325 (by decide) hi) dL_law_326 ?_
  refine lv_topi (fun y326 f326 => ?_)
  refine lv_aload_n hx hb dL_law_327 rfl (lv_at hl 3 rfl) ?_
  refine lv_iload_n hx hb dL_law_328 rfl (lv_at hl 0 rfl) ?_
  refine lv_iconst (v := 2) hx hb dL_law_329 (by decide) ?_
  refine lv_iadd hx hb dL_law_330 ?_
  refine lv_topi (fun x330 e330 => ?_)
  refine va_sld (s := s.setDrawn d0) (H0 := s.heap) hx hb hX hbl hbA hD.2.2 (l_in e330 (by decide) hi) dL_law_331 ?_
  refine lv_topi (fun y331 f331 => ?_)
  refine lv_aload_n hx hb dL_law_332 rfl (lv_at hl 3 rfl) ?_
  refine lv_iload_n hx hb dL_law_333 rfl (lv_at hl 0 rfl) ?_
  refine lv_iconst (v := 3) hx hb dL_law_334 (by decide) ?_
  refine lv_iadd hx hb dL_law_335 ?_
  refine lv_topi (fun x335 e335 => ?_)
  refine va_sld (s := s.setDrawn d0) (H0 := s.heap) hx hb hX hbl hbA hD.2.2 (l_in e335 (by decide) hi) dL_law_336 ?_
  refine lv_topi (fun y336 f336 => ?_)
  have g326 : y326 = y307 := by rw [f326, f307, e325, e306]
  rw [g326]
  have g331 : y331 = y312 := by rw [f331, f312, e330, e311]
  rw [g331]
  have g336 : y336 = y317 := by rw [f336, f317, e335, e316]
  rw [g336]
  refine lm_x (N := nX N X) (bU := bU) (bV := bV) (rest := [.int r]) hC1 hd0 hD hcs k40 k41 q1045 hl.1 (Nat.le_of_ble_eq_true rfl) dL_law_337 (fun r2 X2 H locs d0 hr hD hd0 => ?_)
  obtain ⟨er, hV2⟩ := ix_same hV n1 n2 n3 n4 n5 n6 hq hr
  refine lv_icmp_eq (tgt := 1249) hx hb dL_law_340 (by decide) (fun _ => ?_) (fun h => absurd er h)
  have hO2 : mOK (nX N X2) := mOK_of hO k40 k41 (fun j hj => ⟨by rw [← (hV2 j hj).1]; exact (hV2 j hj).2.2.1, by rw [← (hV2 j hj).2.1]; exact (hV2 j hj).2.2.2.1⟩)
  exact kk X2 H locs d0 (lC_nX hC hO2) ⟨kU, kV, k40, k41, uq, hV2⟩ hD hd0
end LAWC
