section LAWC
variable {p : Program} {l : Launch} {e : Env} {s : State} {m : MethodId} {below : List Frame} {meth : Method} {c : Code} {H : Heap} {locs : List Loc} {cells slots : Nat} {Q : State → Prop} {b L : Nat} {xs : Nat → Int32} {N : c_N} {o1 o2 : Nat} {d0 : Drawn} {ls : Array Slot} {i : Int32}

theorem l_sub {x : Int32} {L : Nat} (e : x = Int32.ofNat L - 6) (h : L ≤ 3072) : x.toInt = (L : Int) - 6 := by
  have I : ir (Int32.ofNat L) 0 3072 := by
    have h1 : (Int32.ofNat L).toInt = (L : Int) := Int32.toInt_ofNat_small (by omega)
    constructor <;> omega
  have h2 := it_sub e I (ir_c 6 (by decide) : ir (6 : Int32) 6 6) (by decide) (by decide)
  have h1 : (Int32.ofNat L).toInt = (L : Int) := Int32.toInt_ofNat_small (by omega)
  have h3 : (6 : Int32).toInt = 6 := by decide
  omega
set_option maxHeartbeats 4000000 in
set_option maxRecDepth 100000 in
theorem law_loop (hr : meth.sig.returnType = ret) (hlocks : meth.locks = false) (hL : L ≤ 3072) (hcs : cells ≤ 600000 ∧ slots ≤ 7302250) {aU aV bU bV : Nat} : ∀ (k : Nat) (N : c_N) (H : Heap) (locs : List Loc) (d0 : Drawn) (ls : Array Slot) (i : Int32), lC p s m c N o1 o2 b L xs → lawN N aU aV bU bV → s.drawn.sameBut d0 lw_cs → lD s N o2 H locs → ir i 0 3078 → i.toInt ≤ (L : Int) → (L : Int) + 6 - i.toInt < (k : Int) → lv_has ls 4 [(3, .int i), (2, .ref o2), (1, .ref o1), (0, .ref b)] → W p l e room_1 (s.setDrawn d0) m #[Value.ref b] below meth c H locs cells slots (lw_Z below #[Value.ref b] s) (F0 m 18 ls []) := by
  intro k
  induction k with
  | zero => intro N H locs d0 ls i hC hN hd0 hD ri hil mu hl; exact absurd mu (by omega)
  | succ k ih =>
    intro N H locs d0 ls i hC hN hd0 hD ri hil mu hl
    obtain ⟨hx, hb, hml, hown, hts, hX, hbl, hK, hT0, hnn, hA, k10, k11, hO⟩ := id hC
    have hbA : ¬ (fun q : Nat => s.heap.size ≤ q) b := Nat.not_le.mpr hbl
    refine lv_iload_n hx hb dL_law_18 rfl (lv_at hl 0 rfl) ?_
    refine lv_aload_n hx hb dL_law_19 rfl (lv_at hl 3 rfl) ?_
    refine va_slen (s := s.setDrawn d0) (H0 := s.heap) hx hb hX hbl hbA hD.2.2 dL_law_20 ?_
    refine lv_bipush (v := 6) hx hb dL_law_21 (by decide) ?_
    refine lv_isub hx hb dL_law_23 ?_
    refine lv_topi (fun x23 e23 => ?_)
    have t23 := l_sub e23 hL
    refine lv_icmp_gt (tgt := 1255) hx hb dL_law_24 (by decide) (fun c24 => ?_) (fun c24 => ?_)
    · refine lv_iconst (v := 1) hx hb dL_law_1255 (by decide) ?_
      refine va_forget (s := s.setDrawn d0) (fun q hq => hD.2.2.2.2 q hq) ?_
      refine W.widen (k := 600000) (n := 7302250) hcs.1 hcs.2 ?_
      exact lw_ret hd0 hx hb hr hlocks dL_law_1256
    have c24 : i.toInt ≤ (L : Int) - 6 := by rw [← t23]; exact Int32.le_iff_toInt_le.mp (Int32.not_lt.mp c24)
    have hi : 0 ≤ i.toInt ∧ i.toInt + 6 ≤ (L : Int) ∧ L ≤ 3072 := ⟨ri.1, by omega, hL⟩
    have K : ∀ (N : c_N) (H : Heap) (locs : List Loc) (d0 : Drawn), lC p s m c N o1 o2 b L xs → lawN N aU aV bU bV → lD s N o2 H locs → s.drawn.sameBut d0 lw_cs → W p l e room_1 (s.setDrawn d0) m #[Value.ref b] below meth c H locs cells slots (lw_Z below #[Value.ref b] s) (F0 m 1249 ls []) := by
      intro N H locs d0 hC hN hD hd0
      obtain ⟨j, ej⟩ : ∃ y : Int32, y = i + 6 := ⟨_, rfl⟩
      have tj : j.toInt = i.toInt + 6 := it_add ej ri (ir_c 6 (by decide) : ir (6 : Int32) 6 6) (by decide) (by decide)
      refine lv_iinc (v := j) (lv' := [(3, .int j), (2, .ref o2), (1, .ref o1), (0, .ref b)]) hx hb dL_law_1249 hl (k := 0) rfl (by rw [ej]; rfl) (by decide) rfl (fun ls hl => ?_)
      refine lv_goto (tgt := 18) hx hb dL_law_1252 (by decide) ?_
      exact ih N H locs d0 ls j hC hN hd0 hD (by constructor <;> omega) (by omega) (by omega) hl
    refine lv_aload_n hx hb dL_law_27 rfl (lv_at hl 3 rfl) ?_
    refine lv_iload_n hx hb dL_law_28 rfl (lv_at hl 0 rfl) ?_
    refine va_sld (s := s.setDrawn d0) (H0 := s.heap) hx hb hX hbl hbA hD.2.2 (vp_in_iff.mpr ⟨by omega, by omega⟩) dL_law_29 ?_
    refine lv_topi (fun x29 _ => ?_)
    refine lv_bipush (v := 63) hx hb dL_law_30 (by decide) ?_
    refine lv_iand hx hb dL_law_32 ?_
    refine lv_topi (fun x32 _ => ?_)
    have KK : ∀ (H1 : Heap) (locs1 : List Loc) (d1 : Drawn), lD s N o2 H1 locs1 → s.drawn.sameBut d1 lw_cs → W p l e room_1 (s.setDrawn d1) m #[Value.ref b] below meth c H1 locs1 cells slots (lw_Z below #[Value.ref b] s) (F0 m 1249 ls []) := fun H1 locs1 d1 h1 h2 => K N H1 locs1 d1 hC hN h1 h2
    by_cases c33 : x32.toInt < 0 ∨ 32 < x32.toInt
    · refine lv_tableOut (tgt := 1249) hx hb dL_law_33 c33 (by decide) ?_
      exact KK H locs d0 hD hd0
    rcases (show x32.toInt = 0 ∨ x32.toInt = 1 ∨ x32.toInt = 2 ∨ x32.toInt = 3 ∨ x32.toInt = 4 ∨ x32.toInt = 5 ∨ x32.toInt = 6 ∨ x32.toInt = 7 ∨ x32.toInt = 8 ∨ x32.toInt = 9 ∨ x32.toInt = 10 ∨ x32.toInt = 11 ∨ x32.toInt = 12 ∨ x32.toInt = 13 ∨ x32.toInt = 14 ∨ x32.toInt = 15 ∨ x32.toInt = 16 ∨ x32.toInt = 17 ∨ x32.toInt = 18 ∨ x32.toInt = 19 ∨ x32.toInt = 20 ∨ x32.toInt = 21 ∨ x32.toInt = 22 ∨ x32.toInt = 23 ∨ x32.toInt = 24 ∨ x32.toInt = 25 ∨ x32.toInt = 26 ∨ x32.toInt = 27 ∨ x32.toInt = 28 ∨ x32.toInt = 29 ∨ x32.toInt = 30 ∨ x32.toInt = 31 ∨ x32.toInt = 32 by omega) with d33 | d33 | d33 | d33 | d33 | d33 | d33 | d33 | d33 | d33 | d33 | d33 | d33 | d33 | d33 | d33 | d33 | d33 | d33 | d33 | d33 | d33 | d33 | d33 | d33 | d33 | d33 | d33 | d33 | d33 | d33 | d33 | d33
    · refine lv_tableIn (off := 147) (tgt := 180) hx hb dL_law_33 (by omega) (by omega) (by rw [d33]; rfl) (by decide) ?_
      exact law_feed hC hcs hd0 hD hl hi KK
    · refine lv_tableIn (off := 210) (tgt := 243) hx hb dL_law_33 (by omega) (by omega) (by rw [d33]; rfl) (by decide) ?_
      exact law_end hC hcs hd0 hD hl hi KK
    · refine lv_tableIn (off := 233) (tgt := 266) hx hb dL_law_33 (by omega) (by omega) (by rw [d33]; rfl) (by decide) ?_
      exact law_stack hC hcs hd0 hD hl hi KK
    · refine lv_tableIn (off := 246) (tgt := 279) hx hb dL_law_33 (by omega) (by omega) (by rw [d33]; rfl) (by decide) ?_
      exact law_fault hC hcs hd0 hD hl hi KK
    · refine lv_tableIn (off := 269) (tgt := 302) hx hb dL_law_33 (by omega) (by omega) (by rw [d33]; rfl) (by decide) ?_
      exact law_index hC hcs hd0 hD hl hi hN (fun X H1 locs1 d1 h1 h2 h3 h4 => K (nX N X) H1 locs1 d1 h1 h2 h3 h4)
    · refine lv_tableIn (off := 312) (tgt := 345) hx hb dL_law_33 (by omega) (by omega) (by rw [d33]; rfl) (by decide) ?_
      exact law_between hC hcs hd0 hD hl hi KK
    · refine lv_tableIn (off := 345) (tgt := 378) hx hb dL_law_33 (by omega) (by omega) (by rw [d33]; rfl) (by decide) ?_
      exact law_material hC hcs hd0 hD hl hi KK
    · refine lv_tableIn (off := 378) (tgt := 411) hx hb dL_law_33 (by omega) (by omega) (by rw [d33]; rfl) (by decide) ?_
      exact law_layer hC hcs hd0 hD hl hi KK
    · refine lv_tableIn (off := 411) (tgt := 444) hx hb dL_law_33 (by omega) (by omega) (by rw [d33]; rfl) (by decide) ?_
      exact law_put hC hcs hd0 hD hl hi KK
    · refine lv_tableIn (off := 464) (tgt := 497) hx hb dL_law_33 (by omega) (by omega) (by rw [d33]; rfl) (by decide) ?_
      exact law_cut hC hcs hd0 hD hl hi KK
    · refine lv_tableIn (off := 487) (tgt := 520) hx hb dL_law_33 (by omega) (by omega) (by rw [d33]; rfl) (by decide) ?_
      exact law_turn hC hcs hd0 hD hl hi KK
    · refine lv_tableIn (off := 500) (tgt := 533) hx hb dL_law_33 (by omega) (by omega) (by rw [d33]; rfl) (by decide) ?_
      exact law_undo hC hcs hd0 hD hl hi KK
    · refine lv_tableIn (off := 513) (tgt := 546) hx hb dL_law_33 (by omega) (by omega) (by rw [d33]; rfl) (by decide) ?_
      exact law_matrix hC hcs hd0 hD hl hi KK
    · refine lv_tableIn (off := 556) (tgt := 589) hx hb dL_law_33 (by omega) (by omega) (by rw [d33]; rfl) (by decide) ?_
      exact law_light hC hcs hd0 hD hl hi KK
    · refine lv_tableIn (off := 599) (tgt := 632) hx hb dL_law_33 (by omega) (by omega) (by rw [d33]; rfl) (by decide) ?_
      exact law_share hC hcs hd0 hD hl hi KK
    · refine lv_tableIn (off := 622) (tgt := 655) hx hb dL_law_33 (by omega) (by omega) (by rw [d33]; rfl) (by decide) ?_
      exact law_through hC hcs hd0 hD hl hi KK
    · refine lv_tableIn (off := 645) (tgt := 678) hx hb dL_law_33 (by omega) (by omega) (by rw [d33]; rfl) (by decide) ?_
      exact law_admittance hC hcs hd0 hD hl hi KK
    · refine lv_tableIn (off := 688) (tgt := 721) hx hb dL_law_33 (by omega) (by omega) (by rw [d33]; rfl) (by decide) ?_
      exact law_marks hC hcs hd0 hD hl hi KK
    · refine lv_tableIn (off := 711) (tgt := 744) hx hb dL_law_33 (by omega) (by omega) (by rw [d33]; rfl) (by decide) ?_
      exact law_extreme hC hcs hd0 hD hl hi KK
    · refine lv_tableIn (off := 734) (tgt := 767) hx hb dL_law_33 (by omega) (by omega) (by rw [d33]; rfl) (by decide) ?_
      exact law_below hC hcs hd0 hD hl hi KK
    · refine lv_tableIn (off := 777) (tgt := 810) hx hb dL_law_33 (by omega) (by omega) (by rw [d33]; rfl) (by decide) ?_
      exact law_worst hC hcs hd0 hD hl hi KK
    · refine lv_tableIn (off := 820) (tgt := 853) hx hb dL_law_33 (by omega) (by omega) (by rw [d33]; rfl) (by decide) ?_
      exact law_corner hC hcs hd0 hD hl hi KK
    · refine lv_tableIn (off := 873) (tgt := 906) hx hb dL_law_33 (by omega) (by omega) (by rw [d33]; rfl) (by decide) ?_
      exact law_tender hC hcs hd0 hD hl hi KK
    · refine lv_tableIn (off := 906) (tgt := 939) hx hb dL_law_33 (by omega) (by omega) (by rw [d33]; rfl) (by decide) ?_
      exact law_wanted hC hcs hd0 hD hl hi KK
    · refine lv_tableIn (off := 959) (tgt := 992) hx hb dL_law_33 (by omega) (by omega) (by rw [d33]; rfl) (by decide) ?_
      exact law_ways hC hcs hd0 hD hl hi KK
    · refine lv_tableIn (off := 1012) (tgt := 1045) hx hb dL_law_33 (by omega) (by omega) (by rw [d33]; rfl) (by decide) ?_
      exact law_tune hC hcs hd0 hD hl hi KK
    · refine lv_tableIn (off := 1045) (tgt := 1078) hx hb dL_law_33 (by omega) (by omega) (by rw [d33]; rfl) (by decide) ?_
      exact law_add hC hcs hd0 hD hl hi KK
    · refine lv_tableIn (off := 1088) (tgt := 1121) hx hb dL_law_33 (by omega) (by omega) (by rw [d33]; rfl) (by decide) ?_
      exact law_merge hC hcs hd0 hD hl hi KK
    · refine lv_tableIn (off := 1111) (tgt := 1144) hx hb dL_law_33 (by omega) (by omega) (by rw [d33]; rfl) (by decide) ?_
      exact law_period hC hcs hd0 hD hl hi KK
    · refine lv_tableIn (off := 1134) (tgt := 1167) hx hb dL_law_33 (by omega) (by omega) (by rw [d33]; rfl) (by decide) ?_
      exact law_show hC hcs hd0 hD hl hi KK
    · refine lv_tableIn (off := 1147) (tgt := 1180) hx hb dL_law_33 (by omega) (by omega) (by rw [d33]; rfl) (by decide) ?_
      exact law_out hC hcs hd0 hD hl hi KK
    · refine lv_tableIn (off := 1170) (tgt := 1203) hx hb dL_law_33 (by omega) (by omega) (by rw [d33]; rfl) (by decide) ?_
      exact law_spare hC hcs hd0 hD hl hi KK
    · refine lv_tableIn (off := 1193) (tgt := 1226) hx hb dL_law_33 (by omega) (by omega) (by rw [d33]; rfl) (by decide) ?_
      exact law_look hC hcs hd0 hD hl hi KK
end LAWC
