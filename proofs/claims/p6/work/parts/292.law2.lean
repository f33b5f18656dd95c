section LAWC
variable {p : Program} {l : Launch} {e : Env} {s : State} {m : MethodId} {below : List Frame} {meth : Method} {c : Code} {H : Heap} {locs : List Loc} {cells slots : Nat} {Q : State → Prop} {b L : Nat} {xs : Nat → Int32} {N : c_N} {o1 o2 : Nat} {d0 : Drawn} {ls : Array Slot} {i : Int32}
set_option maxHeartbeats 4000000 in
set_option maxRecDepth 100000 in
theorem law_matrix (hC : lC p s m c N o1 o2 b L xs) (hcs : cells ≤ 600000 ∧ slots ≤ 7302250) (hd0 : s.drawn.sameBut d0 lw_cs) (hD : lD s N o2 H locs) (hl : lv_has ls 4 [(3, .int i), (2, .ref o2), (1, .ref o1), (0, .ref b)]) (hi : 0 ≤ i.toInt ∧ i.toInt + 6 ≤ (L : Int) ∧ L ≤ 3072)
    (kk : ∀ (H1 : Heap) (locs1 : List Loc) (d1 : Drawn), lD s N o2 H1 locs1 → s.drawn.sameBut d1 lw_cs → W p l e room_1 (s.setDrawn d1) m #[Value.ref b] below meth c H1 locs1 cells slots Q (F0 m 1249 ls [])) : W p l e room_1 (s.setDrawn d0) m #[Value.ref b] below meth c H locs cells slots Q (F0 m 546 ls []) := by
  obtain ⟨hx, hb, hml, hown, hts, hX, hbl, hK, hT0, hnn, hA, k10, k11, hO⟩ := id hC
  have hbA : ¬ (fun q : Nat => s.heap.size ≤ q) b := Nat.not_le.mpr hbl
  refine lv_aload_n hx hb dL_law_546 rfl (lv_at hl 2 rfl) ?_
  refine lv_aload_n hx hb dL_law_547 rfl (lv_at hl 3 rfl) ?_
  refine lv_iload_n hx hb dL_law_548 rfl (lv_at hl 0 rfl) ?_
  refine lv_iconst (v := 1) hx hb dL_law_549 (by decide) ?_
  refine lv_iadd hx hb dL_law_550 ?_
  refine lv_topi (fun x550 e550 => ?_)
  refine va_sld (s := s.setDrawn d0) (H0 := s.heap) hx hb hX hbl hbA hD.2.2 (l_in e550 (by decide) hi) dL_law_551 ?_
  refine lv_topi (fun y551 f551 => ?_)
  refine lv_aload_n hx hb dL_law_552 rfl (lv_at hl 3 rfl) ?_
  refine lv_iload_n hx hb dL_law_553 rfl (lv_at hl 0 rfl) ?_
  refine lv_iconst (v := 2) hx hb dL_law_554 (by decide) ?_
  refine lv_iadd hx hb dL_law_555 ?_
  refine lv_topi (fun x555 e555 => ?_)
  refine va_sld (s := s.setDrawn d0) (H0 := s.heap) hx hb hX hbl hbA hD.2.2 (l_in e555 (by decide) hi) dL_law_556 ?_
  refine lv_topi (fun y556 f556 => ?_)
  refine lv_aload_n hx hb dL_law_557 rfl (lv_at hl 3 rfl) ?_
  refine lv_iload_n hx hb dL_law_558 rfl (lv_at hl 0 rfl) ?_
  refine lv_iconst (v := 3) hx hb dL_law_559 (by decide) ?_
  refine lv_iadd hx hb dL_law_560 ?_
  refine lv_topi (fun x560 e560 => ?_)
  refine va_sld (s := s.setDrawn d0) (H0 := s.heap) hx hb hX hbl hbA hD.2.2 (l_in e560 (by decide) hi) dL_law_561 ?_
  refine lv_topi (fun y561 f561 => ?_)
  refine lk_i (As := [.int y551, .int y556, .int y561]) (rest := []) hC hd0 hD hcs (MetD.of_met (m_X10_matrix l N o1 k10 y551 y556 y561)) wm_X10_matrix q531 ⟨rfl, rfl⟩ ⟨Nat.le_of_ble_eq_true rfl, Nat.le_of_ble_eq_true rfl⟩ rfl hl.1 rfl (Nat.le_of_ble_eq_true rfl) dL_law_562 (by decide) (by decide) (fun r H locs d0 hD hd0 => ?_)
  refine lv_pop hx hb dL_law_565 rfl ?_
  refine lv_aload_n hx hb dL_law_566 rfl (lv_at hl 1 rfl) ?_
  refine lv_aload_n hx hb dL_law_567 rfl (lv_at hl 3 rfl) ?_
  refine lv_iload_n hx hb dL_law_568 rfl (lv_at hl 0 rfl) ?_
  refine lv_iconst (v := 1) hx hb dL_law_569 (by decide) ?_
  refine lv_iadd hx hb dL_law_570 ?_
  refine lv_topi (fun x570 e570 => ?_)
  refine va_sld (s := s.setDrawn d0) (H0 := s.heap) hx hb hX hbl hbA hD.2.2 (l_in e570 (by decide) hi) dL_law_571 ?_
  refine lv_topi (fun y571 f571 => ?_)
  refine lv_aload_n hx hb dL_law_572 rfl (lv_at hl 3 rfl) ?_
  refine lv_iload_n hx hb dL_law_573 rfl (lv_at hl 0 rfl) ?_
  refine lv_iconst (v := 2) hx hb dL_law_574 (by decide) ?_
  refine lv_iadd hx hb dL_law_575 ?_
  refine lv_topi (fun x575 e575 => ?_)
  refine va_sld (s := s.setDrawn d0) (H0 := s.heap) hx hb hX hbl hbA hD.2.2 (l_in e575 (by decide) hi) dL_law_576 ?_
  refine lv_topi (fun y576 f576 => ?_)
  refine lv_aload_n hx hb dL_law_577 rfl (lv_at hl 3 rfl) ?_
  refine lv_iload_n hx hb dL_law_578 rfl (lv_at hl 0 rfl) ?_
  refine lv_iconst (v := 3) hx hb dL_law_579 (by decide) ?_
  refine lv_iadd hx hb dL_law_580 ?_
  refine lv_topi (fun x580 e580 => ?_)
  refine va_sld (s := s.setDrawn d0) (H0 := s.heap) hx hb hX hbl hbA hD.2.2 (l_in e580 (by decide) hi) dL_law_581 ?_
  refine lv_topi (fun y581 f581 => ?_)
  refine lm_i (F := [32, 33, 34, 35, 36, 37, 38]) (As := [.int y571, .int y576, .int y581]) (rest := []) hC hd0 hD hcs (fun V => MetD.of_met (m_X11_matrix l N o2 k11 hO V y571 y576 y581)) wm_X11_matrix q1199 ⟨rfl, rfl⟩ ⟨Nat.le_of_ble_eq_true rfl, Nat.le_of_ble_eq_true rfl⟩ rfl hl.1 rfl (Nat.le_of_ble_eq_true rfl) dL_law_582 (fun r H locs d0 hD hd0 => ?_)
  refine lv_pop hx hb dL_law_585 rfl ?_
  refine lv_goto (tgt := 1249) hx hb dL_law_586 (by decide) ?_
  exact kk H locs d0 hD hd0
set_option maxHeartbeats 4000000 in
set_option maxRecDepth 100000 in
theorem law_light (hC : lC p s m c N o1 o2 b L xs) (hcs : cells ≤ 600000 ∧ slots ≤ 7302250) (hd0 : s.drawn.sameBut d0 lw_cs) (hD : lD s N o2 H locs) (hl : lv_has ls 4 [(3, .int i), (2, .ref o2), (1, .ref o1), (0, .ref b)]) (hi : 0 ≤ i.toInt ∧ i.toInt + 6 ≤ (L : Int) ∧ L ≤ 3072)
    (kk : ∀ (H1 : Heap) (locs1 : List Loc) (d1 : Drawn), lD s N o2 H1 locs1 → s.drawn.sameBut d1 lw_cs → W p l e room_1 (s.setDrawn d1) m #[Value.ref b] below meth c H1 locs1 cells slots Q (F0 m 1249 ls [])) : W p l e room_1 (s.setDrawn d0) m #[Value.ref b] below meth c H locs cells slots Q (F0 m 589 ls []) := by
  obtain ⟨hx, hb, hml, hown, hts, hX, hbl, hK, hT0, hnn, hA, k10, k11, hO⟩ := id hC
  have hbA : ¬ (fun q : Nat => s.heap.size ≤ q) b := Nat.not_le.mpr hbl
  refine lv_aload_n hx hb dL_law_589 rfl (lv_at hl 2 rfl) ?_
  refine lv_aload_n hx hb dL_law_590 rfl (lv_at hl 3 rfl) ?_
  refine lv_iload_n hx hb dL_law_591 rfl (lv_at hl 0 rfl) ?_
  refine lv_iconst (v := 1) hx hb dL_law_592 (by decide) ?_
  refine lv_iadd hx hb dL_law_593 ?_
  refine lv_topi (fun x593 e593 => ?_)
  refine va_sld (s := s.setDrawn d0) (H0 := s.heap) hx hb hX hbl hbA hD.2.2 (l_in e593 (by decide) hi) dL_law_594 ?_
  refine lv_topi (fun y594 f594 => ?_)
  refine lv_aload_n hx hb dL_law_595 rfl (lv_at hl 3 rfl) ?_
  refine lv_iload_n hx hb dL_law_596 rfl (lv_at hl 0 rfl) ?_
  refine lv_iconst (v := 2) hx hb dL_law_597 (by decide) ?_
  refine lv_iadd hx hb dL_law_598 ?_
  refine lv_topi (fun x598 e598 => ?_)
  refine va_sld (s := s.setDrawn d0) (H0 := s.heap) hx hb hX hbl hbA hD.2.2 (l_in e598 (by decide) hi) dL_law_599 ?_
  refine lv_topi (fun y599 f599 => ?_)
  refine lv_aload_n hx hb dL_law_600 rfl (lv_at hl 3 rfl) ?_
  refine lv_iload_n hx hb dL_law_601 rfl (lv_at hl 0 rfl) ?_
  refine lv_iconst (v := 3) hx hb dL_law_602 (by decide) ?_
  refine lv_iadd hx hb dL_law_603 ?_
  refine lv_topi (fun x603 e603 => ?_)
  refine va_sld (s := s.setDrawn d0) (H0 := s.heap) hx hb hX hbl hbA hD.2.2 (l_in e603 (by decide) hi) dL_law_604 ?_
  refine lv_topi (fun y604 f604 => ?_)
  refine lk_l (As := [.int y594, .int y599, .int y604]) (rest := []) hC hd0 hD hcs (MetD.of_met (m_X10_light l N o1 k10 y594 y599 y604)) wm_X10_light q593 ⟨rfl, rfl⟩ ⟨Nat.le_of_ble_eq_true rfl, Nat.le_of_ble_eq_true rfl⟩ rfl hl.1 rfl (Nat.le_of_ble_eq_true rfl) dL_law_605 (by decide) (by decide) (fun r H locs d0 hD hd0 => ?_)
  refine lv_pop2_2 hx hb dL_law_608 rfl ?_
  refine lv_aload_n hx hb dL_law_609 rfl (lv_at hl 1 rfl) ?_
  refine lv_aload_n hx hb dL_law_610 rfl (lv_at hl 3 rfl) ?_
  refine lv_iload_n hx hb dL_law_611 rfl (lv_at hl 0 rfl) ?_
  refine lv_iconst (v := 1) hx hb dL_law_612 (by decide) ?_
  refine lv_iadd hx hb dL_law_613 ?_
  refine lv_topi (fun x613 e613 => ?_)
  refine va_sld (s := s.setDrawn d0) (H0 := s.heap) hx hb hX hbl hbA hD.2.2 (l_in e613 (by decide) hi) dL_law_614 ?_
  refine lv_topi (fun y614 f614 => ?_)
  refine lv_aload_n hx hb dL_law_615 rfl (lv_at hl 3 rfl) ?_
  refine lv_iload_n hx hb dL_law_616 rfl (lv_at hl 0 rfl) ?_
  refine lv_iconst (v := 2) hx hb dL_law_617 (by decide) ?_
  refine lv_iadd hx hb dL_law_618 ?_
  refine lv_topi (fun x618 e618 => ?_)
  refine va_sld (s := s.setDrawn d0) (H0 := s.heap) hx hb hX hbl hbA hD.2.2 (l_in e618 (by decide) hi) dL_law_619 ?_
  refine lv_topi (fun y619 f619 => ?_)
  refine lv_aload_n hx hb dL_law_620 rfl (lv_at hl 3 rfl) ?_
  refine lv_iload_n hx hb dL_law_621 rfl (lv_at hl 0 rfl) ?_
  refine lv_iconst (v := 3) hx hb dL_law_622 (by decide) ?_
  refine lv_iadd hx hb dL_law_623 ?_
  refine lv_topi (fun x623 e623 => ?_)
  refine va_sld (s := s.setDrawn d0) (H0 := s.heap) hx hb hX hbl hbA hD.2.2 (l_in e623 (by decide) hi) dL_law_624 ?_
  refine lv_topi (fun y624 f624 => ?_)
  refine lm_l (F := [32, 33, 34, 35, 36, 37, 38, 39, 40, 41, 42]) (As := [.int y614, .int y619, .int y624]) (rest := []) hC hd0 hD hcs (fun V => MetD.of_met (m_X11_light l N o2 k11 hO V y614 y619 y624)) wm_X11_light q1233 ⟨rfl, rfl⟩ ⟨Nat.le_of_ble_eq_true rfl, Nat.le_of_ble_eq_true rfl⟩ rfl hl.1 rfl (Nat.le_of_ble_eq_true rfl) dL_law_625 (fun r H locs d0 hD hd0 => ?_)
  refine lv_pop2_2 hx hb dL_law_628 rfl ?_
  refine lv_goto (tgt := 1249) hx hb dL_law_629 (by decide) ?_
  exact kk H locs d0 hD hd0
set_option maxHeartbeats 4000000 in
set_option maxRecDepth 100000 in
theorem law_share (hC : lC p s m c N o1 o2 b L xs) (hcs : cells ≤ 600000 ∧ slots ≤ 7302250) (hd0 : s.drawn.sameBut d0 lw_cs) (hD : lD s N o2 H locs) (hl : lv_has ls 4 [(3, .int i), (2, .ref o2), (1, .ref o1), (0, .ref b)]) (hi : 0 ≤ i.toInt ∧ i.toInt + 6 ≤ (L : Int) ∧ L ≤ 3072)
    (kk : ∀ (H1 : Heap) (locs1 : List Loc) (d1 : Drawn), lD s N o2 H1 locs1 → s.drawn.sameBut d1 lw_cs → W p l e room_1 (s.setDrawn d1) m #[Value.ref b] below meth c H1 locs1 cells slots Q (F0 m 1249 ls [])) : W p l e room_1 (s.setDrawn d0) m #[Value.ref b] below meth c H locs cells slots Q (F0 m 632 ls []) := by
  obtain ⟨hx, hb, hml, hown, hts, hX, hbl, hK, hT0, hnn, hA, k10, k11, hO⟩ := id hC
  have hbA : ¬ (fun q : Nat => s.heap.size ≤ q) b := Nat.not_le.mpr hbl
  refine lv_aload_n hx hb dL_law_632 rfl (lv_at hl 2 rfl) ?_
  refine lv_aload_n hx hb dL_law_633 rfl (lv_at hl 3 rfl) ?_
  refine lv_iload_n hx hb dL_law_634 rfl (lv_at hl 0 rfl) ?_
  refine lv_iconst (v := 1) hx hb dL_law_635 (by decide) ?_
  refine lv_iadd hx hb dL_law_636 ?_
  refine lv_topi (fun x636 e636 => ?_)
  refine va_sld (s := s.setDrawn d0) (H0 := s.heap) hx hb hX hbl hbA hD.2.2 (l_in e636 (by decide) hi) dL_law_637 ?_
  refine lv_topi (fun y637 f637 => ?_)
  refine lk_i (As := [.int y637]) (rest := []) hC hd0 hD hcs (d_X10_share l N o1 k10 y637) wm_X10_share q621 ⟨rfl, rfl⟩ ⟨Nat.le_of_ble_eq_true rfl, Nat.le_of_ble_eq_true rfl⟩ rfl hl.1 rfl (Nat.le_of_ble_eq_true rfl) dL_law_638 (by decide) (by decide) (fun r H locs d0 hD hd0 => ?_)
  refine lv_pop hx hb dL_law_641 rfl ?_
  refine lv_aload_n hx hb dL_law_642 rfl (lv_at hl 1 rfl) ?_
  refine lv_aload_n hx hb dL_law_643 rfl (lv_at hl 3 rfl) ?_
  refine lv_iload_n hx hb dL_law_644 rfl (lv_at hl 0 rfl) ?_
  refine lv_iconst (v := 1) hx hb dL_law_645 (by decide) ?_
  refine lv_iadd hx hb dL_law_646 ?_
  refine lv_topi (fun x646 e646 => ?_)
  refine va_sld (s := s.setDrawn d0) (H0 := s.heap) hx hb hX hbl hbA hD.2.2 (l_in e646 (by decide) hi) dL_law_647 ?_
  refine lv_topi (fun y647 f647 => ?_)
  refine lm_i (F := [32, 33, 34, 35, 36, 37, 38, 39, 40, 41, 42]) (As := [.int y647]) (rest := []) hC hd0 hD hcs (fun V => d_X11_share l N o2 k11 hO V y647) wm_X11_share q1250 ⟨rfl, rfl⟩ ⟨Nat.le_of_ble_eq_true rfl, Nat.le_of_ble_eq_true rfl⟩ rfl hl.1 rfl (Nat.le_of_ble_eq_true rfl) dL_law_648 (fun r H locs d0 hD hd0 => ?_)
  refine lv_pop hx hb dL_law_651 rfl ?_
  refine lv_goto (tgt := 1249) hx hb dL_law_652 (by decide) ?_
  exact kk H locs d0 hD hd0
set_option maxHeartbeats 4000000 in
set_option maxRecDepth 100000 in
theorem law_through (hC : lC p s m c N o1 o2 b L xs) (hcs : cells ≤ 600000 ∧ slots ≤ 7302250) (hd0 : s.drawn.sameBut d0 lw_cs) (hD : lD s N o2 H locs) (hl : lv_has ls 4 [(3, .int i), (2, .ref o2), (1, .ref o1), (0, .ref b)]) (hi : 0 ≤ i.toInt ∧ i.toInt + 6 ≤ (L : Int) ∧ L ≤ 3072)
    (kk : ∀ (H1 : Heap) (locs1 : List Loc) (d1 : Drawn), lD s N o2 H1 locs1 → s.drawn.sameBut d1 lw_cs → W p l e room_1 (s.setDrawn d1) m #[Value.ref b] below meth c H1 locs1 cells slots Q (F0 m 1249 ls [])) : W p l e room_1 (s.setDrawn d0) m #[Value.ref b] below meth c H locs cells slots Q (F0 m 655 ls []) := by
  obtain ⟨hx, hb, hml, hown, hts, hX, hbl, hK, hT0, hnn, hA, k10, k11, hO⟩ := id hC
  have hbA : ¬ (fun q : Nat => s.heap.size ≤ q) b := Nat.not_le.mpr hbl
  refine lv_aload_n hx hb dL_law_655 rfl (lv_at hl 2 rfl) ?_
  refine lv_aload_n hx hb dL_law_656 rfl (lv_at hl 3 rfl) ?_
  refine lv_iload_n hx hb dL_law_657 rfl (lv_at hl 0 rfl) ?_
  refine lv_iconst (v := 1) hx hb dL_law_658 (by decide) ?_
  refine lv_iadd hx hb dL_law_659 ?_
  refine lv_topi (fun x659 e659 => ?_)
  refine va_sld (s := s.setDrawn d0) (H0 := s.heap) hx hb hX hbl hbA hD.2.2 (l_in e659 (by decide) hi) dL_law_660 ?_
  refine lv_topi (fun y660 f660 => ?_)
  refine lk_l (As := [.int y660]) (rest := []) hC hd0 hD hcs (d_X10_through l N o1 k10 y660) wm_X10_through q629 ⟨rfl, rfl⟩ ⟨Nat.le_of_ble_eq_true rfl, Nat.le_of_ble_eq_true rfl⟩ rfl hl.1 rfl (Nat.le_of_ble_eq_true rfl) dL_law_661 (by decide) (by decide) (fun r H locs d0 hD hd0 => ?_)
  refine lv_pop2_2 hx hb dL_law_664 rfl ?_
  refine lv_aload_n hx hb dL_law_665 rfl (lv_at hl 1 rfl) ?_
  refine lv_aload_n hx hb dL_law_666 rfl (lv_at hl 3 rfl) ?_
  refine lv_iload_n hx hb dL_law_667 rfl (lv_at hl 0 rfl) ?_
  refine lv_iconst (v := 1) hx hb dL_law_668 (by decide) ?_
  refine lv_iadd hx hb dL_law_669 ?_
  refine lv_topi (fun x669 e669 => ?_)
  refine va_sld (s := s.setDrawn d0) (H0 := s.heap) hx hb hX hbl hbA hD.2.2 (l_in e669 (by decide) hi) dL_law_670 ?_
  refine lv_topi (fun y670 f670 => ?_)
  refine lm_l (F := [32, 33, 34, 35, 36, 37, 38, 39, 40, 41, 42]) (As := [.int y670]) (rest := []) hC hd0 hD hcs (fun V => d_X11_through l N o2 k11 hO V y670) wm_X11_through q1264 ⟨rfl, rfl⟩ ⟨Nat.le_of_ble_eq_true rfl, Nat.le_of_ble_eq_true rfl⟩ rfl hl.1 rfl (Nat.le_of_ble_eq_true rfl) dL_law_671 (fun r H locs d0 hD hd0 => ?_)
  refine lv_pop2_2 hx hb dL_law_674 rfl ?_
  refine lv_goto (tgt := 1249) hx hb dL_law_675 (by decide) ?_
  exact kk H locs d0 hD hd0
set_option maxHeartbeats 4000000 in
set_option maxRecDepth 100000 in
theorem law_admittance (hC : lC p s m c N o1 o2 b L xs) (hcs : cells ≤ 600000 ∧ slots ≤ 7302250) (hd0 : s.drawn.sameBut d0 lw_cs) (hD : lD s N o2 H locs) (hl : lv_has ls 4 [(3, .int i), (2, .ref o2), (1, .ref o1), (0, .ref b)]) (hi : 0 ≤ i.toInt ∧ i.toInt + 6 ≤ (L : Int) ∧ L ≤ 3072)
    (kk : ∀ (H1 : Heap) (locs1 : List Loc) (d1 : Drawn), lD s N o2 H1 locs1 → s.drawn.sameBut d1 lw_cs → W p l e room_1 (s.setDrawn d1) m #[Value.ref b] below meth c H1 locs1 cells slots Q (F0 m 1249 ls [])) : W p l e room_1 (s.setDrawn d0) m #[Value.ref b] below meth c H locs cells slots Q (F0 m 678 ls []) := by
  obtain ⟨hx, hb, hml, hown, hts, hX, hbl, hK, hT0, hnn, hA, k10, k11, hO⟩ := id hC
  have hbA : ¬ (fun q : Nat => s.heap.size ≤ q) b := Nat.not_le.mpr hbl
  refine lv_aload_n hx hb dL_law_678 rfl (lv_at hl 2 rfl) ?_
  refine lv_aload_n hx hb dL_law_679 rfl (lv_at hl 3 rfl) ?_
  refine lv_iload_n hx hb dL_law_680 rfl (lv_at hl 0 rfl) ?_
  refine lv_iconst (v := 1) hx hb dL_law_681 (by decide) ?_
  refine lv_iadd hx hb dL_law_682 ?_
  refine lv_topi (fun x682 e682 => ?_)
  refine va_sld (s := s.setDrawn d0) (H0 := s.heap) hx hb hX hbl hbA hD.2.2 (l_in e682 (by decide) hi) dL_law_683 ?_
  refine lv_topi (fun y683 f683 => ?_)
  refine lv_aload_n hx hb dL_law_684 rfl (lv_at hl 3 rfl) ?_
  refine lv_iload_n hx hb dL_law_685 rfl (lv_at hl 0 rfl) ?_
  refine lv_iconst (v := 2) hx hb dL_law_686 (by decide) ?_
  refine lv_iadd hx hb dL_law_687 ?_
  refine lv_topi (fun x687 e687 => ?_)
  refine va_sld (s := s.setDrawn d0) (H0 := s.heap) hx hb hX hbl hbA hD.2.2 (l_in e687 (by decide) hi) dL_law_688 ?_
  refine lv_topi (fun y688 f688 => ?_)
  refine lv_aload_n hx hb dL_law_689 rfl (lv_at hl 3 rfl) ?_
  refine lv_iload_n hx hb dL_law_690 rfl (lv_at hl 0 rfl) ?_
  refine lv_iconst (v := 3) hx hb dL_law_691 (by decide) ?_
  refine lv_iadd hx hb dL_law_692 ?_
  refine lv_topi (fun x692 e692 => ?_)
  refine va_sld (s := s.setDrawn d0) (H0 := s.heap) hx hb hX hbl hbA hD.2.2 (l_in e692 (by decide) hi) dL_law_693 ?_
  refine lv_topi (fun y693 f693 => ?_)
  refine lk_l (As := [.int y683, .int y688, .int y693]) (rest := []) hC hd0 hD hcs (MetD.of_met (m_X10_admittance l N o1 k10 y683 y688 y693)) wm_X10_admittance q639 ⟨rfl, rfl⟩ ⟨Nat.le_of_ble_eq_true rfl, Nat.le_of_ble_eq_true rfl⟩ rfl hl.1 rfl (Nat.le_of_ble_eq_true rfl) dL_law_694 (by decide) (by decide) (fun r H locs d0 hD hd0 => ?_)
  refine lv_pop2_2 hx hb dL_law_697 rfl ?_
  refine lv_aload_n hx hb dL_law_698 rfl (lv_at hl 1 rfl) ?_
  refine lv_aload_n hx hb dL_law_699 rfl (lv_at hl 3 rfl) ?_
  refine lv_iload_n hx hb dL_law_700 rfl (lv_at hl 0 rfl) ?_
  refine lv_iconst (v := 1) hx hb dL_law_701 (by decide) ?_
  refine lv_iadd hx hb dL_law_702 ?_
  refine lv_topi (fun x702 e702 => ?_)
  refine va_sld (s := s.setDrawn d0) (H0 := s.heap) hx hb hX hbl hbA hD.2.2 (l_in e702 (by decide) hi) dL_law_703 ?_
  refine lv_topi (fun y703 f703 => ?_)
  refine lv_aload_n hx hb dL_law_704 rfl (lv_at hl 3 rfl) ?_
  refine lv_iload_n hx hb dL_law_705 rfl (lv_at hl 0 rfl) ?_
  refine lv_iconst (v := 2) hx hb dL_law_706 (by decide) ?_
  refine lv_iadd hx hb dL_law_707 ?_
  refine lv_topi (fun x707 e707 => ?_)
  refine va_sld (s := s.setDrawn d0) (H0 := s.heap) hx hb hX hbl hbA hD.2.2 (l_in e707 (by decide) hi) dL_law_708 ?_
  refine lv_topi (fun y708 f708 => ?_)
  refine lv_aload_n hx hb dL_law_709 rfl (lv_at hl 3 rfl) ?_
  refine lv_iload_n hx hb dL_law_710 rfl (lv_at hl 0 rfl) ?_
  refine lv_iconst (v := 3) hx hb dL_law_711 (by decide) ?_
  refine lv_iadd hx hb dL_law_712 ?_
  refine lv_topi (fun x712 e712 => ?_)
  refine va_sld (s := s.setDrawn d0) (H0 := s.heap) hx hb hX hbl hbA hD.2.2 (l_in e712 (by decide) hi) dL_law_713 ?_
  refine lv_topi (fun y713 f713 => ?_)
  refine lm_l (F := [32, 33, 34, 35, 36, 37, 38]) (As := [.int y703, .int y708, .int y713]) (rest := []) hC hd0 hD hcs (fun V => MetD.of_met (m_X11_admittance l N o2 k11 hO V y703 y708 y713)) wm_X11_admittance q1278 ⟨rfl, rfl⟩ ⟨Nat.le_of_ble_eq_true rfl, Nat.le_of_ble_eq_true rfl⟩ rfl hl.1 rfl (Nat.le_of_ble_eq_true rfl) dL_law_714 (fun r H locs d0 hD hd0 => ?_)
  refine lv_pop2_2 hx hb dL_law_717 rfl ?_
  refine lv_goto (tgt := 1249) hx hb dL_law_718 (by decide) ?_
  exact kk H locs d0 hD hd0
set_option maxHeartbeats 4000000 in
set_option maxRecDepth 100000 in
theorem law_marks (hC : lC p s m c N o1 o2 b L xs) (hcs : cells ≤ 600000 ∧ slots ≤ 7302250) (hd0 : s.drawn.sameBut d0 lw_cs) (hD : lD s N o2 H locs) (hl : lv_has ls 4 [(3, .int i), (2, .ref o2), (1, .ref o1), (0, .ref b)]) (hi : 0 ≤ i.toInt ∧ i.toInt + 6 ≤ (L : Int) ∧ L ≤ 3072)
    (kk : ∀ (H1 : Heap) (locs1 : List Loc) (d1 : Drawn), lD s N o2 H1 locs1 → s.drawn.sameBut d1 lw_cs → W p l e room_1 (s.setDrawn d1) m #[Value.ref b] below meth c H1 locs1 cells slots Q (F0 m 1249 ls [])) : W p l e room_1 (s.setDrawn d0) m #[Value.ref b] below meth c H locs cells slots Q (F0 m 721 ls []) := by
  obtain ⟨hx, hb, hml, hown, hts, hX, hbl, hK, hT0, hnn, hA, k10, k11, hO⟩ := id hC
  have hbA : ¬ (fun q : Nat => s.heap.size ≤ q) b := Nat.not_le.mpr hbl
  refine lv_aload_n hx hb dL_law_721 rfl (lv_at hl 2 rfl) ?_
  refine lv_aload_n hx hb dL_law_722 rfl (lv_at hl 3 rfl) ?_
  refine lv_iload_n hx hb dL_law_723 rfl (lv_at hl 0 rfl) ?_
  refine lv_iconst (v := 1) hx hb dL_law_724 (by decide) ?_
  refine lv_iadd hx hb dL_law_725 ?_
  refine lv_topi (fun x725 e725 => ?_)
  refine va_sld (s := s.setDrawn d0) (H0 := s.heap) hx hb hX hbl hbA hD.2.2 (l_in e725 (by decide) hi) dL_law_726 ?_
  refine lv_topi (fun y726 f726 => ?_)
  refine lk_i (As := [.int y726]) (rest := []) hC hd0 hD hcs (MetD.of_met (m_X10_marks l N o1 k10 y726)) wm_X10_marks q648 ⟨rfl, rfl⟩ ⟨Nat.le_of_ble_eq_true rfl, Nat.le_of_ble_eq_true rfl⟩ rfl hl.1 rfl (Nat.le_of_ble_eq_true rfl) dL_law_727 (by decide) (by decide) (fun r H locs d0 hD hd0 => ?_)
  refine lv_pop hx hb dL_law_730 rfl ?_
  refine lv_aload_n hx hb dL_law_731 rfl (lv_at hl 1 rfl) ?_
  refine lv_aload_n hx hb dL_law_732 rfl (lv_at hl 3 rfl) ?_
  refine lv_iload_n hx hb dL_law_733 rfl (lv_at hl 0 rfl) ?_
  refine lv_iconst (v := 1) hx hb dL_law_734 (by decide) ?_
  refine lv_iadd hx hb dL_law_735 ?_
  refine lv_topi (fun x735 e735 => ?_)
  refine va_sld (s := s.setDrawn d0) (H0 := s.heap) hx hb hX hbl hbA hD.2.2 (l_in e735 (by decide) hi) dL_law_736 ?_
  refine lv_topi (fun y736 f736 => ?_)
  refine lm_i (F := [32, 33, 34, 35, 36, 37, 38, 39, 40, 41, 42]) (As := [.int y736]) (rest := []) hC hd0 hD hcs (fun V => MetD.of_met (m_X11_marks l N o2 k11 hO V y736)) wm_X11_marks q1283 ⟨rfl, rfl⟩ ⟨Nat.le_of_ble_eq_true rfl, Nat.le_of_ble_eq_true rfl⟩ rfl hl.1 rfl (Nat.le_of_ble_eq_true rfl) dL_law_737 (fun r H locs d0 hD hd0 => ?_)
  refine lv_pop hx hb dL_law_740 rfl ?_
  refine lv_goto (tgt := 1249) hx hb dL_law_741 (by decide) ?_
  exact kk H locs d0 hD hd0
set_option maxHeartbeats 4000000 in
set_option maxRecDepth 100000 in
theorem law_extreme (hC : lC p s m c N o1 o2 b L xs) (hcs : cells ≤ 600000 ∧ slots ≤ 7302250) (hd0 : s.drawn.sameBut d0 lw_cs) (hD : lD s N o2 H locs) (hl : lv_has ls 4 [(3, .int i), (2, .ref o2), (1, .ref o1), (0, .ref b)]) (hi : 0 ≤ i.toInt ∧ i.toInt + 6 ≤ (L : Int) ∧ L ≤ 3072)
    (kk : ∀ (H1 : Heap) (locs1 : List Loc) (d1 : Drawn), lD s N o2 H1 locs1 → s.drawn.sameBut d1 lw_cs → W p l e room_1 (s.setDrawn d1) m #[Value.ref b] below meth c H1 locs1 cells slots Q (F0 m 1249 ls [])) : W p l e room_1 (s.setDrawn d0) m #[Value.ref b] below meth c H locs cells slots Q (F0 m 744 ls []) := by
  obtain ⟨hx, hb, hml, hown, hts, hX, hbl, hK, hT0, hnn, hA, k10, k11, hO⟩ := id hC
  have hbA : ¬ (fun q : Nat => s.heap.size ≤ q) b := Nat.not_le.mpr hbl
  refine lv_aload_n hx hb dL_law_744 rfl (lv_at hl 2 rfl) ?_
  refine lv_aload_n hx hb dL_law_745 rfl (lv_at hl 3 rfl) ?_
  refine lv_iload_n hx hb dL_law_746 rfl (lv_at hl 0 rfl) ?_
  refine lv_iconst (v := 1) hx hb dL_law_747 (by decide) ?_
  refine lv_iadd hx hb dL_law_748 ?_
  refine lv_topi (fun x748 e748 => ?_)
  refine va_sld (s := s.setDrawn d0) (H0 := s.heap) hx hb hX hbl hbA hD.2.2 (l_in e748 (by decide) hi) dL_law_749 ?_
  refine lv_topi (fun y749 f749 => ?_)
  refine lk_i (As := [.int y749]) (rest := []) hC hd0 hD hcs (MetD.of_met (m_X10_extreme l N o1 k10 y749)) wm_X10_extreme q656 ⟨rfl, rfl⟩ ⟨Nat.le_of_ble_eq_true rfl, Nat.le_of_ble_eq_true rfl⟩ rfl hl.1 rfl (Nat.le_of_ble_eq_true rfl) dL_law_750 (by decide) (by decide) (fun r H locs d0 hD hd0 => ?_)
  refine lv_pop hx hb dL_law_753 rfl ?_
  refine lv_aload_n hx hb dL_law_754 rfl (lv_at hl 1 rfl) ?_
  refine lv_aload_n hx hb dL_law_755 rfl (lv_at hl 3 rfl) ?_
  refine lv_iload_n hx hb dL_law_756 rfl (lv_at hl 0 rfl) ?_
  refine lv_iconst (v := 1) hx hb dL_law_757 (by decide) ?_
  refine lv_iadd hx hb dL_law_758 ?_
  refine lv_topi (fun x758 e758 => ?_)
  refine va_sld (s := s.setDrawn d0) (H0 := s.heap) hx hb hX hbl hbA hD.2.2 (l_in e758 (by decide) hi) dL_law_759 ?_
  refine lv_topi (fun y759 f759 => ?_)
  refine lm_i (F := [32, 33, 34, 35, 36, 37, 38, 39, 40, 41, 42]) (As := [.int y759]) (rest := []) hC hd0 hD hcs (fun V => MetD.of_met (m_X11_extreme l N o2 k11 hO V y759)) wm_X11_extreme q1287 ⟨rfl, rfl⟩ ⟨Nat.le_of_ble_eq_true rfl, Nat.le_of_ble_eq_true rfl⟩ rfl hl.1 rfl (Nat.le_of_ble_eq_true rfl) dL_law_760 (fun r H locs d0 hD hd0 => ?_)
  refine lv_pop hx hb dL_law_763 rfl ?_
  refine lv_goto (tgt := 1249) hx hb dL_law_764 (by decide) ?_
  exact kk H locs d0 hD hd0
set_option maxHeartbeats 4000000 in
set_option maxRecDepth 100000 in
theorem law_below (hC : lC p s m c N o1 o2 b L xs) (hcs : cells ≤ 600000 ∧ slots ≤ 7302250) (hd0 : s.drawn.sameBut d0 lw_cs) (hD : lD s N o2 H locs) (hl : lv_has ls 4 [(3, .int i), (2, .ref o2), (1, .ref o1), (0, .ref b)]) (hi : 0 ≤ i.toInt ∧ i.toInt + 6 ≤ (L : Int) ∧ L ≤ 3072)
    (kk : ∀ (H1 : Heap) (locs1 : List Loc) (d1 : Drawn), lD s N o2 H1 locs1 → s.drawn.sameBut d1 lw_cs → W p l e room_1 (s.setDrawn d1) m #[Value.ref b] below meth c H1 locs1 cells slots Q (F0 m 1249 ls [])) : W p l e room_1 (s.setDrawn d0) m #[Value.ref b] below meth c H locs cells slots Q (F0 m 767 ls []) := by
  obtain ⟨hx, hb, hml, hown, hts, hX, hbl, hK, hT0, hnn, hA, k10, k11, hO⟩ := id hC
  have hbA : ¬ (fun q : Nat => s.heap.size ≤ q) b := Nat.not_le.mpr hbl
  refine lv_aload_n hx hb dL_law_767 rfl (lv_at hl 2 rfl) ?_
  refine lv_aload_n hx hb dL_law_768 rfl (lv_at hl 3 rfl) ?_
  refine lv_iload_n hx hb dL_law_769 rfl (lv_at hl 0 rfl) ?_
  refine lv_iconst (v := 1) hx hb dL_law_770 (by decide) ?_
  refine lv_iadd hx hb dL_law_771 ?_
  refine lv_topi (fun x771 e771 => ?_)
  refine va_sld (s := s.setDrawn d0) (H0 := s.heap) hx hb hX hbl hbA hD.2.2 (l_in e771 (by decide) hi) dL_law_772 ?_
  refine lv_topi (fun y772 f772 => ?_)
  refine lv_aload_n hx hb dL_law_773 rfl (lv_at hl 3 rfl) ?_
  refine lv_iload_n hx hb dL_law_774 rfl (lv_at hl 0 rfl) ?_
  refine lv_iconst (v := 2) hx hb dL_law_775 (by decide) ?_
  refine lv_iadd hx hb dL_law_776 ?_
  refine lv_topi (fun x776 e776 => ?_)
  refine va_sld (s := s.setDrawn d0) (H0 := s.heap) hx hb hX hbl hbA hD.2.2 (l_in e776 (by decide) hi) dL_law_777 ?_
  refine lv_topi (fun y777 f777 => ?_)
  refine lv_aload_n hx hb dL_law_778 rfl (lv_at hl 3 rfl) ?_
  refine lv_iload_n hx hb dL_law_779 rfl (lv_at hl 0 rfl) ?_
  refine lv_iconst (v := 3) hx hb dL_law_780 (by decide) ?_
  refine lv_iadd hx hb dL_law_781 ?_
  refine lv_topi (fun x781 e781 => ?_)
  refine va_sld (s := s.setDrawn d0) (H0 := s.heap) hx hb hX hbl hbA hD.2.2 (l_in e781 (by decide) hi) dL_law_782 ?_
  refine lv_topi (fun y782 f782 => ?_)
  refine lk_i (As := [.int y772, .int y777, .int y782]) (rest := []) hC hd0 hD hcs (MetD.of_met (m_X10_below l N o1 k10 y772 y777 y782)) wm_X10_below q671 ⟨rfl, rfl⟩ ⟨Nat.le_of_ble_eq_true rfl, Nat.le_of_ble_eq_true rfl⟩ rfl hl.1 rfl (Nat.le_of_ble_eq_true rfl) dL_law_783 (by decide) (by decide) (fun r H locs d0 hD hd0 => ?_)
  refine lv_pop hx hb dL_law_786 rfl ?_
  refine lv_aload_n hx hb dL_law_787 rfl (lv_at hl 1 rfl) ?_
  refine lv_aload_n hx hb dL_law_788 rfl (lv_at hl 3 rfl) ?_
  refine lv_iload_n hx hb dL_law_789 rfl (lv_at hl 0 rfl) ?_
  refine lv_iconst (v := 1) hx hb dL_law_790 (by decide) ?_
  refine lv_iadd hx hb dL_law_791 ?_
  refine lv_topi (fun x791 e791 => ?_)
  refine va_sld (s := s.setDrawn d0) (H0 := s.heap) hx hb hX hbl hbA hD.2.2 (l_in e791 (by decide) hi) dL_law_792 ?_
  refine lv_topi (fun y792 f792 => ?_)
  refine lv_aload_n hx hb dL_law_793 rfl (lv_at hl 3 rfl) ?_
  refine lv_iload_n hx hb dL_law_794 rfl (lv_at hl 0 rfl) ?_
  refine lv_iconst (v := 2) hx hb dL_law_795 (by decide) ?_
  refine lv_iadd hx hb dL_law_796 ?_
  refine lv_topi (fun x796 e796 => ?_)
  refine va_sld (s := s.setDrawn d0) (H0 := s.heap) hx hb hX hbl hbA hD.2.2 (l_in e796 (by decide) hi) dL_law_797 ?_
  refine lv_topi (fun y797 f797 => ?_)
  refine lv_aload_n hx hb dL_law_798 rfl (lv_at hl 3 rfl) ?_
  refine lv_iload_n hx hb dL_law_799 rfl (lv_at hl 0 rfl) ?_
  refine lv_iconst (v := 3) hx hb dL_law_800 (by decide) ?_
  refine lv_iadd hx hb dL_law_801 ?_
  refine lv_topi (fun x801 e801 => ?_)
  refine va_sld (s := s.setDrawn d0) (H0 := s.heap) hx hb hX hbl hbA hD.2.2 (l_in e801 (by decide) hi) dL_law_802 ?_
  refine lv_topi (fun y802 f802 => ?_)
  refine lm_i (F := [32, 33, 34, 35, 36, 37, 38, 39, 40, 41, 42]) (As := [.int y792, .int y797, .int y802]) (rest := []) hC hd0 hD hcs (fun V => MetD.of_met (m_X11_below l N o2 k11 hO V y792 y797 y802)) wm_X11_below q1294 ⟨rfl, rfl⟩ ⟨Nat.le_of_ble_eq_true rfl, Nat.le_of_ble_eq_true rfl⟩ rfl hl.1 rfl (Nat.le_of_ble_eq_true rfl) dL_law_803 (fun r H locs d0 hD hd0 => ?_)
  refine lv_pop hx hb dL_law_806 rfl ?_
  refine lv_goto (tgt := 1249) hx hb dL_law_807 (by decide) ?_
  exact kk H locs d0 hD hd0
set_option maxHeartbeats 4000000 in
set_option maxRecDepth 100000 in
theorem law_worst (hC : lC p s m c N o1 o2 b L xs) (hcs : cells ≤ 600000 ∧ slots ≤ 7302250) (hd0 : s.drawn.sameBut d0 lw_cs) (hD : lD s N o2 H locs) (hl : lv_has ls 4 [(3, .int i), (2, .ref o2), (1, .ref o1), (0, .ref b)]) (hi : 0 ≤ i.toInt ∧ i.toInt + 6 ≤ (L : Int) ∧ L ≤ 3072)
    (kk : ∀ (H1 : Heap) (locs1 : List Loc) (d1 : Drawn), lD s N o2 H1 locs1 → s.drawn.sameBut d1 lw_cs → W p l e room_1 (s.setDrawn d1) m #[Value.ref b] below meth c H1 locs1 cells slots Q (F0 m 1249 ls [])) : W p l e room_1 (s.setDrawn d0) m #[Value.ref b] below meth c H locs cells slots Q (F0 m 810 ls []) := by
  obtain ⟨hx, hb, hml, hown, hts, hX, hbl, hK, hT0, hnn, hA, k10, k11, hO⟩ := id hC
  have hbA : ¬ (fun q : Nat => s.heap.size ≤ q) b := Nat.not_le.mpr hbl
  refine lv_aload_n hx hb dL_law_810 rfl (lv_at hl 2 rfl) ?_
  refine lv_aload_n hx hb dL_law_811 rfl (lv_at hl 3 rfl) ?_
  refine lv_iload_n hx hb dL_law_812 rfl (lv_at hl 0 rfl) ?_
  refine lv_iconst (v := 1) hx hb dL_law_813 (by decide) ?_
  refine lv_iadd hx hb dL_law_814 ?_
  refine lv_topi (fun x814 e814 => ?_)
  refine va_sld (s := s.setDrawn d0) (H0 := s.heap) hx hb hX hbl hbA hD.2.2 (l_in e814 (by decide) hi) dL_law_815 ?_
  refine lv_topi (fun y815 f815 => ?_)
  refine lv_aload_n hx hb dL_law_816 rfl (lv_at hl 3 rfl) ?_
  refine lv_iload_n hx hb dL_law_817 rfl (lv_at hl 0 rfl) ?_
  refine lv_iconst (v := 2) hx hb dL_law_818 (by decide) ?_
  refine lv_iadd hx hb dL_law_819 ?_
  refine lv_topi (fun x819 e819 => ?_)
  refine va_sld (s := s.setDrawn d0) (H0 := s.heap) hx hb hX hbl hbA hD.2.2 (l_in e819 (by decide) hi) dL_law_820 ?_
  refine lv_topi (fun y820 f820 => ?_)
  refine lv_aload_n hx hb dL_law_821 rfl (lv_at hl 3 rfl) ?_
  refine lv_iload_n hx hb dL_law_822 rfl (lv_at hl 0 rfl) ?_
  refine lv_iconst (v := 3) hx hb dL_law_823 (by decide) ?_
  refine lv_iadd hx hb dL_law_824 ?_
  refine lv_topi (fun x824 e824 => ?_)
  refine va_sld (s := s.setDrawn d0) (H0 := s.heap) hx hb hX hbl hbA hD.2.2 (l_in e824 (by decide) hi) dL_law_825 ?_
  refine lv_topi (fun y825 f825 => ?_)
  refine lk_l (As := [.int y815, .int y820, .int y825]) (rest := []) hC hd0 hD hcs (MetD.of_met (m_X10_worst l N o1 k10 y815 y820 y825)) wm_X10_worst q676 ⟨rfl, rfl⟩ ⟨Nat.le_of_ble_eq_true rfl, Nat.le_of_ble_eq_true rfl⟩ rfl hl.1 rfl (Nat.le_of_ble_eq_true rfl) dL_law_826 (by decide) (by decide) (fun r H locs d0 hD hd0 => ?_)
  refine lv_pop2_2 hx hb dL_law_829 rfl ?_
  refine lv_aload_n hx hb dL_law_830 rfl (lv_at hl 1 rfl) ?_
  refine lv_aload_n hx hb dL_law_831 rfl (lv_at hl 3 rfl) ?_
  refine lv_iload_n hx hb dL_law_832 rfl (lv_at hl 0 rfl) ?_
  refine lv_iconst (v := 1) hx hb dL_law_833 (by decide) ?_
  refine lv_iadd hx hb dL_law_834 ?_
  refine lv_topi (fun x834 e834 => ?_)
  refine va_sld (s := s.setDrawn d0) (H0 := s.heap) hx hb hX hbl hbA hD.2.2 (l_in e834 (by decide) hi) dL_law_835 ?_
  refine lv_topi (fun y835 f835 => ?_)
  refine lv_aload_n hx hb dL_law_836 rfl (lv_at hl 3 rfl) ?_
  refine lv_iload_n hx hb dL_law_837 rfl (lv_at hl 0 rfl) ?_
  refine lv_iconst (v := 2) hx hb dL_law_838 (by decide) ?_
  refine lv_iadd hx hb dL_law_839 ?_
  refine lv_topi (fun x839 e839 => ?_)
  refine va_sld (s := s.setDrawn d0) (H0 := s.heap) hx hb hX hbl hbA hD.2.2 (l_in e839 (by decide) hi) dL_law_840 ?_
  refine lv_topi (fun y840 f840 => ?_)
  refine lv_aload_n hx hb dL_law_841 rfl (lv_at hl 3 rfl) ?_
  refine lv_iload_n hx hb dL_law_842 rfl (lv_at hl 0 rfl) ?_
  refine lv_iconst (v := 3) hx hb dL_law_843 (by decide) ?_
  refine lv_iadd hx hb dL_law_844 ?_
  refine lv_topi (fun x844 e844 => ?_)
  refine va_sld (s := s.setDrawn d0) (H0 := s.heap) hx hb hX hbl hbA hD.2.2 (l_in e844 (by decide) hi) dL_law_845 ?_
  refine lv_topi (fun y845 f845 => ?_)
  refine lm_l (F := [32, 33, 34, 35, 36, 37, 38, 39, 40, 41, 42]) (As := [.int y835, .int y840, .int y845]) (rest := []) hC hd0 hD hcs (fun V => MetD.of_met (m_X11_worst l N o2 k11 hO V y835 y840 y845)) wm_X11_worst q1299 ⟨rfl, rfl⟩ ⟨Nat.le_of_ble_eq_true rfl, Nat.le_of_ble_eq_true rfl⟩ rfl hl.1 rfl (Nat.le_of_ble_eq_true rfl) dL_law_846 (fun r H locs d0 hD hd0 => ?_)
  refine lv_pop2_2 hx hb dL_law_849 rfl ?_
  refine lv_goto (tgt := 1249) hx hb dL_law_850 (by decide) ?_
  exact kk H locs d0 hD hd0
set_option maxHeartbeats 4000000 in
set_option maxRecDepth 100000 in
theorem law_corner (hC : lC p s m c N o1 o2 b L xs) (hcs : cells ≤ 600000 ∧ slots ≤ 7302250) (hd0 : s.drawn.sameBut d0 lw_cs) (hD : lD s N o2 H locs) (hl : lv_has ls 4 [(3, .int i), (2, .ref o2), (1, .ref o1), (0, .ref b)]) (hi : 0 ≤ i.toInt ∧ i.toInt + 6 ≤ (L : Int) ∧ L ≤ 3072)
    (kk : ∀ (H1 : Heap) (locs1 : List Loc) (d1 : Drawn), lD s N o2 H1 locs1 → s.drawn.sameBut d1 lw_cs → W p l e room_1 (s.setDrawn d1) m #[Value.ref b] below meth c H1 locs1 cells slots Q (F0 m 1249 ls [])) : W p l e room_1 (s.setDrawn d0) m #[Value.ref b] below meth c H locs cells slots Q (F0 m 853 ls []) := by
  obtain ⟨hx, hb, hml, hown, hts, hX, hbl, hK, hT0, hnn, hA, k10, k11, hO⟩ := id hC
  have hbA : ¬ (fun q : Nat => s.heap.size ≤ q) b := Nat.not_le.mpr hbl
  refine lv_aload_n hx hb dL_law_853 rfl (lv_at hl 2 rfl) ?_
  refine lv_aload_n hx hb dL_law_854 rfl (lv_at hl 3 rfl) ?_
  refine lv_iload_n hx hb dL_law_855 rfl (lv_at hl 0 rfl) ?_
  refine lv_iconst (v := 1) hx hb dL_law_856 (by decide) ?_
  refine lv_iadd hx hb dL_law_857 ?_
  refine lv_topi (fun x857 e857 => ?_)
  refine va_sld (s := s.setDrawn d0) (H0 := s.heap) hx hb hX hbl hbA hD.2.2 (l_in e857 (by decide) hi) dL_law_858 ?_
  refine lv_topi (fun y858 f858 => ?_)
  refine lv_aload_n hx hb dL_law_859 rfl (lv_at hl 3 rfl) ?_
  refine lv_iload_n hx hb dL_law_860 rfl (lv_at hl 0 rfl) ?_
  refine lv_iconst (v := 2) hx hb dL_law_861 (by decide) ?_
  refine lv_iadd hx hb dL_law_862 ?_
  refine lv_topi (fun x862 e862 => ?_)
  refine va_sld (s := s.setDrawn d0) (H0 := s.heap) hx hb hX hbl hbA hD.2.2 (l_in e862 (by decide) hi) dL_law_863 ?_
  refine lv_topi (fun y863 f863 => ?_)
  refine lv_aload_n hx hb dL_law_864 rfl (lv_at hl 3 rfl) ?_
  refine lv_iload_n hx hb dL_law_865 rfl (lv_at hl 0 rfl) ?_
  refine lv_iconst (v := 3) hx hb dL_law_866 (by decide) ?_
  refine lv_iadd hx hb dL_law_867 ?_
  refine lv_topi (fun x867 e867 => ?_)
  refine va_sld (s := s.setDrawn d0) (H0 := s.heap) hx hb hX hbl hbA hD.2.2 (l_in e867 (by decide) hi) dL_law_868 ?_
  refine lv_topi (fun y868 f868 => ?_)
  refine lv_aload_n hx hb dL_law_869 rfl (lv_at hl 3 rfl) ?_
  refine lv_iload_n hx hb dL_law_870 rfl (lv_at hl 0 rfl) ?_
  refine lv_iconst (v := 4) hx hb dL_law_871 (by decide) ?_
  refine lv_iadd hx hb dL_law_872 ?_
  refine lv_topi (fun x872 e872 => ?_)
  refine va_sld (s := s.setDrawn d0) (H0 := s.heap) hx hb hX hbl hbA hD.2.2 (l_in e872 (by decide) hi) dL_law_873 ?_
  refine lv_topi (fun y873 f873 => ?_)
  refine lk_l (As := [.int y858, .int y863, .int y868, .int y873]) (rest := []) hC hd0 hD hcs (MetD.of_met (m_X10_corner l N o1 k10 y858 y863 y868 y873)) wm_X10_corner q717 ⟨rfl, rfl⟩ ⟨Nat.le_of_ble_eq_true rfl, Nat.le_of_ble_eq_true rfl⟩ rfl hl.1 rfl (Nat.le_of_ble_eq_true rfl) dL_law_874 (by decide) (by decide) (fun r H locs d0 hD hd0 => ?_)
  refine lv_pop2_2 hx hb dL_law_877 rfl ?_
  refine lv_aload_n hx hb dL_law_878 rfl (lv_at hl 1 rfl) ?_
  refine lv_aload_n hx hb dL_law_879 rfl (lv_at hl 3 rfl) ?_
  refine lv_iload_n hx hb dL_law_880 rfl (lv_at hl 0 rfl) ?_
  refine lv_iconst (v := 1) hx hb dL_law_881 (by decide) ?_
  refine lv_iadd hx hb dL_law_882 ?_
  refine lv_topi (fun x882 e882 => ?_)
  refine va_sld (s := s.setDrawn d0) (H0 := s.heap) hx hb hX hbl hbA hD.2.2 (l_in e882 (by decide) hi) dL_law_883 ?_
  refine lv_topi (fun y883 f883 => ?_)
  refine lv_aload_n hx hb dL_law_884 rfl (lv_at hl 3 rfl) ?_
  refine lv_iload_n hx hb dL_law_885 rfl (lv_at hl 0 rfl) ?_
  refine lv_iconst (v := 2) hx hb dL_law_886 (by decide) ?_
  refine lv_iadd hx hb dL_law_887 ?_
  refine lv_topi (fun x887 e887 => ?_)
  refine va_sld (s := s.setDrawn d0) (H0 := s.heap) hx hb hX hbl hbA hD.2.2 (l_in e887 (by decide) hi) dL_law_888 ?_
  refine lv_topi (fun y888 f888 => ?_)
  refine lv_aload_n hx hb dL_law_889 rfl (lv_at hl 3 rfl) ?_
  refine lv_iload_n hx hb dL_law_890 rfl (lv_at hl 0 rfl) ?_
  refine lv_iconst (v := 3) hx hb dL_law_891 (by decide) ?_
  refine lv_iadd hx hb dL_law_892 ?_
  refine lv_topi (fun x892 e892 => ?_)
  refine va_sld (s := s.setDrawn d0) (H0 := s.heap) hx hb hX hbl hbA hD.2.2 (l_in e892 (by decide) hi) dL_law_893 ?_
  refine lv_topi (fun y893 f893 => ?_)
  refine lv_aload_n hx hb dL_law_894 rfl (lv_at hl 3 rfl) ?_
  refine lv_iload_n hx hb dL_law_895 rfl (lv_at hl 0 rfl) ?_
  refine lv_iconst (v := 4) hx hb dL_law_896 (by decide) ?_
  refine lv_iadd hx hb dL_law_897 ?_
  refine lv_topi (fun x897 e897 => ?_)
  refine va_sld (s := s.setDrawn d0) (H0 := s.heap) hx hb hX hbl hbA hD.2.2 (l_in e897 (by decide) hi) dL_law_898 ?_
  refine lv_topi (fun y898 f898 => ?_)
  refine lm_l (F := [32, 33, 34, 35, 36, 37, 38, 39, 40, 41, 42]) (As := [.int y883, .int y888, .int y893, .int y898]) (rest := []) hC hd0 hD hcs (fun V => MetD.of_met (m_X11_corner l N o2 k11 hO V y883 y888 y893 y898)) wm_X11_corner q1318 ⟨rfl, rfl⟩ ⟨Nat.le_of_ble_eq_true rfl, Nat.le_of_ble_eq_true rfl⟩ rfl hl.1 rfl (Nat.le_of_ble_eq_true rfl) dL_law_899 (fun r H locs d0 hD hd0 => ?_)
  refine lv_pop2_2 hx hb dL_law_902 rfl ?_
  refine lv_goto (tgt := 1249) hx hb dL_law_903 (by decide) ?_
  exact kk H locs d0 hD hd0
set_option maxHeartbeats 4000000 in
set_option maxRecDepth 100000 in
theorem law_tender (hC : lC p s m c N o1 o2 b L xs) (hcs : cells ≤ 600000 ∧ slots ≤ 7302250) (hd0 : s.drawn.sameBut d0 lw_cs) (hD : lD s N o2 H locs) (hl : lv_has ls 4 [(3, .int i), (2, .ref o2), (1, .ref o1), (0, .ref b)]) (hi : 0 ≤ i.toInt ∧ i.toInt + 6 ≤ (L : Int) ∧ L ≤ 3072)
    (kk : ∀ (H1 : Heap) (locs1 : List Loc) (d1 : Drawn), lD s N o2 H1 locs1 → s.drawn.sameBut d1 lw_cs → W p l e room_1 (s.setDrawn d1) m #[Value.ref b] below meth c H1 locs1 cells slots Q (F0 m 1249 ls [])) : W p l e room_1 (s.setDrawn d0) m #[Value.ref b] below meth c H locs cells slots Q (F0 m 906 ls []) := by
  obtain ⟨hx, hb, hml, hown, hts, hX, hbl, hK, hT0, hnn, hA, k10, k11, hO⟩ := id hC
  have hbA : ¬ (fun q : Nat => s.heap.size ≤ q) b := Nat.not_le.mpr hbl
  refine lv_aload_n hx hb dL_law_906 rfl (lv_at hl 2 rfl) ?_
  refine lv_aload_n hx hb dL_law_907 rfl (lv_at hl 3 rfl) ?_
  refine lv_iload_n hx hb dL_law_908 rfl (lv_at hl 0 rfl) ?_
  refine lv_iconst (v := 1) hx hb dL_law_909 (by decide) ?_
  refine lv_iadd hx hb dL_law_910 ?_
  refine lv_topi (fun x910 e910 => ?_)
  refine va_sld (s := s.setDrawn d0) (H0 := s.heap) hx hb hX hbl hbA hD.2.2 (l_in e910 (by decide) hi) dL_law_911 ?_
  refine lv_topi (fun y911 f911 => ?_)
  refine lv_aload_n hx hb dL_law_912 rfl (lv_at hl 3 rfl) ?_
  refine lv_iload_n hx hb dL_law_913 rfl (lv_at hl 0 rfl) ?_
  refine lv_iconst (v := 2) hx hb dL_law_914 (by decide) ?_
  refine lv_iadd hx hb dL_law_915 ?_
  refine lv_topi (fun x915 e915 => ?_)
  refine va_sld (s := s.setDrawn d0) (H0 := s.heap) hx hb hX hbl hbA hD.2.2 (l_in e915 (by decide) hi) dL_law_916 ?_
  refine lv_topi (fun y916 f916 => ?_)
  refine lk_i (As := [.int y911, .int y916]) (rest := []) hC hd0 hD hcs (MetD.of_met (m_X10_tender l N o1 k10 y911 y916)) wm_X10_tender q721 ⟨rfl, rfl⟩ ⟨Nat.le_of_ble_eq_true rfl, Nat.le_of_ble_eq_true rfl⟩ rfl hl.1 rfl (Nat.le_of_ble_eq_true rfl) dL_law_917 (by decide) (by decide) (fun r H locs d0 hD hd0 => ?_)
  refine lv_pop hx hb dL_law_920 rfl ?_
  refine lv_aload_n hx hb dL_law_921 rfl (lv_at hl 1 rfl) ?_
  refine lv_aload_n hx hb dL_law_922 rfl (lv_at hl 3 rfl) ?_
  refine lv_iload_n hx hb dL_law_923 rfl (lv_at hl 0 rfl) ?_
  refine lv_iconst (v := 1) hx hb dL_law_924 (by decide) ?_
  refine lv_iadd hx hb dL_law_925 ?_
  refine lv_topi (fun x925 e925 => ?_)
  refine va_sld (s := s.setDrawn d0) (H0 := s.heap) hx hb hX hbl hbA hD.2.2 (l_in e925 (by decide) hi) dL_law_926 ?_
  refine lv_topi (fun y926 f926 => ?_)
  refine lv_aload_n hx hb dL_law_927 rfl (lv_at hl 3 rfl) ?_
  refine lv_iload_n hx hb dL_law_928 rfl (lv_at hl 0 rfl) ?_
  refine lv_iconst (v := 2) hx hb dL_law_929 (by decide) ?_
  refine lv_iadd hx hb dL_law_930 ?_
  refine lv_topi (fun x930 e930 => ?_)
  refine va_sld (s := s.setDrawn d0) (H0 := s.heap) hx hb hX hbl hbA hD.2.2 (l_in e930 (by decide) hi) dL_law_931 ?_
  refine lv_topi (fun y931 f931 => ?_)
  refine lm_i (F := [32, 33, 34, 35, 36, 37, 38, 39, 40, 41, 42]) (As := [.int y926, .int y931]) (rest := []) hC hd0 hD hcs (fun V => MetD.of_met (m_X11_tender l N o2 k11 hO V y926 y931)) wm_X11_tender q1322 ⟨rfl, rfl⟩ ⟨Nat.le_of_ble_eq_true rfl, Nat.le_of_ble_eq_true rfl⟩ rfl hl.1 rfl (Nat.le_of_ble_eq_true rfl) dL_law_932 (fun r H locs d0 hD hd0 => ?_)
  refine lv_pop hx hb dL_law_935 rfl ?_
  refine lv_goto (tgt := 1249) hx hb dL_law_936 (by decide) ?_
  exact kk H locs d0 hD hd0
end LAWC
