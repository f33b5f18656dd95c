section LAWC
variable {p : Program} {l : Launch} {e : Env} {s : State} {m : MethodId} {below : List Frame} {meth : Method} {c : Code} {H : Heap} {locs : List Loc} {cells slots : Nat} {Q : State → Prop} {b L : Nat} {xs : Nat → Int32} {N : c_N} {o1 o2 : Nat} {d0 : Drawn} {ls : Array Slot} {i : Int32}
set_option maxHeartbeats 4000000 in
set_option maxRecDepth 100000 in
theorem law_wanted (hC : lC p s m c N o1 o2 b L xs) (hcs : cells ≤ 600000 ∧ slots ≤ 7302250) (hd0 : s.drawn.sameBut d0 lw_cs) (hD : lD s N o2 H locs) (hl : lv_has ls 4 [(3, .int i), (2, .ref o2), (1, .ref o1), (0, .ref b)]) (hi : 0 ≤ i.toInt ∧ i.toInt + 6 ≤ (L : Int) ∧ L ≤ 3072)
    (kk : ∀ (H1 : Heap) (locs1 : List Loc) (d1 : Drawn), lD s N o2 H1 locs1 → s.drawn.sameBut d1 lw_cs → W p l e room_1 (s.setDrawn d1) m #[Value.ref b] below meth c H1 locs1 cells slots Q (F0 m 1249 ls [])) : W p l e room_1 (s.setDrawn d0) m #[Value.ref b] below meth c H locs cells slots Q (F0 m 939 ls []) := by
  obtain ⟨hx, hb, hml, hown, hts, hX, hbl, hK, hT0, hnn, hA, k10, k11, hO⟩ := id hC
  have hbA : ¬ (fun q : Nat => s.heap.size ≤ q) b := Nat.not_le.mpr hbl
  refine lv_aload_n hx hb dL_law_939 rfl (lv_at hl 2 rfl) ?_
  refine lv_aload_n hx hb dL_law_940 rfl (lv_at hl 3 rfl) ?_
  refine lv_iload_n hx hb dL_law_941 rfl (lv_at hl 0 rfl) ?_
  refine lv_iconst (v := 1) hx hb dL_law_942 (by decide) ?_
  refine lv_iadd hx hb dL_law_943 ?_
  refine lv_topi (fun x943 e943 => ?_)
  refine va_sld (s := s.setDrawn d0) (H0 := s.heap) hx hb hX hbl hbA hD.2.2 (l_in e943 (by decide) hi) dL_law_944 ?_
  refine lv_topi (fun y944 f944 => ?_)
  refine lv_aload_n hx hb dL_law_945 rfl (lv_at hl 3 rfl) ?_
  refine lv_iload_n hx hb dL_law_946 rfl (lv_at hl 0 rfl) ?_
  refine lv_iconst (v := 2) hx hb dL_law_947 (by decide) ?_
  refine lv_iadd hx hb dL_law_948 ?_
  refine lv_topi (fun x948 e948 => ?_)
  refine va_sld (s := s.setDrawn d0) (H0 := s.heap) hx hb hX hbl hbA hD.2.2 (l_in e948 (by decide) hi) dL_law_949 ?_
  refine lv_topi (fun y949 f949 => ?_)
  refine lv_aload_n hx hb dL_law_950 rfl (lv_at hl 3 rfl) ?_
  refine lv_iload_n hx hb dL_law_951 rfl (lv_at hl 0 rfl) ?_
  refine lv_iconst (v := 3) hx hb dL_law_952 (by decide) ?_
  refine lv_iadd hx hb dL_law_953 ?_
  refine lv_topi (fun x953 e953 => ?_)
  refine va_sld (s := s.setDrawn d0) (H0 := s.heap) hx hb hX hbl hbA hD.2.2 (l_in e953 (by decide) hi) dL_law_954 ?_
  refine lv_topi (fun y954 f954 => ?_)
  refine lv_aload_n hx hb dL_law_955 rfl (lv_at hl 3 rfl) ?_
  refine lv_iload_n hx hb dL_law_956 rfl (lv_at hl 0 rfl) ?_
  refine lv_iconst (v := 4) hx hb dL_law_957 (by decide) ?_
  refine lv_iadd hx hb dL_law_958 ?_
  refine lv_topi (fun x958 e958 => ?_)
  refine va_sld (s := s.setDrawn d0) (H0 := s.heap) hx hb hX hbl hbA hD.2.2 (l_in e958 (by decide) hi) dL_law_959 ?_
  refine lv_topi (fun y959 f959 => ?_)
  refine lk_i (As := [.int y944, .int y949, .int y954, .int y959]) (rest := []) hC hd0 hD hcs (MetD.of_met (m_X10_wanted l N o1 k10 y944 y949 y954 y959)) wm_X10_wanted q735 ⟨rfl, rfl⟩ ⟨Nat.le_of_ble_eq_true rfl, Nat.le_of_ble_eq_true rfl⟩ rfl hl.1 rfl (Nat.le_of_ble_eq_true rfl) dL_law_960 (by decide) (by decide) (fun r H locs d0 hD hd0 => ?_)
  refine lv_pop hx hb dL_law_963 rfl ?_
  refine lv_aload_n hx hb dL_law_964 rfl (lv_at hl 1 rfl) ?_
  refine lv_aload_n hx hb dL_law_965 rfl (lv_at hl 3 rfl) ?_
  refine lv_iload_n hx hb dL_law_966 rfl (lv_at hl 0 rfl) ?_
  refine lv_iconst (v := 1) hx hb dL_law_967 (by decide) ?_
  refine lv_iadd hx hb dL_law_968 ?_
  refine lv_topi (fun x968 e968 => ?_)
  refine va_sld (s := s.setDrawn d0) (H0 := s.heap) hx hb hX hbl hbA hD.2.2 (l_in e968 (by decide) hi) dL_law_969 ?_
  refine lv_topi (fun y969 f969 => ?_)
  refine lv_aload_n hx hb dL_law_970 rfl (lv_at hl 3 rfl) ?_
  refine lv_iload_n hx hb dL_law_971 rfl (lv_at hl 0 rfl) ?_
  refine lv_iconst (v := 2) hx hb dL_law_972 (by decide) ?_
  refine lv_iadd hx hb dL_law_973 ?_
  refine lv_topi (fun x973 e973 => ?_)
  refine va_sld (s := s.setDrawn d0) (H0 := s.heap) hx hb hX hbl hbA hD.2.2 (l_in e973 (by decide) hi) dL_law_974 ?_
  refine lv_topi (fun y974 f974 => ?_)
  refine lv_aload_n hx hb dL_law_975 rfl (lv_at hl 3 rfl) ?_
  refine lv_iload_n hx hb dL_law_976 rfl (lv_at hl 0 rfl) ?_
  refine lv_iconst (v := 3) hx hb dL_law_977 (by decide) ?_
  refine lv_iadd hx hb dL_law_978 ?_
  refine lv_topi (fun x978 e978 => ?_)
  refine va_sld (s := s.setDrawn d0) (H0 := s.heap) hx hb hX hbl hbA hD.2.2 (l_in e978 (by decide) hi) dL_law_979 ?_
  refine lv_topi (fun y979 f979 => ?_)
  refine lv_aload_n hx hb dL_law_980 rfl (lv_at hl 3 rfl) ?_
  refine lv_iload_n hx hb dL_law_981 rfl (lv_at hl 0 rfl) ?_
  refine lv_iconst (v := 4) hx hb dL_law_982 (by decide) ?_
  refine lv_iadd hx hb dL_law_983 ?_
  refine lv_topi (fun x983 e983 => ?_)
  refine va_sld (s := s.setDrawn d0) (H0 := s.heap) hx hb hX hbl hbA hD.2.2 (l_in e983 (by decide) hi) dL_law_984 ?_
  refine lv_topi (fun y984 f984 => ?_)
  refine lm_i (F := [7, 13, 32, 33, 34, 35, 36, 37, 38, 39, 40, 41, 42, 48, 49, 50, 51]) (As := [.int y969, .int y974, .int y979, .int y984]) (rest := []) hC hd0 hD hcs (fun V => MetD.of_met (m_X11_wanted l N o2 k11 hO V y969 y974 y979 y984)) wm_X11_wanted q1326 ⟨rfl, rfl⟩ ⟨Nat.le_of_ble_eq_true rfl, Nat.le_of_ble_eq_true rfl⟩ rfl hl.1 rfl (Nat.le_of_ble_eq_true rfl) dL_law_985 (fun r H locs d0 hD hd0 => ?_)
  refine lv_pop hx hb dL_law_988 rfl ?_
  refine lv_goto (tgt := 1249) hx hb dL_law_989 (by decide) ?_
  exact kk H locs d0 hD hd0
set_option maxHeartbeats 4000000 in
set_option maxRecDepth 100000 in
theorem law_ways (hC : lC p s m c N o1 o2 b L xs) (hcs : cells ≤ 600000 ∧ slots ≤ 7302250) (hd0 : s.drawn.sameBut d0 lw_cs) (hD : lD s N o2 H locs) (hl : lv_has ls 4 [(3, .int i), (2, .ref o2), (1, .ref o1), (0, .ref b)]) (hi : 0 ≤ i.toInt ∧ i.toInt + 6 ≤ (L : Int) ∧ L ≤ 3072)
    (kk : ∀ (H1 : Heap) (locs1 : List Loc) (d1 : Drawn), lD s N o2 H1 locs1 → s.drawn.sameBut d1 lw_cs → W p l e room_1 (s.setDrawn d1) m #[Value.ref b] below meth c H1 locs1 cells slots Q (F0 m 1249 ls [])) : W p l e room_1 (s.setDrawn d0) m #[Value.ref b] below meth c H locs cells slots Q (F0 m 992 ls []) := by
  obtain ⟨hx, hb, hml, hown, hts, hX, hbl, hK, hT0, hnn, hA, k10, k11, hO⟩ := id hC
  have hbA : ¬ (fun q : Nat => s.heap.size ≤ q) b := Nat.not_le.mpr hbl
  refine lv_aload_n hx hb dL_law_992 rfl (lv_at hl 2 rfl) ?_
  refine lv_aload_n hx hb dL_law_993 rfl (lv_at hl 3 rfl) ?_
  refine lv_iload_n hx hb dL_law_994 rfl (lv_at hl 0 rfl) ?_
  refine lv_iconst (v := 1) hx hb dL_law_995 (by decide) ?_
  refine lv_iadd hx hb dL_law_996 ?_
  refine lv_topi (fun x996 e996 => ?_)
  refine va_sld (s := s.setDrawn d0) (H0 := s.heap) hx hb hX hbl hbA hD.2.2 (l_in e996 (by decide) hi) dL_law_997 ?_
  refine lv_topi (fun y997 f997 => ?_)
  refine lv_aload_n hx hb dL_law_998 rfl (lv_at hl 3 rfl) ?_
  refine lv_iload_n hx hb dL_law_999 rfl (lv_at hl 0 rfl) ?_
  refine lv_iconst (v := 2) hx hb dL_law_1000 (by decide) ?_
  refine lv_iadd hx hb dL_law_1001 ?_
  refine lv_topi (fun x1001 e1001 => ?_)
  refine va_sld (s := s.setDrawn d0) (H0 := s.heap) hx hb hX hbl hbA hD.2.2 (l_in e1001 (by decide) hi) dL_law_1002 ?_
  refine lv_topi (fun y1002 f1002 => ?_)
  refine lv_aload_n hx hb dL_law_1003 rfl (lv_at hl 3 rfl) ?_
  refine lv_iload_n hx hb dL_law_1004 rfl (lv_at hl 0 rfl) ?_
  refine lv_iconst (v := 3) hx hb dL_law_1005 (by decide) ?_
  refine lv_iadd hx hb dL_law_1006 ?_
  refine lv_topi (fun x1006 e1006 => ?_)
  refine va_sld (s := s.setDrawn d0) (H0 := s.heap) hx hb hX hbl hbA hD.2.2 (l_in e1006 (by decide) hi) dL_law_1007 ?_
  refine lv_topi (fun y1007 f1007 => ?_)
  refine lv_aload_n hx hb dL_law_1008 rfl (lv_at hl 3 rfl) ?_
  refine lv_iload_n hx hb dL_law_1009 rfl (lv_at hl 0 rfl) ?_
  refine lv_iconst (v := 4) hx hb dL_law_1010 (by decide) ?_
  refine lv_iadd hx hb dL_law_1011 ?_
  refine lv_topi (fun x1011 e1011 => ?_)
  refine va_sld (s := s.setDrawn d0) (H0 := s.heap) hx hb hX hbl hbA hD.2.2 (l_in e1011 (by decide) hi) dL_law_1012 ?_
  refine lv_topi (fun y1012 f1012 => ?_)
  refine lk_i (As := [.int y997, .int y1002, .int y1007, .int y1012]) (rest := []) hC hd0 hD hcs (MetD.of_met (m_X10_ways l N o1 k10 y997 y1002 y1007 y1012)) wm_X10_ways q791 ⟨rfl, rfl⟩ ⟨Nat.le_of_ble_eq_true rfl, Nat.le_of_ble_eq_true rfl⟩ rfl hl.1 rfl (Nat.le_of_ble_eq_true rfl) dL_law_1013 (by decide) (by decide) (fun r H locs d0 hD hd0 => ?_)
  refine lv_pop hx hb dL_law_1016 rfl ?_
  refine lv_aload_n hx hb dL_law_1017 rfl (lv_at hl 1 rfl) ?_
  refine lv_aload_n hx hb dL_law_1018 rfl (lv_at hl 3 rfl) ?_
  refine lv_iload_n hx hb dL_law_1019 rfl (lv_at hl 0 rfl) ?_
  refine lv_iconst (v := 1) hx hb dL_law_1020 (by decide) ?_
  refine lv_iadd hx hb dL_law_1021 ?_
  refine lv_topi (fun x1021 e1021 => ?_)
  refine va_sld (s := s.setDrawn d0) (H0 := s.heap) hx hb hX hbl hbA hD.2.2 (l_in e1021 (by decide) hi) dL_law_1022 ?_
  refine lv_topi (fun y1022 f1022 => ?_)
  refine lv_aload_n hx hb dL_law_1023 rfl (lv_at hl 3 rfl) ?_
  refine lv_iload_n hx hb dL_law_1024 rfl (lv_at hl 0 rfl) ?_
  refine lv_iconst (v := 2) hx hb dL_law_1025 (by decide) ?_
  refine lv_iadd hx hb dL_law_1026 ?_
  refine lv_topi (fun x1026 e1026 => ?_)
  refine va_sld (s := s.setDrawn d0) (H0 := s.heap) hx hb hX hbl hbA hD.2.2 (l_in e1026 (by decide) hi) dL_law_1027 ?_
  refine lv_topi (fun y1027 f1027 => ?_)
  refine lv_aload_n hx hb dL_law_1028 rfl (lv_at hl 3 rfl) ?_
  refine lv_iload_n hx hb dL_law_1029 rfl (lv_at hl 0 rfl) ?_
  refine lv_iconst (v := 3) hx hb dL_law_1030 (by decide) ?_
  refine lv_iadd hx hb dL_law_1031 ?_
  refine lv_topi (fun x1031 e1031 => ?_)
  refine va_sld (s := s.setDrawn d0) (H0 := s.heap) hx hb hX hbl hbA hD.2.2 (l_in e1031 (by decide) hi) dL_law_1032 ?_
  refine lv_topi (fun y1032 f1032 => ?_)
  refine lv_aload_n hx hb dL_law_1033 rfl (lv_at hl 3 rfl) ?_
  refine lv_iload_n hx hb dL_law_1034 rfl (lv_at hl 0 rfl) ?_
  refine lv_iconst (v := 4) hx hb dL_law_1035 (by decide) ?_
  refine lv_iadd hx hb dL_law_1036 ?_
  refine lv_topi (fun x1036 e1036 => ?_)
  refine va_sld (s := s.setDrawn d0) (H0 := s.heap) hx hb hX hbl hbA hD.2.2 (l_in e1036 (by decide) hi) dL_law_1037 ?_
  refine lv_topi (fun y1037 f1037 => ?_)
  refine lm_i (F := [32, 33, 34, 35, 36, 37, 38, 39, 40, 41, 42, 48, 49, 50, 51]) (As := [.int y1022, .int y1027, .int y1032, .int y1037]) (rest := []) hC hd0 hD hcs (fun V => MetD.of_met (m_X11_ways l N o2 k11 hO V y1022 y1027 y1032 y1037)) wm_X11_ways q1366 ⟨rfl, rfl⟩ ⟨Nat.le_of_ble_eq_true rfl, Nat.le_of_ble_eq_true rfl⟩ rfl hl.1 rfl (Nat.le_of_ble_eq_true rfl) dL_law_1038 (fun r H locs d0 hD hd0 => ?_)
  refine lv_pop hx hb dL_law_1041 rfl ?_
  refine lv_goto (tgt := 1249) hx hb dL_law_1042 (by decide) ?_
  exact kk H locs d0 hD hd0
set_option maxHeartbeats 4000000 in
set_option maxRecDepth 100000 in
theorem law_tune (hC : lC p s m c N o1 o2 b L xs) (hcs : cells ≤ 600000 ∧ slots ≤ 7302250) (hd0 : s.drawn.sameBut d0 lw_cs) (hD : lD s N o2 H locs) (hl : lv_has ls 4 [(3, .int i), (2, .ref o2), (1, .ref o1), (0, .ref b)]) (hi : 0 ≤ i.toInt ∧ i.toInt + 6 ≤ (L : Int) ∧ L ≤ 3072)
    (kk : ∀ (H1 : Heap) (locs1 : List Loc) (d1 : Drawn), lD s N o2 H1 locs1 → s.drawn.sameBut d1 lw_cs → W p l e room_1 (s.setDrawn d1) m #[Value.ref b] below meth c H1 locs1 cells slots Q (F0 m 1249 ls [])) : W p l e room_1 (s.setDrawn d0) m #[Value.ref b] below meth c H locs cells slots Q (F0 m 1045 ls []) := by
  obtain ⟨hx, hb, hml, hown, hts, hX, hbl, hK, hT0, hnn, hA, k10, k11, hO⟩ := id hC
  have hbA : ¬ (fun q : Nat => s.heap.size ≤ q) b := Nat.not_le.mpr hbl
  refine lv_aload_n hx hb dL_law_1045 rfl (lv_at hl 2 rfl) ?_
  refine lv_aload_n hx hb dL_law_1046 rfl (lv_at hl 3 rfl) ?_
  refine lv_iload_n hx hb dL_law_1047 rfl (lv_at hl 0 rfl) ?_
  refine lv_iconst (v := 1) hx hb dL_law_1048 (by decide) ?_
  refine lv_iadd hx hb dL_law_1049 ?_
  refine lv_topi (fun x1049 e1049 => ?_)
  refine va_sld (s := s.setDrawn d0) (H0 := s.heap) hx hb hX hbl hbA hD.2.2 (l_in e1049 (by decide) hi) dL_law_1050 ?_
  refine lv_topi (fun y1050 f1050 => ?_)
  refine lv_aload_n hx hb dL_law_1051 rfl (lv_at hl 3 rfl) ?_
  refine lv_iload_n hx hb dL_law_1052 rfl (lv_at hl 0 rfl) ?_
  refine lv_iconst (v := 2) hx hb dL_law_1053 (by decide) ?_
  refine lv_iadd hx hb dL_law_1054 ?_
  refine lv_topi (fun x1054 e1054 => ?_)
  refine va_sld (s := s.setDrawn d0) (H0 := s.heap) hx hb hX hbl hbA hD.2.2 (l_in e1054 (by decide) hi) dL_law_1055 ?_
  refine lv_topi (fun y1055 f1055 => ?_)
  refine lk_i (As := [.int y1050, .int y1055]) (rest := []) hC hd0 hD hcs (MetD.of_met (m_X10_tune l N o1 k10 y1050 y1055)) wm_X10_tune q795 ⟨rfl, rfl⟩ ⟨Nat.le_of_ble_eq_true rfl, Nat.le_of_ble_eq_true rfl⟩ rfl hl.1 rfl (Nat.le_of_ble_eq_true rfl) dL_law_1056 (by decide) (by decide) (fun r H locs d0 hD hd0 => ?_)
  refine lv_pop hx hb dL_law_1059 rfl ?_
  refine lv_aload_n hx hb dL_law_1060 rfl (lv_at hl 1 rfl) ?_
  refine lv_aload_n hx hb dL_law_1061 rfl (lv_at hl 3 rfl) ?_
  refine lv_iload_n hx hb dL_law_1062 rfl (lv_at hl 0 rfl) ?_
  refine lv_iconst (v := 1) hx hb dL_law_1063 (by decide) ?_
  refine lv_iadd hx hb dL_law_1064 ?_
  refine lv_topi (fun x1064 e1064 => ?_)
  refine va_sld (s := s.setDrawn d0) (H0 := s.heap) hx hb hX hbl hbA hD.2.2 (l_in e1064 (by decide) hi) dL_law_1065 ?_
  refine lv_topi (fun y1065 f1065 => ?_)
  refine lv_aload_n hx hb dL_law_1066 rfl (lv_at hl 3 rfl) ?_
  refine lv_iload_n hx hb dL_law_1067 rfl (lv_at hl 0 rfl) ?_
  refine lv_iconst (v := 2) hx hb dL_law_1068 (by decide) ?_
  refine lv_iadd hx hb dL_law_1069 ?_
  refine lv_topi (fun x1069 e1069 => ?_)
  refine va_sld (s := s.setDrawn d0) (H0 := s.heap) hx hb hX hbl hbA hD.2.2 (l_in e1069 (by decide) hi) dL_law_1070 ?_
  refine lv_topi (fun y1070 f1070 => ?_)
  refine lm_i (F := [13, 32, 33, 34, 35, 36, 37, 38, 39, 40, 41, 42]) (As := [.int y1065, .int y1070]) (rest := []) hC hd0 hD hcs (fun V => MetD.of_met (m_X11_tune l N o2 k11 hO V y1065 y1070)) wm_X11_tune q1370 ⟨rfl, rfl⟩ ⟨Nat.le_of_ble_eq_true rfl, Nat.le_of_ble_eq_true rfl⟩ rfl hl.1 rfl (Nat.le_of_ble_eq_true rfl) dL_law_1071 (fun r H locs d0 hD hd0 => ?_)
  refine lv_pop hx hb dL_law_1074 rfl ?_
  refine lv_goto (tgt := 1249) hx hb dL_law_1075 (by decide) ?_
  exact kk H locs d0 hD hd0
set_option maxHeartbeats 4000000 in
set_option maxRecDepth 100000 in
theorem law_add (hC : lC p s m c N o1 o2 b L xs) (hcs : cells ≤ 600000 ∧ slots ≤ 7302250) (hd0 : s.drawn.sameBut d0 lw_cs) (hD : lD s N o2 H locs) (hl : lv_has ls 4 [(3, .int i), (2, .ref o2), (1, .ref o1), (0, .ref b)]) (hi : 0 ≤ i.toInt ∧ i.toInt + 6 ≤ (L : Int) ∧ L ≤ 3072)
    (kk : ∀ (H1 : Heap) (locs1 : List Loc) (d1 : Drawn), lD s N o2 H1 locs1 → s.drawn.sameBut d1 lw_cs → W p l e room_1 (s.setDrawn d1) m #[Value.ref b] below meth c H1 locs1 cells slots Q (F0 m 1249 ls [])) : W p l e room_1 (s.setDrawn d0) m #[Value.ref b] below meth c H locs cells slots Q (F0 m 1078 ls []) := by
  obtain ⟨hx, hb, hml, hown, hts, hX, hbl, hK, hT0, hnn, hA, k10, k11, hO⟩ := id hC
  have hbA : ¬ (fun q : Nat => s.heap.size ≤ q) b := Nat.not_le.mpr hbl
  refine lv_aload_n hx hb dL_law_1078 rfl (lv_at hl 2 rfl) ?_
  refine lv_aload_n hx hb dL_law_1079 rfl (lv_at hl 3 rfl) ?_
  refine lv_iload_n hx hb dL_law_1080 rfl (lv_at hl 0 rfl) ?_
  refine lv_iconst (v := 1) hx hb dL_law_1081 (by decide) ?_
  refine lv_iadd hx hb dL_law_1082 ?_
  refine lv_topi (fun x1082 e1082 => ?_)
  refine va_sld (s := s.setDrawn d0) (H0 := s.heap) hx hb hX hbl hbA hD.2.2 (l_in e1082 (by decide) hi) dL_law_1083 ?_
  refine lv_topi (fun y1083 f1083 => ?_)
  refine lv_aload_n hx hb dL_law_1084 rfl (lv_at hl 3 rfl) ?_
  refine lv_iload_n hx hb dL_law_1085 rfl (lv_at hl 0 rfl) ?_
  refine lv_iconst (v := 2) hx hb dL_law_1086 (by decide) ?_
  refine lv_iadd hx hb dL_law_1087 ?_
  refine lv_topi (fun x1087 e1087 => ?_)
  refine va_sld (s := s.setDrawn d0) (H0 := s.heap) hx hb hX hbl hbA hD.2.2 (l_in e1087 (by decide) hi) dL_law_1088 ?_
  refine lv_topi (fun y1088 f1088 => ?_)
  refine lv_aload_n hx hb dL_law_1089 rfl (lv_at hl 3 rfl) ?_
  refine lv_iload_n hx hb dL_law_1090 rfl (lv_at hl 0 rfl) ?_
  refine lv_iconst (v := 3) hx hb dL_law_1091 (by decide) ?_
  refine lv_iadd hx hb dL_law_1092 ?_
  refine lv_topi (fun x1092 e1092 => ?_)
  refine va_sld (s := s.setDrawn d0) (H0 := s.heap) hx hb hX hbl hbA hD.2.2 (l_in e1092 (by decide) hi) dL_law_1093 ?_
  refine lv_topi (fun y1093 f1093 => ?_)
  refine lk_i (As := [.int y1083, .int y1088, .int y1093]) (rest := []) hC hd0 hD hcs (MetD.of_met (m_X10_add l N o1 k10 y1083 y1088 y1093)) wm_X10_add q800 ⟨rfl, rfl⟩ ⟨Nat.le_of_ble_eq_true rfl, Nat.le_of_ble_eq_true rfl⟩ rfl hl.1 rfl (Nat.le_of_ble_eq_true rfl) dL_law_1094 (by decide) (by decide) (fun r H locs d0 hD hd0 => ?_)
  refine lv_pop hx hb dL_law_1097 rfl ?_
  refine lv_aload_n hx hb dL_law_1098 rfl (lv_at hl 1 rfl) ?_
  refine lv_aload_n hx hb dL_law_1099 rfl (lv_at hl 3 rfl) ?_
  refine lv_iload_n hx hb dL_law_1100 rfl (lv_at hl 0 rfl) ?_
  refine lv_iconst (v := 1) hx hb dL_law_1101 (by decide) ?_
  refine lv_iadd hx hb dL_law_1102 ?_
  refine lv_topi (fun x1102 e1102 => ?_)
  refine va_sld (s := s.setDrawn d0) (H0 := s.heap) hx hb hX hbl hbA hD.2.2 (l_in e1102 (by decide) hi) dL_law_1103 ?_
  refine lv_topi (fun y1103 f1103 => ?_)
  refine lv_aload_n hx hb dL_law_1104 rfl (lv_at hl 3 rfl) ?_
  refine lv_iload_n hx hb dL_law_1105 rfl (lv_at hl 0 rfl) ?_
  refine lv_iconst (v := 2) hx hb dL_law_1106 (by decide) ?_
  refine lv_iadd hx hb dL_law_1107 ?_
  refine lv_topi (fun x1107 e1107 => ?_)
  refine va_sld (s := s.setDrawn d0) (H0 := s.heap) hx hb hX hbl hbA hD.2.2 (l_in e1107 (by decide) hi) dL_law_1108 ?_
  refine lv_topi (fun y1108 f1108 => ?_)
  refine lv_aload_n hx hb dL_law_1109 rfl (lv_at hl 3 rfl) ?_
  refine lv_iload_n hx hb dL_law_1110 rfl (lv_at hl 0 rfl) ?_
  refine lv_iconst (v := 3) hx hb dL_law_1111 (by decide) ?_
  refine lv_iadd hx hb dL_law_1112 ?_
  refine lv_topi (fun x1112 e1112 => ?_)
  refine va_sld (s := s.setDrawn d0) (H0 := s.heap) hx hb hX hbl hbA hD.2.2 (l_in e1112 (by decide) hi) dL_law_1113 ?_
  refine lv_topi (fun y1113 f1113 => ?_)
  refine lm_i (F := [7, 13, 32, 33, 34, 35, 36, 37, 38, 39, 40, 41, 42, 52, 53]) (As := [.int y1103, .int y1108, .int y1113]) (rest := []) hC hd0 hD hcs (fun V => MetD.of_met (m_X11_add l N o2 k11 hO V y1103 y1108 y1113)) wm_X11_add q1374 ⟨rfl, rfl⟩ ⟨Nat.le_of_ble_eq_true rfl, Nat.le_of_ble_eq_true rfl⟩ rfl hl.1 rfl (Nat.le_of_ble_eq_true rfl) dL_law_1114 (fun r H locs d0 hD hd0 => ?_)
  refine lv_pop hx hb dL_law_1117 rfl ?_
  refine lv_goto (tgt := 1249) hx hb dL_law_1118 (by decide) ?_
  exact kk H locs d0 hD hd0
set_option maxHeartbeats 4000000 in
set_option maxRecDepth 100000 in
theorem law_merge (hC : lC p s m c N o1 o2 b L xs) (hcs : cells ≤ 600000 ∧ slots ≤ 7302250) (hd0 : s.drawn.sameBut d0 lw_cs) (hD : lD s N o2 H locs) (hl : lv_has ls 4 [(3, .int i), (2, .ref o2), (1, .ref o1), (0, .ref b)]) (hi : 0 ≤ i.toInt ∧ i.toInt + 6 ≤ (L : Int) ∧ L ≤ 3072)
    (kk : ∀ (H1 : Heap) (locs1 : List Loc) (d1 : Drawn), lD s N o2 H1 locs1 → s.drawn.sameBut d1 lw_cs → W p l e room_1 (s.setDrawn d1) m #[Value.ref b] below meth c H1 locs1 cells slots Q (F0 m 1249 ls [])) : W p l e room_1 (s.setDrawn d0) m #[Value.ref b] below meth c H locs cells slots Q (F0 m 1121 ls []) := by
  obtain ⟨hx, hb, hml, hown, hts, hX, hbl, hK, hT0, hnn, hA, k10, k11, hO⟩ := id hC
  have hbA : ¬ (fun q : Nat => s.heap.size ≤ q) b := Nat.not_le.mpr hbl
  refine lv_aload_n hx hb dL_law_1121 rfl (lv_at hl 2 rfl) ?_
  refine lv_aload_n hx hb dL_law_1122 rfl (lv_at hl 3 rfl) ?_
  refine lv_iload_n hx hb dL_law_1123 rfl (lv_at hl 0 rfl) ?_
  refine lv_iconst (v := 1) hx hb dL_law_1124 (by decide) ?_
  refine lv_iadd hx hb dL_law_1125 ?_
  refine lv_topi (fun x1125 e1125 => ?_)
  refine va_sld (s := s.setDrawn d0) (H0 := s.heap) hx hb hX hbl hbA hD.2.2 (l_in e1125 (by decide) hi) dL_law_1126 ?_
  refine lv_topi (fun y1126 f1126 => ?_)
  refine lk_i (As := [.int y1126]) (rest := []) hC hd0 hD hcs (MetD.of_met (m_X10_merge l N o1 k10 y1126)) wm_X10_merge q813 ⟨rfl, rfl⟩ ⟨Nat.le_of_ble_eq_true rfl, Nat.le_of_ble_eq_true rfl⟩ rfl hl.1 rfl (Nat.le_of_ble_eq_true rfl) dL_law_1127 (by decide) (by decide) (fun r H locs d0 hD hd0 => ?_)
  refine lv_pop hx hb dL_law_1130 rfl ?_
  refine lv_aload_n hx hb dL_law_1131 rfl (lv_at hl 1 rfl) ?_
  refine lv_aload_n hx hb dL_law_1132 rfl (lv_at hl 3 rfl) ?_
  refine lv_iload_n hx hb dL_law_1133 rfl (lv_at hl 0 rfl) ?_
  refine lv_iconst (v := 1) hx hb dL_law_1134 (by decide) ?_
  refine lv_iadd hx hb dL_law_1135 ?_
  refine lv_topi (fun x1135 e1135 => ?_)
  refine va_sld (s := s.setDrawn d0) (H0 := s.heap) hx hb hX hbl hbA hD.2.2 (l_in e1135 (by decide) hi) dL_law_1136 ?_
  refine lv_topi (fun y1136 f1136 => ?_)
  refine lm_i (F := [7, 13]) (As := [.int y1136]) (rest := []) hC hd0 hD hcs (fun V => MetD.of_met (m_X11_merge l N o2 k11 hO V y1136)) wm_X11_merge q1120 ⟨rfl, rfl⟩ ⟨Nat.le_of_ble_eq_true rfl, Nat.le_of_ble_eq_true rfl⟩ rfl hl.1 rfl (Nat.le_of_ble_eq_true rfl) dL_law_1137 (fun r H locs d0 hD hd0 => ?_)
  refine lv_pop hx hb dL_law_1140 rfl ?_
  refine lv_goto (tgt := 1249) hx hb dL_law_1141 (by decide) ?_
  exact kk H locs d0 hD hd0
set_option maxHeartbeats 4000000 in
set_option maxRecDepth 100000 in
theorem law_period (hC : lC p s m c N o1 o2 b L xs) (hcs : cells ≤ 600000 ∧ slots ≤ 7302250) (hd0 : s.drawn.sameBut d0 lw_cs) (hD : lD s N o2 H locs) (hl : lv_has ls 4 [(3, .int i), (2, .ref o2), (1, .ref o1), (0, .ref b)]) (hi : 0 ≤ i.toInt ∧ i.toInt + 6 ≤ (L : Int) ∧ L ≤ 3072)
    (kk : ∀ (H1 : Heap) (locs1 : List Loc) (d1 : Drawn), lD s N o2 H1 locs1 → s.drawn.sameBut d1 lw_cs → W p l e room_1 (s.setDrawn d1) m #[Value.ref b] below meth c H1 locs1 cells slots Q (F0 m 1249 ls [])) : W p l e room_1 (s.setDrawn d0) m #[Value.ref b] below meth c H locs cells slots Q (F0 m 1144 ls []) := by
  obtain ⟨hx, hb, hml, hown, hts, hX, hbl, hK, hT0, hnn, hA, k10, k11, hO⟩ := id hC
  have hbA : ¬ (fun q : Nat => s.heap.size ≤ q) b := Nat.not_le.mpr hbl
  refine lv_aload_n hx hb dL_law_1144 rfl (lv_at hl 2 rfl) ?_
  refine lv_aload_n hx hb dL_law_1145 rfl (lv_at hl 3 rfl) ?_
  refine lv_iload_n hx hb dL_law_1146 rfl (lv_at hl 0 rfl) ?_
  refine lv_iconst (v := 1) hx hb dL_law_1147 (by decide) ?_
  refine lv_iadd hx hb dL_law_1148 ?_
  refine lv_topi (fun x1148 e1148 => ?_)
  refine va_sld (s := s.setDrawn d0) (H0 := s.heap) hx hb hX hbl hbA hD.2.2 (l_in e1148 (by decide) hi) dL_law_1149 ?_
  refine lv_topi (fun y1149 f1149 => ?_)
  refine lk_i (As := [.int y1149]) (rest := []) hC hd0 hD hcs (MetD.of_met (m_X10_period l N o1 k10 y1149)) wm_X10_period q820 ⟨rfl, rfl⟩ ⟨Nat.le_of_ble_eq_true rfl, Nat.le_of_ble_eq_true rfl⟩ rfl hl.1 rfl (Nat.le_of_ble_eq_true rfl) dL_law_1150 (by decide) (by decide) (fun r H locs d0 hD hd0 => ?_)
  refine lv_pop hx hb dL_law_1153 rfl ?_
  refine lv_aload_n hx hb dL_law_1154 rfl (lv_at hl 1 rfl) ?_
  refine lv_aload_n hx hb dL_law_1155 rfl (lv_at hl 3 rfl) ?_
  refine lv_iload_n hx hb dL_law_1156 rfl (lv_at hl 0 rfl) ?_
  refine lv_iconst (v := 1) hx hb dL_law_1157 (by decide) ?_
  refine lv_iadd hx hb dL_law_1158 ?_
  refine lv_topi (fun x1158 e1158 => ?_)
  refine va_sld (s := s.setDrawn d0) (H0 := s.heap) hx hb hX hbl hbA hD.2.2 (l_in e1158 (by decide) hi) dL_law_1159 ?_
  refine lv_topi (fun y1159 f1159 => ?_)
  refine lm_i (F := []) (As := [.int y1159]) (rest := []) hC hd0 hD hcs (fun V => MetD.of_met (m_X11_period l N o2 k11 hO V y1159)) wm_X11_period q1382 ⟨rfl, rfl⟩ ⟨Nat.le_of_ble_eq_true rfl, Nat.le_of_ble_eq_true rfl⟩ rfl hl.1 rfl (Nat.le_of_ble_eq_true rfl) dL_law_1160 (fun r H locs d0 hD hd0 => ?_)
  refine lv_pop hx hb dL_law_1163 rfl ?_
  refine lv_goto (tgt := 1249) hx hb dL_law_1164 (by decide) ?_
  exact kk H locs d0 hD hd0
set_option maxHeartbeats 4000000 in
set_option maxRecDepth 100000 in
theorem law_show (hC : lC p s m c N o1 o2 b L xs) (hcs : cells ≤ 600000 ∧ slots ≤ 7302250) (hd0 : s.drawn.sameBut d0 lw_cs) (hD : lD s N o2 H locs) (hl : lv_has ls 4 [(3, .int i), (2, .ref o2), (1, .ref o1), (0, .ref b)]) (hi : 0 ≤ i.toInt ∧ i.toInt + 6 ≤ (L : Int) ∧ L ≤ 3072)
    (kk : ∀ (H1 : Heap) (locs1 : List Loc) (d1 : Drawn), lD s N o2 H1 locs1 → s.drawn.sameBut d1 lw_cs → W p l e room_1 (s.setDrawn d1) m #[Value.ref b] below meth c H1 locs1 cells slots Q (F0 m 1249 ls [])) : W p l e room_1 (s.setDrawn d0) m #[Value.ref b] below meth c H locs cells slots Q (F0 m 1167 ls []) := by
  obtain ⟨hx, hb, hml, hown, hts, hX, hbl, hK, hT0, hnn, hA, k10, k11, hO⟩ := id hC
  have hbA : ¬ (fun q : Nat => s.heap.size ≤ q) b := Nat.not_le.mpr hbl
  refine lv_aload_n hx hb dL_law_1167 rfl (lv_at hl 2 rfl) ?_
  refine lk_i (As := []) (rest := []) hC hd0 hD hcs (MetD.of_met (m_X10_show l N o1 k10 )) wm_X10_show q828 ⟨rfl, rfl⟩ ⟨Nat.le_of_ble_eq_true rfl, Nat.le_of_ble_eq_true rfl⟩ rfl hl.1 rfl (Nat.le_of_ble_eq_true rfl) dL_law_1168 (by decide) (by decide) (fun r H locs d0 hD hd0 => ?_)
  refine lv_pop hx hb dL_law_1171 rfl ?_
  refine lv_aload_n hx hb dL_law_1172 rfl (lv_at hl 1 rfl) ?_
  refine lm_i (F := [55]) (As := []) (rest := []) hC hd0 hD hcs (fun V => MetD.of_met (m_X11_show l N o2 k11 hO V )) wm_X11_show q1386 ⟨rfl, rfl⟩ ⟨Nat.le_of_ble_eq_true rfl, Nat.le_of_ble_eq_true rfl⟩ rfl hl.1 rfl (Nat.le_of_ble_eq_true rfl) dL_law_1173 (fun r H locs d0 hD hd0 => ?_)
  refine lv_pop hx hb dL_law_1176 rfl ?_
  refine lv_goto (tgt := 1249) hx hb dL_law_1177 (by decide) ?_
  exact kk H locs d0 hD hd0
set_option maxHeartbeats 4000000 in
set_option maxRecDepth 100000 in
theorem law_out (hC : lC p s m c N o1 o2 b L xs) (hcs : cells ≤ 600000 ∧ slots ≤ 7302250) (hd0 : s.drawn.sameBut d0 lw_cs) (hD : lD s N o2 H locs) (hl : lv_has ls 4 [(3, .int i), (2, .ref o2), (1, .ref o1), (0, .ref b)]) (hi : 0 ≤ i.toInt ∧ i.toInt + 6 ≤ (L : Int) ∧ L ≤ 3072)
    (kk : ∀ (H1 : Heap) (locs1 : List Loc) (d1 : Drawn), lD s N o2 H1 locs1 → s.drawn.sameBut d1 lw_cs → W p l e room_1 (s.setDrawn d1) m #[Value.ref b] below meth c H1 locs1 cells slots Q (F0 m 1249 ls [])) : W p l e room_1 (s.setDrawn d0) m #[Value.ref b] below meth c H locs cells slots Q (F0 m 1180 ls []) := by
  obtain ⟨hx, hb, hml, hown, hts, hX, hbl, hK, hT0, hnn, hA, k10, k11, hO⟩ := id hC
  have hbA : ¬ (fun q : Nat => s.heap.size ≤ q) b := Nat.not_le.mpr hbl
  refine lv_aload_n hx hb dL_law_1180 rfl (lv_at hl 2 rfl) ?_
  refine lv_aload_n hx hb dL_law_1181 rfl (lv_at hl 3 rfl) ?_
  refine lv_iload_n hx hb dL_law_1182 rfl (lv_at hl 0 rfl) ?_
  refine lv_iconst (v := 1) hx hb dL_law_1183 (by decide) ?_
  refine lv_iadd hx hb dL_law_1184 ?_
  refine lv_topi (fun x1184 e1184 => ?_)
  refine va_sld (s := s.setDrawn d0) (H0 := s.heap) hx hb hX hbl hbA hD.2.2 (l_in e1184 (by decide) hi) dL_law_1185 ?_
  refine lv_topi (fun y1185 f1185 => ?_)
  refine lk_i (As := [.int y1185]) (rest := []) hC hd0 hD hcs (MetD.of_met (m_X10_out l N o1 k10 y1185)) wm_X10_out q836 ⟨rfl, rfl⟩ ⟨Nat.le_of_ble_eq_true rfl, Nat.le_of_ble_eq_true rfl⟩ rfl hl.1 rfl (Nat.le_of_ble_eq_true rfl) dL_law_1186 (by decide) (by decide) (fun r H locs d0 hD hd0 => ?_)
  refine lv_pop hx hb dL_law_1189 rfl ?_
  refine lv_aload_n hx hb dL_law_1190 rfl (lv_at hl 1 rfl) ?_
  refine lv_aload_n hx hb dL_law_1191 rfl (lv_at hl 3 rfl) ?_
  refine lv_iload_n hx hb dL_law_1192 rfl (lv_at hl 0 rfl) ?_
  refine lv_iconst (v := 1) hx hb dL_law_1193 (by decide) ?_
  refine lv_iadd hx hb dL_law_1194 ?_
  refine lv_topi (fun x1194 e1194 => ?_)
  refine va_sld (s := s.setDrawn d0) (H0 := s.heap) hx hb hX hbl hbA hD.2.2 (l_in e1194 (by decide) hi) dL_law_1195 ?_
  refine lv_topi (fun y1195 f1195 => ?_)
  refine lm_i (F := []) (As := [.int y1195]) (rest := []) hC hd0 hD hcs (fun V => MetD.of_met (m_X11_out l N o2 k11 hO V y1195)) wm_X11_out q1394 ⟨rfl, rfl⟩ ⟨Nat.le_of_ble_eq_true rfl, Nat.le_of_ble_eq_true rfl⟩ rfl hl.1 rfl (Nat.le_of_ble_eq_true rfl) dL_law_1196 (fun r H locs d0 hD hd0 => ?_)
  refine lv_pop hx hb dL_law_1199 rfl ?_
  refine lv_goto (tgt := 1249) hx hb dL_law_1200 (by decide) ?_
  exact kk H locs d0 hD hd0
set_option maxHeartbeats 4000000 in
set_option maxRecDepth 100000 in
theorem law_spare (hC : lC p s m c N o1 o2 b L xs) (hcs : cells ≤ 600000 ∧ slots ≤ 7302250) (hd0 : s.drawn.sameBut d0 lw_cs) (hD : lD s N o2 H locs) (hl : lv_has ls 4 [(3, .int i), (2, .ref o2), (1, .ref o1), (0, .ref b)]) (hi : 0 ≤ i.toInt ∧ i.toInt + 6 ≤ (L : Int) ∧ L ≤ 3072)
    (kk : ∀ (H1 : Heap) (locs1 : List Loc) (d1 : Drawn), lD s N o2 H1 locs1 → s.drawn.sameBut d1 lw_cs → W p l e room_1 (s.setDrawn d1) m #[Value.ref b] below meth c H1 locs1 cells slots Q (F0 m 1249 ls [])) : W p l e room_1 (s.setDrawn d0) m #[Value.ref b] below meth c H locs cells slots Q (F0 m 1203 ls []) := by
  obtain ⟨hx, hb, hml, hown, hts, hX, hbl, hK, hT0, hnn, hA, k10, k11, hO⟩ := id hC
  have hbA : ¬ (fun q : Nat => s.heap.size ≤ q) b := Nat.not_le.mpr hbl
  refine lv_aload_n hx hb dL_law_1203 rfl (lv_at hl 2 rfl) ?_
  refine lv_aload_n hx hb dL_law_1204 rfl (lv_at hl 3 rfl) ?_
  refine lv_iload_n hx hb dL_law_1205 rfl (lv_at hl 0 rfl) ?_
  refine lv_iconst (v := 1) hx hb dL_law_1206 (by decide) ?_
  refine lv_iadd hx hb dL_law_1207 ?_
  refine lv_topi (fun x1207 e1207 => ?_)
  refine va_sld (s := s.setDrawn d0) (H0 := s.heap) hx hb hX hbl hbA hD.2.2 (l_in e1207 (by decide) hi) dL_law_1208 ?_
  refine lv_topi (fun y1208 f1208 => ?_)
  refine lk_i (As := [.int y1208]) (rest := []) hC hd0 hD hcs (MetD.of_met (m_X10_spare l N o1 k10 y1208)) wm_X10_spare q840 ⟨rfl, rfl⟩ ⟨Nat.le_of_ble_eq_true rfl, Nat.le_of_ble_eq_true rfl⟩ rfl hl.1 rfl (Nat.le_of_ble_eq_true rfl) dL_law_1209 (by decide) (by decide) (fun r H locs d0 hD hd0 => ?_)
  refine lv_pop hx hb dL_law_1212 rfl ?_
  refine lv_aload_n hx hb dL_law_1213 rfl (lv_at hl 1 rfl) ?_
  refine lv_aload_n hx hb dL_law_1214 rfl (lv_at hl 3 rfl) ?_
  refine lv_iload_n hx hb dL_law_1215 rfl (lv_at hl 0 rfl) ?_
  refine lv_iconst (v := 1) hx hb dL_law_1216 (by decide) ?_
  refine lv_iadd hx hb dL_law_1217 ?_
  refine lv_topi (fun x1217 e1217 => ?_)
  refine va_sld (s := s.setDrawn d0) (H0 := s.heap) hx hb hX hbl hbA hD.2.2 (l_in e1217 (by decide) hi) dL_law_1218 ?_
  refine lv_topi (fun y1218 f1218 => ?_)
  refine lm_i (F := [32, 33, 34, 35, 36, 37, 38, 39, 40, 41, 42]) (As := [.int y1218]) (rest := []) hC hd0 hD hcs (fun V => MetD.of_met (m_X11_spare l N o2 k11 hO V y1218)) wm_X11_spare q1398 ⟨rfl, rfl⟩ ⟨Nat.le_of_ble_eq_true rfl, Nat.le_of_ble_eq_true rfl⟩ rfl hl.1 rfl (Nat.le_of_ble_eq_true rfl) dL_law_1219 (fun r H locs d0 hD hd0 => ?_)
  refine lv_pop hx hb dL_law_1222 rfl ?_
  refine lv_goto (tgt := 1249) hx hb dL_law_1223 (by decide) ?_
  exact kk H locs d0 hD hd0
set_option maxHeartbeats 4000000 in
set_option maxRecDepth 100000 in
theorem law_look (hC : lC p s m c N o1 o2 b L xs) (hcs : cells ≤ 600000 ∧ slots ≤ 7302250) (hd0 : s.drawn.sameBut d0 lw_cs) (hD : lD s N o2 H locs) (hl : lv_has ls 4 [(3, .int i), (2, .ref o2), (1, .ref o1), (0, .ref b)]) (hi : 0 ≤ i.toInt ∧ i.toInt + 6 ≤ (L : Int) ∧ L ≤ 3072)
    (kk : ∀ (H1 : Heap) (locs1 : List Loc) (d1 : Drawn), lD s N o2 H1 locs1 → s.drawn.sameBut d1 lw_cs → W p l e room_1 (s.setDrawn d1) m #[Value.ref b] below meth c H1 locs1 cells slots Q (F0 m 1249 ls [])) : W p l e room_1 (s.setDrawn d0) m #[Value.ref b] below meth c H locs cells slots Q (F0 m 1226 ls []) := by
  obtain ⟨hx, hb, hml, hown, hts, hX, hbl, hK, hT0, hnn, hA, k10, k11, hO⟩ := id hC
  have hbA : ¬ (fun q : Nat => s.heap.size ≤ q) b := Nat.not_le.mpr hbl
  refine lv_aload_n hx hb dL_law_1226 rfl (lv_at hl 2 rfl) ?_
  refine lv_aload_n hx hb dL_law_1227 rfl (lv_at hl 3 rfl) ?_
  refine lv_iload_n hx hb dL_law_1228 rfl (lv_at hl 0 rfl) ?_
  refine lv_iconst (v := 1) hx hb dL_law_1229 (by decide) ?_
  refine lv_iadd hx hb dL_law_1230 ?_
  refine lv_topi (fun x1230 e1230 => ?_)
  refine va_sld (s := s.setDrawn d0) (H0 := s.heap) hx hb hX hbl hbA hD.2.2 (l_in e1230 (by decide) hi) dL_law_1231 ?_
  refine lv_topi (fun y1231 f1231 => ?_)
  refine lk_i (As := [.int y1231]) (rest := []) hC hd0 hD hcs (MetD.of_met (m_X10_look l N o1 k10 y1231)) wm_X10_look q848 ⟨rfl, rfl⟩ ⟨Nat.le_of_ble_eq_true rfl, Nat.le_of_ble_eq_true rfl⟩ rfl hl.1 rfl (Nat.le_of_ble_eq_true rfl) dL_law_1232 (by decide) (by decide) (fun r H locs d0 hD hd0 => ?_)
  refine lv_pop hx hb dL_law_1235 rfl ?_
  refine lv_aload_n hx hb dL_law_1236 rfl (lv_at hl 1 rfl) ?_
  refine lv_aload_n hx hb dL_law_1237 rfl (lv_at hl 3 rfl) ?_
  refine lv_iload_n hx hb dL_law_1238 rfl (lv_at hl 0 rfl) ?_
  refine lv_iconst (v := 1) hx hb dL_law_1239 (by decide) ?_
  refine lv_iadd hx hb dL_law_1240 ?_
  refine lv_topi (fun x1240 e1240 => ?_)
  refine va_sld (s := s.setDrawn d0) (H0 := s.heap) hx hb hX hbl hbA hD.2.2 (l_in e1240 (by decide) hi) dL_law_1241 ?_
  refine lv_topi (fun y1241 f1241 => ?_)
  refine lm_i (F := []) (As := [.int y1241]) (rest := []) hC hd0 hD hcs (fun V => MetD.of_met (m_X11_look l N o2 k11 hO V y1241)) wm_X11_look q1406 ⟨rfl, rfl⟩ ⟨Nat.le_of_ble_eq_true rfl, Nat.le_of_ble_eq_true rfl⟩ rfl hl.1 rfl (Nat.le_of_ble_eq_true rfl) dL_law_1242 (fun r H locs d0 hD hd0 => ?_)
  refine lv_pop hx hb dL_law_1245 rfl ?_
  refine lv_goto (tgt := 1249) hx hb dL_law_1246 (by decide) ?_
  exact kk H locs d0 hD hd0
end LAWC
