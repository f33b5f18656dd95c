section LAWC
variable {p : Program} {l : Launch} {e : Env} {s : State} {m : MethodId} {below : List Frame} {meth : Method} {c : Code} {H : Heap} {locs : List Loc} {cells slots : Nat} {Q : State → Prop} {b L : Nat} {xs : Nat → Int32} {N : c_N} {o1 o2 : Nat} {d0 : Drawn} {ls : Array Slot} {i : Int32}
set_option maxHeartbeats 4000000 in
set_option maxRecDepth 100000 in
theorem law_feed (hC : lC p s m c N o1 o2 b L xs) (hcs : cells ≤ 600000 ∧ slots ≤ 7302250) (hd0 : s.drawn.sameBut d0 lw_cs) (hD : lD s N o2 H locs) (hl : lv_has ls 4 [(3, .int i), (2, .ref o2), (1, .ref o1), (0, .ref b)]) (hi : 0 ≤ i.toInt ∧ i.toInt + 6 ≤ (L : Int) ∧ L ≤ 3072)
    (kk : ∀ (H1 : Heap) (locs1 : List Loc) (d1 : Drawn), lD s N o2 H1 locs1 → s.drawn.sameBut d1 lw_cs → W p l e room_1 (s.setDrawn d1) m #[Value.ref b] below meth c H1 locs1 cells slots Q (F0 m 1249 ls [])) : W p l e room_1 (s.setDrawn d0) m #[Value.ref b] below meth c H locs cells slots Q (F0 m 180 ls []) := by
  obtain ⟨hx, hb, hml, hown, hts, hX, hbl, hK, hT0, hnn, hA, k10, k11, hO⟩ := id hC
  have hbA : ¬ (fun q : Nat => s.heap.size ≤ q) b := Nat.not_le.mpr hbl
  refine lv_aload_n hx hb dL_law_180 rfl (lv_at hl 2 rfl) ?_
  refine lv_aload_n hx hb dL_law_181 rfl (lv_at hl 3 rfl) ?_
  refine lv_iload_n hx hb dL_law_182 rfl (lv_at hl 0 rfl) ?_
  refine lv_iconst (v := 1) hx hb dL_law_183 (by decide) ?_
  refine lv_iadd hx hb dL_law_184 ?_
  refine lv_topi (fun x184 e184 => ?_)
  refine va_sld (s := s.setDrawn d0) (H0 := s.heap) hx hb hX hbl hbA hD.2.2 (l_in e184 (by decide) hi) dL_law_185 ?_
  refine lv_topi (fun y185 f185 => ?_)
  refine lv_aload_n hx hb dL_law_186 rfl (lv_at hl 3 rfl) ?_
  refine lv_iload_n hx hb dL_law_187 rfl (lv_at hl 0 rfl) ?_
  refine lv_iconst (v := 2) hx hb dL_law_188 (by decide) ?_
  refine lv_iadd hx hb dL_law_189 ?_
  refine lv_topi (fun x189 e189 => ?_)
  refine va_sld (s := s.setDrawn d0) (H0 := s.heap) hx hb hX hbl hbA hD.2.2 (l_in e189 (by decide) hi) dL_law_190 ?_
  refine lv_topi (fun y190 f190 => ?_)
  refine lv_aload_n hx hb dL_law_191 rfl (lv_at hl 3 rfl) ?_
  refine lv_iload_n hx hb dL_law_192 rfl (lv_at hl 0 rfl) ?_
  refine lv_iconst (v := 3) hx hb dL_law_193 (by decide) ?_
  refine lv_iadd hx hb dL_law_194 ?_
  refine lv_topi (fun x194 e194 => ?_)
  refine va_sld (s := s.setDrawn d0) (H0 := s.heap) hx hb hX hbl hbA hD.2.2 (l_in e194 (by decide) hi) dL_law_195 ?_
  refine lv_topi (fun y195 f195 => ?_)
  refine lv_aload_n hx hb dL_law_196 rfl (lv_at hl 3 rfl) ?_
  refine lv_iload_n hx hb dL_law_197 rfl (lv_at hl 0 rfl) ?_
  refine lv_iconst (v := 4) hx hb dL_law_198 (by decide) ?_
  refine lv_iadd hx hb dL_law_199 ?_
  refine lv_topi (fun x199 e199 => ?_)
  refine va_sld (s := s.setDrawn d0) (H0 := s.heap) hx hb hX hbl hbA hD.2.2 (l_in e199 (by decide) hi) dL_law_200 ?_
  refine lv_topi (fun y200 f200 => ?_)
  refine lv_aload_n hx hb dL_law_201 rfl (lv_at hl 3 rfl) ?_
  refine lv_iload_n hx hb dL_law_202 rfl (lv_at hl 0 rfl) ?_
  refine lv_iconst (v := 5) hx hb dL_law_203 (by decide) ?_
  refine lv_iadd hx hb dL_law_204 ?_
  refine lv_topi (fun x204 e204 => ?_)
  refine va_sld (s := s.setDrawn d0) (H0 := s.heap) hx hb hX hbl hbA hD.2.2 (l_in e204 (by decide) hi) dL_law_205 ?_
  refine lv_topi (fun y205 f205 => ?_)
  refine lk_i (As := [.int y185, .int y190, .int y195, .int y200, .int y205]) (rest := []) hC hd0 hD hcs (MetD.of_met (m_X10_feed l N o1 k10 y185 y190 y195 y200 y205)) wm_X10_feed q336 ⟨rfl, rfl⟩ ⟨Nat.le_of_ble_eq_true rfl, Nat.le_of_ble_eq_true rfl⟩ rfl hl.1 rfl (Nat.le_of_ble_eq_true rfl) dL_law_206 (by decide) (by decide) (fun r H locs d0 hD hd0 => ?_)
  refine lv_pop hx hb dL_law_209 rfl ?_
  refine lv_aload_n hx hb dL_law_210 rfl (lv_at hl 1 rfl) ?_
  refine lv_aload_n hx hb dL_law_211 rfl (lv_at hl 3 rfl) ?_
  refine lv_iload_n hx hb dL_law_212 rfl (lv_at hl 0 rfl) ?_
  refine lv_iconst (v := 1) hx hb dL_law_213 (by decide) ?_
  refine lv_iadd hx hb dL_law_214 ?_
  refine lv_topi (fun x214 e214 => ?_)
  refine va_sld (s := s.setDrawn d0) (H0 := s.heap) hx hb hX hbl hbA hD.2.2 (l_in e214 (by decide) hi) dL_law_215 ?_
  refine lv_topi (fun y215 f215 => ?_)
  refine lv_aload_n hx hb dL_law_216 rfl (lv_at hl 3 rfl) ?_
  refine lv_iload_n hx hb dL_law_217 rfl (lv_at hl 0 rfl) ?_
  refine lv_iconst (v := 2) hx hb dL_law_218 (by decide) ?_
  refine lv_iadd hx hb dL_law_219 ?_
  refine lv_topi (fun x219 e219 => ?_)
  refine va_sld (s := s.setDrawn d0) (H0 := s.heap) hx hb hX hbl hbA hD.2.2 (l_in e219 (by decide) hi) dL_law_220 ?_
  refine lv_topi (fun y220 f220 => ?_)
  refine lv_aload_n hx hb dL_law_221 rfl (lv_at hl 3 rfl) ?_
  refine lv_iload_n hx hb dL_law_222 rfl (lv_at hl 0 rfl) ?_
  refine lv_iconst (v := 3) hx hb dL_law_223 (by decide) ?_
  refine lv_iadd hx hb dL_law_224 ?_
  refine lv_topi (fun x224 e224 => ?_)
  refine va_sld (s := s.setDrawn d0) (H0 := s.heap) hx hb hX hbl hbA hD.2.2 (l_in e224 (by decide) hi) dL_law_225 ?_
  refine lv_topi (fun y225 f225 => ?_)
  refine lv_aload_n hx hb dL_law_226 rfl (lv_at hl 3 rfl) ?_
  refine lv_iload_n hx hb dL_law_227 rfl (lv_at hl 0 rfl) ?_
  refine lv_iconst (v := 4) hx hb dL_law_228 (by decide) ?_
  refine lv_iadd hx hb dL_law_229 ?_
  refine lv_topi (fun x229 e229 => ?_)
  refine va_sld (s := s.setDrawn d0) (H0 := s.heap) hx hb hX hbl hbA hD.2.2 (l_in e229 (by decide) hi) dL_law_230 ?_
  refine lv_topi (fun y230 f230 => ?_)
  refine lv_aload_n hx hb dL_law_231 rfl (lv_at hl 3 rfl) ?_
  refine lv_iload_n hx hb dL_law_232 rfl (lv_at hl 0 rfl) ?_
  refine lv_iconst (v := 5) hx hb dL_law_233 (by decide) ?_
  refine lv_iadd hx hb dL_law_234 ?_
  refine lv_topi (fun x234 e234 => ?_)
  refine va_sld (s := s.setDrawn d0) (H0 := s.heap) hx hb hX hbl hbA hD.2.2 (l_in e234 (by decide) hi) dL_law_235 ?_
  refine lv_topi (fun y235 f235 => ?_)
  refine lm_i (F := [15]) (As := [.int y215, .int y220, .int y225, .int y230, .int y235]) (rest := []) hC hd0 hD hcs (fun V => MetD.of_met (m_X11_feed l N o2 k11 hO V y215 y220 y225 y230 y235)) wm_X11_feed q1124 ⟨rfl, rfl⟩ ⟨Nat.le_of_ble_eq_true rfl, Nat.le_of_ble_eq_true rfl⟩ rfl hl.1 rfl (Nat.le_of_ble_eq_true rfl) dL_law_236 (fun r H locs d0 hD hd0 => ?_)
  refine lv_pop hx hb dL_law_239 rfl ?_
  refine lv_goto (tgt := 1249) hx hb dL_law_240 (by decide) ?_
  exact kk H locs d0 hD hd0
set_option maxHeartbeats 4000000 in
set_option maxRecDepth 100000 in
theorem law_end (hC : lC p s m c N o1 o2 b L xs) (hcs : cells ≤ 600000 ∧ slots ≤ 7302250) (hd0 : s.drawn.sameBut d0 lw_cs) (hD : lD s N o2 H locs) (hl : lv_has ls 4 [(3, .int i), (2, .ref o2), (1, .ref o1), (0, .ref b)]) (hi : 0 ≤ i.toInt ∧ i.toInt + 6 ≤ (L : Int) ∧ L ≤ 3072)
    (kk : ∀ (H1 : Heap) (locs1 : List Loc) (d1 : Drawn), lD s N o2 H1 locs1 → s.drawn.sameBut d1 lw_cs → W p l e room_1 (s.setDrawn d1) m #[Value.ref b] below meth c H1 locs1 cells slots Q (F0 m 1249 ls [])) : W p l e room_1 (s.setDrawn d0) m #[Value.ref b] below meth c H locs cells slots Q (F0 m 243 ls []) := by
  obtain ⟨hx, hb, hml, hown, hts, hX, hbl, hK, hT0, hnn, hA, k10, k11, hO⟩ := id hC
  have hbA : ¬ (fun q : Nat => s.heap.size ≤ q) b := Nat.not_le.mpr hbl
  refine lv_aload_n hx hb dL_law_243 rfl (lv_at hl 2 rfl) ?_
  refine lv_aload_n hx hb dL_law_244 rfl (lv_at hl 3 rfl) ?_
  refine lv_iload_n hx hb dL_law_245 rfl (lv_at hl 0 rfl) ?_
  refine lv_iconst (v := 1) hx hb dL_law_246 (by decide) ?_
  refine lv_iadd hx hb dL_law_247 ?_
  refine lv_topi (fun x247 e247 => ?_)
  refine va_sld (s := s.setDrawn d0) (H0 := s.heap) hx hb hX hbl hbA hD.2.2 (l_in e247 (by decide) hi) dL_law_248 ?_
  refine lv_topi (fun y248 f248 => ?_)
  refine lk_i (As := [.int y248]) (rest := []) hC hd0 hD hcs (MetD.of_met (m_X10_end l N o1 k10 y248)) wm_X10_end q344 ⟨rfl, rfl⟩ ⟨Nat.le_of_ble_eq_true rfl, Nat.le_of_ble_eq_true rfl⟩ rfl hl.1 rfl (Nat.le_of_ble_eq_true rfl) dL_law_249 (by decide) (by decide) (fun r H locs d0 hD hd0 => ?_)
  refine lv_pop hx hb dL_law_252 rfl ?_
  refine lv_aload_n hx hb dL_law_253 rfl (lv_at hl 1 rfl) ?_
  refine lv_aload_n hx hb dL_law_254 rfl (lv_at hl 3 rfl) ?_
  refine lv_iload_n hx hb dL_law_255 rfl (lv_at hl 0 rfl) ?_
  refine lv_iconst (v := 1) hx hb dL_law_256 (by decide) ?_
  refine lv_iadd hx hb dL_law_257 ?_
  refine lv_topi (fun x257 e257 => ?_)
  refine va_sld (s := s.setDrawn d0) (H0 := s.heap) hx hb hX hbl hbA hD.2.2 (l_in e257 (by decide) hi) dL_law_258 ?_
  refine lv_topi (fun y258 f258 => ?_)
  refine lm_i (F := [15]) (As := [.int y258]) (rest := []) hC hd0 hD hcs (fun V => MetD.of_met (m_X11_end l N o2 k11 hO V y258)) wm_X11_end q1132 ⟨rfl, rfl⟩ ⟨Nat.le_of_ble_eq_true rfl, Nat.le_of_ble_eq_true rfl⟩ rfl hl.1 rfl (Nat.le_of_ble_eq_true rfl) dL_law_259 (fun r H locs d0 hD hd0 => ?_)
  refine lv_pop hx hb dL_law_262 rfl ?_
  refine lv_goto (tgt := 1249) hx hb dL_law_263 (by decide) ?_
  exact kk H locs d0 hD hd0
set_option maxHeartbeats 4000000 in
set_option maxRecDepth 100000 in
theorem law_stack (hC : lC p s m c N o1 o2 b L xs) (hcs : cells ≤ 600000 ∧ slots ≤ 7302250) (hd0 : s.drawn.sameBut d0 lw_cs) (hD : lD s N o2 H locs) (hl : lv_has ls 4 [(3, .int i), (2, .ref o2), (1, .ref o1), (0, .ref b)]) (hi : 0 ≤ i.toInt ∧ i.toInt + 6 ≤ (L : Int) ∧ L ≤ 3072)
    (kk : ∀ (H1 : Heap) (locs1 : List Loc) (d1 : Drawn), lD s N o2 H1 locs1 → s.drawn.sameBut d1 lw_cs → W p l e room_1 (s.setDrawn d1) m #[Value.ref b] below meth c H1 locs1 cells slots Q (F0 m 1249 ls [])) : W p l e room_1 (s.setDrawn d0) m #[Value.ref b] below meth c H locs cells slots Q (F0 m 266 ls []) := by
  obtain ⟨hx, hb, hml, hown, hts, hX, hbl, hK, hT0, hnn, hA, k10, k11, hO⟩ := id hC
  have hbA : ¬ (fun q : Nat => s.heap.size ≤ q) b := Nat.not_le.mpr hbl
  refine lv_aload_n hx hb dL_law_266 rfl (lv_at hl 2 rfl) ?_
  refine lk_i (As := []) (rest := []) hC hd0 hD hcs (MetD.of_met (m_X10_stack l N o1 k10 )) wm_X10_stack q348 ⟨rfl, rfl⟩ ⟨Nat.le_of_ble_eq_true rfl, Nat.le_of_ble_eq_true rfl⟩ rfl hl.1 rfl (Nat.le_of_ble_eq_true rfl) dL_law_267 (by decide) (by decide) (fun r H locs d0 hD hd0 => ?_)
  refine lv_pop hx hb dL_law_270 rfl ?_
  refine lv_aload_n hx hb dL_law_271 rfl (lv_at hl 1 rfl) ?_
  refine lm_i (F := [7, 13, 15, 16, 17, 18, 19, 20, 21, 22, 26, 29, 30, 31]) (As := []) (rest := []) hC hd0 hD hcs (fun V => MetD.of_met (m_X11_stack l N o2 k11 hO V )) wm_X11_stack q1136 ⟨rfl, rfl⟩ ⟨Nat.le_of_ble_eq_true rfl, Nat.le_of_ble_eq_true rfl⟩ rfl hl.1 rfl (Nat.le_of_ble_eq_true rfl) dL_law_272 (fun r H locs d0 hD hd0 => ?_)
  refine lv_pop hx hb dL_law_275 rfl ?_
  refine lv_goto (tgt := 1249) hx hb dL_law_276 (by decide) ?_
  exact kk H locs d0 hD hd0
set_option maxHeartbeats 4000000 in
set_option maxRecDepth 100000 in
theorem law_fault (hC : lC p s m c N o1 o2 b L xs) (hcs : cells ≤ 600000 ∧ slots ≤ 7302250) (hd0 : s.drawn.sameBut d0 lw_cs) (hD : lD s N o2 H locs) (hl : lv_has ls 4 [(3, .int i), (2, .ref o2), (1, .ref o1), (0, .ref b)]) (hi : 0 ≤ i.toInt ∧ i.toInt + 6 ≤ (L : Int) ∧ L ≤ 3072)
    (kk : ∀ (H1 : Heap) (locs1 : List Loc) (d1 : Drawn), lD s N o2 H1 locs1 → s.drawn.sameBut d1 lw_cs → W p l e room_1 (s.setDrawn d1) m #[Value.ref b] below meth c H1 locs1 cells slots Q (F0 m 1249 ls [])) : W p l e room_1 (s.setDrawn d0) m #[Value.ref b] below meth c H locs cells slots Q (F0 m 279 ls []) := by
  obtain ⟨hx, hb, hml, hown, hts, hX, hbl, hK, hT0, hnn, hA, k10, k11, hO⟩ := id hC
  have hbA : ¬ (fun q : Nat => s.heap.size ≤ q) b := Nat.not_le.mpr hbl
  refine lv_aload_n hx hb dL_law_279 rfl (lv_at hl 2 rfl) ?_
  refine lv_aload_n hx hb dL_law_280 rfl (lv_at hl 3 rfl) ?_
  refine lv_iload_n hx hb dL_law_281 rfl (lv_at hl 0 rfl) ?_
  refine lv_iconst (v := 1) hx hb dL_law_282 (by decide) ?_
  refine lv_iadd hx hb dL_law_283 ?_
  refine lv_topi (fun x283 e283 => ?_)
  refine va_sld (s := s.setDrawn d0) (H0 := s.heap) hx hb hX hbl hbA hD.2.2 (l_in e283 (by decide) hi) dL_law_284 ?_
  refine lv_topi (fun y284 f284 => ?_)
  refine lk_i (As := [.int y284]) (rest := []) hC hd0 hD hcs (MetD.of_met (m_X10_fault l N o1 k10 y284)) wm_X10_fault q429 ⟨rfl, rfl⟩ ⟨Nat.le_of_ble_eq_true rfl, Nat.le_of_ble_eq_true rfl⟩ rfl hl.1 rfl (Nat.le_of_ble_eq_true rfl) dL_law_285 (by decide) (by decide) (fun r H locs d0 hD hd0 => ?_)
  refine lv_pop hx hb dL_law_288 rfl ?_
  refine lv_aload_n hx hb dL_law_289 rfl (lv_at hl 1 rfl) ?_
  refine lv_aload_n hx hb dL_law_290 rfl (lv_at hl 3 rfl) ?_
  refine lv_iload_n hx hb dL_law_291 rfl (lv_at hl 0 rfl) ?_
  refine lv_iconst (v := 1) hx hb dL_law_292 (by decide) ?_
  refine lv_iadd hx hb dL_law_293 ?_
  refine lv_topi (fun x293 e293 => ?_)
  refine va_sld (s := s.setDrawn d0) (H0 := s.heap) hx hb hX hbl hbA hD.2.2 (l_in e293 (by decide) hi) dL_law_294 ?_
  refine lv_topi (fun y294 f294 => ?_)
  refine lm_i (F := []) (As := [.int y294]) (rest := []) hC hd0 hD hcs (fun V => MetD.of_met (m_X11_fault l N o2 k11 hO V y294)) wm_X11_fault q1186 ⟨rfl, rfl⟩ ⟨Nat.le_of_ble_eq_true rfl, Nat.le_of_ble_eq_true rfl⟩ rfl hl.1 rfl (Nat.le_of_ble_eq_true rfl) dL_law_295 (fun r H locs d0 hD hd0 => ?_)
  refine lv_pop hx hb dL_law_298 rfl ?_
  refine lv_goto (tgt := 1249) hx hb dL_law_299 (by decide) ?_
  exact kk H locs d0 hD hd0
set_option maxHeartbeats 4000000 in
set_option maxRecDepth 100000 in
theorem law_between (hC : lC p s m c N o1 o2 b L xs) (hcs : cells ≤ 600000 ∧ slots ≤ 7302250) (hd0 : s.drawn.sameBut d0 lw_cs) (hD : lD s N o2 H locs) (hl : lv_has ls 4 [(3, .int i), (2, .ref o2), (1, .ref o1), (0, .ref b)]) (hi : 0 ≤ i.toInt ∧ i.toInt + 6 ≤ (L : Int) ∧ L ≤ 3072)
    (kk : ∀ (H1 : Heap) (locs1 : List Loc) (d1 : Drawn), lD s N o2 H1 locs1 → s.drawn.sameBut d1 lw_cs → W p l e room_1 (s.setDrawn d1) m #[Value.ref b] below meth c H1 locs1 cells slots Q (F0 m 1249 ls [])) : W p l e room_1 (s.setDrawn d0) m #[Value.ref b] below meth c H locs cells slots Q (F0 m 345 ls []) := by
  obtain ⟨hx, hb, hml, hown, hts, hX, hbl, hK, hT0, hnn, hA, k10, k11, hO⟩ := id hC
  have hbA : ¬ (fun q : Nat => s.heap.size ≤ q) b := Nat.not_le.mpr hbl
  refine lv_aload_n hx hb dL_law_345 rfl (lv_at hl 2 rfl) ?_
  refine lv_aload_n hx hb dL_law_346 rfl (lv_at hl 3 rfl) ?_
  refine lv_iload_n hx hb dL_law_347 rfl (lv_at hl 0 rfl) ?_
  refine lv_iconst (v := 1) hx hb dL_law_348 (by decide) ?_
  refine lv_iadd hx hb dL_law_349 ?_
  refine lv_topi (fun x349 e349 => ?_)
  refine va_sld (s := s.setDrawn d0) (H0 := s.heap) hx hb hX hbl hbA hD.2.2 (l_in e349 (by decide) hi) dL_law_350 ?_
  refine lv_topi (fun y350 f350 => ?_)
  refine lv_aload_n hx hb dL_law_351 rfl (lv_at hl 3 rfl) ?_
  refine lv_iload_n hx hb dL_law_352 rfl (lv_at hl 0 rfl) ?_
  refine lv_iconst (v := 2) hx hb dL_law_353 (by decide) ?_
  refine lv_iadd hx hb dL_law_354 ?_
  refine lv_topi (fun x354 e354 => ?_)
  refine va_sld (s := s.setDrawn d0) (H0 := s.heap) hx hb hX hbl hbA hD.2.2 (l_in e354 (by decide) hi) dL_law_355 ?_
  refine lv_topi (fun y355 f355 => ?_)
  refine lk_i (As := [.int y350, .int y355]) (rest := []) hC hd0 hD hcs (MetD.of_met (m_X10_between l N o1 k10 y350 y355)) wm_X10_between q445 ⟨rfl, rfl⟩ ⟨Nat.le_of_ble_eq_true rfl, Nat.le_of_ble_eq_true rfl⟩ rfl hl.1 rfl (Nat.le_of_ble_eq_true rfl) dL_law_356 (by decide) (by decide) (fun r H locs d0 hD hd0 => ?_)
  refine lv_pop hx hb dL_law_359 rfl ?_
  refine lv_aload_n hx hb dL_law_360 rfl (lv_at hl 1 rfl) ?_
  refine lv_aload_n hx hb dL_law_361 rfl (lv_at hl 3 rfl) ?_
  refine lv_iload_n hx hb dL_law_362 rfl (lv_at hl 0 rfl) ?_
  refine lv_iconst (v := 1) hx hb dL_law_363 (by decide) ?_
  refine lv_iadd hx hb dL_law_364 ?_
  refine lv_topi (fun x364 e364 => ?_)
  refine va_sld (s := s.setDrawn d0) (H0 := s.heap) hx hb hX hbl hbA hD.2.2 (l_in e364 (by decide) hi) dL_law_365 ?_
  refine lv_topi (fun y365 f365 => ?_)
  refine lv_aload_n hx hb dL_law_366 rfl (lv_at hl 3 rfl) ?_
  refine lv_iload_n hx hb dL_law_367 rfl (lv_at hl 0 rfl) ?_
  refine lv_iconst (v := 2) hx hb dL_law_368 (by decide) ?_
  refine lv_iadd hx hb dL_law_369 ?_
  refine lv_topi (fun x369 e369 => ?_)
  refine va_sld (s := s.setDrawn d0) (H0 := s.heap) hx hb hX hbl hbA hD.2.2 (l_in e369 (by decide) hi) dL_law_370 ?_
  refine lv_topi (fun y370 f370 => ?_)
  refine lm_i (F := [2, 3]) (As := [.int y365, .int y370]) (rest := []) hC hd0 hD hcs (fun V => MetD.of_met (m_X11_between l N o2 k11 hO V y365 y370)) wm_X11_between q1057 ⟨rfl, rfl⟩ ⟨Nat.le_of_ble_eq_true rfl, Nat.le_of_ble_eq_true rfl⟩ rfl hl.1 rfl (Nat.le_of_ble_eq_true rfl) dL_law_371 (fun r H locs d0 hD hd0 => ?_)
  refine lv_pop hx hb dL_law_374 rfl ?_
  refine lv_goto (tgt := 1249) hx hb dL_law_375 (by decide) ?_
  exact kk H locs d0 hD hd0
set_option maxHeartbeats 4000000 in
set_option maxRecDepth 100000 in
theorem law_material (hC : lC p s m c N o1 o2 b L xs) (hcs : cells ≤ 600000 ∧ slots ≤ 7302250) (hd0 : s.drawn.sameBut d0 lw_cs) (hD : lD s N o2 H locs) (hl : lv_has ls 4 [(3, .int i), (2, .ref o2), (1, .ref o1), (0, .ref b)]) (hi : 0 ≤ i.toInt ∧ i.toInt + 6 ≤ (L : Int) ∧ L ≤ 3072)
    (kk : ∀ (H1 : Heap) (locs1 : List Loc) (d1 : Drawn), lD s N o2 H1 locs1 → s.drawn.sameBut d1 lw_cs → W p l e room_1 (s.setDrawn d1) m #[Value.ref b] below meth c H1 locs1 cells slots Q (F0 m 1249 ls [])) : W p l e room_1 (s.setDrawn d0) m #[Value.ref b] below meth c H locs cells slots Q (F0 m 378 ls []) := by
  obtain ⟨hx, hb, hml, hown, hts, hX, hbl, hK, hT0, hnn, hA, k10, k11, hO⟩ := id hC
  have hbA : ¬ (fun q : Nat => s.heap.size ≤ q) b := Nat.not_le.mpr hbl
  refine lv_aload_n hx hb dL_law_378 rfl (lv_at hl 2 rfl) ?_
  refine lv_aload_n hx hb dL_law_379 rfl (lv_at hl 3 rfl) ?_
  refine lv_iload_n hx hb dL_law_380 rfl (lv_at hl 0 rfl) ?_
  refine lv_iconst (v := 1) hx hb dL_law_381 (by decide) ?_
  refine lv_iadd hx hb dL_law_382 ?_
  refine lv_topi (fun x382 e382 => ?_)
  refine va_sld (s := s.setDrawn d0) (H0 := s.heap) hx hb hX hbl hbA hD.2.2 (l_in e382 (by decide) hi) dL_law_383 ?_
  refine lv_topi (fun y383 f383 => ?_)
  refine lv_aload_n hx hb dL_law_384 rfl (lv_at hl 3 rfl) ?_
  refine lv_iload_n hx hb dL_law_385 rfl (lv_at hl 0 rfl) ?_
  refine lv_iconst (v := 2) hx hb dL_law_386 (by decide) ?_
  refine lv_iadd hx hb dL_law_387 ?_
  refine lv_topi (fun x387 e387 => ?_)
  refine va_sld (s := s.setDrawn d0) (H0 := s.heap) hx hb hX hbl hbA hD.2.2 (l_in e387 (by decide) hi) dL_law_388 ?_
  refine lv_topi (fun y388 f388 => ?_)
  refine lk_i (As := [.int y383, .int y388]) (rest := []) hC hd0 hD hcs (MetD.of_met (m_X10_material l N o1 k10 y383 y388)) wm_X10_material q449 ⟨rfl, rfl⟩ ⟨Nat.le_of_ble_eq_true rfl, Nat.le_of_ble_eq_true rfl⟩ rfl hl.1 rfl (Nat.le_of_ble_eq_true rfl) dL_law_389 (by decide) (by decide) (fun r H locs d0 hD hd0 => ?_)
  refine lv_pop hx hb dL_law_392 rfl ?_
  refine lv_aload_n hx hb dL_law_393 rfl (lv_at hl 1 rfl) ?_
  refine lv_aload_n hx hb dL_law_394 rfl (lv_at hl 3 rfl) ?_
  refine lv_iload_n hx hb dL_law_395 rfl (lv_at hl 0 rfl) ?_
  refine lv_iconst (v := 1) hx hb dL_law_396 (by decide) ?_
  refine lv_iadd hx hb dL_law_397 ?_
  refine lv_topi (fun x397 e397 => ?_)
  refine va_sld (s := s.setDrawn d0) (H0 := s.heap) hx hb hX hbl hbA hD.2.2 (l_in e397 (by decide) hi) dL_law_398 ?_
  refine lv_topi (fun y398 f398 => ?_)
  refine lv_aload_n hx hb dL_law_399 rfl (lv_at hl 3 rfl) ?_
  refine lv_iload_n hx hb dL_law_400 rfl (lv_at hl 0 rfl) ?_
  refine lv_iconst (v := 2) hx hb dL_law_401 (by decide) ?_
  refine lv_iadd hx hb dL_law_402 ?_
  refine lv_topi (fun x402 e402 => ?_)
  refine va_sld (s := s.setDrawn d0) (H0 := s.heap) hx hb hX hbl hbA hD.2.2 (l_in e402 (by decide) hi) dL_law_403 ?_
  refine lv_topi (fun y403 f403 => ?_)
  refine lm_i (F := []) (As := [.int y398, .int y403]) (rest := []) hC hd0 hD hcs (fun V => MetD.of_met (m_X11_material l N o2 k11 hO V y398 y403)) wm_X11_material q1061 ⟨rfl, rfl⟩ ⟨Nat.le_of_ble_eq_true rfl, Nat.le_of_ble_eq_true rfl⟩ rfl hl.1 rfl (Nat.le_of_ble_eq_true rfl) dL_law_404 (fun r H locs d0 hD hd0 => ?_)
  refine lv_pop hx hb dL_law_407 rfl ?_
  refine lv_goto (tgt := 1249) hx hb dL_law_408 (by decide) ?_
  exact kk H locs d0 hD hd0
set_option maxHeartbeats 4000000 in
set_option maxRecDepth 100000 in
theorem law_layer (hC : lC p s m c N o1 o2 b L xs) (hcs : cells ≤ 600000 ∧ slots ≤ 7302250) (hd0 : s.drawn.sameBut d0 lw_cs) (hD : lD s N o2 H locs) (hl : lv_has ls 4 [(3, .int i), (2, .ref o2), (1, .ref o1), (0, .ref b)]) (hi : 0 ≤ i.toInt ∧ i.toInt + 6 ≤ (L : Int) ∧ L ≤ 3072)
    (kk : ∀ (H1 : Heap) (locs1 : List Loc) (d1 : Drawn), lD s N o2 H1 locs1 → s.drawn.sameBut d1 lw_cs → W p l e room_1 (s.setDrawn d1) m #[Value.ref b] below meth c H1 locs1 cells slots Q (F0 m 1249 ls [])) : W p l e room_1 (s.setDrawn d0) m #[Value.ref b] below meth c H locs cells slots Q (F0 m 411 ls []) := by
  obtain ⟨hx, hb, hml, hown, hts, hX, hbl, hK, hT0, hnn, hA, k10, k11, hO⟩ := id hC
  have hbA : ¬ (fun q : Nat => s.heap.size ≤ q) b := Nat.not_le.mpr hbl
  refine lv_aload_n hx hb dL_law_411 rfl (lv_at hl 2 rfl) ?_
  refine lv_aload_n hx hb dL_law_412 rfl (lv_at hl 3 rfl) ?_
  refine lv_iload_n hx hb dL_law_413 rfl (lv_at hl 0 rfl) ?_
  refine lv_iconst (v := 1) hx hb dL_law_414 (by decide) ?_
  refine lv_iadd hx hb dL_law_415 ?_
  refine lv_topi (fun x415 e415 => ?_)
  refine va_sld (s := s.setDrawn d0) (H0 := s.heap) hx hb hX hbl hbA hD.2.2 (l_in e415 (by decide) hi) dL_law_416 ?_
  refine lv_topi (fun y416 f416 => ?_)
  refine lv_aload_n hx hb dL_law_417 rfl (lv_at hl 3 rfl) ?_
  refine lv_iload_n hx hb dL_law_418 rfl (lv_at hl 0 rfl) ?_
  refine lv_iconst (v := 2) hx hb dL_law_419 (by decide) ?_
  refine lv_iadd hx hb dL_law_420 ?_
  refine lv_topi (fun x420 e420 => ?_)
  refine va_sld (s := s.setDrawn d0) (H0 := s.heap) hx hb hX hbl hbA hD.2.2 (l_in e420 (by decide) hi) dL_law_421 ?_
  refine lv_topi (fun y421 f421 => ?_)
  refine lk_i (As := [.int y416, .int y421]) (rest := []) hC hd0 hD hcs (MetD.of_met (m_X10_layer l N o1 k10 y416 y421)) wm_X10_layer q460 ⟨rfl, rfl⟩ ⟨Nat.le_of_ble_eq_true rfl, Nat.le_of_ble_eq_true rfl⟩ rfl hl.1 rfl (Nat.le_of_ble_eq_true rfl) dL_law_422 (by decide) (by decide) (fun r H locs d0 hD hd0 => ?_)
  refine lv_pop hx hb dL_law_425 rfl ?_
  refine lv_aload_n hx hb dL_law_426 rfl (lv_at hl 1 rfl) ?_
  refine lv_aload_n hx hb dL_law_427 rfl (lv_at hl 3 rfl) ?_
  refine lv_iload_n hx hb dL_law_428 rfl (lv_at hl 0 rfl) ?_
  refine lv_iconst (v := 1) hx hb dL_law_429 (by decide) ?_
  refine lv_iadd hx hb dL_law_430 ?_
  refine lv_topi (fun x430 e430 => ?_)
  refine va_sld (s := s.setDrawn d0) (H0 := s.heap) hx hb hX hbl hbA hD.2.2 (l_in e430 (by decide) hi) dL_law_431 ?_
  refine lv_topi (fun y431 f431 => ?_)
  refine lv_aload_n hx hb dL_law_432 rfl (lv_at hl 3 rfl) ?_
  refine lv_iload_n hx hb dL_law_433 rfl (lv_at hl 0 rfl) ?_
  refine lv_iconst (v := 2) hx hb dL_law_434 (by decide) ?_
  refine lv_iadd hx hb dL_law_435 ?_
  refine lv_topi (fun x435 e435 => ?_)
  refine va_sld (s := s.setDrawn d0) (H0 := s.heap) hx hb hX hbl hbA hD.2.2 (l_in e435 (by decide) hi) dL_law_436 ?_
  refine lv_topi (fun y436 f436 => ?_)
  refine lm_i (F := [32, 33]) (As := [.int y431, .int y436]) (rest := []) hC hd0 hD hcs (fun V => MetD.of_met (m_X11_layer l N o2 k11 hO V y431 y436)) wm_X11_layer q1190 ⟨rfl, rfl⟩ ⟨Nat.le_of_ble_eq_true rfl, Nat.le_of_ble_eq_true rfl⟩ rfl hl.1 rfl (Nat.le_of_ble_eq_true rfl) dL_law_437 (fun r H locs d0 hD hd0 => ?_)
  refine lv_pop hx hb dL_law_440 rfl ?_
  refine lv_goto (tgt := 1249) hx hb dL_law_441 (by decide) ?_
  exact kk H locs d0 hD hd0
set_option maxHeartbeats 4000000 in
set_option maxRecDepth 100000 in
theorem law_put (hC : lC p s m c N o1 o2 b L xs) (hcs : cells ≤ 600000 ∧ slots ≤ 7302250) (hd0 : s.drawn.sameBut d0 lw_cs) (hD : lD s N o2 H locs) (hl : lv_has ls 4 [(3, .int i), (2, .ref o2), (1, .ref o1), (0, .ref b)]) (hi : 0 ≤ i.toInt ∧ i.toInt + 6 ≤ (L : Int) ∧ L ≤ 3072)
    (kk : ∀ (H1 : Heap) (locs1 : List Loc) (d1 : Drawn), lD s N o2 H1 locs1 → s.drawn.sameBut d1 lw_cs → W p l e room_1 (s.setDrawn d1) m #[Value.ref b] below meth c H1 locs1 cells slots Q (F0 m 1249 ls [])) : W p l e room_1 (s.setDrawn d0) m #[Value.ref b] below meth c H locs cells slots Q (F0 m 444 ls []) := by
  obtain ⟨hx, hb, hml, hown, hts, hX, hbl, hK, hT0, hnn, hA, k10, k11, hO⟩ := id hC
  have hbA : ¬ (fun q : Nat => s.heap.size ≤ q) b := Nat.not_le.mpr hbl
  refine lv_aload_n hx hb dL_law_444 rfl (lv_at hl 2 rfl) ?_
  refine lv_aload_n hx hb dL_law_445 rfl (lv_at hl 3 rfl) ?_
  refine lv_iload_n hx hb dL_law_446 rfl (lv_at hl 0 rfl) ?_
  refine lv_iconst (v := 1) hx hb dL_law_447 (by decide) ?_
  refine lv_iadd hx hb dL_law_448 ?_
  refine lv_topi (fun x448 e448 => ?_)
  refine va_sld (s := s.setDrawn d0) (H0 := s.heap) hx hb hX hbl hbA hD.2.2 (l_in e448 (by decide) hi) dL_law_449 ?_
  refine lv_topi (fun y449 f449 => ?_)
  refine lv_aload_n hx hb dL_law_450 rfl (lv_at hl 3 rfl) ?_
  refine lv_iload_n hx hb dL_law_451 rfl (lv_at hl 0 rfl) ?_
  refine lv_iconst (v := 2) hx hb dL_law_452 (by decide) ?_
  refine lv_iadd hx hb dL_law_453 ?_
  refine lv_topi (fun x453 e453 => ?_)
  refine va_sld (s := s.setDrawn d0) (H0 := s.heap) hx hb hX hbl hbA hD.2.2 (l_in e453 (by decide) hi) dL_law_454 ?_
  refine lv_topi (fun y454 f454 => ?_)
  refine lv_aload_n hx hb dL_law_455 rfl (lv_at hl 3 rfl) ?_
  refine lv_iload_n hx hb dL_law_456 rfl (lv_at hl 0 rfl) ?_
  refine lv_iconst (v := 3) hx hb dL_law_457 (by decide) ?_
  refine lv_iadd hx hb dL_law_458 ?_
  refine lv_topi (fun x458 e458 => ?_)
  refine va_sld (s := s.setDrawn d0) (H0 := s.heap) hx hb hX hbl hbA hD.2.2 (l_in e458 (by decide) hi) dL_law_459 ?_
  refine lv_topi (fun y459 f459 => ?_)
  refine lv_aload_n hx hb dL_law_460 rfl (lv_at hl 3 rfl) ?_
  refine lv_iload_n hx hb dL_law_461 rfl (lv_at hl 0 rfl) ?_
  refine lv_iconst (v := 4) hx hb dL_law_462 (by decide) ?_
  refine lv_iadd hx hb dL_law_463 ?_
  refine lv_topi (fun x463 e463 => ?_)
  refine va_sld (s := s.setDrawn d0) (H0 := s.heap) hx hb hX hbl hbA hD.2.2 (l_in e463 (by decide) hi) dL_law_464 ?_
  refine lv_topi (fun y464 f464 => ?_)
  refine lk_i (As := [.int y449, .int y454, .int y459, .int y464]) (rest := []) hC hd0 hD hcs (MetD.of_met (m_X10_put l N o1 k10 y449 y454 y459 y464)) wm_X10_put q488 ⟨rfl, rfl⟩ ⟨Nat.le_of_ble_eq_true rfl, Nat.le_of_ble_eq_true rfl⟩ rfl hl.1 rfl (Nat.le_of_ble_eq_true rfl) dL_law_465 (by decide) (by decide) (fun r H locs d0 hD hd0 => ?_)
  refine lv_pop hx hb dL_law_468 rfl ?_
  refine lv_aload_n hx hb dL_law_469 rfl (lv_at hl 1 rfl) ?_
  refine lv_aload_n hx hb dL_law_470 rfl (lv_at hl 3 rfl) ?_
  refine lv_iload_n hx hb dL_law_471 rfl (lv_at hl 0 rfl) ?_
  refine lv_iconst (v := 1) hx hb dL_law_472 (by decide) ?_
  refine lv_iadd hx hb dL_law_473 ?_
  refine lv_topi (fun x473 e473 => ?_)
  refine va_sld (s := s.setDrawn d0) (H0 := s.heap) hx hb hX hbl hbA hD.2.2 (l_in e473 (by decide) hi) dL_law_474 ?_
  refine lv_topi (fun y474 f474 => ?_)
  refine lv_aload_n hx hb dL_law_475 rfl (lv_at hl 3 rfl) ?_
  refine lv_iload_n hx hb dL_law_476 rfl (lv_at hl 0 rfl) ?_
  refine lv_iconst (v := 2) hx hb dL_law_477 (by decide) ?_
  refine lv_iadd hx hb dL_law_478 ?_
  refine lv_topi (fun x478 e478 => ?_)
  refine va_sld (s := s.setDrawn d0) (H0 := s.heap) hx hb hX hbl hbA hD.2.2 (l_in e478 (by decide) hi) dL_law_479 ?_
  refine lv_topi (fun y479 f479 => ?_)
  refine lv_aload_n hx hb dL_law_480 rfl (lv_at hl 3 rfl) ?_
  refine lv_iload_n hx hb dL_law_481 rfl (lv_at hl 0 rfl) ?_
  refine lv_iconst (v := 3) hx hb dL_law_482 (by decide) ?_
  refine lv_iadd hx hb dL_law_483 ?_
  refine lv_topi (fun x483 e483 => ?_)
  refine va_sld (s := s.setDrawn d0) (H0 := s.heap) hx hb hX hbl hbA hD.2.2 (l_in e483 (by decide) hi) dL_law_484 ?_
  refine lv_topi (fun y484 f484 => ?_)
  refine lv_aload_n hx hb dL_law_485 rfl (lv_at hl 3 rfl) ?_
  refine lv_iload_n hx hb dL_law_486 rfl (lv_at hl 0 rfl) ?_
  refine lv_iconst (v := 4) hx hb dL_law_487 (by decide) ?_
  refine lv_iadd hx hb dL_law_488 ?_
  refine lv_topi (fun x488 e488 => ?_)
  refine va_sld (s := s.setDrawn d0) (H0 := s.heap) hx hb hX hbl hbA hD.2.2 (l_in e488 (by decide) hi) dL_law_489 ?_
  refine lv_topi (fun y489 f489 => ?_)
  refine lm_i (F := [7, 13]) (As := [.int y474, .int y479, .int y484, .int y489]) (rest := []) hC hd0 hD hcs (fun V => MetD.of_met (m_X11_put l N o2 k11 hO V y474 y479 y484 y489)) wm_X11_put q1076 ⟨rfl, rfl⟩ ⟨Nat.le_of_ble_eq_true rfl, Nat.le_of_ble_eq_true rfl⟩ rfl hl.1 rfl (Nat.le_of_ble_eq_true rfl) dL_law_490 (fun r H locs d0 hD hd0 => ?_)
  refine lv_pop hx hb dL_law_493 rfl ?_
  refine lv_goto (tgt := 1249) hx hb dL_law_494 (by decide) ?_
  exact kk H locs d0 hD hd0
set_option maxHeartbeats 4000000 in
set_option maxRecDepth 100000 in
theorem law_cut (hC : lC p s m c N o1 o2 b L xs) (hcs : cells ≤ 600000 ∧ slots ≤ 7302250) (hd0 : s.drawn.sameBut d0 lw_cs) (hD : lD s N o2 H locs) (hl : lv_has ls 4 [(3, .int i), (2, .ref o2), (1, .ref o1), (0, .ref b)]) (hi : 0 ≤ i.toInt ∧ i.toInt + 6 ≤ (L : Int) ∧ L ≤ 3072)
    (kk : ∀ (H1 : Heap) (locs1 : List Loc) (d1 : Drawn), lD s N o2 H1 locs1 → s.drawn.sameBut d1 lw_cs → W p l e room_1 (s.setDrawn d1) m #[Value.ref b] below meth c H1 locs1 cells slots Q (F0 m 1249 ls [])) : W p l e room_1 (s.setDrawn d0) m #[Value.ref b] below meth c H locs cells slots Q (F0 m 497 ls []) := by
  obtain ⟨hx, hb, hml, hown, hts, hX, hbl, hK, hT0, hnn, hA, k10, k11, hO⟩ := id hC
  have hbA : ¬ (fun q : Nat => s.heap.size ≤ q) b := Nat.not_le.mpr hbl
  refine lv_aload_n hx hb dL_law_497 rfl (lv_at hl 2 rfl) ?_
  refine lv_aload_n hx hb dL_law_498 rfl (lv_at hl 3 rfl) ?_
  refine lv_iload_n hx hb dL_law_499 rfl (lv_at hl 0 rfl) ?_
  refine lv_iconst (v := 1) hx hb dL_law_500 (by decide) ?_
  refine lv_iadd hx hb dL_law_501 ?_
  refine lv_topi (fun x501 e501 => ?_)
  refine va_sld (s := s.setDrawn d0) (H0 := s.heap) hx hb hX hbl hbA hD.2.2 (l_in e501 (by decide) hi) dL_law_502 ?_
  refine lv_topi (fun y502 f502 => ?_)
  refine lk_i (As := [.int y502]) (rest := []) hC hd0 hD hcs (MetD.of_met (m_X10_cut l N o1 k10 y502)) wm_X10_cut q498 ⟨rfl, rfl⟩ ⟨Nat.le_of_ble_eq_true rfl, Nat.le_of_ble_eq_true rfl⟩ rfl hl.1 rfl (Nat.le_of_ble_eq_true rfl) dL_law_503 (by decide) (by decide) (fun r H locs d0 hD hd0 => ?_)
  refine lv_pop hx hb dL_law_506 rfl ?_
  refine lv_aload_n hx hb dL_law_507 rfl (lv_at hl 1 rfl) ?_
  refine lv_aload_n hx hb dL_law_508 rfl (lv_at hl 3 rfl) ?_
  refine lv_iload_n hx hb dL_law_509 rfl (lv_at hl 0 rfl) ?_
  refine lv_iconst (v := 1) hx hb dL_law_510 (by decide) ?_
  refine lv_iadd hx hb dL_law_511 ?_
  refine lv_topi (fun x511 e511 => ?_)
  refine va_sld (s := s.setDrawn d0) (H0 := s.heap) hx hb hX hbl hbA hD.2.2 (l_in e511 (by decide) hi) dL_law_512 ?_
  refine lv_topi (fun y512 f512 => ?_)
  refine lm_i (F := [7, 13]) (As := [.int y512]) (rest := []) hC hd0 hD hcs (fun V => MetD.of_met (m_X11_cut l N o2 k11 hO V y512)) wm_X11_cut q1100 ⟨rfl, rfl⟩ ⟨Nat.le_of_ble_eq_true rfl, Nat.le_of_ble_eq_true rfl⟩ rfl hl.1 rfl (Nat.le_of_ble_eq_true rfl) dL_law_513 (fun r H locs d0 hD hd0 => ?_)
  refine lv_pop hx hb dL_law_516 rfl ?_
  refine lv_goto (tgt := 1249) hx hb dL_law_517 (by decide) ?_
  exact kk H locs d0 hD hd0
set_option maxHeartbeats 4000000 in
set_option maxRecDepth 100000 in
theorem law_turn (hC : lC p s m c N o1 o2 b L xs) (hcs : cells ≤ 600000 ∧ slots ≤ 7302250) (hd0 : s.drawn.sameBut d0 lw_cs) (hD : lD s N o2 H locs) (hl : lv_has ls 4 [(3, .int i), (2, .ref o2), (1, .ref o1), (0, .ref b)]) (hi : 0 ≤ i.toInt ∧ i.toInt + 6 ≤ (L : Int) ∧ L ≤ 3072)
    (kk : ∀ (H1 : Heap) (locs1 : List Loc) (d1 : Drawn), lD s N o2 H1 locs1 → s.drawn.sameBut d1 lw_cs → W p l e room_1 (s.setDrawn d1) m #[Value.ref b] below meth c H1 locs1 cells slots Q (F0 m 1249 ls [])) : W p l e room_1 (s.setDrawn d0) m #[Value.ref b] below meth c H locs cells slots Q (F0 m 520 ls []) := by
  obtain ⟨hx, hb, hml, hown, hts, hX, hbl, hK, hT0, hnn, hA, k10, k11, hO⟩ := id hC
  have hbA : ¬ (fun q : Nat => s.heap.size ≤ q) b := Nat.not_le.mpr hbl
  refine lv_aload_n hx hb dL_law_520 rfl (lv_at hl 2 rfl) ?_
  refine lk_i (As := []) (rest := []) hC hd0 hD hcs (MetD.of_met (m_X10_turn l N o1 k10 )) wm_X10_turn q507 ⟨rfl, rfl⟩ ⟨Nat.le_of_ble_eq_true rfl, Nat.le_of_ble_eq_true rfl⟩ rfl hl.1 rfl (Nat.le_of_ble_eq_true rfl) dL_law_521 (by decide) (by decide) (fun r H locs d0 hD hd0 => ?_)
  refine lv_pop hx hb dL_law_524 rfl ?_
  refine lv_aload_n hx hb dL_law_525 rfl (lv_at hl 1 rfl) ?_
  refine lm_i (F := [2, 3, 13]) (As := []) (rest := []) hC hd0 hD hcs (fun V => MetD.of_met (m_X11_turn l N o2 k11 hO V )) wm_X11_turn q1108 ⟨rfl, rfl⟩ ⟨Nat.le_of_ble_eq_true rfl, Nat.le_of_ble_eq_true rfl⟩ rfl hl.1 rfl (Nat.le_of_ble_eq_true rfl) dL_law_526 (fun r H locs d0 hD hd0 => ?_)
  refine lv_pop hx hb dL_law_529 rfl ?_
  refine lv_goto (tgt := 1249) hx hb dL_law_530 (by decide) ?_
  exact kk H locs d0 hD hd0
set_option maxHeartbeats 4000000 in
set_option maxRecDepth 100000 in
theorem law_undo (hC : lC p s m c N o1 o2 b L xs) (hcs : cells ≤ 600000 ∧ slots ≤ 7302250) (hd0 : s.drawn.sameBut d0 lw_cs) (hD : lD s N o2 H locs) (hl : lv_has ls 4 [(3, .int i), (2, .ref o2), (1, .ref o1), (0, .ref b)]) (hi : 0 ≤ i.toInt ∧ i.toInt + 6 ≤ (L : Int) ∧ L ≤ 3072)
    (kk : ∀ (H1 : Heap) (locs1 : List Loc) (d1 : Drawn), lD s N o2 H1 locs1 → s.drawn.sameBut d1 lw_cs → W p l e room_1 (s.setDrawn d1) m #[Value.ref b] below meth c H1 locs1 cells slots Q (F0 m 1249 ls [])) : W p l e room_1 (s.setDrawn d0) m #[Value.ref b] below meth c H locs cells slots Q (F0 m 533 ls []) := by
  obtain ⟨hx, hb, hml, hown, hts, hX, hbl, hK, hT0, hnn, hA, k10, k11, hO⟩ := id hC
  have hbA : ¬ (fun q : Nat => s.heap.size ≤ q) b := Nat.not_le.mpr hbl
  refine lv_aload_n hx hb dL_law_533 rfl (lv_at hl 2 rfl) ?_
  refine lk_i (As := []) (rest := []) hC hd0 hD hcs (MetD.of_met (m_X10_undo l N o1 k10 )) wm_X10_undo q523 ⟨rfl, rfl⟩ ⟨Nat.le_of_ble_eq_true rfl, Nat.le_of_ble_eq_true rfl⟩ rfl hl.1 rfl (Nat.le_of_ble_eq_true rfl) dL_law_534 (by decide) (by decide) (fun r H locs d0 hD hd0 => ?_)
  refine lv_pop hx hb dL_law_537 rfl ?_
  refine lv_aload_n hx hb dL_law_538 rfl (lv_at hl 1 rfl) ?_
  refine lm_i (F := [2, 3, 7, 13]) (As := []) (rest := []) hC hd0 hD hcs (fun V => MetD.of_met (m_X11_undo l N o2 k11 hO V )) wm_X11_undo q1068 ⟨rfl, rfl⟩ ⟨Nat.le_of_ble_eq_true rfl, Nat.le_of_ble_eq_true rfl⟩ rfl hl.1 rfl (Nat.le_of_ble_eq_true rfl) dL_law_539 (fun r H locs d0 hD hd0 => ?_)
  refine lv_pop hx hb dL_law_542 rfl ?_
  refine lv_goto (tgt := 1249) hx hb dL_law_543 (by decide) ?_
  exact kk H locs d0 hD hd0
end LAWC
