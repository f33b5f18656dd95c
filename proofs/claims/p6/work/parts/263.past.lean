set_option maxHeartbeats 4000000 in
set_option maxRecDepth 100000 in
theorem m_X11_keeps (l : Launch) (N : c_N) (h0 : Nat) (k0 : N.2.2.1 h0 = some 11) (hO : mOK N) (V : Nat → Value) (p1 : Int32) (rp1 : ir p1 0 1) : cMv l yX11_keeps cX11_keeps 3 { frames := 0, cells := 0, slots := 0, locals := 0 } [.ref h0, .int p1] N [11, 45, 46, 47, 48, 49] (fun H => mI N h0 H ∧ kp N h0 [13] V H) (fun H => mI N h0 H ∧ kp N h0 [13] V H) := by
  refine Met.ofW (cc := cX11_keeps) (maxL := 3) (ret := none) (by decide) rfl ?_
  intro p e s m args below meth c s₁ B hml hv
  obtain ⟨rfl, ⟨hK, hW, hT, hnn⟩, hB⟩ := hv
  obtain ⟨hI, hV⟩ := hB
  have hx := B.exec
  have hb := B.bytes
  have hr := B.returns
  have hts : ∀ w ∈ lw_g, w.before _ s = true := fun w h => atoms_spec (ws := wc_ws yX11_keeps cX11_keeps 3 none) B.pre w (List.mem_cons_of_mem _ h)
  have hown : s.vm.findClass RX11 = some m.cls := findClass_of_methodNamed B.named
  have hlocks := B.notSynchronized
  have hS : va_S (cE N [11, 45, 46, 47, 48, 49]) s.heap s.heap [] := va_S.rf
  have hl := lv_entry ([.ref h0, .int p1]) (n := 3) (Nat.le_of_ble_eq_true rfl)
  rw [lg_entry_eq]
  generalize (lg_sl ([.ref h0, .int p1]) ++ List.replicate (3 - (lg_sl ([.ref h0, .int p1])).length) Slot.unset).toArray = ls at hl ⊢
  have hl : lv_has ls 3 [(0, .ref h0), (1, .int p1)] := hl
  refine wq_all ?_
  intro WW w1 w2
  obtain ⟨vM, hvM, nM⟩ := cpin hW (cg11 k0) rfl 11 (by decide)
  obtain ⟨aM, rfl, kM⟩ : gr N 48 vM := hvM
  obtain ⟨fM, hfM⟩ := row_exi hW (cg48 kM)
  have L123 : ∀ (n : Nat) (H : Heap) (locs : List Loc) (ls : Array Slot) (v123_2 : Int32) (u123_0 : Int32), cW N H → mI N h0 H → kp N h0 [13] V H → QX N u123_0.toInt v123_2.toInt H → va_S (cE N [11, 45, 46, 47, 48, 49]) s.heap H locs → lv_has ls 3 [(0, .ref h0), (1, .int p1), (2, .int v123_2)] → ir p1 0 1 → ir v123_2 0 24 → ir u123_0 0 9 → wt_pin N.1 vwCl h0 11 13 (.int u123_0) H → 24 - v123_2.toInt < (n : Int) → WW H locs (F0 m 123 ls []) := by
    intro n
    induction n with
    | zero =>
      intro H locs ls v123_2 u123_0 hW hI hV hX hS hl rv123_1 rv123_2 ru123_0 nh0_13 mu123
      exfalso
      omega
    | succ n ih123 =>
      intro H locs ls v123_2 u123_0 hW hI hV hX hS hl rv123_1 rv123_2 ru123_0 nh0_13 mu123
      refine w1 _ _ _ ?_
      refine lv_iload_n hx hb dX11_keeps_123 rfl (lv_at hl 2 rfl) ?_
      refine lv_aload_n hx hb dX11_keeps_124 rfl (lv_at hl 0 rfl) ?_
      refine wt_getp hx hb hts cfX11 hown hK hW (cg11 k0) rfl 7 (by decide) (Or.inl (hts _ q879)) dX11_keeps_125 (fun v hv nh0_7 => ?_)
      obtain ⟨x125, rfl, r125⟩ : gi 0 24 v := hv
      refine lv_icmp_ge (tgt := 197) hx hb dX11_keeps_128 (by decide) (fun c128 => ?_) (fun c128 => ?_)
      · have d128 := Int32.le_iff_toInt_le.mp c128
        refine lv_aload_n hx hb dX11_keeps_197 rfl (lv_at hl 0 rfl) ?_
        refine wt_getp hx hb hts cfX11 hown hK hW (cg11 k0) rfl 11 (by decide) (Or.inl (hts _ q883)) dX11_keeps_198 (fun v hv nh0_11 => ?_)
        obtain ⟨x198, rfl, k198⟩ : gr N 48 v := hv
        refine lv_aload_n hx hb dX11_keeps_201 rfl (lv_at hl 0 rfl) ?_
        refine wt_rel hx hb hts cfX11 hown hK nh0_13 rfl (by decide) (Or.inl (hts _ q885)) dX11_keeps_202 ?_
        refine lv_aload_n hx hb dX11_keeps_205 rfl (lv_at hl 0 rfl) ?_
        refine wt_rel hx hb hts cfX11 hown hK nh0_7 rfl (by decide) (Or.inl (hts _ q879)) dX11_keeps_206 ?_
        obtain ⟨fr209, hfr209⟩ := row_exi hW (cg48 k198)
        refine wt_iastx hx hb hK hW hS 0 (cg48 k198) (ce k198 (by decide)) rfl (ir_in ru123_0 (by decide) (by decide)) (gi_mk r125) dX11_keeps_209 (fun H locs hW hS oq hat => ?_)
        have nh0_13 := nh0_13.kept (oq _ (ne_kind k0 k198 (by decide)))
        have nh0_7 := nh0_7.kept (oq _ (ne_kind k0 k198 (by decide)))
        have nh0_11 := nh0_11.kept (oq _ (ne_kind k0 k198 (by decide)))
        have aps209 := ap_of (hat _ hfr209)
        have hV := hV.keep (oq _ (ne_kind k0 k198 (by decide)))
        obtain ⟨iL, iP, iR, iB, iM⟩ := hI
        have iL := QL.fr.arr iL k0 k198 oq (by decide) (by decide)
        have iR := QR.fr.arr iR k0 k198 oq (by decide) (by decide)
        have iB := QB.fr.arr iB k0 k198 oq (by decide) (by decide)
        have iM := QM.fr.arr iM k0 k198 oq (by decide) (by decide)
        have h13 := (ir_clamp ru123_0 (by decide)).1
        have hX := hX.many hO k198 hfr209 hat oq h13 (by have h9 := ru123_0; omega) (by have h9 := rv123_2; omega)
        refine lv_aload_n hx hb dX11_keeps_210 rfl (lv_at hl 0 rfl) ?_
        refine wt_getp hx hb hts cfX11 hown hK hW (cg11 k0) rfl 12 (by decide) (Or.inl (hts _ q884)) dX11_keeps_211 (fun v hv nh0_12 => ?_)
        obtain ⟨x211, rfl, k211⟩ : gr N 49 v := hv
        refine lv_aload_n hx hb dX11_keeps_214 rfl (lv_at hl 0 rfl) ?_
        refine wt_rel hx hb hts cfX11 hown hK nh0_13 rfl (by decide) (Or.inl (hts _ q885)) dX11_keeps_215 ?_
        refine lv_iload_n hx hb dX11_keeps_218 rfl (lv_at hl 1 rfl) ?_
        refine wt_zastp hx hb hK hW hS 2 (cg49 k211) (ce k211 (by decide)) rfl (ir_in ru123_0 (by decide) (by decide)) (by rw [nar01 rv123_1]; exact (gi_mk rv123_1)) dX11_keeps_219 (fun H locs hW hS oq => ?_)
        have nh0_13 := nh0_13.kept (oq _ (ne_kind k0 k211 (by decide)))
        have nh0_7 := nh0_7.kept (oq _ (ne_kind k0 k211 (by decide)))
        have nh0_11 := nh0_11.kept (oq _ (ne_kind k0 k211 (by decide)))
        have nh0_12 := nh0_12.kept (oq _ (ne_kind k0 k211 (by decide)))
        have aps209 := aps209.kept (oq _ (ne_kind k198 k211 (by decide)))
        have hV := hV.keep (oq _ (ne_kind k0 k211 (by decide)))
        have hX := hX.fr k211 oq (by decide)
        have iL := QL.fr.arr iL k0 k211 oq (by decide) (by decide)
        have iR := QR.fr.arr iR k0 k211 oq (by decide) (by decide)
        have iB := QB.fr.arr iB k0 k211 oq (by decide) (by decide)
        have iM := QM.fr.arr iM k0 k211 oq (by decide) (by decide)
        refine lv_aload_n hx hb dX11_keeps_220 rfl (lv_at hl 0 rfl) ?_
        refine lv_dup hx hb dX11_keeps_221 rfl ?_
        refine wt_rel hx hb hts cfX11 hown hK nh0_13 rfl (by decide) (Or.inl (hts _ q885)) dX11_keeps_222 ?_
        refine lv_iconst (v := 1) hx hb dX11_keeps_225 (by decide) ?_
        refine lv_iadd hx hb dX11_keeps_226 ?_
        refine lv_topi (fun x226 e226 => ?_)
        have t226 : x226.toInt = u123_0.toInt + (1) := it_add e226 ru123_0 (ir_c (1) (by decide) : ir (1 : Int32) (1) (1)) (by decide) (by decide)
        have r226 : ir x226 1 10 := ir_w (ir_add e226 ru123_0 (ir_c (1) (by decide) : ir (1 : Int32) (1) (1)) (by decide) (by decide)) (by decide) (by decide)
        refine wt_putp hx hb hts cfX11 tyX11 tyX11_ok nmX11 hown hK hW hS (cg11 k0) (ce k0 (by decide)) rfl 13 (by decide) (Or.inl (hts _ q885)) rfl rfl rfl (gi_mk (ir_w (lo' := 0) (hi' := 10) r226 (by decide) (by decide))) dX11_keeps_227 (fun H locs hW hS oq o2 np => ?_)
        have nh0_7 := o2 7 _ (by decide) (by decide) nh0_7
        have nh0_11 := o2 11 _ (by decide) (by decide) nh0_11
        have nh0_12 := o2 12 _ (by decide) (by decide) nh0_12
        have aps209 := aps209.kept (oq _ (ne_kind k198 k0 (by decide)))
        have nh0_13 : wt_pin N.1 vwCl h0 11 13 (.int x226) H := np
        have hV := hV.put (by decide) o2
        have hX := hX.fr k0 oq (by decide)
        have iL := QL.fr.put iL k0 oq o2 (by decide) (by decide)
        have iR := QR.fr.put iR k0 oq o2 (by decide) (by decide)
        have iB := QB.fr.put iB k0 oq o2 (by decide) (by decide)
        have iM := QM.fr.put iM k0 oq o2 (by decide) (by decide)
        have iP : QP N h0 H := QX_P hX nh0_13 (by omega)
        have hI : mI N h0 H := ⟨iL, iP, iR, iB, iM⟩
        exact W.vret hx hb hr (fun t ht _ => ⟨⟨(), rfl, trivial, cW_at ht hW, ⟨mI_at ht hI, kp_at ht hV⟩⟩, hS.F ht⟩) hS.2.2 dX11_keeps_230
      · have rv123_2_128 : ir v123_2 0 23 := ⟨(rv123_2).1, Int.le_trans (rf_lt (rf_nle c128) rv123_2 r125).1 (by decide)⟩
        have rx125_128 : ir x125 1 24 := ⟨Int.le_trans (by decide) (rf_lt (rf_nle c128) rv123_2 r125).2, (r125).2⟩
        have d128 := Int32.lt_iff_toInt_lt.mp (rf_nle c128)
        refine lv_aload_n hx hb dX11_keeps_131 rfl (lv_at hl 0 rfl) ?_
        refine wt_getp hx hb hts cfX11 hown hK hW (cg11 k0) rfl 8 (by decide) (Or.inl (hts _ q880)) dX11_keeps_132 (fun v hv nh0_8 => ?_)
        obtain ⟨x132, rfl, k132⟩ : gr N 45 v := hv
        refine lv_bipush (v := 24) hx hb dX11_keeps_135 (by decide) ?_
        refine lv_aload_n hx hb dX11_keeps_137 rfl (lv_at hl 0 rfl) ?_
        refine wt_rel hx hb hts cfX11 hown hK nh0_13 rfl (by decide) (Or.inl (hts _ q885)) dX11_keeps_138 ?_
        refine lv_imul hx hb dX11_keeps_141 ?_
        refine lv_topi (fun x141 e141 => ?_)
        have t141 : x141.toInt = (24) * u123_0.toInt := (it_mul e141 (ir_c (24) (by decide) : ir (24 : Int32) (24) (24)) ru123_0 (by decide) (by decide) (by decide)).1
        have r141 : ir x141 0 216 := ir_w (it_mul e141 (ir_c (24) (by decide) : ir (24 : Int32) (24) (24)) ru123_0 (by decide) (by decide) (by decide)).2 (by decide) (by decide)
        refine lv_iload_n hx hb dX11_keeps_142 rfl (lv_at hl 2 rfl) ?_
        refine lv_iadd hx hb dX11_keeps_143 ?_
        refine lv_topi (fun x143 e143 => ?_)
        have t143 : x143.toInt = x141.toInt + v123_2.toInt := it_add e143 r141 rv123_2_128 (by decide) (by decide)
        have r143 : ir x143 0 239 := ir_w (ir_add e143 r141 rv123_2_128 (by decide) (by decide)) (by decide) (by decide)
        refine lv_aload_n hx hb dX11_keeps_144 rfl (lv_at hl 0 rfl) ?_
        refine wt_getp hx hb hts cfX11 hown hK hW (cg11 k0) rfl 4 (by decide) (Or.inl (hts _ q876)) dX11_keeps_145 (fun v hv nh0_4 => ?_)
        obtain ⟨x145, rfl, k145⟩ : gr N 42 v := hv
        refine lv_iload_n hx hb dX11_keeps_148 rfl (lv_at hl 2 rfl) ?_
        refine wt_iald hx hb hK hW 0 (cg42 k145) rfl (ir_in (ir_w (lo' := 0) (hi' := 24) rv123_2_128 (by decide) (by decide)) (by decide) (by decide)) dX11_keeps_149 (fun v hv => ?_)
        obtain ⟨x149, rfl, r149⟩ : gi 0 5 v := hv
        refine wt_iastp hx hb hK hW hS 0 (cg45 k132) (ce k132 (by decide)) rfl (ir_in r143 (by decide) (by decide)) (gi_mk r149) dX11_keeps_150 (fun H locs hW hS oq => ?_)
        have nh0_13 := nh0_13.kept (oq _ (ne_kind k0 k132 (by decide)))
        have nh0_7 := nh0_7.kept (oq _ (ne_kind k0 k132 (by decide)))
        have nh0_8 := nh0_8.kept (oq _ (ne_kind k0 k132 (by decide)))
        have nh0_4 := nh0_4.kept (oq _ (ne_kind k0 k132 (by decide)))
        have hV := hV.keep (oq _ (ne_kind k0 k132 (by decide)))
        have hX := hX.fr k132 oq (by decide)
        have hI := mI.fr.arr hI k0 k132 oq (by decide) (by decide)
        refine lv_aload_n hx hb dX11_keeps_151 rfl (lv_at hl 0 rfl) ?_
        refine wt_getp hx hb hts cfX11 hown hK hW (cg11 k0) rfl 9 (by decide) (Or.inl (hts _ q881)) dX11_keeps_152 (fun v hv nh0_9 => ?_)
        obtain ⟨x152, rfl, k152⟩ : gr N 46 v := hv
        refine lv_bipush (v := 24) hx hb dX11_keeps_155 (by decide) ?_
        refine lv_aload_n hx hb dX11_keeps_157 rfl (lv_at hl 0 rfl) ?_
        refine wt_rel hx hb hts cfX11 hown hK nh0_13 rfl (by decide) (Or.inl (hts _ q885)) dX11_keeps_158 ?_
        refine lv_imul hx hb dX11_keeps_161 ?_
        refine lv_topi (fun x161 e161 => ?_)
        have t161 : x161.toInt = (24) * u123_0.toInt := (it_mul e161 (ir_c (24) (by decide) : ir (24 : Int32) (24) (24)) ru123_0 (by decide) (by decide) (by decide)).1
        have r161 : ir x161 0 216 := ir_w (it_mul e161 (ir_c (24) (by decide) : ir (24 : Int32) (24) (24)) ru123_0 (by decide) (by decide) (by decide)).2 (by decide) (by decide)
        refine lv_iload_n hx hb dX11_keeps_162 rfl (lv_at hl 2 rfl) ?_
        refine lv_iadd hx hb dX11_keeps_163 ?_
        refine lv_topi (fun x163 e163 => ?_)
        have t163 : x163.toInt = x161.toInt + v123_2.toInt := it_add e163 r161 rv123_2_128 (by decide) (by decide)
        have r163 : ir x163 0 239 := ir_w (ir_add e163 r161 rv123_2_128 (by decide) (by decide)) (by decide) (by decide)
        refine lv_aload_n hx hb dX11_keeps_164 rfl (lv_at hl 0 rfl) ?_
        refine wt_getp hx hb hts cfX11 hown hK hW (cg11 k0) rfl 5 (by decide) (Or.inl (hts _ q877)) dX11_keeps_165 (fun v hv nh0_5 => ?_)
        obtain ⟨x165, rfl, k165⟩ : gr N 43 v := hv
        refine lv_iload_n hx hb dX11_keeps_168 rfl (lv_at hl 2 rfl) ?_
        refine wt_ialdx hx hb hK hW 0 (cg43 k165) rfl (ir_in (ir_w (lo' := 0) (hi' := 24) rv123_2_128 (by decide) (by decide)) (by decide) (by decide)) dX11_keeps_169 (fun v hv ap169 => ?_)
        obtain ⟨x169, rfl, r169⟩ : gi 0 6 v := hv
        obtain ⟨fr170, hfr170⟩ := row_exi hW (cg46 k152)
        refine wt_iastx hx hb hK hW hS 0 (cg46 k152) (ce k152 (by decide)) rfl (ir_in r163 (by decide) (by decide)) (gi_mk r169) dX11_keeps_170 (fun H locs hW hS oq hat => ?_)
        have nh0_13 := nh0_13.kept (oq _ (ne_kind k0 k152 (by decide)))
        have nh0_7 := nh0_7.kept (oq _ (ne_kind k0 k152 (by decide)))
        have nh0_8 := nh0_8.kept (oq _ (ne_kind k0 k152 (by decide)))
        have nh0_4 := nh0_4.kept (oq _ (ne_kind k0 k152 (by decide)))
        have nh0_9 := nh0_9.kept (oq _ (ne_kind k0 k152 (by decide)))
        have nh0_5 := nh0_5.kept (oq _ (ne_kind k0 k152 (by decide)))
        have ap169 := ap169.kept (oq _ (ne_kind k165 k152 (by decide)))
        have aps170 := ap_of (hat _ hfr170)
        have hV := hV.keep (oq _ (ne_kind k0 k152 (by decide)))
        obtain ⟨iL, iP, iR, iB, iM⟩ := hI
        have iL := QL.fr.arr iL k0 k152 oq (by decide) (by decide)
        have iR := QR.fr.arr iR k0 k152 oq (by decide) (by decide)
        have iB := QB.fr.arr iB k0 k152 oq (by decide) (by decide)
        have iM := QM.fr.arr iM k0 k152 oq (by decide) (by decide)
        have hA1 := hat
        have oA1 := oq
        refine lv_aload_n hx hb dX11_keeps_171 rfl (lv_at hl 0 rfl) ?_
        refine wt_getp hx hb hts cfX11 hown hK hW (cg11 k0) rfl 10 (by decide) (Or.inl (hts _ q882)) dX11_keeps_172 (fun v hv nh0_10 => ?_)
        obtain ⟨x172, rfl, k172⟩ : gr N 47 v := hv
        refine lv_bipush (v := 24) hx hb dX11_keeps_175 (by decide) ?_
        refine lv_aload_n hx hb dX11_keeps_177 rfl (lv_at hl 0 rfl) ?_
        refine wt_rel hx hb hts cfX11 hown hK nh0_13 rfl (by decide) (Or.inl (hts _ q885)) dX11_keeps_178 ?_
        refine lv_imul hx hb dX11_keeps_181 ?_
        refine lv_topi (fun x181 e181 => ?_)
        have t181 : x181.toInt = (24) * u123_0.toInt := (it_mul e181 (ir_c (24) (by decide) : ir (24 : Int32) (24) (24)) ru123_0 (by decide) (by decide) (by decide)).1
        have r181 : ir x181 0 216 := ir_w (it_mul e181 (ir_c (24) (by decide) : ir (24 : Int32) (24) (24)) ru123_0 (by decide) (by decide) (by decide)).2 (by decide) (by decide)
        refine lv_iload_n hx hb dX11_keeps_182 rfl (lv_at hl 2 rfl) ?_
        refine lv_iadd hx hb dX11_keeps_183 ?_
        refine lv_topi (fun x183 e183 => ?_)
        have t183 : x183.toInt = x181.toInt + v123_2.toInt := it_add e183 r181 rv123_2_128 (by decide) (by decide)
        have r183 : ir x183 0 239 := ir_w (ir_add e183 r181 rv123_2_128 (by decide) (by decide)) (by decide) (by decide)
        refine lv_aload_n hx hb dX11_keeps_184 rfl (lv_at hl 0 rfl) ?_
        refine wt_getp hx hb hts cfX11 hown hK hW (cg11 k0) rfl 6 (by decide) (Or.inl (hts _ q878)) dX11_keeps_185 (fun v hv nh0_6 => ?_)
        obtain ⟨x185, rfl, k185⟩ : gr N 44 v := hv
        refine lv_iload_n hx hb dX11_keeps_188 rfl (lv_at hl 2 rfl) ?_
        refine wt_ialdx hx hb hK hW 0 (cg44 k185) rfl (ir_in (ir_w (lo' := 0) (hi' := 24) rv123_2_128 (by decide) (by decide)) (by decide) (by decide)) dX11_keeps_189 (fun v hv ap189 => ?_)
        obtain ⟨x189, rfl, r189⟩ : gi 0 6 v := hv
        have hz190 := QL_use iL nh0_7 k165 k185 ap169 ap189 rv123_2_128 (by decide) (by decide) (by omega)
        obtain ⟨fr190, hfr190⟩ := row_exi hW (cg47 k172)
        refine wt_iastx hx hb hK hW hS 0 (cg47 k172) (ce k172 (by decide)) rfl (ir_in r183 (by decide) (by decide)) (gi_mk r189) dX11_keeps_190 (fun H locs hW hS oq hat => ?_)
        have nh0_13 := nh0_13.kept (oq _ (ne_kind k0 k172 (by decide)))
        have nh0_7 := nh0_7.kept (oq _ (ne_kind k0 k172 (by decide)))
        have nh0_8 := nh0_8.kept (oq _ (ne_kind k0 k172 (by decide)))
        have nh0_4 := nh0_4.kept (oq _ (ne_kind k0 k172 (by decide)))
        have nh0_9 := nh0_9.kept (oq _ (ne_kind k0 k172 (by decide)))
        have nh0_5 := nh0_5.kept (oq _ (ne_kind k0 k172 (by decide)))
        have nh0_10 := nh0_10.kept (oq _ (ne_kind k0 k172 (by decide)))
        have nh0_6 := nh0_6.kept (oq _ (ne_kind k0 k172 (by decide)))
        have ap169 := ap169.kept (oq _ (ne_kind k165 k172 (by decide)))
        have aps170 := aps170.kept (oq _ (ne_kind k152 k172 (by decide)))
        have ap189 := ap189.kept (oq _ (ne_kind k185 k172 (by decide)))
        have aps190 := ap_of (hat _ hfr190)
        have hV := hV.keep (oq _ (ne_kind k0 k172 (by decide)))
        have iL := QL.fr.arr iL k0 k172 oq (by decide) (by decide)
        have iR := QR.fr.arr iR k0 k172 oq (by decide) (by decide)
        have iB := QB.fr.arr iB k0 k172 oq (by decide) (by decide)
        have iM := QM.fr.arr iM k0 k172 oq (by decide) (by decide)
        have h163 := (ir_clamp r163 (by decide)).1
        have h183 := (ir_clamp r183 (by decide)).1
        have hX := hX.st hO k152 k172 hfr170 hA1 oA1 hfr190 hat oq (by omega) (by omega) (by have h9 := rv123_2_128; omega) hz190
        have iP : QP N h0 H := QX_P hX nh0_13 (Int.le_refl _)
        have hI : mI N h0 H := ⟨iL, iP, iR, iB, iM⟩
        obtain ⟨x191, e191⟩ : ∃ y : Int32, y = v123_2 + 1 := ⟨_, rfl⟩
        have r191 : ir x191 1 24 := ir_w (ir_add e191 rv123_2_128 (ir_c (1) (by decide) : ir (1 : Int32) (1) (1)) (by decide) (by decide)) (by decide) (by decide)
        have t191 : x191.toInt = v123_2.toInt + (1) := it_add e191 rv123_2_128 (ir_c (1) (by decide) : ir (1 : Int32) (1) (1)) (by decide) (by decide)
        refine lv_iinc (v := x191) (lv' := [(2, .int x191), (0, .ref h0), (1, .int p1)]) hx hb dX11_keeps_191 hl (k := 2) rfl (by rw [e191]; rfl) (by decide) rfl (fun ls hl => ?_)
        refine lv_goto (tgt := 123) hx hb dX11_keeps_194 (by decide) ?_
        exact w2 _ _ _ (ih123 _ _ _ x191 u123_0 hW hI hV (hX.to (by omega)) hS (lv_sub hl [1, 2, 0] rfl) rv123_1 (ir_w (lo' := 0) (hi' := 24) r191 (by decide) (by decide)) ru123_0 nh0_13 (by have h9 := r191; omega))
  have J121 : ∀ (H : Heap) (locs : List Loc) (ls : Array Slot) (u121_0 : Int32), cW N H → mI N h0 H → kp N h0 [13] V H → va_S (cE N [11, 45, 46, 47, 48, 49]) s.heap H locs → lv_has ls 3 [(0, .ref h0), (1, .int p1)] → ir p1 0 1 → ir u121_0 0 9 → wt_pin N.1 vwCl h0 11 13 (.int u121_0) H → WW H locs (F0 m 121 ls []) := by
    intro H locs ls u121_0 hW hI hV hS hl rv121_1 ru121_0 nh0_13
    refine w1 _ _ _ ?_
    refine lv_iconst (v := 0) hx hb dX11_keeps_121 (by decide) ?_
    refine lv_istore_n (lv' := [(2, .int (0 : Int32)), (0, .ref h0), (1, .int p1)]) hx hb dX11_keeps_122 rfl hl (by decide) rfl (fun ls hl => ?_)
    exact w2 _ _ _ (L123 25 _ _ _ (0 : Int32) u121_0 hW hI hV ((QP_X hI.2.1 nh0_13).to (by decide)) hS (lv_sub hl [1, 2, 0] rfl) rv121_1 (ir_w (lo' := 0) (hi' := 24) (ir_c (0) (by decide) : ir (0 : Int32) (0) (0)) (by decide) (by decide)) ru121_0 nh0_13 (by have h9 := (ir_c (0) (by decide) : ir (0 : Int32) (0) (0)); omega))
  have L71 : ∀ (n : Nat) (H : Heap) (locs : List Loc) (ls : Array Slot) (v71_2 : Int32) (u71_0 : Int32), cW N H → QL N h0 H → QR N h0 H → QB N h0 H → QM N h0 H → kp N h0 [13] V H → mR N aM fM v71_2.toInt H → gP N 46 47 240 (fun j => kG fM 216 j) H → va_S (cE N [11, 45, 46, 47, 48, 49]) s.heap H locs → lv_has ls 3 [(0, .ref h0), (1, .int p1), (2, .int v71_2)] → ir p1 0 1 → ir v71_2 0 9 → ir u71_0 10 10 → wt_pin N.1 vwCl h0 11 13 (.int u71_0) H → 9 - v71_2.toInt < (n : Int) → WW H locs (F0 m 71 ls []) := by
    intro n
    induction n with
    | zero =>
      intro H locs ls v71_2 u71_0 hW iL iR iB iM hV hM hGP hS hl rv71_1 rv71_2 ru71_0 nh0_13 mu71
      exfalso
      omega
    | succ n ih71 =>
      intro H locs ls v71_2 u71_0 hW iL iR iB iM hV hM hGP hS hl rv71_1 rv71_2 ru71_0 nh0_13 mu71
      refine w1 _ _ _ ?_
      refine lv_iload_n hx hb dX11_keeps_71 rfl (lv_at hl 2 rfl) ?_
      refine lv_bipush (v := 9) hx hb dX11_keeps_72 (by decide) ?_
      refine lv_icmp_ge (tgt := 111) hx hb dX11_keeps_74 (by decide) (fun c74 => ?_) (fun c74 => ?_)
      · have rv71_2_74 : ir v71_2 9 9 := ⟨Int.le_trans (by decide) (rf_le c74 (ir_c (9) (by decide) : ir (9 : Int32) (9) (9)) rv71_2).2, (rv71_2).2⟩
        have d74 := Int32.le_iff_toInt_le.mp c74
        refine lv_aload_n hx hb dX11_keeps_111 rfl (lv_at hl 0 rfl) ?_
        refine lv_dup hx hb dX11_keeps_112 rfl ?_
        refine wt_rel hx hb hts cfX11 hown hK nh0_13 rfl (by decide) (Or.inl (hts _ q885)) dX11_keeps_113 ?_
        refine lv_iconst (v := 1) hx hb dX11_keeps_116 (by decide) ?_
        refine lv_isub hx hb dX11_keeps_117 ?_
        refine lv_topi (fun x117 e117 => ?_)
        have t117 : x117.toInt = u71_0.toInt - (1) := it_sub e117 ru71_0 (ir_c (1) (by decide) : ir (1 : Int32) (1) (1)) (by decide) (by decide)
        have r117 : ir x117 9 9 := ir_w (ir_sub e117 ru71_0 (ir_c (1) (by decide) : ir (1 : Int32) (1) (1)) (by decide) (by decide)) (by decide) (by decide)
        refine wt_putp hx hb hts cfX11 tyX11 tyX11_ok nmX11 hown hK hW hS (cg11 k0) (ce k0 (by decide)) rfl 13 (by decide) (Or.inl (hts _ q885)) rfl rfl rfl (gi_mk (ir_w (lo' := 0) (hi' := 10) r117 (by decide) (by decide))) dX11_keeps_118 (fun H locs hW hS oq o2 np => ?_)
        have nh0_13 : wt_pin N.1 vwCl h0 11 13 (.int x117) H := np
        have hV := hV.put (by decide) o2
        have hM := hM.fr kM k0 oq (by decide)
        have hGP := hGP.put k0 oq (by decide) (by decide)
        have iL := QL.fr.put iL k0 oq o2 (by decide) (by decide)
        have iR := QR.fr.put iR k0 oq o2 (by decide) (by decide)
        have iB := QB.fr.put iB k0 oq o2 (by decide) (by decide)
        have iM := QM.fr.put iM k0 oq o2 (by decide) (by decide)
        have iP : QP N h0 H := QP_shift hO hM kM hGP nh0_13 (by have h9 := r117; omega) (by have h9 := rv71_2_74; omega)
        have hI : mI N h0 H := ⟨iL, iP, iR, iB, iM⟩
        exact w2 _ _ _ (J121 _ _ _ x117 hW hI hV hS (lv_sub hl [0, 1] rfl) rv71_1 (ir_w (lo' := 0) (hi' := 9) r117 (by decide) (by decide)) nh0_13)
      · have rv71_2_74 : ir v71_2 0 8 := ⟨(rv71_2).1, Int.le_trans (rf_lt (rf_nle c74) rv71_2 (ir_c (9) (by decide) : ir (9 : Int32) (9) (9))).1 (by decide)⟩
        have d74 := Int32.lt_iff_toInt_lt.mp (rf_nle c74)
        refine lv_aload_n hx hb dX11_keeps_77 rfl (lv_at hl 0 rfl) ?_
        refine wt_getp hx hb hts cfX11 hown hK hW (cg11 k0) rfl 11 (by decide) (Or.inl (hts _ q883)) dX11_keeps_78 (fun v hv nh0_11 => ?_)
        obtain ⟨x78, rfl, k78⟩ : gr N 48 v := hv
        refine lv_iload_n hx hb dX11_keeps_81 rfl (lv_at hl 2 rfl) ?_
        refine lv_aload_n hx hb dX11_keeps_82 rfl (lv_at hl 0 rfl) ?_
        refine wt_rel hx hb hts cfX11 hown hK nh0_11 rfl (by decide) (Or.inl (hts _ q883)) dX11_keeps_83 ?_
        refine lv_iload_n hx hb dX11_keeps_86 rfl (lv_at hl 2 rfl) ?_
        refine lv_iconst (v := 1) hx hb dX11_keeps_87 (by decide) ?_
        refine lv_iadd hx hb dX11_keeps_88 ?_
        refine lv_topi (fun x88 e88 => ?_)
        have t88 : x88.toInt = v71_2.toInt + (1) := it_add e88 rv71_2_74 (ir_c (1) (by decide) : ir (1 : Int32) (1) (1)) (by decide) (by decide)
        have r88 : ir x88 1 9 := ir_w (ir_add e88 rv71_2_74 (ir_c (1) (by decide) : ir (1 : Int32) (1) (1)) (by decide) (by decide)) (by decide) (by decide)
        refine wt_ialdx hx hb hK hW 0 (cg48 k78) rfl (ir_in (ir_w (lo' := 0) (hi' := 9) r88 (by decide) (by decide)) (by decide) (by decide)) dX11_keeps_89 (fun v hv ap89 => ?_)
        obtain ⟨x89, rfl, r89⟩ : gi 0 24 v := hv
        obtain ⟨fr90, hfr90⟩ := row_exi hW (cg48 k78)
        refine wt_iastx hx hb hK hW hS 0 (cg48 k78) (ce k78 (by decide)) rfl (ir_in (ir_w (lo' := 0) (hi' := 9) rv71_2_74 (by decide) (by decide)) (by decide) (by decide)) (gi_mk r89) dX11_keeps_90 (fun H locs hW hS oq hat => ?_)
        have nh0_13 := nh0_13.kept (oq _ (ne_kind k0 k78 (by decide)))
        have nh0_11 := nh0_11.kept (oq _ (ne_kind k0 k78 (by decide)))
        have aps90 := ap_of (hat _ hfr90)
        have hV := hV.keep (oq _ (ne_kind k0 k78 (by decide)))
        have hGP := hGP.put k78 oq (by decide) (by decide)
        have iL := QL.fr.arr iL k0 k78 oq (by decide) (by decide)
        have iR := QR.fr.arr iR k0 k78 oq (by decide) (by decide)
        have iB := QB.fr.arr iB k0 k78 oq (by decide) (by decide)
        have iM := QM.fr.arr iM k0 k78 oq (by decide) (by decide)
        have hcv := (ir_clamp rv71_2_74 (by decide)).1
        have hcx := (ir_clamp r88 (by decide)).1
        have hM := hM.step hO kM k78 ap89 hat hcv (by omega) (by have h9 := r88; omega)
        refine lv_aload_n hx hb dX11_keeps_91 rfl (lv_at hl 0 rfl) ?_
        refine wt_getp hx hb hts cfX11 hown hK hW (cg11 k0) rfl 12 (by decide) (Or.inl (hts _ q884)) dX11_keeps_92 (fun v hv nh0_12 => ?_)
        obtain ⟨x92, rfl, k92⟩ : gr N 49 v := hv
        refine lv_iload_n hx hb dX11_keeps_95 rfl (lv_at hl 2 rfl) ?_
        refine lv_aload_n hx hb dX11_keeps_96 rfl (lv_at hl 0 rfl) ?_
        refine wt_rel hx hb hts cfX11 hown hK nh0_12 rfl (by decide) (Or.inl (hts _ q884)) dX11_keeps_97 ?_
        refine lv_iload_n hx hb dX11_keeps_100 rfl (lv_at hl 2 rfl) ?_
        refine lv_iconst (v := 1) hx hb dX11_keeps_101 (by decide) ?_
        refine lv_iadd hx hb dX11_keeps_102 ?_
        refine lv_topi (fun x102 e102 => ?_)
        have t102 : x102.toInt = v71_2.toInt + (1) := it_add e102 rv71_2_74 (ir_c (1) (by decide) : ir (1 : Int32) (1) (1)) (by decide) (by decide)
        have r102 : ir x102 1 9 := rf_eq (e102.trans e88.symm) r88
        refine wt_zald hx hb hK hW 2 (cg49 k92) rfl (ir_in (ir_w (lo' := 0) (hi' := 9) r102 (by decide) (by decide)) (by decide) (by decide)) dX11_keeps_103 (fun v hv => ?_)
        obtain ⟨x103, rfl, r103⟩ : gi 0 1 v := hv
        refine wt_zastp hx hb hK hW hS 2 (cg49 k92) (ce k92 (by decide)) rfl (ir_in (ir_w (lo' := 0) (hi' := 9) rv71_2_74 (by decide) (by decide)) (by decide) (by decide)) (by rw [nar01 r103]; exact (gi_mk r103)) dX11_keeps_104 (fun H locs hW hS oq => ?_)
        have nh0_13 := nh0_13.kept (oq _ (ne_kind k0 k92 (by decide)))
        have nh0_11 := nh0_11.kept (oq _ (ne_kind k0 k92 (by decide)))
        have nh0_12 := nh0_12.kept (oq _ (ne_kind k0 k92 (by decide)))
        have aps90 := aps90.kept (oq _ (ne_kind k78 k92 (by decide)))
        have hV := hV.keep (oq _ (ne_kind k0 k92 (by decide)))
        have hM := hM.fr kM k92 oq (by decide)
        have hGP := hGP.put k92 oq (by decide) (by decide)
        have iL := QL.fr.arr iL k0 k92 oq (by decide) (by decide)
        have iR := QR.fr.arr iR k0 k92 oq (by decide) (by decide)
        have iB := QB.fr.arr iB k0 k92 oq (by decide) (by decide)
        have iM := QM.fr.arr iM k0 k92 oq (by decide) (by decide)
        obtain ⟨x105, e105⟩ : ∃ y : Int32, y = v71_2 + 1 := ⟨_, rfl⟩
        have r105 : ir x105 1 9 := ir_w (ir_add e105 rv71_2_74 (ir_c (1) (by decide) : ir (1 : Int32) (1) (1)) (by decide) (by decide)) (by decide) (by decide)
        have t105 : x105.toInt = v71_2.toInt + (1) := it_add e105 rv71_2_74 (ir_c (1) (by decide) : ir (1 : Int32) (1) (1)) (by decide) (by decide)
        refine lv_iinc (v := x105) (lv' := [(2, .int x105), (0, .ref h0), (1, .int p1)]) hx hb dX11_keeps_105 hl (k := 2) rfl (by rw [e105]; rfl) (by decide) rfl (fun ls hl => ?_)
        refine lv_goto (tgt := 71) hx hb dX11_keeps_108 (by decide) ?_
        exact w2 _ _ _ (ih71 _ _ _ x105 u71_0 hW iL iR iB iM hV (hM.to (by omega)) hGP hS (lv_sub hl [1, 2, 0] rfl) rv71_1 (ir_w (lo' := 0) (hi' := 9) r105 (by decide) (by decide)) ru71_0 nh0_13 (by have h9 := r105; omega))
  have L11 : ∀ (n : Nat) (H : Heap) (locs : List Loc) (ls : Array Slot) (v11_2 : Int32) (u11_0 : Int32), cW N H → QL N h0 H → QR N h0 H → QB N h0 H → QM N h0 H → kp N h0 [13] V H → mR N aM fM 0 H → gP N 46 47 240 (fun j => kG fM v11_2.toInt j) H → va_S (cE N [11, 45, 46, 47, 48, 49]) s.heap H locs → lv_has ls 3 [(0, .ref h0), (1, .int p1), (2, .int v11_2)] → ir p1 0 1 → ir v11_2 0 216 → ir u11_0 10 10 → wt_pin N.1 vwCl h0 11 13 (.int u11_0) H → 216 - v11_2.toInt < (n : Int) → WW H locs (F0 m 11 ls []) := by
    intro n
    induction n with
    | zero =>
      intro H locs ls v11_2 u11_0 hW iL iR iB iM hV hM hGP hS hl rv11_1 rv11_2 ru11_0 nh0_13 mu11
      exfalso
      omega
    | succ n ih11 =>
      intro H locs ls v11_2 u11_0 hW iL iR iB iM hV hM hGP hS hl rv11_1 rv11_2 ru11_0 nh0_13 mu11
      refine w1 _ _ _ ?_
      refine lv_iload_n hx hb dX11_keeps_11 rfl (lv_at hl 2 rfl) ?_
      refine lv_sipush (v := 216) hx hb dX11_keeps_12 (by decide) ?_
      refine lv_icmp_ge (tgt := 69) hx hb dX11_keeps_15 (by decide) (fun c15 => ?_) (fun c15 => ?_)
      · have rv11_2_15 : ir v11_2 216 216 := ⟨Int.le_trans (by decide) (rf_le c15 (ir_c (216) (by decide) : ir (216 : Int32) (216) (216)) rv11_2).2, (rv11_2).2⟩
        have d15 := Int32.le_iff_toInt_le.mp c15
        have ev : v11_2.toInt = 216 := by have h9 := rv11_2_15; omega
        rw [ev] at hGP
        refine lv_iconst (v := 0) hx hb dX11_keeps_69 (by decide) ?_
        refine lv_istore_n (lv' := [(2, .int (0 : Int32)), (0, .ref h0), (1, .int p1)]) hx hb dX11_keeps_70 rfl hl (by decide) rfl (fun ls hl => ?_)
        exact w2 _ _ _ (L71 10 _ _ _ (0 : Int32) u11_0 hW iL iR iB iM hV (hM.to (by decide)) hGP hS (lv_sub hl [1, 2, 0] rfl) rv11_1 (ir_w (lo' := 0) (hi' := 9) (ir_c (0) (by decide) : ir (0 : Int32) (0) (0)) (by decide) (by decide)) ru11_0 nh0_13 (by have h9 := (ir_c (0) (by decide) : ir (0 : Int32) (0) (0)); omega))
      · have rv11_2_15 : ir v11_2 0 215 := ⟨(rv11_2).1, Int.le_trans (rf_lt (rf_nle c15) rv11_2 (ir_c (216) (by decide) : ir (216 : Int32) (216) (216))).1 (by decide)⟩
        have d15 := Int32.lt_iff_toInt_lt.mp (rf_nle c15)
        refine lv_aload_n hx hb dX11_keeps_18 rfl (lv_at hl 0 rfl) ?_
        refine wt_getp hx hb hts cfX11 hown hK hW (cg11 k0) rfl 8 (by decide) (Or.inl (hts _ q880)) dX11_keeps_19 (fun v hv nh0_8 => ?_)
        obtain ⟨x19, rfl, k19⟩ : gr N 45 v := hv
        refine lv_iload_n hx hb dX11_keeps_22 rfl (lv_at hl 2 rfl) ?_
        refine lv_aload_n hx hb dX11_keeps_23 rfl (lv_at hl 0 rfl) ?_
        refine wt_rel hx hb hts cfX11 hown hK nh0_8 rfl (by decide) (Or.inl (hts _ q880)) dX11_keeps_24 ?_
        refine lv_iload_n hx hb dX11_keeps_27 rfl (lv_at hl 2 rfl) ?_
        refine lv_bipush (v := 24) hx hb dX11_keeps_28 (by decide) ?_
        refine lv_iadd hx hb dX11_keeps_30 ?_
        refine lv_topi (fun x30 e30 => ?_)
        have t30 : x30.toInt = v11_2.toInt + (24) := it_add e30 rv11_2_15 (ir_c (24) (by decide) : ir (24 : Int32) (24) (24)) (by decide) (by decide)
        have r30 : ir x30 24 239 := ir_w (ir_add e30 rv11_2_15 (ir_c (24) (by decide) : ir (24 : Int32) (24) (24)) (by decide) (by decide)) (by decide) (by decide)
        refine wt_iald hx hb hK hW 0 (cg45 k19) rfl (ir_in (ir_w (lo' := 0) (hi' := 239) r30 (by decide) (by decide)) (by decide) (by decide)) dX11_keeps_31 (fun v hv => ?_)
        obtain ⟨x31, rfl, r31⟩ : gi 0 5 v := hv
        refine wt_iastp hx hb hK hW hS 0 (cg45 k19) (ce k19 (by decide)) rfl (ir_in (ir_w (lo' := 0) (hi' := 239) rv11_2_15 (by decide) (by decide)) (by decide) (by decide)) (gi_mk r31) dX11_keeps_32 (fun H locs hW hS oq => ?_)
        have nh0_13 := nh0_13.kept (oq _ (ne_kind k0 k19 (by decide)))
        have nh0_8 := nh0_8.kept (oq _ (ne_kind k0 k19 (by decide)))
        have hV := hV.keep (oq _ (ne_kind k0 k19 (by decide)))
        have hM := hM.fr kM k19 oq (by decide)
        have hGP := hGP.put k19 oq (by decide) (by decide)
        have iL := QL.fr.arr iL k0 k19 oq (by decide) (by decide)
        have iR := QR.fr.arr iR k0 k19 oq (by decide) (by decide)
        have iB := QB.fr.arr iB k0 k19 oq (by decide) (by decide)
        have iM := QM.fr.arr iM k0 k19 oq (by decide) (by decide)
        refine lv_aload_n hx hb dX11_keeps_33 rfl (lv_at hl 0 rfl) ?_
        refine wt_getp hx hb hts cfX11 hown hK hW (cg11 k0) rfl 9 (by decide) (Or.inl (hts _ q881)) dX11_keeps_34 (fun v hv nh0_9 => ?_)
        obtain ⟨x34, rfl, k34⟩ : gr N 46 v := hv
        refine lv_iload_n hx hb dX11_keeps_37 rfl (lv_at hl 2 rfl) ?_
        refine lv_aload_n hx hb dX11_keeps_38 rfl (lv_at hl 0 rfl) ?_
        refine wt_rel hx hb hts cfX11 hown hK nh0_9 rfl (by decide) (Or.inl (hts _ q881)) dX11_keeps_39 ?_
        refine lv_iload_n hx hb dX11_keeps_42 rfl (lv_at hl 2 rfl) ?_
        refine lv_bipush (v := 24) hx hb dX11_keeps_43 (by decide) ?_
        refine lv_iadd hx hb dX11_keeps_45 ?_
        refine lv_topi (fun x45 e45 => ?_)
        have t45 : x45.toInt = v11_2.toInt + (24) := it_add e45 rv11_2_15 (ir_c (24) (by decide) : ir (24 : Int32) (24) (24)) (by decide) (by decide)
        have r45 : ir x45 24 239 := rf_eq (e45.trans e30.symm) r30
        refine wt_ialdx hx hb hK hW 0 (cg46 k34) rfl (ir_in (ir_w (lo' := 0) (hi' := 239) r45 (by decide) (by decide)) (by decide) (by decide)) dX11_keeps_46 (fun v hv ap46 => ?_)
        obtain ⟨x46, rfl, r46⟩ : gi 0 6 v := hv
        obtain ⟨fr47, hfr47⟩ := row_exi hW (cg46 k34)
        refine wt_iastx hx hb hK hW hS 0 (cg46 k34) (ce k34 (by decide)) rfl (ir_in (ir_w (lo' := 0) (hi' := 239) rv11_2_15 (by decide) (by decide)) (by decide) (by decide)) (gi_mk r46) dX11_keeps_47 (fun H locs hW hS oq hat => ?_)
        have nh0_13 := nh0_13.kept (oq _ (ne_kind k0 k34 (by decide)))
        have nh0_8 := nh0_8.kept (oq _ (ne_kind k0 k34 (by decide)))
        have nh0_9 := nh0_9.kept (oq _ (ne_kind k0 k34 (by decide)))
        have ap46 := ap46.st hat (by have h8 := (ir_clamp r45 (by decide)).1; have h9 := (ir_clamp rv11_2_15 (by decide)).1; omega)
        have aps47 := ap_of (hat _ hfr47)
        have hV := hV.keep (oq _ (ne_kind k0 k34 (by decide)))
        have hM := hM.fr kM k34 oq (by decide)
        have iL := QL.fr.arr iL k0 k34 oq (by decide) (by decide)
        have iR := QR.fr.arr iR k0 k34 oq (by decide) (by decide)
        have iB := QB.fr.arr iB k0 k34 oq (by decide) (by decide)
        have iM := QM.fr.arr iM k0 k34 oq (by decide) (by decide)
        have hGP := hGP.stA hO (by decide) (by decide) k34 hfr47 (hat _ hfr47) oq
        refine lv_aload_n hx hb dX11_keeps_48 rfl (lv_at hl 0 rfl) ?_
        refine wt_getp hx hb hts cfX11 hown hK hW (cg11 k0) rfl 10 (by decide) (Or.inl (hts _ q882)) dX11_keeps_49 (fun v hv nh0_10 => ?_)
        obtain ⟨x49, rfl, k49⟩ : gr N 47 v := hv
        refine lv_iload_n hx hb dX11_keeps_52 rfl (lv_at hl 2 rfl) ?_
        refine lv_aload_n hx hb dX11_keeps_53 rfl (lv_at hl 0 rfl) ?_
        refine wt_rel hx hb hts cfX11 hown hK nh0_10 rfl (by decide) (Or.inl (hts _ q882)) dX11_keeps_54 ?_
        refine lv_iload_n hx hb dX11_keeps_57 rfl (lv_at hl 2 rfl) ?_
        refine lv_bipush (v := 24) hx hb dX11_keeps_58 (by decide) ?_
        refine lv_iadd hx hb dX11_keeps_60 ?_
        refine lv_topi (fun x60 e60 => ?_)
        have t60 : x60.toInt = v11_2.toInt + (24) := it_add e60 rv11_2_15 (ir_c (24) (by decide) : ir (24 : Int32) (24) (24)) (by decide) (by decide)
        have r60 : ir x60 24 239 := rf_eq (e60.trans e30.symm) r30
        refine wt_ialdx hx hb hK hW 0 (cg47 k49) rfl (ir_in (ir_w (lo' := 0) (hi' := 239) r60 (by decide) (by decide)) (by decide) (by decide)) dX11_keeps_61 (fun v hv ap61 => ?_)
        obtain ⟨x61, rfl, r61⟩ : gi 0 6 v := hv
        have q60 : x60 = x45 := e60.trans e45.symm
        rw [q60] at ap61
        have hcv := (ir_clamp rv11_2_15 (by decide)).1
        have hcx := (ir_clamp r45 (by decide)).1
        have hc : x45.toNatClampNeg = v11_2.toNatClampNeg + 24 := by omega
        have hz62 : pH 10 fM (v11_2.toNatClampNeg + 24) → x46.toInt ≠ 0 ∨ x61.toInt ≠ 0 := fun hp => gP_use hGP k34 k49 ap46 ap61 (by omega) ⟨Or.inr ⟨by omega, by rw [hc]; exact hp⟩, by omega⟩
        obtain ⟨fr62, hfr62⟩ := row_exi hW (cg47 k49)
        refine wt_iastx hx hb hK hW hS 0 (cg47 k49) (ce k49 (by decide)) rfl (ir_in (ir_w (lo' := 0) (hi' := 239) rv11_2_15 (by decide) (by decide)) (by decide) (by decide)) (gi_mk r61) dX11_keeps_62 (fun H locs hW hS oq hat => ?_)
        have nh0_13 := nh0_13.kept (oq _ (ne_kind k0 k49 (by decide)))
        have nh0_8 := nh0_8.kept (oq _ (ne_kind k0 k49 (by decide)))
        have nh0_9 := nh0_9.kept (oq _ (ne_kind k0 k49 (by decide)))
        have nh0_10 := nh0_10.kept (oq _ (ne_kind k0 k49 (by decide)))
        have ap46 := ap46.kept (oq _ (ne_kind k34 k49 (by decide)))
        have aps47 := aps47.kept (oq _ (ne_kind k34 k49 (by decide)))
        have aps62 := ap_of (hat _ hfr62)
        have hV := hV.keep (oq _ (ne_kind k0 k49 (by decide)))
        have hM := hM.fr kM k49 oq (by decide)
        have iL := QL.fr.arr iL k0 k49 oq (by decide) (by decide)
        have iR := QR.fr.arr iR k0 k49 oq (by decide) (by decide)
        have iB := QB.fr.arr iB k0 k49 oq (by decide) (by decide)
        have iM := QM.fr.arr iM k0 k49 oq (by decide) (by decide)
        have hGP := hGP.stU hO (by decide) (by decide) k49 hfr62 (hat _ hfr62) oq
        have hGP : gP N 46 47 240 (fun j => kG fM (v11_2.toInt + 1) j) H := (hGP.ins2 hO (by decide) (by decide) k34 k49 aps47 aps62 rfl hz62).sub (fun j hj h => kG_step hcv rfl rfl h)
        obtain ⟨x63, e63⟩ : ∃ y : Int32, y = v11_2 + 1 := ⟨_, rfl⟩
        have r63 : ir x63 1 216 := ir_w (ir_add e63 rv11_2_15 (ir_c (1) (by decide) : ir (1 : Int32) (1) (1)) (by decide) (by decide)) (by decide) (by decide)
        have t63 : x63.toInt = v11_2.toInt + (1) := it_add e63 rv11_2_15 (ir_c (1) (by decide) : ir (1 : Int32) (1) (1)) (by decide) (by decide)
        refine lv_iinc (v := x63) (lv' := [(2, .int x63), (0, .ref h0), (1, .int p1)]) hx hb dX11_keeps_63 hl (k := 2) rfl (by rw [e63]; rfl) (by decide) rfl (fun ls hl => ?_)
        refine lv_goto (tgt := 11) hx hb dX11_keeps_66 (by decide) ?_
        exact w2 _ _ _ (ih11 _ _ _ x63 u11_0 hW iL iR iB iM hV hM (hGP.sub (fun j hj h => by have h : kG fM x63.toInt j := h; rw [t63] at h; exact h)) hS (lv_sub hl [1, 2, 0] rfl) rv11_1 (ir_w (lo' := 0) (hi' := 216) r63 (by decide) (by decide)) ru11_0 nh0_13 (by have h9 := r63; omega))
  refine lv_aload_n hx hb dX11_keeps_0 rfl (lv_at hl 0 rfl) ?_
  refine wt_getp hx hb hts cfX11 hown hK hW (cg11 k0) rfl 13 (by decide) (Or.inl (hts _ q885)) dX11_keeps_1 (fun v hv nh0_13 => ?_)
  obtain ⟨x1, rfl, r1⟩ : gi 0 10 v := hv
  refine lv_bipush (v := 10) hx hb dX11_keeps_4 (by decide) ?_
  refine lv_icmp_ne (tgt := 121) hx hb dX11_keeps_6 (by decide) (fun c6 => ?_) (fun c6 => ?_)
  · have rx1_6 : ir x1 0 9 := rf_neu c6 r1 (by decide) (by decide)
    exact w2 _ _ _ (J121 _ _ _ x1 hW hI hV hS (lv_sub hl [0, 1] rfl) rp1 rx1_6 nh0_13)
  · have rx1_6 : ir x1 10 10 := rf_eq c6 (ir_c (10) (by decide) : ir (10 : Int32) (10) (10))
    have hGP := kG_0 (k := (0 : Int32).toInt) (by decide) hI.2.1 nh0_13 (by have h9 := rx1_6; omega) kM hfM
    have hM := mR_0 (N := N) hfM
    refine lv_iconst (v := 0) hx hb dX11_keeps_9 (by decide) ?_
    refine lv_istore_n (lv' := [(2, .int (0 : Int32)), (0, .ref h0), (1, .int p1)]) hx hb dX11_keeps_10 rfl hl (by decide) rfl (fun ls hl => ?_)
    obtain ⟨iL, iP, iR, iB, iM⟩ := hI
    exact w2 _ _ _ (L11 217 _ _ _ (0 : Int32) x1 hW iL iR iB iM hV hM hGP hS (lv_sub hl [1, 2, 0] rfl) rp1 (ir_w (lo' := 0) (hi' := 216) (ir_c (0) (by decide) : ir (0 : Int32) (0) (0)) (by decide) (by decide)) rx1_6 nh0_13 (by have h9 := (ir_c (0) (by decide) : ir (0 : Int32) (0) (0)); omega))
set_option maxHeartbeats 4000000 in
set_option maxRecDepth 100000 in
theorem m_X11_undo (l : Launch) (N : c_N) (h0 : Nat) (k0 : N.2.2.1 h0 = some 11) (hO : mOK N) (V : Nat → Value) : cMi2 l yX11_undo cX11_undo 2 .boolean { frames := 1, cells := 0, slots := 0, locals := 21 } [.ref h0] N [11, 42, 43, 44] (fun H => mI N h0 H ∧ kp N h0 [2, 3, 7, 13] V H) (fun r => ir r 0 1) (fun _ H => mI N h0 H ∧ kp N h0 [2, 3, 7, 13] V H) := by
  refine Met.ofW (cc := cX11_undo) (maxL := 2) (ret := some .boolean) (by decide) rfl ?_
  intro p e s m args below meth c s₁ B hml hv
  obtain ⟨rfl, ⟨hK, hW, hT, hnn⟩, hB⟩ := hv
  obtain ⟨hI, hV⟩ := hB
  have hx := B.exec
  have hb := B.bytes
  have hr := B.returns
  have hts : ∀ w ∈ lw_g, w.before _ s = true := fun w h => atoms_spec (ws := wc_ws yX11_undo cX11_undo 2 (some .boolean)) B.pre w (List.mem_cons_of_mem _ h)
  have hown : s.vm.findClass RX11 = some m.cls := findClass_of_methodNamed B.named
  have hlocks := B.notSynchronized
  have hS : va_S (cE N [11, 42, 43, 44]) s.heap s.heap [] := va_S.rf
  have hl := lv_entry ([.ref h0]) (n := 2) (Nat.le_of_ble_eq_true rfl)
  rw [lg_entry_eq]
  generalize (lg_sl ([.ref h0]) ++ List.replicate (2 - (lg_sl ([.ref h0])).length) Slot.unset).toArray = ls at hl ⊢
  have hl : lv_has ls 2 [(0, .ref h0)] := hl
  refine wq_all ?_
  intro WW w1 w2
  have L34 : ∀ (n : Nat) (H : Heap) (locs : List Loc) (ls : Array Slot) (v34_1 : Int32) (u34_0 : Int32) (u34_1 : Int32), cW N H → QP N h0 H → QR N h0 H → QB N h0 H → QM N h0 H → kp N h0 [2, 3, 7, 13] V H → gP N 43 44 25 (fun j => (j : Int) < v34_1.toInt) H → gP N 46 47 240 (fun j => 24 * u34_1.toInt ≤ (j : Int) ∧ (j : Int) < 24 * u34_1.toInt + u34_0.toInt) H → va_S (cE N [11, 42, 43, 44]) s.heap H locs → lv_has ls 2 [(0, .ref h0), (1, .int v34_1)] → ir v34_1 0 24 → ir u34_0 0 24 → wt_pin N.1 vwCl h0 11 7 (.int u34_0) H → ir u34_1 0 9 → wt_pin N.1 vwCl h0 11 13 (.int u34_1) H → 24 - v34_1.toInt < (n : Int) → WW H locs (F0 m 34 ls []) := by
    intro n
    induction n with
    | zero =>
      intro H locs ls v34_1 u34_0 u34_1 hW iP iR iB iM hV hGL hGP hS hl rv34_1 ru34_0 nh0_7 ru34_1 nh0_13 mu34
      exfalso
      omega
    | succ n ih34 =>
      intro H locs ls v34_1 u34_0 u34_1 hW iP iR iB iM hV hGL hGP hS hl rv34_1 ru34_0 nh0_7 ru34_1 nh0_13 mu34
      refine w1 _ _ _ ?_
      refine lv_iload_n hx hb dX11_undo_34 rfl (lv_at hl 1 rfl) ?_
      refine lv_aload_n hx hb dX11_undo_35 rfl (lv_at hl 0 rfl) ?_
      refine wt_rel hx hb hts cfX11 hown hK nh0_7 rfl (by decide) (Or.inl (hts _ q879)) dX11_undo_36 ?_
      refine lv_icmp_ge (tgt := 108) hx hb dX11_undo_39 (by decide) (fun c39 => ?_) (fun c39 => ?_)
      · have d39 := Int32.le_iff_toInt_le.mp c39
        have iL : QL N h0 H := ⟨_, nh0_7, (hGL.sub (fun j hj h => by have h : (j : Int) < u34_0.toInt := h; show (j : Int) < v34_1.toInt; have h30 := ru34_0; have h31 := rv34_1; omega))⟩
        have hI : mI N h0 H := ⟨iL, iP, iR, iB, iM⟩
        refine lv_aload_n hx hb dX11_undo_108 rfl (lv_at hl 0 rfl) ?_
        refine wt_get hx hb hts cfX11 hown hK hW (cg11 k0) rfl 12 (by decide) q884 dX11_undo_109 (fun v hv => ?_)
        obtain ⟨x109, rfl, k109⟩ : gr N 49 v := hv
        refine lv_aload_n hx hb dX11_undo_112 rfl (lv_at hl 0 rfl) ?_
        refine wt_rel hx hb hts cfX11 hown hK nh0_13 rfl (by decide) (Or.inl (hts _ q885)) dX11_undo_113 ?_
        refine wt_zald hx hb hK hW 2 (cg49 k109) rfl (ir_in ru34_1 (by decide) (by decide)) dX11_undo_116 (fun v hv => ?_)
        obtain ⟨x116, rfl, r116⟩ : gi 0 1 v := hv
        refine lv_if_eq (tgt := 124) hx hb dX11_undo_117 (by decide) (fun c117 => ?_) (fun c117 => ?_)
        · have rx116_117 : ir x116 0 0 := rf_eq c117 (ir_c (0) (by decide) : ir (0 : Int32) (0) (0))
          refine lv_iconst (v := 1) hx hb dX11_undo_124 (by decide) ?_
          exact W.zret (v := (1 : Int32)) hx hb hr rfl (fun t ht _ => ⟨⟨(1 : Int32), (1 : Int32), rfl, ⟨rfl, (⟨by decide, by decide⟩)⟩, cW_at ht hW, ⟨mI_at ht hI, kp_at ht hV⟩⟩, hS.F ht⟩) hS.2.2 dX11_undo_125
        · have rx116_117 : ir x116 1 1 := rf_ne0 c117 r116
          refine lv_aload_n hx hb dX11_undo_120 rfl (lv_at hl 0 rfl) ?_
          obtain ⟨V1, hV1⟩ := kp_all hW k0
          have hWo := hW
          refine cc_v (B2 := fun H => mI N h0 H ∧ kp N h0 [2, 3] V1 H) (wt_runV (As := []) (rest := []) ⟨hx, hb, hml, hown, hts⟩ (m_X11_changesSides l N h0 k0 hO V1) wm_X11_changesSides q1072 ⟨rfl, rfl⟩ ⟨Nat.le_of_ble_eq_true rfl, Nat.le_of_ble_eq_true rfl⟩ (cS_preV (B := fun H => mI N h0 H ∧ kp N h0 [2, 3] V1 H) hK hW hT hnn hS (cg11 k0) rfl rfl (And.intro hI (kp_of (F := [2, 3]) hV1))) rfl hl.1 rfl (Nat.le_of_ble_eq_true rfl) dX11_undo_121 ⟨Nat.zero_le _, Nat.zero_le _⟩) hS (by decide) (fun H locs hW hS oq hB2 => ?_)
          obtain ⟨hI, hV2⟩ := hB2
          have hV := kp_call hV hV1 hV2 (by decide)
          have hGL := hGL.same hWo oq (by decide) (by decide)
          have hGP := hGP.same hWo oq (by decide) (by decide)
          have nh0_7 := kp_use hV1 hV2 (by decide) (by decide) nh0_7
          have nh0_13 := kp_use hV1 hV2 (by decide) (by decide) nh0_13
          refine lv_iconst (v := 1) hx hb dX11_undo_124 (by decide) ?_
          exact W.zret (v := (1 : Int32)) hx hb hr rfl (fun t ht _ => ⟨⟨(1 : Int32), (1 : Int32), rfl, ⟨rfl, (⟨by decide, by decide⟩)⟩, cW_at ht hW, ⟨mI_at ht hI, kp_at ht hV⟩⟩, hS.F ht⟩) hS.2.2 dX11_undo_125
      · have rv34_1_39 : ir v34_1 0 23 := ⟨(rv34_1).1, Int.le_trans (rf_lt (rf_nle c39) rv34_1 ru34_0).1 (by decide)⟩
        have ru34_0_39 : ir u34_0 1 24 := ⟨Int.le_trans (by decide) (rf_lt (rf_nle c39) rv34_1 ru34_0).2, (ru34_0).2⟩
        have d39 := Int32.lt_iff_toInt_lt.mp (rf_nle c39)
        refine lv_aload_n hx hb dX11_undo_42 rfl (lv_at hl 0 rfl) ?_
        refine wt_get hx hb hts cfX11 hown hK hW (cg11 k0) rfl 4 (by decide) q876 dX11_undo_43 (fun v hv => ?_)
        obtain ⟨x43, rfl, k43⟩ : gr N 42 v := hv
        refine lv_iload_n hx hb dX11_undo_46 rfl (lv_at hl 1 rfl) ?_
        refine lv_aload_n hx hb dX11_undo_47 rfl (lv_at hl 0 rfl) ?_
        refine wt_get hx hb hts cfX11 hown hK hW (cg11 k0) rfl 8 (by decide) q880 dX11_undo_48 (fun v hv => ?_)
        obtain ⟨x48, rfl, k48⟩ : gr N 45 v := hv
        refine lv_bipush (v := 24) hx hb dX11_undo_51 (by decide) ?_
        refine lv_aload_n hx hb dX11_undo_53 rfl (lv_at hl 0 rfl) ?_
        refine wt_rel hx hb hts cfX11 hown hK nh0_13 rfl (by decide) (Or.inl (hts _ q885)) dX11_undo_54 ?_
        refine lv_imul hx hb dX11_undo_57 ?_
        refine lv_topi (fun x57 e57 => ?_)
        have t57 : x57.toInt = (24) * u34_1.toInt := (it_mul e57 (ir_c (24) (by decide) : ir (24 : Int32) (24) (24)) ru34_1 (by decide) (by decide) (by decide)).1
        have r57 : ir x57 0 216 := ir_w (it_mul e57 (ir_c (24) (by decide) : ir (24 : Int32) (24) (24)) ru34_1 (by decide) (by decide) (by decide)).2 (by decide) (by decide)
        refine lv_iload_n hx hb dX11_undo_58 rfl (lv_at hl 1 rfl) ?_
        refine lv_iadd hx hb dX11_undo_59 ?_
        refine lv_topi (fun x59 e59 => ?_)
        have t59 : x59.toInt = x57.toInt + v34_1.toInt := it_add e59 r57 rv34_1_39 (by decide) (by decide)
        have r59 : ir x59 0 239 := ir_w (ir_add e59 r57 rv34_1_39 (by decide) (by decide)) (by decide) (by decide)
        refine wt_iald hx hb hK hW 0 (cg45 k48) rfl (ir_in r59 (by decide) (by decide)) dX11_undo_60 (fun v hv => ?_)
        obtain ⟨x60, rfl, r60⟩ : gi 0 5 v := hv
        refine wt_iastp hx hb hK hW hS 0 (cg42 k43) (ce k43 (by decide)) rfl (ir_in (ir_w (lo' := 0) (hi' := 24) rv34_1_39 (by decide) (by decide)) (by decide) (by decide)) (gi_mk r60) dX11_undo_61 (fun H locs hW hS oq => ?_)
        have nh0_7 := nh0_7.kept (oq _ (ne_kind k0 k43 (by decide)))
        have nh0_13 := nh0_13.kept (oq _ (ne_kind k0 k43 (by decide)))
        have hV := hV.keep (oq _ (ne_kind k0 k43 (by decide)))
        have hGL := hGL.put k43 oq (by decide) (by decide)
        have hGP := hGP.put k43 oq (by decide) (by decide)
        have iP := QP.fr.arr iP k0 k43 oq (by decide) (by decide)
        have iR := QR.fr.arr iR k0 k43 oq (by decide) (by decide)
        have iB := QB.fr.arr iB k0 k43 oq (by decide) (by decide)
        have iM := QM.fr.arr iM k0 k43 oq (by decide) (by decide)
        refine lv_aload_n hx hb dX11_undo_62 rfl (lv_at hl 0 rfl) ?_
        refine wt_get hx hb hts cfX11 hown hK hW (cg11 k0) rfl 5 (by decide) q877 dX11_undo_63 (fun v hv => ?_)
        obtain ⟨x63, rfl, k63⟩ : gr N 43 v := hv
        refine lv_iload_n hx hb dX11_undo_66 rfl (lv_at hl 1 rfl) ?_
        refine lv_aload_n hx hb dX11_undo_67 rfl (lv_at hl 0 rfl) ?_
        refine wt_get hx hb hts cfX11 hown hK hW (cg11 k0) rfl 9 (by decide) q881 dX11_undo_68 (fun v hv => ?_)
        obtain ⟨x68, rfl, k68⟩ : gr N 46 v := hv
        refine lv_bipush (v := 24) hx hb dX11_undo_71 (by decide) ?_
        refine lv_aload_n hx hb dX11_undo_73 rfl (lv_at hl 0 rfl) ?_
        refine wt_rel hx hb hts cfX11 hown hK nh0_13 rfl (by decide) (Or.inl (hts _ q885)) dX11_undo_74 ?_
        refine lv_imul hx hb dX11_undo_77 ?_
        refine lv_topi (fun x77 e77 => ?_)
        have t77 : x77.toInt = (24) * u34_1.toInt := (it_mul e77 (ir_c (24) (by decide) : ir (24 : Int32) (24) (24)) ru34_1 (by decide) (by decide) (by decide)).1
        have r77 : ir x77 0 216 := ir_w (it_mul e77 (ir_c (24) (by decide) : ir (24 : Int32) (24) (24)) ru34_1 (by decide) (by decide) (by decide)).2 (by decide) (by decide)
        refine lv_iload_n hx hb dX11_undo_78 rfl (lv_at hl 1 rfl) ?_
        refine lv_iadd hx hb dX11_undo_79 ?_
        refine lv_topi (fun x79 e79 => ?_)
        have t79 : x79.toInt = x77.toInt + v34_1.toInt := it_add e79 r77 rv34_1_39 (by decide) (by decide)
        have r79 : ir x79 0 239 := ir_w (ir_add e79 r77 rv34_1_39 (by decide) (by decide)) (by decide) (by decide)
        refine wt_ialdx hx hb hK hW 0 (cg46 k68) rfl (ir_in r79 (by decide) (by decide)) dX11_undo_80 (fun v hv ap80 => ?_)
        obtain ⟨x80, rfl, r80⟩ : gi 0 6 v := hv
        obtain ⟨fr81, hfr81⟩ := row_exi hW (cg43 k63)
        refine wt_iastx hx hb hK hW hS 0 (cg43 k63) (ce k63 (by decide)) rfl (ir_in (ir_w (lo' := 0) (hi' := 24) rv34_1_39 (by decide) (by decide)) (by decide) (by decide)) (gi_mk r80) dX11_undo_81 (fun H locs hW hS oq hat => ?_)
        have nh0_7 := nh0_7.kept (oq _ (ne_kind k0 k63 (by decide)))
        have nh0_13 := nh0_13.kept (oq _ (ne_kind k0 k63 (by decide)))
        have ap80 := ap80.kept (oq _ (ne_kind k68 k63 (by decide)))
        have aps81 := ap_of (hat _ hfr81)
        have hV := hV.keep (oq _ (ne_kind k0 k63 (by decide)))
        have hGP := hGP.put k63 oq (by decide) (by decide)
        have iP := QP.fr.arr iP k0 k63 oq (by decide) (by decide)
        have iR := QR.fr.arr iR k0 k63 oq (by decide) (by decide)
        have iB := QB.fr.arr iB k0 k63 oq (by decide) (by decide)
        have iM := QM.fr.arr iM k0 k63 oq (by decide) (by decide)
        have hGL := hGL.stA hO (by decide) (by decide) k63 hfr81 (hat _ hfr81) oq
        refine lv_aload_n hx hb dX11_undo_82 rfl (lv_at hl 0 rfl) ?_
        refine wt_get hx hb hts cfX11 hown hK hW (cg11 k0) rfl 6 (by decide) q878 dX11_undo_83 (fun v hv => ?_)
        obtain ⟨x83, rfl, k83⟩ : gr N 44 v := hv
        refine lv_iload_n hx hb dX11_undo_86 rfl (lv_at hl 1 rfl) ?_
        refine lv_aload_n hx hb dX11_undo_87 rfl (lv_at hl 0 rfl) ?_
        refine wt_get hx hb hts cfX11 hown hK hW (cg11 k0) rfl 10 (by decide) q882 dX11_undo_88 (fun v hv => ?_)
        obtain ⟨x88, rfl, k88⟩ : gr N 47 v := hv
        refine lv_bipush (v := 24) hx hb dX11_undo_91 (by decide) ?_
        refine lv_aload_n hx hb dX11_undo_93 rfl (lv_at hl 0 rfl) ?_
        refine wt_rel hx hb hts cfX11 hown hK nh0_13 rfl (by decide) (Or.inl (hts _ q885)) dX11_undo_94 ?_
        refine lv_imul hx hb dX11_undo_97 ?_
        refine lv_topi (fun x97 e97 => ?_)
        have t97 : x97.toInt = (24) * u34_1.toInt := (it_mul e97 (ir_c (24) (by decide) : ir (24 : Int32) (24) (24)) ru34_1 (by decide) (by decide) (by decide)).1
        have r97 : ir x97 0 216 := ir_w (it_mul e97 (ir_c (24) (by decide) : ir (24 : Int32) (24) (24)) ru34_1 (by decide) (by decide) (by decide)).2 (by decide) (by decide)
        refine lv_iload_n hx hb dX11_undo_98 rfl (lv_at hl 1 rfl) ?_
        refine lv_iadd hx hb dX11_undo_99 ?_
        refine lv_topi (fun x99 e99 => ?_)
        have t99 : x99.toInt = x97.toInt + v34_1.toInt := it_add e99 r97 rv34_1_39 (by decide) (by decide)
        have r99 : ir x99 0 239 := ir_w (ir_add e99 r97 rv34_1_39 (by decide) (by decide)) (by decide) (by decide)
        refine wt_ialdx hx hb hK hW 0 (cg47 k88) rfl (ir_in r99 (by decide) (by decide)) dX11_undo_100 (fun v hv ap100 => ?_)
        obtain ⟨x100, rfl, r100⟩ : gi 0 6 v := hv
        have h79 := (ir_clamp r79 (by decide)).1
        have h99 := (ir_clamp r99 (by decide)).1
        have q99 : x99.toNatClampNeg = x79.toNatClampNeg := by omega
        rw [q99] at ap100
        have hz101 := gP_use hGP k68 k88 ap80 ap100 (by have h9 := r79; omega) (by show 24 * u34_1.toInt ≤ (x79.toNatClampNeg : Int) ∧ (x79.toNatClampNeg : Int) < 24 * u34_1.toInt + u34_0.toInt; have h9 := rv34_1_39; omega)
        obtain ⟨fr101, hfr101⟩ := row_exi hW (cg44 k83)
        refine wt_iastx hx hb hK hW hS 0 (cg44 k83) (ce k83 (by decide)) rfl (ir_in (ir_w (lo' := 0) (hi' := 24) rv34_1_39 (by decide) (by decide)) (by decide) (by decide)) (gi_mk r100) dX11_undo_101 (fun H locs hW hS oq hat => ?_)
        have nh0_7 := nh0_7.kept (oq _ (ne_kind k0 k83 (by decide)))
        have nh0_13 := nh0_13.kept (oq _ (ne_kind k0 k83 (by decide)))
        have ap80 := ap80.kept (oq _ (ne_kind k68 k83 (by decide)))
        have aps81 := aps81.kept (oq _ (ne_kind k63 k83 (by decide)))
        have ap100 := ap100.kept (oq _ (ne_kind k88 k83 (by decide)))
        have aps101 := ap_of (hat _ hfr101)
        have hV := hV.keep (oq _ (ne_kind k0 k83 (by decide)))
        have hGP := hGP.put k83 oq (by decide) (by decide)
        have iP := QP.fr.arr iP k0 k83 oq (by decide) (by decide)
        have iR := QR.fr.arr iR k0 k83 oq (by decide) (by decide)
        have iB := QB.fr.arr iB k0 k83 oq (by decide) (by decide)
        have iM := QM.fr.arr iM k0 k83 oq (by decide) (by decide)
        have hGL := hGL.stU hO (by decide) (by decide) k83 hfr101 (hat _ hfr101) oq
        have hGL : gP N 43 44 25 (fun j => (j : Int) < v34_1.toInt + 1) H := (hGL.ins hO (by decide) (by decide) k63 k83 aps81 aps101 rfl hz101).sub (fun j hj h => by have h : (j : Int) < v34_1.toInt + 1 := h; show ((((j : Int) < v34_1.toInt) ∧ j ≠ v34_1.toNatClampNeg) ∧ j ≠ v34_1.toNatClampNeg) ∨ j = v34_1.toNatClampNeg; have h30 := rv34_1_39; have k40 := (ir_clamp rv34_1_39 (by decide)).1; omega)
        obtain ⟨x102, e102⟩ : ∃ y : Int32, y = v34_1 + 1 := ⟨_, rfl⟩
        have r102 : ir x102 1 24 := ir_w (ir_add e102 rv34_1_39 (ir_c (1) (by decide) : ir (1 : Int32) (1) (1)) (by decide) (by decide)) (by decide) (by decide)
        have t102 : x102.toInt = v34_1.toInt + (1) := it_add e102 rv34_1_39 (ir_c (1) (by decide) : ir (1 : Int32) (1) (1)) (by decide) (by decide)
        refine lv_iinc (v := x102) (lv' := [(1, .int x102), (0, .ref h0)]) hx hb dX11_undo_102 hl (k := 1) rfl (by rw [e102]; rfl) (by decide) rfl (fun ls hl => ?_)
        refine lv_goto (tgt := 34) hx hb dX11_undo_105 (by decide) ?_
        exact w2 _ _ _ (ih34 _ _ _ x102 u34_0 u34_1 hW iP iR iB iM hV (hGL.sub (fun j hj h => by have h : (j : Int) < x102.toInt := h; show (j : Int) < v34_1.toInt + 1; have h30 := rv34_1_39; have h31 := r102; omega)) hGP hS (lv_sub hl [1, 0] rfl) (ir_w (lo' := 0) (hi' := 24) r102 (by decide) (by decide)) (ir_w (lo' := 0) (hi' := 24) ru34_0_39 (by decide) (by decide)) nh0_7 ru34_1 nh0_13 (by have h9 := r102; omega))
  refine lv_aload_n hx hb dX11_undo_0 rfl (lv_at hl 0 rfl) ?_
  refine wt_getp hx hb hts cfX11 hown hK hW (cg11 k0) rfl 13 (by decide) (Or.inl (hts _ q885)) dX11_undo_1 (fun v hv nh0_13 => ?_)
  obtain ⟨x1, rfl, r1⟩ : gi 0 10 v := hv
  refine lv_if_ne (tgt := 9) hx hb dX11_undo_4 (by decide) (fun c4 => ?_) (fun c4 => ?_)
  · have rx1_4 : ir x1 1 10 := rf_ne0 c4 r1
    have hX := QP_X hI.2.1 nh0_13
    refine lv_aload_n hx hb dX11_undo_9 rfl (lv_at hl 0 rfl) ?_
    refine lv_dup hx hb dX11_undo_10 rfl ?_
    refine wt_rel hx hb hts cfX11 hown hK nh0_13 rfl (by decide) (Or.inl (hts _ q885)) dX11_undo_11 ?_
    refine lv_iconst (v := 1) hx hb dX11_undo_14 (by decide) ?_
    refine lv_isub hx hb dX11_undo_15 ?_
    refine lv_topi (fun x15 e15 => ?_)
    have t15 : x15.toInt = x1.toInt - (1) := it_sub e15 rx1_4 (ir_c (1) (by decide) : ir (1 : Int32) (1) (1)) (by decide) (by decide)
    have r15 : ir x15 0 9 := ir_w (ir_sub e15 rx1_4 (ir_c (1) (by decide) : ir (1 : Int32) (1) (1)) (by decide) (by decide)) (by decide) (by decide)
    refine wt_putp hx hb hts cfX11 tyX11 tyX11_ok nmX11 hown hK hW hS (cg11 k0) (ce k0 (by decide)) rfl 13 (by decide) (Or.inl (hts _ q885)) rfl rfl rfl (gi_mk (ir_w (lo' := 0) (hi' := 10) r15 (by decide) (by decide))) dX11_undo_16 (fun H locs hW hS oq o2 np => ?_)
    have nh0_13 : wt_pin N.1 vwCl h0 11 13 (.int x15) H := np
    have hV := hV.put (by decide) o2
    have hX := hX.fr k0 oq (by decide)
    obtain ⟨iL, iP, iR, iB, iM⟩ := hI
    have iL := QL.fr.put iL k0 oq o2 (by decide) (by decide)
    have iR := QR.fr.put iR k0 oq o2 (by decide) (by decide)
    have iB := QB.fr.put iB k0 oq o2 (by decide) (by decide)
    have iM := QM.fr.put iM k0 oq o2 (by decide) (by decide)
    have iP : QP N h0 H := QX_P hX nh0_13 (by omega)
    have hI : mI N h0 H := ⟨iL, iP, iR, iB, iM⟩
    refine lv_aload_n hx hb dX11_undo_19 rfl (lv_at hl 0 rfl) ?_
    refine lv_aload_n hx hb dX11_undo_20 rfl (lv_at hl 0 rfl) ?_
    refine wt_get hx hb hts cfX11 hown hK hW (cg11 k0) rfl 11 (by decide) q883 dX11_undo_21 (fun v hv => ?_)
    obtain ⟨x21, rfl, k21⟩ : gr N 48 v := hv
    refine lv_aload_n hx hb dX11_undo_24 rfl (lv_at hl 0 rfl) ?_
    refine wt_rel hx hb hts cfX11 hown hK nh0_13 rfl (by decide) (Or.inl (hts _ q885)) dX11_undo_25 ?_
    refine wt_ialdx hx hb hK hW 0 (cg48 k21) rfl (ir_in r15 (by decide) (by decide)) dX11_undo_28 (fun v hv ap28 => ?_)
    obtain ⟨x28, rfl, r28⟩ : gi 0 24 v := hv
    have k28 := (ir_clamp r15 (by decide)).1
    have hGP := QX_row hX k21 ap28 r28 (by decide) (by omega)
    refine wt_putp hx hb hts cfX11 tyX11 tyX11_ok nmX11 hown hK hW hS (cg11 k0) (ce k0 (by decide)) rfl 7 (by decide) (Or.inl (hts _ q879)) rfl rfl rfl (gi_mk r28) dX11_undo_29 (fun H locs hW hS oq o2 np => ?_)
    have nh0_13 := o2 13 _ (by decide) (by decide) nh0_13
    have ap28 := ap28.kept (oq _ (ne_kind k21 k0 (by decide)))
    have nh0_7 : wt_pin N.1 vwCl h0 11 7 (.int x28) H := np
    have hV := hV.put (by decide) o2
    have hGP := hGP.put k0 oq (by decide) (by decide)
    obtain ⟨iL, iP, iR, iB, iM⟩ := hI
    have iP := QP.fr.put iP k0 oq o2 (by decide) (by decide)
    have iR := QR.fr.put iR k0 oq o2 (by decide) (by decide)
    have iB := QB.fr.put iB k0 oq o2 (by decide) (by decide)
    have iM := QM.fr.put iM k0 oq o2 (by decide) (by decide)
    have hGL : gP N 43 44 25 (fun j => (j : Int) < 0) H := gP_none
    refine lv_iconst (v := 0) hx hb dX11_undo_32 (by decide) ?_
    refine lv_istore_n (lv' := [(1, .int (0 : Int32)), (0, .ref h0)]) hx hb dX11_undo_33 rfl hl (by decide) rfl (fun ls hl => ?_)
    exact w2 _ _ _ (L34 25 _ _ _ (0 : Int32) x28 x15 hW iP iR iB iM hV (hGL.sub (fun j hj h => by have h : (j : Int) < (0 : Int32).toInt := h; show (j : Int) < 0; have l30 : (0 : Int32).toInt = 0 := (by decide); omega)) (hGP.sub (fun j hj h => by have h : 24 * x15.toInt ≤ (j : Int) ∧ (j : Int) < 24 * x15.toInt + x28.toInt := h; show 24 * (x15.toNatClampNeg : Int) ≤ (j : Int) ∧ (j : Int) < 24 * (x15.toNatClampNeg : Int) + x28.toInt; have h30 := r15; have h31 := r28; have k40 := (ir_clamp r15 (by decide)).1; omega)) hS (lv_sub hl [1, 0] rfl) (ir_w (lo' := 0) (hi' := 24) (ir_c (0) (by decide) : ir (0 : Int32) (0) (0)) (by decide) (by decide)) r28 nh0_7 r15 nh0_13 (by have h9 := (ir_c (0) (by decide) : ir (0 : Int32) (0) (0)); omega))
  · have rx1_4 : ir x1 0 0 := rf_eq c4 (ir_c (0) (by decide) : ir (0 : Int32) (0) (0))
    refine lv_iconst (v := 0) hx hb dX11_undo_7 (by decide) ?_
    exact W.zret (v := (0 : Int32)) hx hb hr rfl (fun t ht _ => ⟨⟨(0 : Int32), (0 : Int32), rfl, ⟨rfl, (⟨by decide, by decide⟩)⟩, cW_at ht hW, ⟨mI_at ht hI, kp_at ht hV⟩⟩, hS.F ht⟩) hS.2.2 dX11_undo_8
