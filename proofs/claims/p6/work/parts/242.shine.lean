set_option maxHeartbeats 4000000 in
set_option maxRecDepth 100000 in
theorem m_X11_layer (l : Launch) (N : c_N) (h0 : Nat) (k0 : N.2.2.1 h0 = some 11) (hO : mOK N) (V : Nat → Value) (p1 : Int32) (p2 : Int32) : cMi2 l yX11_layer cX11_layer 3 .int { frames := 2, cells := 0, slots := 0, locals := 57 } [.ref h0, .int p1, .int p2] N [11] (fun H => mI N h0 H ∧ kp N h0 [32, 33] V H) (fun _ => True) (fun _ H => mI N h0 H ∧ kp N h0 [32, 33] V H) := by
  refine Met.ofW (cc := cX11_layer) (maxL := 3) (ret := some .int) (by decide) rfl ?_
  intro p e s m args below meth c s₁ B hml hv
  obtain ⟨rfl, ⟨hK, hW, hT, hnn⟩, hB⟩ := hv
  obtain ⟨hI, hV⟩ := hB
  have hx := B.exec
  have hb := B.bytes
  have hr := B.returns
  have hts : ∀ w ∈ lw_g, w.before _ s = true := fun w h => atoms_spec (ws := wc_ws yX11_layer cX11_layer 3 (some .int)) B.pre w (List.mem_cons_of_mem _ h)
  have hown : s.vm.findClass RX11 = some m.cls := findClass_of_methodNamed B.named
  have hlocks := B.notSynchronized
  have hS : va_S (cE N [11]) s.heap s.heap [] := va_S.rf
  have hl := lv_entry ([.ref h0, .int p1, .int p2]) (n := 3) (Nat.le_of_ble_eq_true rfl)
  rw [lg_entry_eq]
  generalize (lg_sl ([.ref h0, .int p1, .int p2]) ++ List.replicate (3 - (lg_sl ([.ref h0, .int p1, .int p2])).length) Slot.unset).toArray = ls at hl ⊢
  have hl : lv_has ls 3 [(0, .ref h0), (1, .int p1), (2, .int p2)] := hl
  refine wq_all ?_
  intro WW w1 w2
  refine lv_iload_n hx hb dX11_layer_0 rfl (lv_at hl 1 rfl) ?_
  refine lv_iconst (v := -1) hx hb dX11_layer_1 (by decide) ?_
  refine lv_icmp_ne (tgt := 10) hx hb dX11_layer_2 (by decide) (fun c2 => ?_) (fun c2 => ?_)
  · refine lv_iload_n hx hb dX11_layer_10 rfl (lv_at hl 1 rfl) ?_
    refine lv_i2l hx hb dX11_layer_11 rfl ?_
    refine lv_topl (fun x11 e11 => ?_)
    have r11 : lr x11 (-2147483648) 2147483647 := by rw [e11]; exact i2l_r (ir_any p1)
    have t11 : x11.toInt = p1.toInt := by rw [e11]; exact Int32.toInt_toInt64 p1
    refine lv_lconst (v := 0) hx hb dX11_layer_12 (by decide) ?_
    refine lv_aload_n hx hb dX11_layer_13 rfl (lv_at hl 0 rfl) ?_
    refine wt_getp hx hb hts cfX11 hown hK hW (cg11 k0) rfl 7 (by decide) (Or.inl (hts _ q879)) dX11_layer_14 (fun v hv nh0_7 => ?_)
    obtain ⟨x14, rfl, r14⟩ : gi 0 24 v := hv
    refine lv_iconst (v := 1) hx hb dX11_layer_17 (by decide) ?_
    refine lv_isub hx hb dX11_layer_18 ?_
    refine lv_topi (fun x18 e18 => ?_)
    have t18 : x18.toInt = x14.toInt - (1) := it_sub e18 r14 (ir_c (1) (by decide) : ir (1 : Int32) (1) (1)) (by decide) (by decide)
    have r18 : ir x18 (-1) 23 := ir_w (ir_sub e18 r14 (ir_c (1) (by decide) : ir (1 : Int32) (1) (1)) (by decide) (by decide)) (by decide) (by decide)
    refine lv_i2l hx hb dX11_layer_19 rfl ?_
    refine lv_topl (fun x19 e19 => ?_)
    have r19 : lr x19 (-1) 23 := by rw [e19]; exact i2l_r r18
    have t19 : x19.toInt = x18.toInt := by rw [e19]; exact Int32.toInt_toInt64 x18
    refine cp_i (wt_runS (As := [.long x11, .long (0 : Int64), .long x19]) (rest := []) ⟨hx, hb, hml, hown, hts⟩ (m_X11_isIn l x11 (0 : Int64) x19) wm_X11_isIn q1050 ⟨rfl, rfl⟩ ⟨Nat.le_of_ble_eq_true rfl, Nat.le_of_ble_eq_true rfl⟩ pS_pre rfl hl.1 rfl (Nat.le_of_ble_eq_true rfl) dX11_layer_20 ⟨Nat.zero_le _, Nat.zero_le _⟩) hW hS (fun x20 H locs hp hW1 hS oq => ?_)
    have hV := hV.same hW k0 oq
    have hI := mI.fr.same hI hW oq
    have hW := hW1
    have nh0_7 := nh0_7.kept (oq _ nh0_7.lt (cE_not k0 (by decide)))
    obtain ⟨r20, b20⟩ := hp
    refine lv_if_eq (tgt := 38) hx hb dX11_layer_23 (by decide) (fun c23 => ?_) (fun c23 => ?_)
    · have rx20_23 : ir x20 0 0 := rf_eq c23 (ir_c (0) (by decide) : ir (0 : Int32) (0) (0))
      refine lv_sipush (v := -10000) hx hb dX11_layer_38 (by decide) ?_
      exact W.iret (v := (-10000 : Int32)) hx hb hr (fun t ht _ => ⟨⟨(-10000 : Int32), (-10000 : Int32), rfl, ⟨rfl, trivial⟩, cW_at ht hW, ⟨mI_at ht hI, kp_at ht hV⟩⟩, hS.F ht⟩) hS.2.2 dX11_layer_41
    · have rx20_23 : ir x20 1 1 := rf_ne0 c23 r20
      have bx20_23 := b20 c23
      have rbx11_23 : lr x11 0 23 := by have h5 := bx20_23; have h6 := r11; have h7 := (lr_c (0) (by decide) : lr (0 : Int64) (0) (0)); have h8 := r19; constructor <;> omega
      have rp1_23 : ir p1 0 23 := i2l_b e11 rbx11_23
      refine lv_iload_n hx hb dX11_layer_26 rfl (lv_at hl 2 rfl) ?_
      refine lv_i2l hx hb dX11_layer_27 rfl ?_
      refine lv_topl (fun x27 e27 => ?_)
      have r27 : lr x27 (-2147483648) 2147483647 := by rw [e27]; exact i2l_r (ir_any p2)
      have t27 : x27.toInt = p2.toInt := by rw [e27]; exact Int32.toInt_toInt64 p2
      refine lv_lconst (v := 0) hx hb dX11_layer_28 (by decide) ?_
      refine lv_ldc2 hx hb hown (hts _ q1194) dX11_layer_29 ?_
      refine cp_i (wt_runS (As := [.long x27, .long (0 : Int64), .long (8 : Int64)]) (rest := []) ⟨hx, hb, hml, hown, hts⟩ (m_X11_isIn l x27 (0 : Int64) (8 : Int64)) wm_X11_isIn q1050 ⟨rfl, rfl⟩ ⟨Nat.le_of_ble_eq_true rfl, Nat.le_of_ble_eq_true rfl⟩ pS_pre rfl hl.1 rfl (Nat.le_of_ble_eq_true rfl) dX11_layer_32 ⟨Nat.zero_le _, Nat.zero_le _⟩) hW hS (fun x32 H locs hp hW1 hS oq => ?_)
      have hV := hV.same hW k0 oq
      have hI := mI.fr.same hI hW oq
      have hW := hW1
      have nh0_7 := nh0_7.kept (oq _ nh0_7.lt (cE_not k0 (by decide)))
      obtain ⟨r32, b32⟩ := hp
      refine lv_if_ne (tgt := 42) hx hb dX11_layer_35 (by decide) (fun c35 => ?_) (fun c35 => ?_)
      · have rx32_35 : ir x32 1 1 := rf_ne0 c35 r32
        have bx32_35 := b32 c35
        have rbx27_35 : lr x27 0 8 := by have h5 := bx32_35; have h6 := r27; have h7 := (lr_c (0) (by decide) : lr (0 : Int64) (0) (0)); have h8 := (lr_c (8) (by decide) : lr (8 : Int64) (8) (8)); constructor <;> omega
        have rp2_35 : ir p2 0 8 := i2l_b e27 rbx27_35
        refine lv_iload_n hx hb dX11_layer_42 rfl (lv_at hl 2 rfl) ?_
        refine lv_iconst (v := 3) hx hb dX11_layer_43 (by decide) ?_
        refine lv_icmp_ge (tgt := 81) hx hb dX11_layer_44 (by decide) (fun c44 => ?_) (fun c44 => ?_)
        · have rp2_44 : ir p2 3 8 := ⟨Int.le_trans (by decide) (rf_le c44 (ir_c (3) (by decide) : ir (3 : Int32) (3) (3)) rp2_35).2, (rp2_35).2⟩
          have d44 := Int32.le_iff_toInt_le.mp c44
          refine lv_aload_n hx hb dX11_layer_81 rfl (lv_at hl 0 rfl) ?_
          refine lv_aload_n hx hb dX11_layer_82 rfl (lv_at hl 0 rfl) ?_
          refine wt_get hx hb hts cfX11 hown hK hW (cg11 k0) rfl 5 (by decide) q877 dX11_layer_83 (fun v hv => ?_)
          obtain ⟨x83, rfl, k83⟩ : gr N 43 v := hv
          refine lv_iload_n hx hb dX11_layer_86 rfl (lv_at hl 1 rfl) ?_
          refine wt_ialdx hx hb hK hW 0 (cg43 k83) rfl (ir_in (ir_w (lo' := 0) (hi' := 24) rp1_23 (by decide) (by decide)) (by decide) (by decide)) dX11_layer_87 (fun v hv ap87 => ?_)
          obtain ⟨x87, rfl, r87⟩ : gi 0 6 v := hv
          refine lv_i2l hx hb dX11_layer_88 rfl ?_
          refine lv_topl (fun x88 e88 => ?_)
          have r88 : lr x88 0 6 := by rw [e88]; exact i2l_r r87
          have t88 : x88.toInt = x87.toInt := by rw [e88]; exact Int32.toInt_toInt64 x87
          refine lv_aload_n hx hb dX11_layer_89 rfl (lv_at hl 0 rfl) ?_
          refine wt_get hx hb hts cfX11 hown hK hW (cg11 k0) rfl 6 (by decide) q878 dX11_layer_90 (fun v hv => ?_)
          obtain ⟨x90, rfl, k90⟩ : gr N 44 v := hv
          refine lv_iload_n hx hb dX11_layer_93 rfl (lv_at hl 1 rfl) ?_
          refine wt_ialdx hx hb hK hW 0 (cg44 k90) rfl (ir_in (ir_w (lo' := 0) (hi' := 24) rp1_23 (by decide) (by decide)) (by decide) (by decide)) dX11_layer_94 (fun v hv ap94 => ?_)
          obtain ⟨x94, rfl, r94⟩ : gi 0 6 v := hv
          refine lv_i2l hx hb dX11_layer_95 rfl ?_
          refine lv_topl (fun x95 e95 => ?_)
          have r95 : lr x95 0 6 := by rw [e95]; exact i2l_r r94
          have t95 : x95.toInt = x94.toInt := by rw [e95]; exact Int32.toInt_toInt64 x94
          refine lv_iload_n hx hb dX11_layer_96 rfl (lv_at hl 2 rfl) ?_
          refine lv_iconst (v := 1) hx hb dX11_layer_97 (by decide) ?_
          refine lv_iadd hx hb dX11_layer_98 ?_
          refine lv_topi (fun x98 e98 => ?_)
          have t98 : x98.toInt = p2.toInt + (1) := it_add e98 rp2_44 (ir_c (1) (by decide) : ir (1 : Int32) (1) (1)) (by decide) (by decide)
          have r98 : ir x98 4 9 := ir_w (ir_add e98 rp2_44 (ir_c (1) (by decide) : ir (1 : Int32) (1) (1)) (by decide) (by decide)) (by decide) (by decide)
          refine lv_iconst (v := 2) hx hb dX11_layer_99 (by decide) ?_
          refine lv_idiv hx hb dX11_layer_100 (by decide) ?_
          refine lv_topi (fun x100 e100 => ?_)
          have t100 := ir_divc e100 r98 (by decide) 2 (by decide) (by decide) (by decide)
          have r100 : ir x100 2 4 := by have t := ir_divc e100 r98 (by decide) 2 (by decide) (by decide) (by decide); have h9 := r98; constructor <;> omega
          obtain ⟨V1, hV1⟩ := kp_all hW k0
          refine cc_v (B2 := fun H => mI N h0 H ∧ kp N h0 [32, 33] V1 H ∧ ∃ re tu : Int64, pL N h0 32 re H ∧ pL N h0 33 tu H ∧ mkOK re tu) (wt_runV (As := [.long x88, .long x95, .int x100]) (rest := []) ⟨hx, hb, hml, hown, hts⟩ (m_X11_marksAt l N h0 k0 hO V1 x88 (lr_w (lo' := 0) (hi' := 78) r88 (by decide) (by decide)) x95 (lr_w (lo' := 0) (hi' := 78) r95 (by decide) (by decide)) x100 (ir_w (lo' := 1) (hi' := 4) r100 (by decide) (by decide)) (hz_l (QL_use hI.1 nh0_7 k83 k90 ap87 ap94 rp1_23 (by decide) (by decide) (by omega)) e88 e95)) wm_X11_marksAt q1195 ⟨rfl, rfl⟩ ⟨Nat.le_of_ble_eq_true rfl, Nat.le_of_ble_eq_true rfl⟩ (cS_preV (B := fun H => mI N h0 H ∧ kp N h0 [32, 33] V1 H) hK hW hT hnn hS (cg11 k0) rfl rfl (And.intro hI (kp_of (F := [32, 33]) hV1))) rfl hl.1 rfl (Nat.le_of_ble_eq_true rfl) dX11_layer_101 ⟨Nat.zero_le _, Nat.zero_le _⟩) hS (by decide) (fun H locs hW hS oq hB2 => ?_)
          obtain ⟨hI, hV2, hB2⟩ := hB2
          have hV := kp_call hV hV1 hV2 (by decide)
          obtain ⟨re101, tu101, nh0_32, nh0_33, o101⟩ := hB2
          have nh0_7 := kp_use hV1 hV2 (by decide) (by decide) nh0_7
          refine lv_iload_n hx hb dX11_layer_104 rfl (lv_at hl 2 rfl) ?_
          refine lv_iconst (v := 2) hx hb dX11_layer_105 (by decide) ?_
          refine lv_irem hx hb dX11_layer_106 (by decide) ?_
          refine lv_topi (fun x106 e106 => ?_)
          have r106 : ir x106 0 1 := ir_remr e106 rp2_44 (by decide) 2 (by decide) (by decide) (by decide) (by decide)
          refine lv_iconst (v := 1) hx hb dX11_layer_107 (by decide) ?_
          refine lv_icmp_ne (tgt := 118) hx hb dX11_layer_108 (by decide) (fun c108 => ?_) (fun c108 => ?_)
          · refine lv_aload_n hx hb dX11_layer_118 rfl (lv_at hl 0 rfl) ?_
            refine wt_rel hx hb hts cfX11 hown hK nh0_32 rfl (by decide) (Or.inl (hts _ q904)) dX11_layer_119 ?_
            refine lv_l2i hx hb dX11_layer_122 rfl ?_
            refine lv_topi (fun x122 e122 => ?_)
            have r122 : ir x122 (-148060224) 148060224 := by rw [e122]; exact l2i_r o101.1 (by decide) (by decide)
            exact W.iret (v := x122) hx hb hr (fun t ht _ => ⟨⟨x122, x122, rfl, ⟨rfl, trivial⟩, cW_at ht hW, ⟨mI_at ht hI, kp_at ht hV⟩⟩, hS.F ht⟩) hS.2.2 dX11_layer_123
          · have rx106_108 : ir x106 1 1 := rf_eq c108 (ir_c (1) (by decide) : ir (1 : Int32) (1) (1))
            refine lv_aload_n hx hb dX11_layer_111 rfl (lv_at hl 0 rfl) ?_
            refine wt_rel hx hb hts cfX11 hown hK nh0_33 rfl (by decide) (Or.inl (hts _ q905)) dX11_layer_112 ?_
            refine lv_goto (tgt := 122) hx hb dX11_layer_115 (by decide) ?_
            refine lv_l2i hx hb dX11_layer_122 rfl ?_
            refine lv_topi (fun x122 e122 => ?_)
            have r122 : ir x122 (-148060224) 148060224 := by rw [e122]; exact l2i_r o101.2.1 (by decide) (by decide)
            exact W.iret (v := x122) hx hb hr (fun t ht _ => ⟨⟨x122, x122, rfl, ⟨rfl, trivial⟩, cW_at ht hW, ⟨mI_at ht hI, kp_at ht hV⟩⟩, hS.F ht⟩) hS.2.2 dX11_layer_123
        · have rp2_44 : ir p2 0 2 := ⟨(rp2_35).1, Int.le_trans (rf_lt (rf_nle c44) rp2_35 (ir_c (3) (by decide) : ir (3 : Int32) (3) (3))).1 (by decide)⟩
          have d44 := Int32.lt_iff_toInt_lt.mp (rf_nle c44)
          refine lv_iload_n hx hb dX11_layer_47 rfl (lv_at hl 2 rfl) ?_
          refine lv_if_ne (tgt := 60) hx hb dX11_layer_48 (by decide) (fun c48 => ?_) (fun c48 => ?_)
          · have rp2_48 : ir p2 1 2 := rf_ne0 c48 rp2_44
            refine lv_iload_n hx hb dX11_layer_60 rfl (lv_at hl 2 rfl) ?_
            refine lv_iconst (v := 1) hx hb dX11_layer_61 (by decide) ?_
            refine lv_icmp_ne (tgt := 74) hx hb dX11_layer_62 (by decide) (fun c62 => ?_) (fun c62 => ?_)
            · have rp2_62 : ir p2 2 2 := rf_nel c62 rp2_48 (by decide) (by decide)
              refine lv_aload_n hx hb dX11_layer_74 rfl (lv_at hl 0 rfl) ?_
              refine wt_get hx hb hts cfX11 hown hK hW (cg11 k0) rfl 6 (by decide) q878 dX11_layer_75 (fun v hv => ?_)
              obtain ⟨x75, rfl, k75⟩ : gr N 44 v := hv
              refine lv_iload_n hx hb dX11_layer_78 rfl (lv_at hl 1 rfl) ?_
              refine wt_ialdx hx hb hK hW 0 (cg44 k75) rfl (ir_in (ir_w (lo' := 0) (hi' := 24) rp1_23 (by decide) (by decide)) (by decide) (by decide)) dX11_layer_79 (fun v hv ap79 => ?_)
              obtain ⟨x79, rfl, r79⟩ : gi 0 6 v := hv
              exact W.iret (v := x79) hx hb hr (fun t ht _ => ⟨⟨x79, x79, rfl, ⟨rfl, trivial⟩, cW_at ht hW, ⟨mI_at ht hI, kp_at ht hV⟩⟩, hS.F ht⟩) hS.2.2 dX11_layer_80
            · have rp2_62 : ir p2 1 1 := rf_eq c62 (ir_c (1) (by decide) : ir (1 : Int32) (1) (1))
              refine lv_aload_n hx hb dX11_layer_65 rfl (lv_at hl 0 rfl) ?_
              refine wt_get hx hb hts cfX11 hown hK hW (cg11 k0) rfl 5 (by decide) q877 dX11_layer_66 (fun v hv => ?_)
              obtain ⟨x66, rfl, k66⟩ : gr N 43 v := hv
              refine lv_iload_n hx hb dX11_layer_69 rfl (lv_at hl 1 rfl) ?_
              refine wt_ialdx hx hb hK hW 0 (cg43 k66) rfl (ir_in (ir_w (lo' := 0) (hi' := 24) rp1_23 (by decide) (by decide)) (by decide) (by decide)) dX11_layer_70 (fun v hv ap70 => ?_)
              obtain ⟨x70, rfl, r70⟩ : gi 0 6 v := hv
              refine lv_goto (tgt := 80) hx hb dX11_layer_71 (by decide) ?_
              exact W.iret (v := x70) hx hb hr (fun t ht _ => ⟨⟨x70, x70, rfl, ⟨rfl, trivial⟩, cW_at ht hW, ⟨mI_at ht hI, kp_at ht hV⟩⟩, hS.F ht⟩) hS.2.2 dX11_layer_80
          · have rp2_48 : ir p2 0 0 := rf_eq c48 (ir_c (0) (by decide) : ir (0 : Int32) (0) (0))
            refine lv_aload_n hx hb dX11_layer_51 rfl (lv_at hl 0 rfl) ?_
            refine wt_get hx hb hts cfX11 hown hK hW (cg11 k0) rfl 4 (by decide) q876 dX11_layer_52 (fun v hv => ?_)
            obtain ⟨x52, rfl, k52⟩ : gr N 42 v := hv
            refine lv_iload_n hx hb dX11_layer_55 rfl (lv_at hl 1 rfl) ?_
            refine wt_iald hx hb hK hW 0 (cg42 k52) rfl (ir_in (ir_w (lo' := 0) (hi' := 24) rp1_23 (by decide) (by decide)) (by decide) (by decide)) dX11_layer_56 (fun v hv => ?_)
            obtain ⟨x56, rfl, r56⟩ : gi 0 5 v := hv
            refine lv_goto (tgt := 80) hx hb dX11_layer_57 (by decide) ?_
            exact W.iret (v := x56) hx hb hr (fun t ht _ => ⟨⟨x56, x56, rfl, ⟨rfl, trivial⟩, cW_at ht hW, ⟨mI_at ht hI, kp_at ht hV⟩⟩, hS.F ht⟩) hS.2.2 dX11_layer_80
      · have rx32_35 : ir x32 0 0 := rf_eq c35 (ir_c (0) (by decide) : ir (0 : Int32) (0) (0))
        refine lv_sipush (v := -10000) hx hb dX11_layer_38 (by decide) ?_
        exact W.iret (v := (-10000 : Int32)) hx hb hr (fun t ht _ => ⟨⟨(-10000 : Int32), (-10000 : Int32), rfl, ⟨rfl, trivial⟩, cW_at ht hW, ⟨mI_at ht hI, kp_at ht hV⟩⟩, hS.F ht⟩) hS.2.2 dX11_layer_41
  · have rp1_2 : ir p1 (-1) (-1) := rf_eq c2 (ir_c (-1) (by decide) : ir (-1 : Int32) (-1) (-1))
    refine lv_aload_n hx hb dX11_layer_5 rfl (lv_at hl 0 rfl) ?_
    refine wt_getp hx hb hts cfX11 hown hK hW (cg11 k0) rfl 7 (by decide) (Or.inl (hts _ q879)) dX11_layer_6 (fun v hv nh0_7 => ?_)
    obtain ⟨x6, rfl, r6⟩ : gi 0 24 v := hv
    exact W.iret (v := x6) hx hb hr (fun t ht _ => ⟨⟨x6, x6, rfl, ⟨rfl, trivial⟩, cW_at ht hW, ⟨mI_at ht hI, kp_at ht hV⟩⟩, hS.F ht⟩) hS.2.2 dX11_layer_9
set_option maxHeartbeats 4000000 in
set_option maxRecDepth 100000 in
theorem m_X11_admittance (l : Launch) (N : c_N) (h0 : Nat) (k0 : N.2.2.1 h0 = some 11) (hO : mOK N) (V : Nat → Value) (p1 : Int32) (p2 : Int32) (p3 : Int32) : cMl2 l yX11_admittance cX11_admittance 14 .long { frames := 4, cells := 0, slots := 0, locals := 126 } [.ref h0, .int p1, .int p2, .int p3] N [11] (fun H => mI N h0 H ∧ kp N h0 [32, 33, 34, 35, 36, 37, 38] V H) (fun _ => True) (fun _ H => mI N h0 H ∧ kp N h0 [32, 33, 34, 35, 36, 37, 38] V H) := by
  refine Met.ofW (cc := cX11_admittance) (maxL := 14) (ret := some .long) (by decide) rfl ?_
  intro p e s m args below meth c s₁ B hml hv
  obtain ⟨rfl, ⟨hK, hW, hT, hnn⟩, hB⟩ := hv
  obtain ⟨hI, hV⟩ := hB
  have hx := B.exec
  have hb := B.bytes
  have hr := B.returns
  have hts : ∀ w ∈ lw_g, w.before _ s = true := fun w h => atoms_spec (ws := wc_ws yX11_admittance cX11_admittance 14 (some .long)) B.pre w (List.mem_cons_of_mem _ h)
  have hown : s.vm.findClass RX11 = some m.cls := findClass_of_methodNamed B.named
  have hlocks := B.notSynchronized
  have hS : va_S (cE N [11]) s.heap s.heap [] := va_S.rf
  have hl := lv_entry ([.ref h0, .int p1, .int p2, .int p3]) (n := 14) (Nat.le_of_ble_eq_true rfl)
  rw [lg_entry_eq]
  generalize (lg_sl ([.ref h0, .int p1, .int p2, .int p3]) ++ List.replicate (14 - (lg_sl ([.ref h0, .int p1, .int p2, .int p3])).length) Slot.unset).toArray = ls at hl ⊢
  have hl : lv_has ls 14 [(0, .ref h0), (1, .int p1), (2, .int p2), (3, .int p3)] := hl
  refine wq_all ?_
  intro WW w1 w2
  refine lv_iload_n hx hb dX11_admittance_0 rfl (lv_at hl 1 rfl) ?_
  refine lv_i2l hx hb dX11_admittance_1 rfl ?_
  refine lv_topl (fun x1 e1 => ?_)
  have r1 : lr x1 (-2147483648) 2147483647 := by rw [e1]; exact i2l_r (ir_any p1)
  have t1 : x1.toInt = p1.toInt := by rw [e1]; exact Int32.toInt_toInt64 p1
  refine lv_ldc2 hx hb hown (hts _ q1203) dX11_admittance_2 ?_
  refine lv_aload_n hx hb dX11_admittance_5 rfl (lv_at hl 0 rfl) ?_
  refine wt_getp hx hb hts cfX11 hown hK hW (cg11 k0) rfl 7 (by decide) (Or.inl (hts _ q879)) dX11_admittance_6 (fun v hv nh0_7 => ?_)
  obtain ⟨x6, rfl, r6⟩ : gi 0 24 v := hv
  refine lv_i2l hx hb dX11_admittance_9 rfl ?_
  refine lv_topl (fun x9 e9 => ?_)
  have r9 : lr x9 0 24 := by rw [e9]; exact i2l_r r6
  have t9 : x9.toInt = x6.toInt := by rw [e9]; exact Int32.toInt_toInt64 x6
  refine cp_i (wt_runS (As := [.long x1, .long (-1 : Int64), .long x9]) (rest := []) ⟨hx, hb, hml, hown, hts⟩ (m_X11_isIn l x1 (-1 : Int64) x9) wm_X11_isIn q1050 ⟨rfl, rfl⟩ ⟨Nat.le_of_ble_eq_true rfl, Nat.le_of_ble_eq_true rfl⟩ pS_pre rfl hl.1 rfl (Nat.le_of_ble_eq_true rfl) dX11_admittance_10 ⟨Nat.zero_le _, Nat.zero_le _⟩) hW hS (fun x10 H locs hp hW1 hS oq => ?_)
  have hV := hV.same hW k0 oq
  have hI := mI.fr.same hI hW oq
  have hW := hW1
  have nh0_7 := nh0_7.kept (oq _ nh0_7.lt (cE_not k0 (by decide)))
  obtain ⟨r10, b10⟩ := hp
  refine lv_if_eq (tgt := 36) hx hb dX11_admittance_13 (by decide) (fun c13 => ?_) (fun c13 => ?_)
  · have rx10_13 : ir x10 0 0 := rf_eq c13 (ir_c (0) (by decide) : ir (0 : Int32) (0) (0))
    refine lv_ldc2 hx hb hown (hts _ q1282) dX11_admittance_36 ?_
    exact W.lret (v := (-9223372036854775808 : Int64)) hx hb hr (fun t ht _ => ⟨⟨(-9223372036854775808 : Int64), (-9223372036854775808 : Int64), rfl, ⟨rfl, trivial⟩, cW_at ht hW, ⟨mI_at ht hI, kp_at ht hV⟩⟩, hS.F ht⟩) hS.2.2 dX11_admittance_39
  · have rx10_13 : ir x10 1 1 := rf_ne0 c13 r10
    have bx10_13 := b10 c13
    have rbx1_13 : lr x1 (-1) 24 := by have h5 := bx10_13; have h6 := r1; have h7 := (lr_c (-1) (by decide) : lr (-1 : Int64) (-1) (-1)); have h8 := r9; constructor <;> omega
    have rp1_13 : ir p1 (-1) 24 := i2l_b e1 rbx1_13
    refine lv_aload_n hx hb dX11_admittance_16 rfl (lv_at hl 0 rfl) ?_
    refine lv_iload_n hx hb dX11_admittance_17 rfl (lv_at hl 2 rfl) ?_
    obtain ⟨V1, hV1⟩ := kp_all hW k0
    refine cc_i2 (B2 := fun _ H => mI N h0 H ∧ kp N h0 [] V1 H) (wt_runV (As := [.int p2]) (rest := []) ⟨hx, hb, hml, hown, hts⟩ (m_X11_isMark l N h0 k0 hO V1 p2) wm_X11_isMark q1204 ⟨rfl, rfl⟩ ⟨Nat.le_of_ble_eq_true rfl, Nat.le_of_ble_eq_true rfl⟩ (cS_preV (B := fun H => mI N h0 H ∧ kp N h0 [] V1 H) hK hW hT hnn hS (cg11 k0) rfl rfl (And.intro hI (kp_of (F := []) hV1))) rfl hl.1 rfl (Nat.le_of_ble_eq_true rfl) dX11_admittance_18 ⟨Nat.zero_le _, Nat.zero_le _⟩) hS (by decide) (fun x18 H locs hp hW hS oq hB2 => ?_)
    obtain ⟨hI, hV2⟩ := hB2
    have hV := kp_call hV hV1 hV2 (by decide)
    have nh0_7 := kp_use hV1 hV2 (by decide) (by decide) nh0_7
    obtain ⟨r18, b18⟩ := hp
    refine lv_if_eq (tgt := 36) hx hb dX11_admittance_21 (by decide) (fun c21 => ?_) (fun c21 => ?_)
    · have rx18_21 : ir x18 0 0 := rf_eq c21 (ir_c (0) (by decide) : ir (0 : Int32) (0) (0))
      refine lv_ldc2 hx hb hown (hts _ q1282) dX11_admittance_36 ?_
      exact W.lret (v := (-9223372036854775808 : Int64)) hx hb hr (fun t ht _ => ⟨⟨(-9223372036854775808 : Int64), (-9223372036854775808 : Int64), rfl, ⟨rfl, trivial⟩, cW_at ht hW, ⟨mI_at ht hI, kp_at ht hV⟩⟩, hS.F ht⟩) hS.2.2 dX11_admittance_39
    · have rx18_21 : ir x18 1 1 := rf_ne0 c21 r18
      have bx18_21 := b18 c21
      refine lv_iload_n hx hb dX11_admittance_24 rfl (lv_at hl 3 rfl) ?_
      refine lv_i2l hx hb dX11_admittance_25 rfl ?_
      refine lv_topl (fun x25 e25 => ?_)
      have r25 : lr x25 (-2147483648) 2147483647 := by rw [e25]; exact i2l_r (ir_any p3)
      have t25 : x25.toInt = p3.toInt := by rw [e25]; exact Int32.toInt_toInt64 p3
      refine lv_lconst (v := 0) hx hb dX11_admittance_26 (by decide) ?_
      refine lv_ldc2 hx hb hown (hts _ q1209) dX11_admittance_27 ?_
      refine cp_i (wt_runS (As := [.long x25, .long (0 : Int64), .long (3 : Int64)]) (rest := []) ⟨hx, hb, hml, hown, hts⟩ (m_X11_isIn l x25 (0 : Int64) (3 : Int64)) wm_X11_isIn q1050 ⟨rfl, rfl⟩ ⟨Nat.le_of_ble_eq_true rfl, Nat.le_of_ble_eq_true rfl⟩ pS_pre rfl hl.1 rfl (Nat.le_of_ble_eq_true rfl) dX11_admittance_30 ⟨Nat.zero_le _, Nat.zero_le _⟩) hW hS (fun x30 H locs hp hW1 hS oq => ?_)
      have hV := hV.same hW k0 oq
      have hI := mI.fr.same hI hW oq
      have hW := hW1
      have nh0_7 := nh0_7.kept (oq _ nh0_7.lt (cE_not k0 (by decide)))
      obtain ⟨r30, b30⟩ := hp
      refine lv_if_ne (tgt := 40) hx hb dX11_admittance_33 (by decide) (fun c33 => ?_) (fun c33 => ?_)
      · have rx30_33 : ir x30 1 1 := rf_ne0 c33 r30
        have bx30_33 := b30 c33
        have rbx25_33 : lr x25 0 3 := by have h5 := bx30_33; have h6 := r25; have h7 := (lr_c (0) (by decide) : lr (0 : Int64) (0) (0)); have h8 := (lr_c (3) (by decide) : lr (3 : Int64) (3) (3)); constructor <;> omega
        have rp3_33 : ir p3 0 3 := i2l_b e25 rbx25_33
        refine lv_aload_n hx hb dX11_admittance_40 rfl (lv_at hl 0 rfl) ?_
        refine lv_aload_n hx hb dX11_admittance_41 rfl (lv_at hl 0 rfl) ?_
        refine lv_iload_n hx hb dX11_admittance_42 rfl (lv_at hl 1 rfl) ?_
        obtain ⟨V1, hV1⟩ := kp_all hW k0
        refine cc_i2 (B2 := fun r H => mI N h0 H ∧ kp N h0 [] V1 H ∧ r.toInt ≤ x6.toInt) (wt_runV (As := [.int p1]) (rest := [.ref h0]) ⟨hx, hb, hml, hown, hts⟩ (m_X11_manyOf l N h0 k0 hO V1 p1 rp1_13 x6 (by have h6 := rp1_13; have h7 := r6; omega)) wm_X11_manyOf q1211 ⟨rfl, rfl⟩ ⟨Nat.le_of_ble_eq_true rfl, Nat.le_of_ble_eq_true rfl⟩ (cS_preV (B := fun H => mI N h0 H ∧ kp N h0 [] V1 H ∧ wt_pin N.1 vwCl h0 11 7 (.int x6) H) hK hW hT hnn hS (cg11 k0) rfl rfl (And.intro hI (And.intro (kp_of (F := []) hV1) nh0_7))) rfl hl.1 rfl (Nat.le_of_ble_eq_true rfl) dX11_admittance_43 ⟨Nat.zero_le _, Nat.zero_le _⟩) hS (by decide) (fun x43 H locs hp hW hS oq hB2 => ?_)
        obtain ⟨hI, hV2, hB2⟩ := hB2
        have hV := kp_call hV hV1 hV2 (by decide)
        have l43 := hB2
        have nh0_7 := kp_use hV1 hV2 (by decide) (by decide) nh0_7
        have r43 : ir x43 0 24 := hp
        refine lv_iload_n hx hb dX11_admittance_46 rfl (lv_at hl 2 rfl) ?_
        obtain ⟨V1, hV1⟩ := kp_all hW k0
        refine cc_v (B2 := fun H => mI N h0 H ∧ kp N h0 [32, 33, 34, 35, 36, 37, 38] V1 H) (wt_runV (As := [.int x43, .int p2]) (rest := []) ⟨hx, hb, hml, hown, hts⟩ (m_X11_rows l N h0 k0 hO V1 x43 r43 p2 bx18_21 x6 (by have h6 := r43; have h7 := r6; omega)) wm_X11_rows q1215 ⟨rfl, rfl⟩ ⟨Nat.le_of_ble_eq_true rfl, Nat.le_of_ble_eq_true rfl⟩ (cS_preV (B := fun H => mI N h0 H ∧ kp N h0 [32, 33, 34, 35, 36, 37, 38] V1 H ∧ wt_pin N.1 vwCl h0 11 7 (.int x6) H) hK hW hT hnn hS (cg11 k0) rfl rfl (And.intro hI (And.intro (kp_of (F := [32, 33, 34, 35, 36, 37, 38]) hV1) nh0_7))) rfl hl.1 rfl (Nat.le_of_ble_eq_true rfl) dX11_admittance_47 ⟨Nat.zero_le _, Nat.zero_le _⟩) hS (by decide) (fun H locs hW hS oq hB2 => ?_)
        obtain ⟨hI, hV2⟩ := hB2
        have hV := kp_call hV hV1 hV2 (by decide)
        have nh0_7 := kp_use hV1 hV2 (by decide) (by decide) nh0_7
        refine lv_aload_n hx hb dX11_admittance_50 rfl (lv_at hl 0 rfl) ?_
        refine wt_getp hx hb hts cfX11 hown hK hW (cg11 k0) rfl 38 (by decide) (Or.inl (hts _ q910)) dX11_admittance_51 (fun v hv nh0_38 => ?_)
        obtain ⟨x51, rfl, r51⟩ : gi 0 1 v := hv
        refine lv_if_ne (tgt := 61) hx hb dX11_admittance_54 (by decide) (fun c54 => ?_) (fun c54 => ?_)
        · have rx51_54 : ir x51 1 1 := rf_ne0 c54 r51
          obtain ⟨a0, b0, c0, d0, f0, nh0_34, nh0_35, nh0_36, nh0_37, q38, hdet⟩ := hI.2.2.2.2
          have qf : Value.int f0 = .int x51 := pin_inj (by decide) q38 nh0_38
          have hdet : detOK a0 b0 c0 d0 := hdet (by intro h; cases qf; exact c54 h)
          refine lv_aload_n hx hb dX11_admittance_61 rfl (lv_at hl 0 rfl) ?_
          refine wt_get hx hb hts cfX11 hown hK hW (cg11 k0) rfl 0 (by decide) q872 dX11_admittance_62 (fun v hv => ?_)
          obtain ⟨x62, rfl, k62⟩ : gr N 40 v := hv
          refine lv_aload_n hx hb dX11_admittance_65 rfl (lv_at hl 0 rfl) ?_
          refine wt_getp hx hb hts cfX11 hown hK hW (cg11 k0) rfl 3 (by decide) (Or.inl (hts _ q875)) dX11_admittance_66 (fun v hv nh0_3 => ?_)
          obtain ⟨x66, rfl, r66⟩ : gi 0 5 v := hv
          refine wt_iald hx hb hK hW 0 (cg40 k62) rfl (ir_in r66 (by decide) (by decide)) dX11_admittance_69 (fun v hv => ?_)
          have hv : v = .int _ := hv
          subst hv
          refine lv_topi (fun x69 e69 => ?_)
          have r69 : ir x69 1 9 := mOK_r hO (Or.inl k62) (ir_in r66 (by decide) (by decide)) e69
          refine lv_i2l hx hb dX11_admittance_70 rfl ?_
          refine lv_topl (fun x70 e70 => ?_)
          have r70 : lr x70 1 9 := by rw [e70]; exact i2l_r r69
          have t70 : x70.toInt = x69.toInt := by rw [e70]; exact Int32.toInt_toInt64 x69
          refine lv_lstore (lv' := [(4, .long x70), (0, .ref h0), (1, .int p1), (2, .int p2), (3, .int p3)]) hx hb dX11_admittance_71 hl (by decide) rfl (fun ls hl => ?_)
          refine lv_aload_n hx hb dX11_admittance_73 rfl (lv_at hl 1 rfl) ?_
          refine wt_get hx hb hts cfX11 hown hK hW (cg11 k0) rfl 1 (by decide) q873 dX11_admittance_74 (fun v hv => ?_)
          obtain ⟨x74, rfl, k74⟩ : gr N 41 v := hv
          refine lv_aload_n hx hb dX11_admittance_77 rfl (lv_at hl 1 rfl) ?_
          refine wt_rel hx hb hts cfX11 hown hK nh0_3 rfl (by decide) (Or.inl (hts _ q875)) dX11_admittance_78 ?_
          refine wt_iald hx hb hK hW 0 (cg41 k74) rfl (ir_in r66 (by decide) (by decide)) dX11_admittance_81 (fun v hv => ?_)
          have hv : v = .int _ := hv
          subst hv
          refine lv_topi (fun x81 e81 => ?_)
          have r81 : ir x81 1 9 := mOK_r hO (Or.inr k74) (ir_in r66 (by decide) (by decide)) e81
          refine lv_i2l hx hb dX11_admittance_82 rfl ?_
          refine lv_topl (fun x82 e82 => ?_)
          have r82 : lr x82 1 9 := by rw [e82]; exact i2l_r r81
          have t82 : x82.toInt = x81.toInt := by rw [e82]; exact Int32.toInt_toInt64 x81
          refine lv_lstore (lv' := [(6, .long x82), (4, .long x70), (0, .ref h0), (1, .int p1), (2, .int p2), (3, .int p3)]) hx hb dX11_admittance_83 hl (by decide) rfl (fun ls hl => ?_)
          refine lv_lload hx hb dX11_admittance_85 (lv_at hl 0 rfl) ?_
          refine lv_aload_n hx hb dX11_admittance_87 rfl (lv_at hl 2 rfl) ?_
          refine wt_rel hx hb hts cfX11 hown hK nh0_34 rfl (by decide) (Or.inl (hts _ q906)) dX11_admittance_88 ?_
          refine lv_lmul hx hb dX11_admittance_91 ?_
          refine lv_topl (fun x91 e91 => ?_)
          have u91 := lt_mul e91 r82 hdet.1 9 10000000 (by decide) (by decide) (by decide) (by decide) (by decide)
          have t91 := u91.1
          have r91 : lr x91 (-90000000) 90000000 := lr_w u91.2 (by decide) (by decide)
          refine lv_lload hx hb dX11_admittance_92 (lv_at hl 0 rfl) ?_
          refine lv_lmul hx hb dX11_admittance_94 ?_
          refine lv_topl (fun x94 e94 => ?_)
          have u94 := lt_mul e94 r91 r82 90000000 9 (by decide) (by decide) (by decide) (by decide) (by decide)
          have t94 := u94.1
          have r94 : lr x94 (-810000000) 810000000 := lr_w u94.2 (by decide) (by decide)
          refine lv_aload_n hx hb dX11_admittance_95 rfl (lv_at hl 2 rfl) ?_
          refine wt_rel hx hb hts cfX11 hown hK nh0_34 rfl (by decide) (Or.inl (hts _ q906)) dX11_admittance_96 ?_
          refine lv_lmul hx hb dX11_admittance_99 ?_
          refine lv_topl (fun x99 e99 => ?_)
          have u99 := lt_mul e99 r94 hdet.1 810000000 10000000 (by decide) (by decide) (by decide) (by decide) (by decide)
          have t99 := u99.1
          have r99 : lr x99 (-8100000000000000) 8100000000000000 := lr_w u99.2 (by decide) (by decide)
          refine lv_lload hx hb dX11_admittance_100 (lv_at hl 1 rfl) ?_
          refine lv_aload_n hx hb dX11_admittance_102 rfl (lv_at hl 2 rfl) ?_
          refine wt_rel hx hb hts cfX11 hown hK nh0_35 rfl (by decide) (Or.inl (hts _ q907)) dX11_admittance_103 ?_
          refine lv_lmul hx hb dX11_admittance_106 ?_
          refine lv_topl (fun x106 e106 => ?_)
          have u106 := lt_mul e106 r70 hdet.2.1 9 10000000 (by decide) (by decide) (by decide) (by decide) (by decide)
          have t106 := u106.1
          have r106 : lr x106 (-90000000) 90000000 := lr_w u106.2 (by decide) (by decide)
          refine lv_lload hx hb dX11_admittance_107 (lv_at hl 1 rfl) ?_
          refine lv_lmul hx hb dX11_admittance_109 ?_
          refine lv_topl (fun x109 e109 => ?_)
          have u109 := lt_mul e109 r106 r70 90000000 9 (by decide) (by decide) (by decide) (by decide) (by decide)
          have t109 := u109.1
          have r109 : lr x109 (-810000000) 810000000 := lr_w u109.2 (by decide) (by decide)
          refine lv_aload_n hx hb dX11_admittance_110 rfl (lv_at hl 2 rfl) ?_
          refine wt_rel hx hb hts cfX11 hown hK nh0_35 rfl (by decide) (Or.inl (hts _ q907)) dX11_admittance_111 ?_
          refine lv_lmul hx hb dX11_admittance_114 ?_
          refine lv_topl (fun x114 e114 => ?_)
          have u114 := lt_mul e114 r109 hdet.2.1 810000000 10000000 (by decide) (by decide) (by decide) (by decide) (by decide)
          have t114 := u114.1
          have r114 : lr x114 (-8100000000000000) 8100000000000000 := lr_w u114.2 (by decide) (by decide)
          refine lv_ladd hx hb dX11_admittance_115 ?_
          refine lv_topl (fun x115 e115 => ?_)
          have t115 := lt_add e115 r99 r114 (by decide) (by decide)
          have r115 : lr x115 (-16200000000000000) 16200000000000000 := lr_add e115 r99 r114 (by decide) (by decide) (by decide) (by decide)
          refine lv_lstore (lv' := [(8, .long x115), (6, .long x82), (4, .long x70), (0, .ref h0), (1, .int p1), (2, .int p2), (3, .int p3)]) hx hb dX11_admittance_116 hl (by decide) rfl (fun ls hl => ?_)
          refine lv_iload_n hx hb dX11_admittance_118 rfl (lv_at hl 6 rfl) ?_
          refine lv_iconst (v := 2) hx hb dX11_admittance_119 (by decide) ?_
          refine lv_icmp_ge (tgt := 157) hx hb dX11_admittance_120 (by decide) (fun c120 => ?_) (fun c120 => ?_)
          · have rp3_120 : ir p3 2 3 := ⟨Int.le_trans (by decide) (rf_le c120 (ir_c (2) (by decide) : ir (2 : Int32) (2) (2)) rp3_33).2, (rp3_33).2⟩
            have d120 := Int32.le_iff_toInt_le.mp c120
            refine lv_lload hx hb dX11_admittance_157 (lv_at hl 1 rfl) ?_
            refine lv_aload_n hx hb dX11_admittance_159 rfl (lv_at hl 3 rfl) ?_
            refine wt_rel hx hb hts cfX11 hown hK nh0_34 rfl (by decide) (Or.inl (hts _ q906)) dX11_admittance_160 ?_
            refine lv_lmul hx hb dX11_admittance_163 ?_
            refine lv_topl (fun x163 e163 => ?_)
            have u163 := lt_mul e163 r82 hdet.1 9 10000000 (by decide) (by decide) (by decide) (by decide) (by decide)
            have t163 := u163.1
            have r163 : lr x163 (-90000000) 90000000 := lr_w u163.2 (by decide) (by decide)
            refine lv_lload hx hb dX11_admittance_164 (lv_at hl 1 rfl) ?_
            refine lv_lmul hx hb dX11_admittance_166 ?_
            refine lv_topl (fun x166 e166 => ?_)
            have u166 := lt_mul e166 r163 r82 90000000 9 (by decide) (by decide) (by decide) (by decide) (by decide)
            have t166 := u166.1
            have r166 : lr x166 (-810000000) 810000000 := lr_w u166.2 (by decide) (by decide)
            refine lv_aload_n hx hb dX11_admittance_167 rfl (lv_at hl 3 rfl) ?_
            refine wt_rel hx hb hts cfX11 hown hK nh0_36 rfl (by decide) (Or.inl (hts _ q908)) dX11_admittance_168 ?_
            refine lv_lmul hx hb dX11_admittance_171 ?_
            refine lv_topl (fun x171 e171 => ?_)
            have u171 := lt_mul e171 r166 hdet.2.2.1 810000000 10000000 (by decide) (by decide) (by decide) (by decide) (by decide)
            have t171 := u171.1
            have r171 : lr x171 (-8100000000000000) 8100000000000000 := lr_w u171.2 (by decide) (by decide)
            refine lv_lload hx hb dX11_admittance_172 (lv_at hl 2 rfl) ?_
            refine lv_aload_n hx hb dX11_admittance_174 rfl (lv_at hl 3 rfl) ?_
            refine wt_rel hx hb hts cfX11 hown hK nh0_35 rfl (by decide) (Or.inl (hts _ q907)) dX11_admittance_175 ?_
            refine lv_lmul hx hb dX11_admittance_178 ?_
            refine lv_topl (fun x178 e178 => ?_)
            have u178 := lt_mul e178 r70 hdet.2.1 9 10000000 (by decide) (by decide) (by decide) (by decide) (by decide)
            have t178 := u178.1
            have r178 : lr x178 (-90000000) 90000000 := lr_w u178.2 (by decide) (by decide)
            refine lv_lload hx hb dX11_admittance_179 (lv_at hl 2 rfl) ?_
            refine lv_lmul hx hb dX11_admittance_181 ?_
            refine lv_topl (fun x181 e181 => ?_)
            have u181 := lt_mul e181 r178 r70 90000000 9 (by decide) (by decide) (by decide) (by decide) (by decide)
            have t181 := u181.1
            have r181 : lr x181 (-810000000) 810000000 := lr_w u181.2 (by decide) (by decide)
            refine lv_aload_n hx hb dX11_admittance_182 rfl (lv_at hl 3 rfl) ?_
            refine wt_rel hx hb hts cfX11 hown hK nh0_37 rfl (by decide) (Or.inl (hts _ q909)) dX11_admittance_183 ?_
            refine lv_lmul hx hb dX11_admittance_186 ?_
            refine lv_topl (fun x186 e186 => ?_)
            have u186 := lt_mul e186 r181 hdet.2.2.2.1 810000000 10000000 (by decide) (by decide) (by decide) (by decide) (by decide)
            have t186 := u186.1
            have r186 : lr x186 (-8100000000000000) 8100000000000000 := lr_w u186.2 (by decide) (by decide)
            refine lv_lsub hx hb dX11_admittance_187 ?_
            refine lv_topl (fun x187 e187 => ?_)
            have t187 := lt_sub e187 r171 r186 (by decide) (by decide)
            have r187 : lr x187 (-16200000000000000) 16200000000000000 := lr_sub e187 r171 r186 (by decide) (by decide) (by decide) (by decide)
            refine lv_lstore (lv' := [(10, .long x187), (8, .long x115), (6, .long x82), (4, .long x70), (0, .ref h0), (1, .int p1), (2, .int p2), (3, .int p3)]) hx hb dX11_admittance_188 hl (by decide) rfl (fun ls hl => ?_)
            refine lv_lload hx hb dX11_admittance_190 (lv_at hl 0 rfl) ?_
            refine lv_lload hx hb dX11_admittance_192 (lv_at hl 1 rfl) ?_
            refine cp_l (wt_runS (As := [.long x187, .long x115]) (rest := []) ⟨hx, hb, hml, hown, hts⟩ (m_X11_gcd l x187 (lr_w (lo' := -9223372036854775807) (hi' := 9223372036854775807) r187 (by decide) (by decide)) x115 (lr_w (lo' := -9223372036854775807) (hi' := 9223372036854775807) r115 (by decide) (by decide))) wm_X11_gcd q1054 ⟨rfl, rfl⟩ ⟨Nat.le_of_ble_eq_true rfl, Nat.le_of_ble_eq_true rfl⟩ pS_pre rfl hl.1 rfl (Nat.le_of_ble_eq_true rfl) dX11_admittance_194 ⟨Nat.zero_le _, Nat.zero_le _⟩) hW hS (fun x194 H locs hp hW1 hS oq => ?_)
            have hV := hV.same hW k0 oq
            have hI := mI.fr.same hI hW oq
            have hW := hW1
            have nh0_7 := nh0_7.kept (oq _ nh0_7.lt (cE_not k0 (by decide)))
            have nh0_38 := nh0_38.kept (oq _ nh0_38.lt (cE_not k0 (by decide)))
            have nh0_34 := nh0_34.kept (oq _ nh0_34.lt (cE_not k0 (by decide)))
            have nh0_35 := nh0_35.kept (oq _ nh0_35.lt (cE_not k0 (by decide)))
            have nh0_36 := nh0_36.kept (oq _ nh0_36.lt (cE_not k0 (by decide)))
            have nh0_37 := nh0_37.kept (oq _ nh0_37.lt (cE_not k0 (by decide)))
            have nh0_3 := nh0_3.kept (oq _ nh0_3.lt (cE_not k0 (by decide)))
            have y194 : x194.toInt = ((Int.gcd x187.toInt x115.toInt : Nat) : Int) := hp
            have s194 : lr x194 0 9223372036854775807 := ⟨gcd_bd y194, (lr_any x194).2⟩
            have hall : 0 < x115.toInt := by rw [t115, t99, t94, t91, t114, t109, t106]; exact adm_pos r70.1 r82.1 hdet.2.2.2.2
            have z194 : x194.toInt ≠ 0 := gcd_ne y194 (Or.inr (by omega))
            refine lv_lstore (lv' := [(12, .long x194), (10, .long x187), (8, .long x115), (6, .long x82), (4, .long x70), (0, .ref h0), (1, .int p1), (2, .int p2), (3, .int p3)]) hx hb dX11_admittance_197 hl (by decide) rfl (fun ls hl => ?_)
            refine lv_iload_n hx hb dX11_admittance_199 rfl (lv_at hl 8 rfl) ?_
            refine lv_iconst (v := 2) hx hb dX11_admittance_200 (by decide) ?_
            refine lv_irem hx hb dX11_admittance_201 (by decide) ?_
            refine lv_topi (fun x201 e201 => ?_)
            have r201 : ir x201 0 1 := ir_remr e201 rp3_120 (by decide) 2 (by decide) (by decide) (by decide) (by decide)
            refine lv_if_ne (tgt := 213) hx hb dX11_admittance_202 (by decide) (fun c202 => ?_) (fun c202 => ?_)
            · have rx201_202 : ir x201 1 1 := rf_ne0 c202 r201
              refine lv_lload hx hb dX11_admittance_213 (lv_at hl 2 rfl) ?_
              refine lv_lload hx hb dX11_admittance_215 (lv_at hl 0 rfl) ?_
              refine lv_ldiv hx hb dX11_admittance_217 (l_ne0 z194) ?_
              refine lv_topl (fun x217 e217 => ?_)
              have t217 := lt_div e217 (l_ne0 z194) r115 (by decide)
              have r217 : lr x217 (-16200000000000000) 16200000000000000 := lr_div e217 (l_ne0 z194) r115 (by decide) 16200000000000000 (by decide) (by decide)
              exact W.lret (v := x217) hx hb hr (fun t ht _ => ⟨⟨x217, x217, rfl, ⟨rfl, trivial⟩, cW_at ht hW, ⟨mI_at ht hI, kp_at ht hV⟩⟩, hS.F ht⟩) hS.2.2 dX11_admittance_218
            · have rx201_202 : ir x201 0 0 := rf_eq c202 (ir_c (0) (by decide) : ir (0 : Int32) (0) (0))
              refine lv_lload hx hb dX11_admittance_205 (lv_at hl 1 rfl) ?_
              refine lv_lload hx hb dX11_admittance_207 (lv_at hl 0 rfl) ?_
              refine lv_ldiv hx hb dX11_admittance_209 (l_ne0 z194) ?_
              refine lv_topl (fun x209 e209 => ?_)
              have t209 := lt_div e209 (l_ne0 z194) r187 (by decide)
              have r209 : lr x209 (-16200000000000000) 16200000000000000 := lr_div e209 (l_ne0 z194) r187 (by decide) 16200000000000000 (by decide) (by decide)
              refine lv_goto (tgt := 218) hx hb dX11_admittance_210 (by decide) ?_
              exact W.lret (v := x209) hx hb hr (fun t ht _ => ⟨⟨x209, x209, rfl, ⟨rfl, trivial⟩, cW_at ht hW, ⟨mI_at ht hI, kp_at ht hV⟩⟩, hS.F ht⟩) hS.2.2 dX11_admittance_218
          · have rp3_120 : ir p3 0 1 := ⟨(rp3_33).1, Int.le_trans (rf_lt (rf_nle c120) rp3_33 (ir_c (2) (by decide) : ir (2 : Int32) (2) (2))).1 (by decide)⟩
            have d120 := Int32.lt_iff_toInt_lt.mp (rf_nle c120)
            refine lv_lload hx hb dX11_admittance_123 (lv_at hl 1 rfl) ?_
            refine lv_aload_n hx hb dX11_admittance_125 rfl (lv_at hl 3 rfl) ?_
            refine wt_rel hx hb hts cfX11 hown hK nh0_34 rfl (by decide) (Or.inl (hts _ q906)) dX11_admittance_126 ?_
            refine lv_lmul hx hb dX11_admittance_129 ?_
            refine lv_topl (fun x129 e129 => ?_)
            have u129 := lt_mul e129 r82 hdet.1 9 10000000 (by decide) (by decide) (by decide) (by decide) (by decide)
            have t129 := u129.1
            have r129 : lr x129 (-90000000) 90000000 := lr_w u129.2 (by decide) (by decide)
            refine lv_lload hx hb dX11_admittance_130 (lv_at hl 2 rfl) ?_
            refine lv_lmul hx hb dX11_admittance_132 ?_
            refine lv_topl (fun x132 e132 => ?_)
            have u132 := lt_mul e132 r129 r70 90000000 9 (by decide) (by decide) (by decide) (by decide) (by decide)
            have t132 := u132.1
            have r132 : lr x132 (-810000000) 810000000 := lr_w u132.2 (by decide) (by decide)
            refine lv_aload_n hx hb dX11_admittance_133 rfl (lv_at hl 3 rfl) ?_
            refine wt_rel hx hb hts cfX11 hown hK nh0_37 rfl (by decide) (Or.inl (hts _ q909)) dX11_admittance_134 ?_
            refine lv_lmul hx hb dX11_admittance_137 ?_
            refine lv_topl (fun x137 e137 => ?_)
            have u137 := lt_mul e137 r132 hdet.2.2.2.1 810000000 10000000 (by decide) (by decide) (by decide) (by decide) (by decide)
            have t137 := u137.1
            have r137 : lr x137 (-8100000000000000) 8100000000000000 := lr_w u137.2 (by decide) (by decide)
            refine lv_lload hx hb dX11_admittance_138 (lv_at hl 2 rfl) ?_
            refine lv_aload_n hx hb dX11_admittance_140 rfl (lv_at hl 3 rfl) ?_
            refine wt_rel hx hb hts cfX11 hown hK nh0_35 rfl (by decide) (Or.inl (hts _ q907)) dX11_admittance_141 ?_
            refine lv_lmul hx hb dX11_admittance_144 ?_
            refine lv_topl (fun x144 e144 => ?_)
            have u144 := lt_mul e144 r70 hdet.2.1 9 10000000 (by decide) (by decide) (by decide) (by decide) (by decide)
            have t144 := u144.1
            have r144 : lr x144 (-90000000) 90000000 := lr_w u144.2 (by decide) (by decide)
            refine lv_lload hx hb dX11_admittance_145 (lv_at hl 1 rfl) ?_
            refine lv_lmul hx hb dX11_admittance_147 ?_
            refine lv_topl (fun x147 e147 => ?_)
            have u147 := lt_mul e147 r144 r82 90000000 9 (by decide) (by decide) (by decide) (by decide) (by decide)
            have t147 := u147.1
            have r147 : lr x147 (-810000000) 810000000 := lr_w u147.2 (by decide) (by decide)
            refine lv_aload_n hx hb dX11_admittance_148 rfl (lv_at hl 3 rfl) ?_
            refine wt_rel hx hb hts cfX11 hown hK nh0_36 rfl (by decide) (Or.inl (hts _ q908)) dX11_admittance_149 ?_
            refine lv_lmul hx hb dX11_admittance_152 ?_
            refine lv_topl (fun x152 e152 => ?_)
            have u152 := lt_mul e152 r147 hdet.2.2.1 810000000 10000000 (by decide) (by decide) (by decide) (by decide) (by decide)
            have t152 := u152.1
            have r152 : lr x152 (-8100000000000000) 8100000000000000 := lr_w u152.2 (by decide) (by decide)
            refine lv_ladd hx hb dX11_admittance_153 ?_
            refine lv_topl (fun x153 e153 => ?_)
            have t153 := lt_add e153 r137 r152 (by decide) (by decide)
            have r153 : lr x153 (-16200000000000000) 16200000000000000 := lr_add e153 r137 r152 (by decide) (by decide) (by decide) (by decide)
            refine lv_goto (tgt := 188) hx hb dX11_admittance_154 (by decide) ?_
            refine lv_lstore (lv' := [(10, .long x153), (8, .long x115), (6, .long x82), (4, .long x70), (0, .ref h0), (1, .int p1), (2, .int p2), (3, .int p3)]) hx hb dX11_admittance_188 hl (by decide) rfl (fun ls hl => ?_)
            refine lv_lload hx hb dX11_admittance_190 (lv_at hl 0 rfl) ?_
            refine lv_lload hx hb dX11_admittance_192 (lv_at hl 1 rfl) ?_
            refine cp_l (wt_runS (As := [.long x153, .long x115]) (rest := []) ⟨hx, hb, hml, hown, hts⟩ (m_X11_gcd l x153 (lr_w (lo' := -9223372036854775807) (hi' := 9223372036854775807) r153 (by decide) (by decide)) x115 (lr_w (lo' := -9223372036854775807) (hi' := 9223372036854775807) r115 (by decide) (by decide))) wm_X11_gcd q1054 ⟨rfl, rfl⟩ ⟨Nat.le_of_ble_eq_true rfl, Nat.le_of_ble_eq_true rfl⟩ pS_pre rfl hl.1 rfl (Nat.le_of_ble_eq_true rfl) dX11_admittance_194 ⟨Nat.zero_le _, Nat.zero_le _⟩) hW hS (fun x194 H locs hp hW1 hS oq => ?_)
            have hV := hV.same hW k0 oq
            have hI := mI.fr.same hI hW oq
            have hW := hW1
            have nh0_7 := nh0_7.kept (oq _ nh0_7.lt (cE_not k0 (by decide)))
            have nh0_38 := nh0_38.kept (oq _ nh0_38.lt (cE_not k0 (by decide)))
            have nh0_34 := nh0_34.kept (oq _ nh0_34.lt (cE_not k0 (by decide)))
            have nh0_35 := nh0_35.kept (oq _ nh0_35.lt (cE_not k0 (by decide)))
            have nh0_36 := nh0_36.kept (oq _ nh0_36.lt (cE_not k0 (by decide)))
            have nh0_37 := nh0_37.kept (oq _ nh0_37.lt (cE_not k0 (by decide)))
            have nh0_3 := nh0_3.kept (oq _ nh0_3.lt (cE_not k0 (by decide)))
            have y194 : x194.toInt = ((Int.gcd x153.toInt x115.toInt : Nat) : Int) := hp
            have s194 : lr x194 0 9223372036854775807 := ⟨gcd_bd y194, (lr_any x194).2⟩
            have hall : 0 < x115.toInt := by rw [t115, t99, t94, t91, t114, t109, t106]; exact adm_pos r70.1 r82.1 hdet.2.2.2.2
            have z194 : x194.toInt ≠ 0 := gcd_ne y194 (Or.inr (by omega))
            refine lv_lstore (lv' := [(12, .long x194), (10, .long x153), (8, .long x115), (6, .long x82), (4, .long x70), (0, .ref h0), (1, .int p1), (2, .int p2), (3, .int p3)]) hx hb dX11_admittance_197 hl (by decide) rfl (fun ls hl => ?_)
            refine lv_iload_n hx hb dX11_admittance_199 rfl (lv_at hl 8 rfl) ?_
            refine lv_iconst (v := 2) hx hb dX11_admittance_200 (by decide) ?_
            refine lv_irem hx hb dX11_admittance_201 (by decide) ?_
            refine lv_topi (fun x201 e201 => ?_)
            have r201 : ir x201 0 1 := ir_remr e201 rp3_120 (by decide) 2 (by decide) (by decide) (by decide) (by decide)
            refine lv_if_ne (tgt := 213) hx hb dX11_admittance_202 (by decide) (fun c202 => ?_) (fun c202 => ?_)
            · have rx201_202 : ir x201 1 1 := rf_ne0 c202 r201
              refine lv_lload hx hb dX11_admittance_213 (lv_at hl 2 rfl) ?_
              refine lv_lload hx hb dX11_admittance_215 (lv_at hl 0 rfl) ?_
              refine lv_ldiv hx hb dX11_admittance_217 (l_ne0 z194) ?_
              refine lv_topl (fun x217 e217 => ?_)
              have t217 := lt_div e217 (l_ne0 z194) r115 (by decide)
              have r217 : lr x217 (-16200000000000000) 16200000000000000 := lr_div e217 (l_ne0 z194) r115 (by decide) 16200000000000000 (by decide) (by decide)
              exact W.lret (v := x217) hx hb hr (fun t ht _ => ⟨⟨x217, x217, rfl, ⟨rfl, trivial⟩, cW_at ht hW, ⟨mI_at ht hI, kp_at ht hV⟩⟩, hS.F ht⟩) hS.2.2 dX11_admittance_218
            · have rx201_202 : ir x201 0 0 := rf_eq c202 (ir_c (0) (by decide) : ir (0 : Int32) (0) (0))
              refine lv_lload hx hb dX11_admittance_205 (lv_at hl 1 rfl) ?_
              refine lv_lload hx hb dX11_admittance_207 (lv_at hl 0 rfl) ?_
              refine lv_ldiv hx hb dX11_admittance_209 (l_ne0 z194) ?_
              refine lv_topl (fun x209 e209 => ?_)
              have t209 := lt_div e209 (l_ne0 z194) r153 (by decide)
              have r209 : lr x209 (-16200000000000000) 16200000000000000 := lr_div e209 (l_ne0 z194) r153 (by decide) 16200000000000000 (by decide) (by decide)
              refine lv_goto (tgt := 218) hx hb dX11_admittance_210 (by decide) ?_
              exact W.lret (v := x209) hx hb hr (fun t ht _ => ⟨⟨x209, x209, rfl, ⟨rfl, trivial⟩, cW_at ht hW, ⟨mI_at ht hI, kp_at ht hV⟩⟩, hS.F ht⟩) hS.2.2 dX11_admittance_218
        · have rx51_54 : ir x51 0 0 := rf_eq c54 (ir_c (0) (by decide) : ir (0 : Int32) (0) (0))
          refine lv_ldc2 hx hb hown (hts _ q1282) dX11_admittance_57 ?_
          exact W.lret (v := (-9223372036854775808 : Int64)) hx hb hr (fun t ht _ => ⟨⟨(-9223372036854775808 : Int64), (-9223372036854775808 : Int64), rfl, ⟨rfl, trivial⟩, cW_at ht hW, ⟨mI_at ht hI, kp_at ht hV⟩⟩, hS.F ht⟩) hS.2.2 dX11_admittance_60
      · have rx30_33 : ir x30 0 0 := rf_eq c33 (ir_c (0) (by decide) : ir (0 : Int32) (0) (0))
        refine lv_ldc2 hx hb hown (hts _ q1282) dX11_admittance_36 ?_
        exact W.lret (v := (-9223372036854775808 : Int64)) hx hb hr (fun t ht _ => ⟨⟨(-9223372036854775808 : Int64), (-9223372036854775808 : Int64), rfl, ⟨rfl, trivial⟩, cW_at ht hW, ⟨mI_at ht hI, kp_at ht hV⟩⟩, hS.F ht⟩) hS.2.2 dX11_admittance_39
set_option maxHeartbeats 4000000 in
set_option maxRecDepth 100000 in
theorem m_X11_slips (l : Launch) (N : c_N) (h0 : Nat) (k0 : N.2.2.1 h0 = some 11) (hO : mOK N) (V : Nat → Value) (p1 : Int32) (rp1 : ir p1 1 4) (p2 : Int32) (rp2 : ir p2 2 12) (p3 : Int32) (p4 : Int32) : cMi2 l yX11_slips cX11_slips 12 .boolean { frames := 3, cells := 0, slots := 0, locals := 103 } [.ref h0, .int p1, .int p2, .int p3, .int p4] N [11] (fun H => mI N h0 H ∧ kp N h0 [32, 33, 34, 35, 36, 37, 38, 39, 40, 41, 42] V H) (fun r => ir r 0 1) (fun r H => mI N h0 H ∧ kp N h0 [32, 33, 34, 35, 36, 37, 38, 39, 40, 41, 42] V H ∧ (¬ r = 0 → ∃ bu bb : Int64, pL N h0 39 bu H ∧ pL N h0 40 bb H ∧ 0 ≤ bu.toInt ∧ 1 ≤ bb.toInt)) := by
  refine Met.ofW (cc := cX11_slips) (maxL := 12) (ret := some .boolean) (by decide) rfl ?_
  intro p e s m args below meth c s₁ B hml hv
  obtain ⟨rfl, ⟨hK, hW, hT, hnn⟩, hB⟩ := hv
  obtain ⟨hI, hV⟩ := hB
  have hx := B.exec
  have hb := B.bytes
  have hr := B.returns
  have hts : ∀ w ∈ lw_g, w.before _ s = true := fun w h => atoms_spec (ws := wc_ws yX11_slips cX11_slips 12 (some .boolean)) B.pre w (List.mem_cons_of_mem _ h)
  have hown : s.vm.findClass RX11 = some m.cls := findClass_of_methodNamed B.named
  have hlocks := B.notSynchronized
  have hS : va_S (cE N [11]) s.heap s.heap [] := va_S.rf
  have hl := lv_entry ([.ref h0, .int p1, .int p2, .int p3, .int p4]) (n := 12) (Nat.le_of_ble_eq_true rfl)
  rw [lg_entry_eq]
  generalize (lg_sl ([.ref h0, .int p1, .int p2, .int p3, .int p4]) ++ List.replicate (12 - (lg_sl ([.ref h0, .int p1, .int p2, .int p3, .int p4])).length) Slot.unset).toArray = ls at hl ⊢
  have hl : lv_has ls 12 [(0, .ref h0), (1, .int p1), (2, .int p2), (3, .int p3), (4, .int p4)] := hl
  refine wq_all ?_
  intro WW w1 w2
  have L7 : ∀ (n : Nat) (H : Heap) (locs : List Loc) (ls : Array Slot) (v7_5 : Int32), cW N H → mI N h0 H → kp N h0 [32, 33, 34, 35, 36, 37, 38, 39, 40, 41, 42] V H → va_S (cE N [11]) s.heap H locs → lv_has ls 12 [(0, .ref h0), (1, .int p1), (2, .int p2), (3, .int p3), (4, .int p4), (5, .int v7_5)] → ir p1 1 4 → ir p2 2 12 → ir v7_5 0 24 → 24 - v7_5.toInt < (n : Int) → WW H locs (F0 m 7 ls []) := by
    intro n
    induction n with
    | zero =>
      intro H locs ls v7_5 hW hI hV hS hl rv7_1 rv7_2 rv7_5 mu7
      exfalso
      omega
    | succ n ih7 =>
      intro H locs ls v7_5 hW hI hV hS hl rv7_1 rv7_2 rv7_5 mu7
      refine w1 _ _ _ ?_
      refine lv_iload hx hb dX11_slips_7 (lv_at hl 5 rfl) ?_
      refine lv_aload_n hx hb dX11_slips_9 rfl (lv_at hl 0 rfl) ?_
      refine wt_getp hx hb hts cfX11 hown hK hW (cg11 k0) rfl 7 (by decide) (Or.inl (hts _ q879)) dX11_slips_10 (fun v hv nh0_7 => ?_)
      obtain ⟨x10, rfl, r10⟩ : gi 0 24 v := hv
      refine lv_icmp_ge (tgt := 131) hx hb dX11_slips_13 (by decide) (fun c13 => ?_) (fun c13 => ?_)
      · have d13 := Int32.le_iff_toInt_le.mp c13
        refine lv_aload_n hx hb dX11_slips_131 rfl (lv_at hl 0 rfl) ?_
        refine wt_getp hx hb hts cfX11 hown hK hW (cg11 k0) rfl 38 (by decide) (Or.inl (hts _ q910)) dX11_slips_132 (fun v hv nh0_38 => ?_)
        obtain ⟨x132, rfl, r132⟩ : gi 0 1 v := hv
        refine lv_if_eq (tgt := 142) hx hb dX11_slips_135 (by decide) (fun c135 => ?_) (fun c135 => ?_)
        · have rx132_135 : ir x132 0 0 := rf_eq c135 (ir_c (0) (by decide) : ir (0 : Int32) (0) (0))
          refine lv_aload_n hx hb dX11_slips_142 rfl (lv_at hl 0 rfl) ?_
          refine wt_rel hx hb hts cfX11 hown hK nh0_38 rfl (by decide) (Or.inl (hts _ q910)) dX11_slips_143 ?_
          exact W.zret (v := x132) hx hb hr (nar01 (ir_w (lo' := 0) (hi' := 1) rx132_135 (by decide) (by decide))) (fun t ht _ => ⟨⟨x132, x132, rfl, ⟨rfl, (ir_w (lo' := 0) (hi' := 1) rx132_135 (by decide) (by decide))⟩, cW_at ht hW, ⟨mI_at ht hI, kp_at ht hV, fun h => absurd (i_eq0 rx132_135) h⟩⟩, hS.F ht⟩) hS.2.2 dX11_slips_146
        · have rx132_135 : ir x132 1 1 := rf_ne0 c135 r132
          refine lv_aload_n hx hb dX11_slips_138 rfl (lv_at hl 0 rfl) ?_
          obtain ⟨V1, hV1⟩ := kp_all hW k0
          refine cc_v (B2 := fun H => mI N h0 H ∧ kp N h0 [39, 40, 41, 42] V1 H ∧ ∃ bu bb : Int64, pL N h0 39 bu H ∧ pL N h0 40 bb H ∧ 0 ≤ bu.toInt ∧ 1 ≤ bb.toInt) (wt_runV (As := []) (rest := []) ⟨hx, hb, hml, hown, hts⟩ (m_X11_lights l N h0 k0 hO V1 x132 (i_ne0 rx132_135 (by decide))) wm_X11_lights q1242 ⟨rfl, rfl⟩ ⟨Nat.le_of_ble_eq_true rfl, Nat.le_of_ble_eq_true rfl⟩ (cS_preV (B := fun H => mI N h0 H ∧ kp N h0 [39, 40, 41, 42] V1 H ∧ wt_pin N.1 vwCl h0 11 38 (.int x132) H) hK hW hT hnn hS (cg11 k0) rfl rfl (And.intro hI (And.intro (kp_of (F := [39, 40, 41, 42]) hV1) nh0_38))) rfl hl.1 rfl (Nat.le_of_ble_eq_true rfl) dX11_slips_139 ⟨Nat.zero_le _, Nat.zero_le _⟩) hS (by decide) (fun H locs hW hS oq hB2 => ?_)
          obtain ⟨hI, hV2, hB2⟩ := hB2
          have hV := kp_call hV hV1 hV2 (by decide)
          obtain ⟨bu139, bb139, nh0_39, nh0_40, vu139, vb139⟩ := hB2
          have nh0_7 := kp_use hV1 hV2 (by decide) (by decide) nh0_7
          have nh0_38 := kp_use hV1 hV2 (by decide) (by decide) nh0_38
          refine lv_aload_n hx hb dX11_slips_142 rfl (lv_at hl 0 rfl) ?_
          refine wt_rel hx hb hts cfX11 hown hK nh0_38 rfl (by decide) (Or.inl (hts _ q910)) dX11_slips_143 ?_
          exact W.zret (v := x132) hx hb hr (nar01 (ir_w (lo' := 0) (hi' := 1) rx132_135 (by decide) (by decide))) (fun t ht _ => ⟨⟨x132, x132, rfl, ⟨rfl, (ir_w (lo' := 0) (hi' := 1) rx132_135 (by decide) (by decide))⟩, cW_at ht hW, ⟨mI_at ht hI, kp_at ht hV, fun _ => ⟨_, _, pin_at ht nh0_39, pin_at ht nh0_40, ((⟨vu139, (lr_any bu139).2⟩ : lr bu139 0 9223372036854775807)).1, ((⟨vb139, (lr_any bb139).2⟩ : lr bb139 1 9223372036854775807)).1⟩⟩⟩, hS.F ht⟩) hS.2.2 dX11_slips_146
      · have rv7_5_13 : ir v7_5 0 23 := ⟨(rv7_5).1, Int.le_trans (rf_lt (rf_nle c13) rv7_5 r10).1 (by decide)⟩
        have rx10_13 : ir x10 1 24 := ⟨Int.le_trans (by decide) (rf_lt (rf_nle c13) rv7_5 r10).2, (r10).2⟩
        have d13 := Int32.lt_iff_toInt_lt.mp (rf_nle c13)
        refine lv_aload_n hx hb dX11_slips_16 rfl (lv_at hl 0 rfl) ?_
        refine wt_get hx hb hts cfX11 hown hK hW (cg11 k0) rfl 5 (by decide) q877 dX11_slips_17 (fun v hv => ?_)
        obtain ⟨x17, rfl, k17⟩ : gr N 43 v := hv
        refine lv_iload hx hb dX11_slips_20 (lv_at hl 5 rfl) ?_
        refine wt_ialdx hx hb hK hW 0 (cg43 k17) rfl (ir_in (ir_w (lo' := 0) (hi' := 24) rv7_5_13 (by decide) (by decide)) (by decide) (by decide)) dX11_slips_22 (fun v hv ap22 => ?_)
        obtain ⟨x22, rfl, r22⟩ : gi 0 6 v := hv
        refine lv_i2l hx hb dX11_slips_23 rfl ?_
        refine lv_topl (fun x23 e23 => ?_)
        have r23 : lr x23 0 6 := by rw [e23]; exact i2l_r r22
        have t23 : x23.toInt = x22.toInt := by rw [e23]; exact Int32.toInt_toInt64 x22
        refine lv_lstore (lv' := [(6, .long x23), (0, .ref h0), (1, .int p1), (2, .int p2), (3, .int p3), (4, .int p4), (5, .int v7_5)]) hx hb dX11_slips_24 hl (by decide) rfl (fun ls hl => ?_)
        refine lv_aload_n hx hb dX11_slips_26 rfl (lv_at hl 1 rfl) ?_
        refine wt_get hx hb hts cfX11 hown hK hW (cg11 k0) rfl 6 (by decide) q878 dX11_slips_27 (fun v hv => ?_)
        obtain ⟨x27, rfl, k27⟩ : gr N 44 v := hv
        refine lv_iload hx hb dX11_slips_30 (lv_at hl 6 rfl) ?_
        refine wt_ialdx hx hb hK hW 0 (cg44 k27) rfl (ir_in (ir_w (lo' := 0) (hi' := 24) rv7_5_13 (by decide) (by decide)) (by decide) (by decide)) dX11_slips_32 (fun v hv ap32 => ?_)
        obtain ⟨x32, rfl, r32⟩ : gi 0 6 v := hv
        refine lv_i2l hx hb dX11_slips_33 rfl ?_
        refine lv_topl (fun x33 e33 => ?_)
        have r33 : lr x33 0 6 := by rw [e33]; exact i2l_r r32
        have t33 : x33.toInt = x32.toInt := by rw [e33]; exact Int32.toInt_toInt64 x32
        refine lv_lstore (lv' := [(8, .long x33), (6, .long x23), (0, .ref h0), (1, .int p1), (2, .int p2), (3, .int p3), (4, .int p4), (5, .int v7_5)]) hx hb dX11_slips_34 hl (by decide) rfl (fun ls hl => ?_)
        refine lv_iload_n hx hb dX11_slips_36 rfl (lv_at hl 5 rfl) ?_
        refine lv_iload hx hb dX11_slips_37 (lv_at hl 7 rfl) ?_
        refine cp_i (wt_runS (As := [.int p3, .int v7_5]) (rest := []) ⟨hx, hb, hml, hown, hts⟩ (m_X11_has l p3 v7_5) wm_X11_has q1312 ⟨rfl, rfl⟩ ⟨Nat.le_of_ble_eq_true rfl, Nat.le_of_ble_eq_true rfl⟩ pS_pre rfl hl.1 rfl (Nat.le_of_ble_eq_true rfl) dX11_slips_39 ⟨Nat.zero_le _, Nat.zero_le _⟩) hW hS (fun x39 H locs hp hW1 hS oq => ?_)
        have hV := hV.same hW k0 oq
        have hI := mI.fr.same hI hW oq
        have hWo := hW
        have hW := hW1
        have ap22 := ap22.kept (oq _ (hW_lt hWo k17) (cE_nil _))
        have ap32 := ap32.kept (oq _ (hW_lt hWo k27) (cE_nil _))
        have nh0_7 := nh0_7.kept (oq _ nh0_7.lt (cE_not k0 (by decide)))
        have r39 : ir x39 0 1 := hp
        refine lv_if_eq (tgt := 94) hx hb dX11_slips_42 (by decide) (fun c42 => ?_) (fun c42 => ?_)
        · have rx39_42 : ir x39 0 0 := rf_eq c42 (ir_c (0) (by decide) : ir (0 : Int32) (0) (0))
          refine lv_lload hx hb dX11_slips_94 (lv_at hl 1 rfl) ?_
          refine lv_lload hx hb dX11_slips_96 (lv_at hl 0 rfl) ?_
          refine cp_l (wt_runS (As := [.long x23, .long x33]) (rest := []) ⟨hx, hb, hml, hown, hts⟩ (m_X11_gcd l x23 (lr_w (lo' := -9223372036854775807) (hi' := 9223372036854775807) r23 (by decide) (by decide)) x33 (lr_w (lo' := -9223372036854775807) (hi' := 9223372036854775807) r33 (by decide) (by decide))) wm_X11_gcd q1054 ⟨rfl, rfl⟩ ⟨Nat.le_of_ble_eq_true rfl, Nat.le_of_ble_eq_true rfl⟩ pS_pre rfl hl.1 rfl (Nat.le_of_ble_eq_true rfl) dX11_slips_98 ⟨Nat.zero_le _, Nat.zero_le _⟩) hW hS (fun x98 H locs hp hW1 hS oq => ?_)
          have hV := hV.same hW k0 oq
          have hI := mI.fr.same hI hW oq
          have hWo := hW
          have hW := hW1
          have ap22 := ap22.kept (oq _ (hW_lt hWo k17) (cE_nil _))
          have ap32 := ap32.kept (oq _ (hW_lt hWo k27) (cE_nil _))
          have nh0_7 := nh0_7.kept (oq _ nh0_7.lt (cE_not k0 (by decide)))
          have y98 : x98.toInt = ((Int.gcd x23.toInt x33.toInt : Nat) : Int) := hp
          have s98 : lr x98 0 9223372036854775807 := ⟨gcd_bd y98, (lr_any x98).2⟩
          have hz98 : x23.toInt ≠ 0 ∨ x33.toInt ≠ 0 := (hz_l (QL_use hI.1 nh0_7 k17 k27 ap22 ap32 rv7_5_13 (by decide) (by decide) (by omega)) e23 e33)
          have z98 : x98.toInt ≠ 0 := gcd_ne y98 hz98
          have hg98 : 0 < x98.toInt := by have := s98.1; omega
          refine lv_lstore (lv' := [(10, .long x98), (8, .long x33), (6, .long x23), (0, .ref h0), (1, .int p1), (2, .int p2), (3, .int p3), (4, .int p4), (5, .int v7_5)]) hx hb dX11_slips_101 hl (by decide) rfl (fun ls hl => ?_)
          refine lv_aload_n hx hb dX11_slips_103 rfl (lv_at hl 3 rfl) ?_
          refine lv_aload_n hx hb dX11_slips_104 rfl (lv_at hl 3 rfl) ?_
          refine wt_get hx hb hts cfX11 hown hK hW (cg11 k0) rfl 4 (by decide) q876 dX11_slips_105 (fun v hv => ?_)
          obtain ⟨x105, rfl, k105⟩ : gr N 42 v := hv
          refine lv_iload hx hb dX11_slips_108 (lv_at hl 8 rfl) ?_
          refine wt_iald hx hb hK hW 0 (cg42 k105) rfl (ir_in (ir_w (lo' := 0) (hi' := 24) rv7_5_13 (by decide) (by decide)) (by decide) (by decide)) dX11_slips_110 (fun v hv => ?_)
          obtain ⟨x110, rfl, r110⟩ : gi 0 5 v := hv
          refine lv_lload hx hb dX11_slips_111 (lv_at hl 2 rfl) ?_
          refine lv_lload hx hb dX11_slips_113 (lv_at hl 0 rfl) ?_
          refine lv_ldiv hx hb dX11_slips_115 (l_ne0 z98) ?_
          refine lv_topl (fun x115 e115 => ?_)
          have t115 := lt_div e115 (l_ne0 z98) r23 (by decide)
          have r115 : lr x115 (-6) 6 := lr_div e115 (l_ne0 z98) r23 (by decide) 6 (by decide) (by decide)
          refine lv_lload hx hb dX11_slips_116 (lv_at hl 1 rfl) ?_
          refine lv_lload hx hb dX11_slips_118 (lv_at hl 0 rfl) ?_
          refine lv_ldiv hx hb dX11_slips_120 (l_ne0 z98) ?_
          refine lv_topl (fun x120 e120 => ?_)
          have t120 := lt_div e120 (l_ne0 z98) r33 (by decide)
          have r120 : lr x120 (-6) 6 := lr_div e120 (l_ne0 z98) r33 (by decide) 6 (by decide) (by decide)
          have dp := qdiv t115 (gcd_dl y98)
          have dq := qdiv t120 (gcd_dr y98)
          have hp0 : lr x115 0 78 := ⟨quo_nn dp (by have h9 := r23; omega) hg98, by have h8 := r115; have h9 := r23; omega⟩
          have hq0 : lr x120 0 78 := ⟨quo_nn dq (by have h9 := r33; omega) hg98, by have h8 := r120; have h9 := r33; omega⟩
          have hz121 := div_hz dp dq hz98
          refine lv_iload_n hx hb dX11_slips_121 rfl (lv_at hl 4 rfl) ?_
          obtain ⟨V1, hV1⟩ := kp_all hW k0
          refine cc_v (B2 := fun H => mI N h0 H ∧ kp N h0 [32, 33, 34, 35, 36, 37, 38] V1 H) (wt_runV (As := [.int x110, .long x115, .long x120, .int p1]) (rest := []) ⟨hx, hb, hml, hown, hts⟩ (m_X11_adds l N h0 k0 hO V1 x110 r110 x115 hp0 x120 hq0 p1 rv7_1 hz121) wm_X11_adds q1223 ⟨rfl, rfl⟩ ⟨Nat.le_of_ble_eq_true rfl, Nat.le_of_ble_eq_true rfl⟩ (cS_preV (B := fun H => mI N h0 H ∧ kp N h0 [32, 33, 34, 35, 36, 37, 38] V1 H) hK hW hT hnn hS (cg11 k0) rfl rfl (And.intro hI (kp_of (F := [32, 33, 34, 35, 36, 37, 38]) hV1))) rfl hl.1 rfl (Nat.le_of_ble_eq_true rfl) dX11_slips_122 ⟨Nat.zero_le _, Nat.zero_le _⟩) hS (by decide) (fun H locs hW hS oq hB2 => ?_)
          obtain ⟨hI, hV2⟩ := hB2
          have hV := kp_call hV hV1 hV2 (by decide)
          have nh0_7 := kp_use hV1 hV2 (by decide) (by decide) nh0_7
          obtain ⟨x125, e125⟩ : ∃ y : Int32, y = v7_5 + 1 := ⟨_, rfl⟩
          have r125 : ir x125 1 24 := ir_w (ir_add e125 rv7_5_13 (ir_c (1) (by decide) : ir (1 : Int32) (1) (1)) (by decide) (by decide)) (by decide) (by decide)
          have t125 : x125.toInt = v7_5.toInt + (1) := it_add e125 rv7_5_13 (ir_c (1) (by decide) : ir (1 : Int32) (1) (1)) (by decide) (by decide)
          refine lv_iinc (v := x125) (lv' := [(5, .int x125), (10, .long x98), (8, .long x33), (6, .long x23), (0, .ref h0), (1, .int p1), (2, .int p2), (3, .int p3), (4, .int p4)]) hx hb dX11_slips_125 hl (k := 8) rfl (by rw [e125]; rfl) (by decide) rfl (fun ls hl => ?_)
          refine lv_goto (tgt := 7) hx hb dX11_slips_128 (by decide) ?_
          exact w2 _ _ _ (ih7 _ _ _ x125 hW hI hV hS (lv_sub hl [4, 5, 6, 7, 8, 0] rfl) rv7_1 rv7_2 (ir_w (lo' := 0) (hi' := 24) r125 (by decide) (by decide)) (by have h9 := r125; omega))
        · have rx39_42 : ir x39 1 1 := rf_ne0 c42 r39
          refine lv_lload hx hb dX11_slips_45 (lv_at hl 0 rfl) ?_
          refine lv_lconst (v := 0) hx hb dX11_slips_47 (by decide) ?_
          refine wl_le (tgt := 94) hx hb dX11_slips_48 dX11_slips_49 (by decide) (fun c48 => ?_) (fun c48 => ?_)
          · have c48 : x33.toInt ≤ (0 : Int) := c48
            have rx33_48 : lr x33 0 0 := by have h8 := r33; have h9 := (lr_c (0) (by decide) : lr (0 : Int64) (0) (0)); constructor <;> omega
            refine lv_lload hx hb dX11_slips_94 (lv_at hl 1 rfl) ?_
            refine lv_lload hx hb dX11_slips_96 (lv_at hl 0 rfl) ?_
            refine cp_l (wt_runS (As := [.long x23, .long x33]) (rest := []) ⟨hx, hb, hml, hown, hts⟩ (m_X11_gcd l x23 (lr_w (lo' := -9223372036854775807) (hi' := 9223372036854775807) r23 (by decide) (by decide)) x33 (lr_w (lo' := -9223372036854775807) (hi' := 9223372036854775807) rx33_48 (by decide) (by decide))) wm_X11_gcd q1054 ⟨rfl, rfl⟩ ⟨Nat.le_of_ble_eq_true rfl, Nat.le_of_ble_eq_true rfl⟩ pS_pre rfl hl.1 rfl (Nat.le_of_ble_eq_true rfl) dX11_slips_98 ⟨Nat.zero_le _, Nat.zero_le _⟩) hW hS (fun x98 H locs hp hW1 hS oq => ?_)
            have hV := hV.same hW k0 oq
            have hI := mI.fr.same hI hW oq
            have hWo := hW
            have hW := hW1
            have ap22 := ap22.kept (oq _ (hW_lt hWo k17) (cE_nil _))
            have ap32 := ap32.kept (oq _ (hW_lt hWo k27) (cE_nil _))
            have nh0_7 := nh0_7.kept (oq _ nh0_7.lt (cE_not k0 (by decide)))
            have y98 : x98.toInt = ((Int.gcd x23.toInt x33.toInt : Nat) : Int) := hp
            have s98 : lr x98 0 9223372036854775807 := ⟨gcd_bd y98, (lr_any x98).2⟩
            have hz98 : x23.toInt ≠ 0 ∨ x33.toInt ≠ 0 := (hz_l (QL_use hI.1 nh0_7 k17 k27 ap22 ap32 rv7_5_13 (by decide) (by decide) (by omega)) e23 e33)
            have z98 : x98.toInt ≠ 0 := gcd_ne y98 hz98
            have hg98 : 0 < x98.toInt := by have := s98.1; omega
            refine lv_lstore (lv' := [(10, .long x98), (8, .long x33), (6, .long x23), (0, .ref h0), (1, .int p1), (2, .int p2), (3, .int p3), (4, .int p4), (5, .int v7_5)]) hx hb dX11_slips_101 hl (by decide) rfl (fun ls hl => ?_)
            refine lv_aload_n hx hb dX11_slips_103 rfl (lv_at hl 3 rfl) ?_
            refine lv_aload_n hx hb dX11_slips_104 rfl (lv_at hl 3 rfl) ?_
            refine wt_get hx hb hts cfX11 hown hK hW (cg11 k0) rfl 4 (by decide) q876 dX11_slips_105 (fun v hv => ?_)
            obtain ⟨x105, rfl, k105⟩ : gr N 42 v := hv
            refine lv_iload hx hb dX11_slips_108 (lv_at hl 8 rfl) ?_
            refine wt_iald hx hb hK hW 0 (cg42 k105) rfl (ir_in (ir_w (lo' := 0) (hi' := 24) rv7_5_13 (by decide) (by decide)) (by decide) (by decide)) dX11_slips_110 (fun v hv => ?_)
            obtain ⟨x110, rfl, r110⟩ : gi 0 5 v := hv
            refine lv_lload hx hb dX11_slips_111 (lv_at hl 2 rfl) ?_
            refine lv_lload hx hb dX11_slips_113 (lv_at hl 0 rfl) ?_
            refine lv_ldiv hx hb dX11_slips_115 (l_ne0 z98) ?_
            refine lv_topl (fun x115 e115 => ?_)
            have t115 := lt_div e115 (l_ne0 z98) r23 (by decide)
            have r115 : lr x115 (-6) 6 := lr_div e115 (l_ne0 z98) r23 (by decide) 6 (by decide) (by decide)
            refine lv_lload hx hb dX11_slips_116 (lv_at hl 1 rfl) ?_
            refine lv_lload hx hb dX11_slips_118 (lv_at hl 0 rfl) ?_
            refine lv_ldiv hx hb dX11_slips_120 (l_ne0 z98) ?_
            refine lv_topl (fun x120 e120 => ?_)
            have t120 := lt_div e120 (l_ne0 z98) rx33_48 (by decide)
            have r120 : lr x120 0 0 := lr_div e120 (l_ne0 z98) rx33_48 (by decide) 0 (by decide) (by decide)
            have dp := qdiv t115 (gcd_dl y98)
            have dq := qdiv t120 (gcd_dr y98)
            have hp0 : lr x115 0 78 := ⟨quo_nn dp (by have h9 := r23; omega) hg98, by have h8 := r115; have h9 := r23; omega⟩
            have hq0 : lr x120 0 78 := ⟨quo_nn dq (by have h9 := rx33_48; omega) hg98, by have h8 := r120; have h9 := rx33_48; omega⟩
            have hz121 := div_hz dp dq hz98
            refine lv_iload_n hx hb dX11_slips_121 rfl (lv_at hl 4 rfl) ?_
            obtain ⟨V1, hV1⟩ := kp_all hW k0
            refine cc_v (B2 := fun H => mI N h0 H ∧ kp N h0 [32, 33, 34, 35, 36, 37, 38] V1 H) (wt_runV (As := [.int x110, .long x115, .long x120, .int p1]) (rest := []) ⟨hx, hb, hml, hown, hts⟩ (m_X11_adds l N h0 k0 hO V1 x110 r110 x115 hp0 x120 hq0 p1 rv7_1 hz121) wm_X11_adds q1223 ⟨rfl, rfl⟩ ⟨Nat.le_of_ble_eq_true rfl, Nat.le_of_ble_eq_true rfl⟩ (cS_preV (B := fun H => mI N h0 H ∧ kp N h0 [32, 33, 34, 35, 36, 37, 38] V1 H) hK hW hT hnn hS (cg11 k0) rfl rfl (And.intro hI (kp_of (F := [32, 33, 34, 35, 36, 37, 38]) hV1))) rfl hl.1 rfl (Nat.le_of_ble_eq_true rfl) dX11_slips_122 ⟨Nat.zero_le _, Nat.zero_le _⟩) hS (by decide) (fun H locs hW hS oq hB2 => ?_)
            obtain ⟨hI, hV2⟩ := hB2
            have hV := kp_call hV hV1 hV2 (by decide)
            have nh0_7 := kp_use hV1 hV2 (by decide) (by decide) nh0_7
            obtain ⟨x125, e125⟩ : ∃ y : Int32, y = v7_5 + 1 := ⟨_, rfl⟩
            have r125 : ir x125 1 24 := ir_w (ir_add e125 rv7_5_13 (ir_c (1) (by decide) : ir (1 : Int32) (1) (1)) (by decide) (by decide)) (by decide) (by decide)
            have t125 : x125.toInt = v7_5.toInt + (1) := it_add e125 rv7_5_13 (ir_c (1) (by decide) : ir (1 : Int32) (1) (1)) (by decide) (by decide)
            refine lv_iinc (v := x125) (lv' := [(5, .int x125), (10, .long x98), (8, .long x33), (6, .long x23), (0, .ref h0), (1, .int p1), (2, .int p2), (3, .int p3), (4, .int p4)]) hx hb dX11_slips_125 hl (k := 8) rfl (by rw [e125]; rfl) (by decide) rfl (fun ls hl => ?_)
            refine lv_goto (tgt := 7) hx hb dX11_slips_128 (by decide) ?_
            exact w2 _ _ _ (ih7 _ _ _ x125 hW hI hV hS (lv_sub hl [4, 5, 6, 7, 8, 0] rfl) rv7_1 rv7_2 (ir_w (lo' := 0) (hi' := 24) r125 (by decide) (by decide)) (by have h9 := r125; omega))
          · have c48 : (0 : Int) < x33.toInt := c48
            have rx33_48 : lr x33 1 6 := by have h8 := r33; have h9 := (lr_c (0) (by decide) : lr (0 : Int64) (0) (0)); constructor <;> omega
            refine lv_iload hx hb dX11_slips_52 (lv_at hl 6 rfl) ?_
            refine lv_iload hx hb dX11_slips_54 (lv_at hl 7 rfl) ?_
            refine cp_i (wt_runS (As := [.int p4, .int v7_5]) (rest := []) ⟨hx, hb, hml, hown, hts⟩ (m_X11_has l p4 v7_5) wm_X11_has q1312 ⟨rfl, rfl⟩ ⟨Nat.le_of_ble_eq_true rfl, Nat.le_of_ble_eq_true rfl⟩ pS_pre rfl hl.1 rfl (Nat.le_of_ble_eq_true rfl) dX11_slips_56 ⟨Nat.zero_le _, Nat.zero_le _⟩) hW hS (fun x56 H locs hp hW1 hS oq => ?_)
            have hV := hV.same hW k0 oq
            have hI := mI.fr.same hI hW oq
            have hWo := hW
            have hW := hW1
            have ap22 := ap22.kept (oq _ (hW_lt hWo k17) (cE_nil _))
            have ap32 := ap32.kept (oq _ (hW_lt hWo k27) (cE_nil _))
            have nh0_7 := nh0_7.kept (oq _ nh0_7.lt (cE_not k0 (by decide)))
            have r56 : ir x56 0 1 := hp
            refine lv_if_eq (tgt := 73) hx hb dX11_slips_59 (by decide) (fun c59 => ?_) (fun c59 => ?_)
            · have rx56_59 : ir x56 0 0 := rf_eq c59 (ir_c (0) (by decide) : ir (0 : Int32) (0) (0))
              refine lv_lconst (v := 0) hx hb dX11_slips_73 (by decide) ?_
              refine lv_lload hx hb dX11_slips_74 (lv_at hl 1 rfl) ?_
              refine lv_iload_n hx hb dX11_slips_76 rfl (lv_at hl 4 rfl) ?_
              refine lv_i2l hx hb dX11_slips_77 rfl ?_
              refine lv_topl (fun x77 e77 => ?_)
              have r77 : lr x77 2 12 := by rw [e77]; exact i2l_r rv7_2
              have t77 : x77.toInt = p2.toInt := by rw [e77]; exact Int32.toInt_toInt64 p2
              refine lv_lmul hx hb dX11_slips_78 ?_
              refine lv_topl (fun x78 e78 => ?_)
              have u78 := lt_mulp e78 r23 r77 (by decide) (by decide) (by decide)
              have t78 := u78.1
              have r78 : lr x78 0 72 := lr_w u78.2 (by decide) (by decide)
              refine lv_lload hx hb dX11_slips_79 (lv_at hl 0 rfl) ?_
              refine lv_lsub hx hb dX11_slips_81 ?_
              refine lv_topl (fun x81 e81 => ?_)
              have t81 := lt_sub e81 r78 rx33_48 (by decide) (by decide)
              have r81 : lr x81 (-6) 71 := lr_sub e81 r78 rx33_48 (by decide) (by decide) (by decide) (by decide)
              refine va_mmax_long hx hb (hml.trans hl.1.symm) hown (hts _ q1315) (hts _ q1316) (hts _ q13) (hts _ q1317) (Nat.le_of_ble_eq_true rfl) (Nat.le_of_ble_eq_true rfl) (Nat.zero_le _) (Nat.zero_le _) dX11_slips_82 ?_
              refine lv_topl (fun x82 e82 => ?_)
              have r82 : lr x82 0 71 := lr_max e82 (lr_c (0) (by decide) : lr (0 : Int64) (0) (0)) r81 (by decide) (by decide) (by decide)
              refine lv_lstore (lv' := [(6, .long x82), (8, .long x33), (0, .ref h0), (1, .int p1), (2, .int p2), (3, .int p3), (4, .int p4), (5, .int v7_5)]) hx hb dX11_slips_85 hl (by decide) rfl (fun ls hl => ?_)
              refine lv_lload hx hb dX11_slips_87 (lv_at hl 1 rfl) ?_
              refine lv_iload_n hx hb dX11_slips_89 rfl (lv_at hl 4 rfl) ?_
              refine lv_i2l hx hb dX11_slips_90 rfl ?_
              refine lv_topl (fun x90 e90 => ?_)
              have r90 : lr x90 2 12 := by rw [e90]; exact i2l_r rv7_2
              have t90 : x90.toInt = p2.toInt := by rw [e90]; exact Int32.toInt_toInt64 p2
              refine lv_lmul hx hb dX11_slips_91 ?_
              refine lv_topl (fun x91 e91 => ?_)
              have u91 := lt_mulp e91 rx33_48 r90 (by decide) (by decide) (by decide)
              have t91 := u91.1
              have r91 : lr x91 2 72 := lr_w u91.2 (by decide) (by decide)
              refine lv_lstore (lv' := [(8, .long x91), (6, .long x82), (0, .ref h0), (1, .int p1), (2, .int p2), (3, .int p3), (4, .int p4), (5, .int v7_5)]) hx hb dX11_slips_92 hl (by decide) rfl (fun ls hl => ?_)
              refine lv_lload hx hb dX11_slips_94 (lv_at hl 1 rfl) ?_
              refine lv_lload hx hb dX11_slips_96 (lv_at hl 0 rfl) ?_
              refine cp_l (wt_runS (As := [.long x82, .long x91]) (rest := []) ⟨hx, hb, hml, hown, hts⟩ (m_X11_gcd l x82 (lr_w (lo' := -9223372036854775807) (hi' := 9223372036854775807) r82 (by decide) (by decide)) x91 (lr_w (lo' := -9223372036854775807) (hi' := 9223372036854775807) r91 (by decide) (by decide))) wm_X11_gcd q1054 ⟨rfl, rfl⟩ ⟨Nat.le_of_ble_eq_true rfl, Nat.le_of_ble_eq_true rfl⟩ pS_pre rfl hl.1 rfl (Nat.le_of_ble_eq_true rfl) dX11_slips_98 ⟨Nat.zero_le _, Nat.zero_le _⟩) hW hS (fun x98 H locs hp hW1 hS oq => ?_)
              have hV := hV.same hW k0 oq
              have hI := mI.fr.same hI hW oq
              have hWo := hW
              have hW := hW1
              have ap22 := ap22.kept (oq _ (hW_lt hWo k17) (cE_nil _))
              have ap32 := ap32.kept (oq _ (hW_lt hWo k27) (cE_nil _))
              have nh0_7 := nh0_7.kept (oq _ nh0_7.lt (cE_not k0 (by decide)))
              have y98 : x98.toInt = ((Int.gcd x82.toInt x91.toInt : Nat) : Int) := hp
              have s98 : lr x98 0 9223372036854775807 := ⟨gcd_bd y98, (lr_any x98).2⟩
              have hz98 : x82.toInt ≠ 0 ∨ x91.toInt ≠ 0 := (Or.inr (by have h9 := r91; omega))
              have z98 : x98.toInt ≠ 0 := gcd_ne y98 hz98
              have hg98 : 0 < x98.toInt := by have := s98.1; omega
              refine lv_lstore (lv' := [(10, .long x98), (8, .long x91), (6, .long x82), (0, .ref h0), (1, .int p1), (2, .int p2), (3, .int p3), (4, .int p4), (5, .int v7_5)]) hx hb dX11_slips_101 hl (by decide) rfl (fun ls hl => ?_)
              refine lv_aload_n hx hb dX11_slips_103 rfl (lv_at hl 3 rfl) ?_
              refine lv_aload_n hx hb dX11_slips_104 rfl (lv_at hl 3 rfl) ?_
              refine wt_get hx hb hts cfX11 hown hK hW (cg11 k0) rfl 4 (by decide) q876 dX11_slips_105 (fun v hv => ?_)
              obtain ⟨x105, rfl, k105⟩ : gr N 42 v := hv
              refine lv_iload hx hb dX11_slips_108 (lv_at hl 8 rfl) ?_
              refine wt_iald hx hb hK hW 0 (cg42 k105) rfl (ir_in (ir_w (lo' := 0) (hi' := 24) rv7_5_13 (by decide) (by decide)) (by decide) (by decide)) dX11_slips_110 (fun v hv => ?_)
              obtain ⟨x110, rfl, r110⟩ : gi 0 5 v := hv
              refine lv_lload hx hb dX11_slips_111 (lv_at hl 2 rfl) ?_
              refine lv_lload hx hb dX11_slips_113 (lv_at hl 0 rfl) ?_
              refine lv_ldiv hx hb dX11_slips_115 (l_ne0 z98) ?_
              refine lv_topl (fun x115 e115 => ?_)
              have t115 := lt_div e115 (l_ne0 z98) r82 (by decide)
              have r115 : lr x115 (-71) 71 := lr_div e115 (l_ne0 z98) r82 (by decide) 71 (by decide) (by decide)
              refine lv_lload hx hb dX11_slips_116 (lv_at hl 1 rfl) ?_
              refine lv_lload hx hb dX11_slips_118 (lv_at hl 0 rfl) ?_
              refine lv_ldiv hx hb dX11_slips_120 (l_ne0 z98) ?_
              refine lv_topl (fun x120 e120 => ?_)
              have t120 := lt_div e120 (l_ne0 z98) r91 (by decide)
              have r120 : lr x120 (-72) 72 := lr_div e120 (l_ne0 z98) r91 (by decide) 72 (by decide) (by decide)
              have dp := qdiv t115 (gcd_dl y98)
              have dq := qdiv t120 (gcd_dr y98)
              have hp0 : lr x115 0 78 := ⟨quo_nn dp (by have h9 := r82; omega) hg98, by have h8 := r115; have h9 := r82; omega⟩
              have hq0 : lr x120 0 78 := ⟨quo_nn dq (by have h9 := r91; omega) hg98, by have h8 := r120; have h9 := r91; omega⟩
              have hz121 := div_hz dp dq hz98
              refine lv_iload_n hx hb dX11_slips_121 rfl (lv_at hl 4 rfl) ?_
              obtain ⟨V1, hV1⟩ := kp_all hW k0
              refine cc_v (B2 := fun H => mI N h0 H ∧ kp N h0 [32, 33, 34, 35, 36, 37, 38] V1 H) (wt_runV (As := [.int x110, .long x115, .long x120, .int p1]) (rest := []) ⟨hx, hb, hml, hown, hts⟩ (m_X11_adds l N h0 k0 hO V1 x110 r110 x115 hp0 x120 hq0 p1 rv7_1 hz121) wm_X11_adds q1223 ⟨rfl, rfl⟩ ⟨Nat.le_of_ble_eq_true rfl, Nat.le_of_ble_eq_true rfl⟩ (cS_preV (B := fun H => mI N h0 H ∧ kp N h0 [32, 33, 34, 35, 36, 37, 38] V1 H) hK hW hT hnn hS (cg11 k0) rfl rfl (And.intro hI (kp_of (F := [32, 33, 34, 35, 36, 37, 38]) hV1))) rfl hl.1 rfl (Nat.le_of_ble_eq_true rfl) dX11_slips_122 ⟨Nat.zero_le _, Nat.zero_le _⟩) hS (by decide) (fun H locs hW hS oq hB2 => ?_)
              obtain ⟨hI, hV2⟩ := hB2
              have hV := kp_call hV hV1 hV2 (by decide)
              have nh0_7 := kp_use hV1 hV2 (by decide) (by decide) nh0_7
              obtain ⟨x125, e125⟩ : ∃ y : Int32, y = v7_5 + 1 := ⟨_, rfl⟩
              have r125 : ir x125 1 24 := ir_w (ir_add e125 rv7_5_13 (ir_c (1) (by decide) : ir (1 : Int32) (1) (1)) (by decide) (by decide)) (by decide) (by decide)
              have t125 : x125.toInt = v7_5.toInt + (1) := it_add e125 rv7_5_13 (ir_c (1) (by decide) : ir (1 : Int32) (1) (1)) (by decide) (by decide)
              refine lv_iinc (v := x125) (lv' := [(5, .int x125), (10, .long x98), (8, .long x91), (6, .long x82), (0, .ref h0), (1, .int p1), (2, .int p2), (3, .int p3), (4, .int p4)]) hx hb dX11_slips_125 hl (k := 8) rfl (by rw [e125]; rfl) (by decide) rfl (fun ls hl => ?_)
              refine lv_goto (tgt := 7) hx hb dX11_slips_128 (by decide) ?_
              exact w2 _ _ _ (ih7 _ _ _ x125 hW hI hV hS (lv_sub hl [4, 5, 6, 7, 8, 0] rfl) rv7_1 rv7_2 (ir_w (lo' := 0) (hi' := 24) r125 (by decide) (by decide)) (by have h9 := r125; omega))
            · have rx56_59 : ir x56 1 1 := rf_ne0 c59 r56
              refine lv_lload hx hb dX11_slips_62 (lv_at hl 1 rfl) ?_
              refine lv_iload_n hx hb dX11_slips_64 rfl (lv_at hl 4 rfl) ?_
              refine lv_i2l hx hb dX11_slips_65 rfl ?_
              refine lv_topl (fun x65 e65 => ?_)
              have r65 : lr x65 2 12 := by rw [e65]; exact i2l_r rv7_2
              have t65 : x65.toInt = p2.toInt := by rw [e65]; exact Int32.toInt_toInt64 p2
              refine lv_lmul hx hb dX11_slips_66 ?_
              refine lv_topl (fun x66 e66 => ?_)
              have u66 := lt_mulp e66 r23 r65 (by decide) (by decide) (by decide)
              have t66 := u66.1
              have r66 : lr x66 0 72 := lr_w u66.2 (by decide) (by decide)
              refine lv_lload hx hb dX11_slips_67 (lv_at hl 0 rfl) ?_
              refine lv_ladd hx hb dX11_slips_69 ?_
              refine lv_topl (fun x69 e69 => ?_)
              have t69 := lt_add e69 r66 rx33_48 (by decide) (by decide)
              have r69 : lr x69 1 78 := lr_add e69 r66 rx33_48 (by decide) (by decide) (by decide) (by decide)
              refine lv_goto (tgt := 85) hx hb dX11_slips_70 (by decide) ?_
              refine lv_lstore (lv' := [(6, .long x69), (8, .long x33), (0, .ref h0), (1, .int p1), (2, .int p2), (3, .int p3), (4, .int p4), (5, .int v7_5)]) hx hb dX11_slips_85 hl (by decide) rfl (fun ls hl => ?_)
              refine lv_lload hx hb dX11_slips_87 (lv_at hl 1 rfl) ?_
              refine lv_iload_n hx hb dX11_slips_89 rfl (lv_at hl 4 rfl) ?_
              refine lv_i2l hx hb dX11_slips_90 rfl ?_
              refine lv_topl (fun x90 e90 => ?_)
              have r90 : lr x90 2 12 := by rw [e90]; exact i2l_r rv7_2
              have t90 : x90.toInt = p2.toInt := by rw [e90]; exact Int32.toInt_toInt64 p2
              refine lv_lmul hx hb dX11_slips_91 ?_
              refine lv_topl (fun x91 e91 => ?_)
              have u91 := lt_mulp e91 rx33_48 r90 (by decide) (by decide) (by decide)
              have t91 := u91.1
              have r91 : lr x91 2 72 := lr_w u91.2 (by decide) (by decide)
              refine lv_lstore (lv' := [(8, .long x91), (6, .long x69), (0, .ref h0), (1, .int p1), (2, .int p2), (3, .int p3), (4, .int p4), (5, .int v7_5)]) hx hb dX11_slips_92 hl (by decide) rfl (fun ls hl => ?_)
              refine lv_lload hx hb dX11_slips_94 (lv_at hl 1 rfl) ?_
              refine lv_lload hx hb dX11_slips_96 (lv_at hl 0 rfl) ?_
              refine cp_l (wt_runS (As := [.long x69, .long x91]) (rest := []) ⟨hx, hb, hml, hown, hts⟩ (m_X11_gcd l x69 (lr_w (lo' := -9223372036854775807) (hi' := 9223372036854775807) r69 (by decide) (by decide)) x91 (lr_w (lo' := -9223372036854775807) (hi' := 9223372036854775807) r91 (by decide) (by decide))) wm_X11_gcd q1054 ⟨rfl, rfl⟩ ⟨Nat.le_of_ble_eq_true rfl, Nat.le_of_ble_eq_true rfl⟩ pS_pre rfl hl.1 rfl (Nat.le_of_ble_eq_true rfl) dX11_slips_98 ⟨Nat.zero_le _, Nat.zero_le _⟩) hW hS (fun x98 H locs hp hW1 hS oq => ?_)
              have hV := hV.same hW k0 oq
              have hI := mI.fr.same hI hW oq
              have hWo := hW
              have hW := hW1
              have ap22 := ap22.kept (oq _ (hW_lt hWo k17) (cE_nil _))
              have ap32 := ap32.kept (oq _ (hW_lt hWo k27) (cE_nil _))
              have nh0_7 := nh0_7.kept (oq _ nh0_7.lt (cE_not k0 (by decide)))
              have y98 : x98.toInt = ((Int.gcd x69.toInt x91.toInt : Nat) : Int) := hp
              have s98 : lr x98 0 9223372036854775807 := ⟨gcd_bd y98, (lr_any x98).2⟩
              have hz98 : x69.toInt ≠ 0 ∨ x91.toInt ≠ 0 := (Or.inl (by have h9 := r69; omega))
              have z98 : x98.toInt ≠ 0 := gcd_ne y98 hz98
              have hg98 : 0 < x98.toInt := by have := s98.1; omega
              refine lv_lstore (lv' := [(10, .long x98), (8, .long x91), (6, .long x69), (0, .ref h0), (1, .int p1), (2, .int p2), (3, .int p3), (4, .int p4), (5, .int v7_5)]) hx hb dX11_slips_101 hl (by decide) rfl (fun ls hl => ?_)
              refine lv_aload_n hx hb dX11_slips_103 rfl (lv_at hl 3 rfl) ?_
              refine lv_aload_n hx hb dX11_slips_104 rfl (lv_at hl 3 rfl) ?_
              refine wt_get hx hb hts cfX11 hown hK hW (cg11 k0) rfl 4 (by decide) q876 dX11_slips_105 (fun v hv => ?_)
              obtain ⟨x105, rfl, k105⟩ : gr N 42 v := hv
              refine lv_iload hx hb dX11_slips_108 (lv_at hl 8 rfl) ?_
              refine wt_iald hx hb hK hW 0 (cg42 k105) rfl (ir_in (ir_w (lo' := 0) (hi' := 24) rv7_5_13 (by decide) (by decide)) (by decide) (by decide)) dX11_slips_110 (fun v hv => ?_)
              obtain ⟨x110, rfl, r110⟩ : gi 0 5 v := hv
              refine lv_lload hx hb dX11_slips_111 (lv_at hl 2 rfl) ?_
              refine lv_lload hx hb dX11_slips_113 (lv_at hl 0 rfl) ?_
              refine lv_ldiv hx hb dX11_slips_115 (l_ne0 z98) ?_
              refine lv_topl (fun x115 e115 => ?_)
              have t115 := lt_div e115 (l_ne0 z98) r69 (by decide)
              have r115 : lr x115 (-78) 78 := lr_div e115 (l_ne0 z98) r69 (by decide) 78 (by decide) (by decide)
              refine lv_lload hx hb dX11_slips_116 (lv_at hl 1 rfl) ?_
              refine lv_lload hx hb dX11_slips_118 (lv_at hl 0 rfl) ?_
              refine lv_ldiv hx hb dX11_slips_120 (l_ne0 z98) ?_
              refine lv_topl (fun x120 e120 => ?_)
              have t120 := lt_div e120 (l_ne0 z98) r91 (by decide)
              have r120 : lr x120 (-72) 72 := lr_div e120 (l_ne0 z98) r91 (by decide) 72 (by decide) (by decide)
              have dp := qdiv t115 (gcd_dl y98)
              have dq := qdiv t120 (gcd_dr y98)
              have hp0 : lr x115 0 78 := ⟨quo_nn dp (by have h9 := r69; omega) hg98, by have h8 := r115; have h9 := r69; omega⟩
              have hq0 : lr x120 0 78 := ⟨quo_nn dq (by have h9 := r91; omega) hg98, by have h8 := r120; have h9 := r91; omega⟩
              have hz121 := div_hz dp dq hz98
              refine lv_iload_n hx hb dX11_slips_121 rfl (lv_at hl 4 rfl) ?_
              obtain ⟨V1, hV1⟩ := kp_all hW k0
              refine cc_v (B2 := fun H => mI N h0 H ∧ kp N h0 [32, 33, 34, 35, 36, 37, 38] V1 H) (wt_runV (As := [.int x110, .long x115, .long x120, .int p1]) (rest := []) ⟨hx, hb, hml, hown, hts⟩ (m_X11_adds l N h0 k0 hO V1 x110 r110 x115 hp0 x120 hq0 p1 rv7_1 hz121) wm_X11_adds q1223 ⟨rfl, rfl⟩ ⟨Nat.le_of_ble_eq_true rfl, Nat.le_of_ble_eq_true rfl⟩ (cS_preV (B := fun H => mI N h0 H ∧ kp N h0 [32, 33, 34, 35, 36, 37, 38] V1 H) hK hW hT hnn hS (cg11 k0) rfl rfl (And.intro hI (kp_of (F := [32, 33, 34, 35, 36, 37, 38]) hV1))) rfl hl.1 rfl (Nat.le_of_ble_eq_true rfl) dX11_slips_122 ⟨Nat.zero_le _, Nat.zero_le _⟩) hS (by decide) (fun H locs hW hS oq hB2 => ?_)
              obtain ⟨hI, hV2⟩ := hB2
              have hV := kp_call hV hV1 hV2 (by decide)
              have nh0_7 := kp_use hV1 hV2 (by decide) (by decide) nh0_7
              obtain ⟨x125, e125⟩ : ∃ y : Int32, y = v7_5 + 1 := ⟨_, rfl⟩
              have r125 : ir x125 1 24 := ir_w (ir_add e125 rv7_5_13 (ir_c (1) (by decide) : ir (1 : Int32) (1) (1)) (by decide) (by decide)) (by decide) (by decide)
              have t125 : x125.toInt = v7_5.toInt + (1) := it_add e125 rv7_5_13 (ir_c (1) (by decide) : ir (1 : Int32) (1) (1)) (by decide) (by decide)
              refine lv_iinc (v := x125) (lv' := [(5, .int x125), (10, .long x98), (8, .long x91), (6, .long x69), (0, .ref h0), (1, .int p1), (2, .int p2), (3, .int p3), (4, .int p4)]) hx hb dX11_slips_125 hl (k := 8) rfl (by rw [e125]; rfl) (by decide) rfl (fun ls hl => ?_)
              refine lv_goto (tgt := 7) hx hb dX11_slips_128 (by decide) ?_
              exact w2 _ _ _ (ih7 _ _ _ x125 hW hI hV hS (lv_sub hl [4, 5, 6, 7, 8, 0] rfl) rv7_1 rv7_2 (ir_w (lo' := 0) (hi' := 24) r125 (by decide) (by decide)) (by have h9 := r125; omega))
  refine lv_aload_n hx hb dX11_slips_0 rfl (lv_at hl 0 rfl) ?_
  obtain ⟨V1, hV1⟩ := kp_all hW k0
  refine cc_v (B2 := fun H => mI N h0 H ∧ kp N h0 [34, 35, 36, 37, 38] V1 H ∧ pL N h0 34 1 H ∧ pL N h0 35 0 H ∧ pL N h0 36 0 H ∧ pL N h0 37 1 H ∧ pI N h0 38 1 H) (wt_runV (As := []) (rest := []) ⟨hx, hb, hml, hown, hts⟩ (m_X11_begins l N h0 k0 hO V1) wm_X11_begins q1219 ⟨rfl, rfl⟩ ⟨Nat.le_of_ble_eq_true rfl, Nat.le_of_ble_eq_true rfl⟩ (cS_preV (B := fun H => mI N h0 H ∧ kp N h0 [34, 35, 36, 37, 38] V1 H) hK hW hT hnn hS (cg11 k0) rfl rfl (And.intro hI (kp_of (F := [34, 35, 36, 37, 38]) hV1))) rfl hl.1 rfl (Nat.le_of_ble_eq_true rfl) dX11_slips_1 ⟨Nat.zero_le _, Nat.zero_le _⟩) hS (by decide) (fun H locs hW hS oq hB2 => ?_)
  obtain ⟨hI, hV2, hB2⟩ := hB2
  have hV := kp_call hV hV1 hV2 (by decide)
  obtain ⟨nh0_34, nh0_35, nh0_36, nh0_37, nh0_38⟩ := hB2
  refine lv_iconst (v := 0) hx hb dX11_slips_4 (by decide) ?_
  refine lv_istore (lv' := [(5, .int (0 : Int32)), (0, .ref h0), (1, .int p1), (2, .int p2), (3, .int p3), (4, .int p4)]) hx hb dX11_slips_5 hl (by decide) rfl (fun ls hl => ?_)
  exact w2 _ _ _ (L7 25 _ _ _ (0 : Int32) hW hI hV hS (lv_sub hl [1, 2, 3, 4, 5, 0] rfl) rp1 rp2 (ir_w (lo' := 0) (hi' := 24) (ir_c (0) (by decide) : ir (0 : Int32) (0) (0)) (by decide) (by decide)) (by have h9 := (ir_c (0) (by decide) : ir (0 : Int32) (0) (0)); omega))
set_option maxHeartbeats 4000000 in
set_option maxRecDepth 100000 in
theorem m_X11_marks (l : Launch) (N : c_N) (h0 : Nat) (k0 : N.2.2.1 h0 = some 11) (hO : mOK N) (V : Nat → Value) (p1 : Int32) : cMi2 l yX11_marks cX11_marks 5 .int { frames := 5, cells := 0, slots := 0, locals := 148 } [.ref h0, .int p1] N [11] (fun H => mI N h0 H ∧ kp N h0 [32, 33, 34, 35, 36, 37, 38, 39, 40, 41, 42] V H) (fun _ => True) (fun _ H => mI N h0 H ∧ kp N h0 [32, 33, 34, 35, 36, 37, 38, 39, 40, 41, 42] V H) := by
  refine Met.ofW (cc := cX11_marks) (maxL := 5) (ret := some .int) (by decide) rfl ?_
  intro p e s m args below meth c s₁ B hml hv
  obtain ⟨rfl, ⟨hK, hW, hT, hnn⟩, hB⟩ := hv
  obtain ⟨hI, hV⟩ := hB
  have hx := B.exec
  have hb := B.bytes
  have hr := B.returns
  have hts : ∀ w ∈ lw_g, w.before _ s = true := fun w h => atoms_spec (ws := wc_ws yX11_marks cX11_marks 5 (some .int)) B.pre w (List.mem_cons_of_mem _ h)
  have hown : s.vm.findClass RX11 = some m.cls := findClass_of_methodNamed B.named
  have hlocks := B.notSynchronized
  have hS : va_S (cE N [11]) s.heap s.heap [] := va_S.rf
  have hl := lv_entry ([.ref h0, .int p1]) (n := 5) (Nat.le_of_ble_eq_true rfl)
  rw [lg_entry_eq]
  generalize (lg_sl ([.ref h0, .int p1]) ++ List.replicate (5 - (lg_sl ([.ref h0, .int p1])).length) Slot.unset).toArray = ls at hl ⊢
  have hl : lv_has ls 5 [(0, .ref h0), (1, .int p1)] := hl
  refine wq_all ?_
  intro WW w1 w2
  have L18 : ∀ (n : Nat) (H : Heap) (locs : List Loc) (ls : Array Slot) (v18_2 : Int32) (v18_3 : Int32), cW N H → mI N h0 H → kp N h0 [32, 33, 34, 35, 36, 37, 38, 39, 40, 41, 42] V H → va_S (cE N [11]) s.heap H locs → lv_has ls 5 [(0, .ref h0), (1, .int p1), (2, .int v18_2), (3, .int v18_3)] → ir p1 0 2 → ir v18_3 1 5 → 5 - v18_3.toInt < (n : Int) → WW H locs (F0 m 18 ls []) := by
    intro n
    induction n with
    | zero =>
      intro H locs ls v18_2 v18_3 hW hI hV hS hl rv18_1 rv18_3 mu18
      exfalso
      omega
    | succ n ih18 =>
      intro H locs ls v18_2 v18_3 hW hI hV hS hl rv18_1 rv18_3 mu18
      have J80 : ∀ (H : Heap) (locs : List Loc) (ls : Array Slot) (v80_2 : Int32) (u80_0 : Int32), cW N H → mI N h0 H → kp N h0 [32, 33, 34, 35, 36, 37, 38, 39, 40, 41, 42] V H → va_S (cE N [11]) s.heap H locs → lv_has ls 5 [(0, .ref h0), (1, .int p1), (2, .int v80_2), (3, .int v18_3)] → ir p1 0 2 → ir v18_3 1 4 → ir u80_0 0 24 → wt_pin N.1 vwCl h0 11 7 (.int u80_0) H → WW H locs (F0 m 80 ls []) := by
        intro H locs ls v80_2 u80_0 hW hI hV hS hl rv80_1 rv80_3 ru80_0 nh0_7
        refine w1 _ _ _ ?_
        obtain ⟨x80, e80⟩ : ∃ y : Int32, y = v18_3 + 1 := ⟨_, rfl⟩
        have r80 : ir x80 2 5 := ir_w (ir_add e80 rv80_3 (ir_c (1) (by decide) : ir (1 : Int32) (1) (1)) (by decide) (by decide)) (by decide) (by decide)
        have t80 : x80.toInt = v18_3.toInt + (1) := it_add e80 rv80_3 (ir_c (1) (by decide) : ir (1 : Int32) (1) (1)) (by decide) (by decide)
        refine lv_iinc (v := x80) (lv' := [(3, .int x80), (0, .ref h0), (1, .int p1), (2, .int v80_2)]) hx hb dX11_marks_80 hl (k := 3) rfl (by rw [e80]; rfl) (by decide) rfl (fun ls hl => ?_)
        refine lv_goto (tgt := 18) hx hb dX11_marks_83 (by decide) ?_
        exact w2 _ _ _ (ih18 _ _ _ v80_2 x80 hW hI hV hS (lv_sub hl [1, 2, 3, 0] rfl) rv80_1 (ir_w (lo' := 1) (hi' := 5) r80 (by decide) (by decide)) (by have h9 := r80; omega))
      have J72 : ∀ (H : Heap) (locs : List Loc) (ls : Array Slot) (u72_0 : Int32), cW N H → mI N h0 H → kp N h0 [32, 33, 34, 35, 36, 37, 38, 39, 40, 41, 42] V H → va_S (cE N [11]) s.heap H locs → lv_has ls 5 [(0, .ref h0), (1, .int p1), (2, .int v18_2), (3, .int v18_3)] → ir p1 0 2 → ir v18_3 1 4 → ir u72_0 0 24 → wt_pin N.1 vwCl h0 11 7 (.int u72_0) H → WW H locs (F0 m 72 ls []) := by
        intro H locs ls u72_0 hW hI hV hS hl rv72_1 rv72_3 ru72_0 nh0_7
        refine w1 _ _ _ ?_
        refine lv_iload_n hx hb dX11_marks_72 rfl (lv_at hl 2 rfl) ?_
        refine lv_iconst (v := 1) hx hb dX11_marks_73 (by decide) ?_
        refine lv_iload_n hx hb dX11_marks_74 rfl (lv_at hl 3 rfl) ?_
        refine lv_iconst (v := 1) hx hb dX11_marks_75 (by decide) ?_
        refine lv_isub hx hb dX11_marks_76 ?_
        refine lv_topi (fun x76 e76 => ?_)
        have t76 : x76.toInt = v18_3.toInt - (1) := it_sub e76 rv72_3 (ir_c (1) (by decide) : ir (1 : Int32) (1) (1)) (by decide) (by decide)
        have r76 : ir x76 0 3 := ir_w (ir_sub e76 rv72_3 (ir_c (1) (by decide) : ir (1 : Int32) (1) (1)) (by decide) (by decide)) (by decide) (by decide)
        refine lv_ishl hx hb dX11_marks_77 ?_
        refine lv_topi (fun x77 e77 => ?_)
        refine lv_ior hx hb dX11_marks_78 ?_
        refine lv_topi (fun x78 e78 => ?_)
        refine lv_istore_n (lv' := [(2, .int x78), (0, .ref h0), (1, .int p1), (3, .int v18_3)]) hx hb dX11_marks_79 rfl hl (by decide) rfl (fun ls hl => ?_)
        exact w2 _ _ _ (J80 _ _ _ x78 u72_0 hW hI hV hS (lv_sub hl [1, 2, 0, 3] rfl) rv72_1 rv72_3 ru72_0 nh0_7)
      have J67 : ∀ (H : Heap) (locs : List Loc) (ls : Array Slot) (w67_0 : Int64) (u67_0 : Int32) (u67_1 : Int64) (u67_2 : Int64), cW N H → mI N h0 H → kp N h0 [32, 33, 34, 35, 36, 37, 38, 39, 40, 41, 42] V H → va_S (cE N [11]) s.heap H locs → lv_has ls 5 [(0, .ref h0), (1, .int p1), (2, .int v18_2), (3, .int v18_3)] → ir p1 0 2 → ir v18_3 1 4 → ir u67_0 0 24 → wt_pin N.1 vwCl h0 11 7 (.int u67_0) H → lr u67_1 0 9223372036854775807 → wt_pin N.1 vwCl h0 11 39 (.long u67_1) H → lr u67_2 1 9223372036854775807 → wt_pin N.1 vwCl h0 11 40 (.long u67_2) H → WW H locs (F0 m 67 ls [.long w67_0]) := by
        intro H locs ls w67_0 u67_0 u67_1 u67_2 hW hI hV hS hl rv67_1 rv67_3 ru67_0 nh0_7 ru67_1 nh0_39 ru67_2 nh0_40
        refine w1 _ _ _ ?_
        refine lv_lconst (v := 0) hx hb dX11_marks_67 (by decide) ?_
        refine wl_ne (tgt := 80) hx hb dX11_marks_68 dX11_marks_69 (by decide) (fun c68 => ?_) (fun c68 => ?_)
        · have c68 : w67_0.toInt ≠ (0 : Int) := c68
          exact w2 _ _ _ (J80 _ _ _ v18_2 u67_0 hW hI hV hS (lv_sub hl [0, 1, 2, 3] rfl) rv67_1 rv67_3 ru67_0 nh0_7)
        · have c68 : w67_0.toInt = (0 : Int) := c68
          have rw67_0_68 : lr w67_0 0 0 := by have h8 := (lr_any w67_0); have h9 := (lr_c (0) (by decide) : lr (0 : Int64) (0) (0)); constructor <;> omega
          exact w2 _ _ _ (J72 _ _ _ u67_0 hW hI hV hS (lv_sub hl [0, 1, 2, 3] rfl) rv67_1 rv67_3 ru67_0 nh0_7)
      refine w1 _ _ _ ?_
      refine lv_iload_n hx hb dX11_marks_18 rfl (lv_at hl 3 rfl) ?_
      refine lv_iconst (v := 4) hx hb dX11_marks_19 (by decide) ?_
      refine lv_icmp_gt (tgt := 86) hx hb dX11_marks_20 (by decide) (fun c20 => ?_) (fun c20 => ?_)
      · have rv18_3_20 : ir v18_3 5 5 := ⟨Int.le_trans (by decide) (rf_lt c20 (ir_c (4) (by decide) : ir (4 : Int32) (4) (4)) rv18_3).2, (rv18_3).2⟩
        have d20 := Int32.lt_iff_toInt_lt.mp c20
        refine lv_iload_n hx hb dX11_marks_86 rfl (lv_at hl 2 rfl) ?_
        exact W.iret (v := v18_2) hx hb hr (fun t ht _ => ⟨⟨v18_2, v18_2, rfl, ⟨rfl, trivial⟩, cW_at ht hW, ⟨mI_at ht hI, kp_at ht hV⟩⟩, hS.F ht⟩) hS.2.2 dX11_marks_87
      · have rv18_3_20 : ir v18_3 1 4 := ⟨(rv18_3).1, Int.le_trans (rf_le (rf_nlt c20) rv18_3 (ir_c (4) (by decide) : ir (4 : Int32) (4) (4))).1 (by decide)⟩
        have d20 := Int32.le_iff_toInt_le.mp (rf_nlt c20)
        refine lv_aload_n hx hb dX11_marks_23 rfl (lv_at hl 0 rfl) ?_
        refine lv_aload_n hx hb dX11_marks_24 rfl (lv_at hl 0 rfl) ?_
        refine wt_getp hx hb hts cfX11 hown hK hW (cg11 k0) rfl 7 (by decide) (Or.inl (hts _ q879)) dX11_marks_25 (fun v hv nh0_7 => ?_)
        obtain ⟨x25, rfl, r25⟩ : gi 0 24 v := hv
        refine lv_iload_n hx hb dX11_marks_28 rfl (lv_at hl 3 rfl) ?_
        obtain ⟨V1, hV1⟩ := kp_all hW k0
        refine cc_i2 (B2 := fun r H => mI N h0 H ∧ kp N h0 [32, 33, 34, 35, 36, 37, 38, 39, 40, 41, 42] V1 H ∧ (¬ r = 0 → ∃ bu bb : Int64, pL N h0 39 bu H ∧ pL N h0 40 bb H ∧ 0 ≤ bu.toInt ∧ 1 ≤ bb.toInt)) (wt_runV (As := [.int x25, .int v18_3]) (rest := []) ⟨hx, hb, hml, hown, hts⟩ (m_X11_shines l N h0 k0 hO V1 x25 r25 v18_3 rv18_3_20 x25 (by have h6 := r25; have h7 := r25; omega)) wm_X11_shines q1238 ⟨rfl, rfl⟩ ⟨Nat.le_of_ble_eq_true rfl, Nat.le_of_ble_eq_true rfl⟩ (cS_preV (B := fun H => mI N h0 H ∧ kp N h0 [32, 33, 34, 35, 36, 37, 38, 39, 40, 41, 42] V1 H ∧ wt_pin N.1 vwCl h0 11 7 (.int x25) H) hK hW hT hnn hS (cg11 k0) rfl rfl (And.intro hI (And.intro (kp_of (F := [32, 33, 34, 35, 36, 37, 38, 39, 40, 41, 42]) hV1) nh0_7))) rfl hl.1 rfl (Nat.le_of_ble_eq_true rfl) dX11_marks_29 ⟨Nat.zero_le _, Nat.zero_le _⟩) hS (by decide) (fun x29 H locs hp hW hS oq hB2 => ?_)
        obtain ⟨hI, hV2, hB2⟩ := hB2
        have hV := kp_call hV hV1 hV2 (by decide)
        have hq29 := hB2
        have nh0_7 := kp_use hV1 hV2 (by decide) (by decide) nh0_7
        have r29 : ir x29 0 1 := hp
        refine lv_istore (lv' := [(4, .int x29), (0, .ref h0), (1, .int p1), (2, .int v18_2), (3, .int v18_3)]) hx hb dX11_marks_32 hl (by decide) rfl (fun ls hl => ?_)
        refine lv_iload_n hx hb dX11_marks_34 rfl (lv_at hl 2 rfl) ?_
        refine lv_iconst (v := 2) hx hb dX11_marks_35 (by decide) ?_
        refine lv_icmp_ne (tgt := 47) hx hb dX11_marks_36 (by decide) (fun c36 => ?_) (fun c36 => ?_)
        · refine lv_iload hx hb dX11_marks_47 (lv_at hl 0 rfl) ?_
          refine lv_if_eq (tgt := 80) hx hb dX11_marks_49 (by decide) (fun c49 => ?_) (fun c49 => ?_)
          · have rx29_49 : ir x29 0 0 := rf_eq c49 (ir_c (0) (by decide) : ir (0 : Int32) (0) (0))
            exact w2 _ _ _ (J80 _ _ _ v18_2 x25 hW hI hV hS (lv_sub hl [1, 2, 3, 4] rfl) rv18_1 rv18_3_20 r25 nh0_7)
          · have rx29_49 : ir x29 1 1 := rf_ne0 c49 r29
            obtain ⟨bu29, bb29, nh0_39, nh0_40, vu29, vb29⟩ := hq29 c49
            refine lv_iload_n hx hb dX11_marks_52 rfl (lv_at hl 2 rfl) ?_
            refine lv_if_ne (tgt := 63) hx hb dX11_marks_53 (by decide) (fun c53 => ?_) (fun c53 => ?_)
            · have rp1_53 : ir p1 1 2 := rf_ne0 c53 rv18_1
              refine lv_aload_n hx hb dX11_marks_63 rfl (lv_at hl 1 rfl) ?_
              refine wt_getp hx hb hts cfX11 hown hK hW (cg11 k0) rfl 41 (by decide) (Or.inl (hts _ q913)) dX11_marks_64 (fun v hv nh0_41 => ?_)
              obtain ⟨x64, rfl⟩ : gl v := hv
              exact w2 _ _ _ (J67 _ _ _ x64 x25 bu29 bb29 hW hI hV hS (lv_sub hl [1, 2, 3, 4] rfl) (ir_w (lo' := 0) (hi' := 2) rp1_53 (by decide) (by decide)) rv18_3_20 r25 nh0_7 (⟨vu29, (lr_any bu29).2⟩ : lr bu29 0 9223372036854775807) nh0_39 (⟨vb29, (lr_any bb29).2⟩ : lr bb29 1 9223372036854775807) nh0_40)
            · have rp1_53 : ir p1 0 0 := rf_eq c53 (ir_c (0) (by decide) : ir (0 : Int32) (0) (0))
              refine lv_aload_n hx hb dX11_marks_56 rfl (lv_at hl 1 rfl) ?_
              refine wt_rel hx hb hts cfX11 hown hK nh0_39 rfl (by decide) (Or.inl (hts _ q911)) dX11_marks_57 ?_
              refine lv_goto (tgt := 67) hx hb dX11_marks_60 (by decide) ?_
              exact w2 _ _ _ (J67 _ _ _ bu29 x25 bu29 bb29 hW hI hV hS (lv_sub hl [1, 2, 3, 4] rfl) (ir_w (lo' := 0) (hi' := 2) rp1_53 (by decide) (by decide)) rv18_3_20 r25 nh0_7 (⟨vu29, (lr_any bu29).2⟩ : lr bu29 0 9223372036854775807) nh0_39 (⟨vb29, (lr_any bb29).2⟩ : lr bb29 1 9223372036854775807) nh0_40)
        · have rp1_36 : ir p1 2 2 := rf_eq c36 (ir_c (2) (by decide) : ir (2 : Int32) (2) (2))
          refine lv_iload hx hb dX11_marks_39 (lv_at hl 0 rfl) ?_
          refine lv_if_ne (tgt := 80) hx hb dX11_marks_41 (by decide) (fun c41 => ?_) (fun c41 => ?_)
          · have rx29_41 : ir x29 1 1 := rf_ne0 c41 r29
            obtain ⟨bu29, bb29, nh0_39, nh0_40, vu29, vb29⟩ := hq29 c41
            exact w2 _ _ _ (J80 _ _ _ v18_2 x25 hW hI hV hS (lv_sub hl [1, 2, 3, 4] rfl) (ir_w (lo' := 0) (hi' := 2) rp1_36 (by decide) (by decide)) rv18_3_20 r25 nh0_7)
          · have rx29_41 : ir x29 0 0 := rf_eq c41 (ir_c (0) (by decide) : ir (0 : Int32) (0) (0))
            refine lv_goto (tgt := 72) hx hb dX11_marks_44 (by decide) ?_
            exact w2 _ _ _ (J72 _ _ _ x25 hW hI hV hS (lv_sub hl [1, 2, 3, 4] rfl) (ir_w (lo' := 0) (hi' := 2) rp1_36 (by decide) (by decide)) rv18_3_20 r25 nh0_7)
  refine lv_iload_n hx hb dX11_marks_0 rfl (lv_at hl 1 rfl) ?_
  refine lv_i2l hx hb dX11_marks_1 rfl ?_
  refine lv_topl (fun x1 e1 => ?_)
  have r1 : lr x1 (-2147483648) 2147483647 := by rw [e1]; exact i2l_r (ir_any p1)
  have t1 : x1.toInt = p1.toInt := by rw [e1]; exact Int32.toInt_toInt64 p1
  refine lv_lconst (v := 0) hx hb dX11_marks_2 (by decide) ?_
  refine lv_ldc2 hx hb hown (hts _ q1227) dX11_marks_3 ?_
  refine cp_i (wt_runS (As := [.long x1, .long (0 : Int64), .long (2 : Int64)]) (rest := []) ⟨hx, hb, hml, hown, hts⟩ (m_X11_isIn l x1 (0 : Int64) (2 : Int64)) wm_X11_isIn q1050 ⟨rfl, rfl⟩ ⟨Nat.le_of_ble_eq_true rfl, Nat.le_of_ble_eq_true rfl⟩ pS_pre rfl hl.1 rfl (Nat.le_of_ble_eq_true rfl) dX11_marks_6 ⟨Nat.zero_le _, Nat.zero_le _⟩) hW hS (fun x6 H locs hp hW1 hS oq => ?_)
  have hV := hV.same hW k0 oq
  have hI := mI.fr.same hI hW oq
  have hW := hW1
  obtain ⟨r6, b6⟩ := hp
  refine lv_if_ne (tgt := 14) hx hb dX11_marks_9 (by decide) (fun c9 => ?_) (fun c9 => ?_)
  · have rx6_9 : ir x6 1 1 := rf_ne0 c9 r6
    have bx6_9 := b6 c9
    have rbx1_9 : lr x1 0 2 := by have h5 := bx6_9; have h6 := r1; have h7 := (lr_c (0) (by decide) : lr (0 : Int64) (0) (0)); have h8 := (lr_c (2) (by decide) : lr (2 : Int64) (2) (2)); constructor <;> omega
    have rp1_9 : ir p1 0 2 := i2l_b e1 rbx1_9
    refine lv_iconst (v := 0) hx hb dX11_marks_14 (by decide) ?_
    refine lv_istore_n (lv' := [(2, .int (0 : Int32)), (0, .ref h0), (1, .int p1)]) hx hb dX11_marks_15 rfl hl (by decide) rfl (fun ls hl => ?_)
    refine lv_iconst (v := 1) hx hb dX11_marks_16 (by decide) ?_
    refine lv_istore_n (lv' := [(3, .int (1 : Int32)), (2, .int (0 : Int32)), (0, .ref h0), (1, .int p1)]) hx hb dX11_marks_17 rfl hl (by decide) rfl (fun ls hl => ?_)
    exact w2 _ _ _ (L18 5 _ _ _ (0 : Int32) (1 : Int32) hW hI hV hS (lv_sub hl [2, 3, 1, 0] rfl) rp1_9 (ir_w (lo' := 1) (hi' := 5) (ir_c (1) (by decide) : ir (1 : Int32) (1) (1)) (by decide) (by decide)) (by have h9 := (ir_c (1) (by decide) : ir (1 : Int32) (1) (1)); omega))
  · have rx6_9 : ir x6 0 0 := rf_eq c9 (ir_c (0) (by decide) : ir (0 : Int32) (0) (0))
    refine lv_iconst (v := -1) hx hb dX11_marks_12 (by decide) ?_
    exact W.iret (v := (-1 : Int32)) hx hb hr (fun t ht _ => ⟨⟨(-1 : Int32), (-1 : Int32), rfl, ⟨rfl, trivial⟩, cW_at ht hW, ⟨mI_at ht hI, kp_at ht hV⟩⟩, hS.F ht⟩) hS.2.2 dX11_marks_13
set_option maxHeartbeats 4000000 in
set_option maxRecDepth 100000 in
theorem m_X11_extreme (l : Launch) (N : c_N) (h0 : Nat) (k0 : N.2.2.1 h0 = some 11) (hO : mOK N) (V : Nat → Value) (p1 : Int32) : cMi2 l yX11_extreme cX11_extreme 8 .int { frames := 5, cells := 0, slots := 0, locals := 148 } [.ref h0, .int p1] N [11] (fun H => mI N h0 H ∧ kp N h0 [32, 33, 34, 35, 36, 37, 38, 39, 40, 41, 42] V H) (fun _ => True) (fun _ H => mI N h0 H ∧ kp N h0 [32, 33, 34, 35, 36, 37, 38, 39, 40, 41, 42] V H) := by
  refine Met.ofW (cc := cX11_extreme) (maxL := 8) (ret := some .int) (by decide) rfl ?_
  intro p e s m args below meth c s₁ B hml hv
  obtain ⟨rfl, ⟨hK, hW, hT, hnn⟩, hB⟩ := hv
  obtain ⟨hI, hV⟩ := hB
  have hx := B.exec
  have hb := B.bytes
  have hr := B.returns
  have hts : ∀ w ∈ lw_g, w.before _ s = true := fun w h => atoms_spec (ws := wc_ws yX11_extreme cX11_extreme 8 (some .int)) B.pre w (List.mem_cons_of_mem _ h)
  have hown : s.vm.findClass RX11 = some m.cls := findClass_of_methodNamed B.named
  have hlocks := B.notSynchronized
  have hS : va_S (cE N [11]) s.heap s.heap [] := va_S.rf
  have hl := lv_entry ([.ref h0, .int p1]) (n := 8) (Nat.le_of_ble_eq_true rfl)
  rw [lg_entry_eq]
  generalize (lg_sl ([.ref h0, .int p1]) ++ List.replicate (8 - (lg_sl ([.ref h0, .int p1])).length) Slot.unset).toArray = ls at hl ⊢
  have hl : lv_has ls 8 [(0, .ref h0), (1, .int p1)] := hl
  refine wq_all ?_
  intro WW w1 w2
  have L22 : ∀ (n : Nat) (H : Heap) (locs : List Loc) (ls : Array Slot) (v22_2 : Int32) (v22_3 : Int64) (v22_5 : Int64) (v22_7 : Int32), cW N H → mI N h0 H → kp N h0 [32, 33, 34, 35, 36, 37, 38, 39, 40, 41, 42] V H → va_S (cE N [11]) s.heap H locs → lv_has ls 8 [(0, .ref h0), (1, .int p1), (2, .int v22_2), (3, .long v22_3), (5, .long v22_5), (7, .int v22_7)] → ir p1 0 1 → ir v22_2 (-1) 4 → lr v22_3 0 9223372036854775807 → lr v22_5 1 9223372036854775807 → ir v22_7 1 5 → 5 - v22_7.toInt < (n : Int) → WW H locs (F0 m 22 ls []) := by
    intro n
    induction n with
    | zero =>
      intro H locs ls v22_2 v22_3 v22_5 v22_7 hW hI hV hS hl rv22_1 rv22_2 rv22_3 rv22_5 rv22_7 mu22
      exfalso
      omega
    | succ n ih22 =>
      intro H locs ls v22_2 v22_3 v22_5 v22_7 hW hI hV hS hl rv22_1 rv22_2 rv22_3 rv22_5 rv22_7 mu22
      have J107 : ∀ (H : Heap) (locs : List Loc) (ls : Array Slot) (v107_2 : Int32) (v107_3 : Int64) (v107_5 : Int64) (u107_0 : Int32), cW N H → mI N h0 H → kp N h0 [32, 33, 34, 35, 36, 37, 38, 39, 40, 41, 42] V H → va_S (cE N [11]) s.heap H locs → lv_has ls 8 [(0, .ref h0), (1, .int p1), (2, .int v107_2), (3, .long v107_3), (5, .long v107_5), (7, .int v22_7)] → ir p1 0 1 → ir v107_2 (-1) 4 → lr v107_3 0 9223372036854775807 → lr v107_5 1 9223372036854775807 → ir v22_7 1 4 → ir u107_0 0 24 → wt_pin N.1 vwCl h0 11 7 (.int u107_0) H → WW H locs (F0 m 107 ls []) := by
        intro H locs ls v107_2 v107_3 v107_5 u107_0 hW hI hV hS hl rv107_1 rv107_2 rv107_3 rv107_5 rv107_7 ru107_0 nh0_7
        refine w1 _ _ _ ?_
        obtain ⟨x107, e107⟩ : ∃ y : Int32, y = v22_7 + 1 := ⟨_, rfl⟩
        have r107 : ir x107 2 5 := ir_w (ir_add e107 rv107_7 (ir_c (1) (by decide) : ir (1 : Int32) (1) (1)) (by decide) (by decide)) (by decide) (by decide)
        have t107 : x107.toInt = v22_7.toInt + (1) := it_add e107 rv107_7 (ir_c (1) (by decide) : ir (1 : Int32) (1) (1)) (by decide) (by decide)
        refine lv_iinc (v := x107) (lv' := [(7, .int x107), (0, .ref h0), (1, .int p1), (2, .int v107_2), (3, .long v107_3), (5, .long v107_5)]) hx hb dX11_extreme_107 hl (k := 5) rfl (by rw [e107]; rfl) (by decide) rfl (fun ls hl => ?_)
        refine lv_goto (tgt := 22) hx hb dX11_extreme_110 (by decide) ?_
        exact w2 _ _ _ (ih22 _ _ _ v107_2 v107_3 v107_5 x107 hW hI hV hS (lv_sub hl [1, 2, 3, 4, 5, 0] rfl) rv107_1 rv107_2 rv107_3 rv107_5 (ir_w (lo' := 1) (hi' := 5) r107 (by decide) (by decide)) (by have h9 := r107; omega))
      have J93 : ∀ (H : Heap) (locs : List Loc) (ls : Array Slot) (u93_0 : Int32) (u93_1 : Int64) (u93_2 : Int64), cW N H → mI N h0 H → kp N h0 [32, 33, 34, 35, 36, 37, 38, 39, 40, 41, 42] V H → va_S (cE N [11]) s.heap H locs → lv_has ls 8 [(0, .ref h0), (1, .int p1), (7, .int v22_7)] → ir p1 0 1 → ir v22_7 1 4 → ir u93_0 0 24 → wt_pin N.1 vwCl h0 11 7 (.int u93_0) H → lr u93_1 0 9223372036854775807 → wt_pin N.1 vwCl h0 11 39 (.long u93_1) H → lr u93_2 1 9223372036854775807 → wt_pin N.1 vwCl h0 11 40 (.long u93_2) H → WW H locs (F0 m 93 ls []) := by
        intro H locs ls u93_0 u93_1 u93_2 hW hI hV hS hl rv93_1 rv93_7 ru93_0 nh0_7 ru93_1 nh0_39 ru93_2 nh0_40
        refine w1 _ _ _ ?_
        refine lv_iload hx hb dX11_extreme_93 (lv_at hl 2 rfl) ?_
        refine lv_istore_n (lv' := [(2, .int v22_7), (0, .ref h0), (1, .int p1), (7, .int v22_7)]) hx hb dX11_extreme_95 rfl hl (by decide) rfl (fun ls hl => ?_)
        refine lv_aload_n hx hb dX11_extreme_96 rfl (lv_at hl 1 rfl) ?_
        refine wt_rel hx hb hts cfX11 hown hK nh0_39 rfl (by decide) (Or.inl (hts _ q911)) dX11_extreme_97 ?_
        refine lv_lstore_n (lv' := [(3, .long u93_1), (2, .int v22_7), (0, .ref h0), (1, .int p1), (7, .int v22_7)]) hx hb dX11_extreme_100 rfl hl (by decide) rfl (fun ls hl => ?_)
        refine lv_aload_n hx hb dX11_extreme_101 rfl (lv_at hl 2 rfl) ?_
        refine wt_rel hx hb hts cfX11 hown hK nh0_40 rfl (by decide) (Or.inl (hts _ q912)) dX11_extreme_102 ?_
        refine lv_lstore (lv' := [(5, .long u93_2), (3, .long u93_1), (2, .int v22_7), (0, .ref h0), (1, .int p1), (7, .int v22_7)]) hx hb dX11_extreme_105 hl (by decide) rfl (fun ls hl => ?_)
        exact w2 _ _ _ (J107 _ _ _ v22_7 u93_1 u93_2 u93_0 hW hI hV hS (lv_sub hl [3, 4, 2, 1, 0, 5] rfl) rv93_1 (ir_w (lo' := -1) (hi' := 4) rv93_7 (by decide) (by decide)) ru93_1 ru93_2 rv93_7 ru93_0 nh0_7)
      refine w1 _ _ _ ?_
      refine lv_iload hx hb dX11_extreme_22 (lv_at hl 5 rfl) ?_
      refine lv_iconst (v := 4) hx hb dX11_extreme_24 (by decide) ?_
      refine lv_icmp_gt (tgt := 113) hx hb dX11_extreme_25 (by decide) (fun c25 => ?_) (fun c25 => ?_)
      · have rv22_7_25 : ir v22_7 5 5 := ⟨Int.le_trans (by decide) (rf_lt c25 (ir_c (4) (by decide) : ir (4 : Int32) (4) (4)) rv22_7).2, (rv22_7).2⟩
        have d25 := Int32.lt_iff_toInt_lt.mp c25
        refine lv_iload_n hx hb dX11_extreme_113 rfl (lv_at hl 2 rfl) ?_
        exact W.iret (v := v22_2) hx hb hr (fun t ht _ => ⟨⟨v22_2, v22_2, rfl, ⟨rfl, trivial⟩, cW_at ht hW, ⟨mI_at ht hI, kp_at ht hV⟩⟩, hS.F ht⟩) hS.2.2 dX11_extreme_114
      · have rv22_7_25 : ir v22_7 1 4 := ⟨(rv22_7).1, Int.le_trans (rf_le (rf_nlt c25) rv22_7 (ir_c (4) (by decide) : ir (4 : Int32) (4) (4))).1 (by decide)⟩
        have d25 := Int32.le_iff_toInt_le.mp (rf_nlt c25)
        refine lv_aload_n hx hb dX11_extreme_28 rfl (lv_at hl 0 rfl) ?_
        refine lv_aload_n hx hb dX11_extreme_29 rfl (lv_at hl 0 rfl) ?_
        refine wt_getp hx hb hts cfX11 hown hK hW (cg11 k0) rfl 7 (by decide) (Or.inl (hts _ q879)) dX11_extreme_30 (fun v hv nh0_7 => ?_)
        obtain ⟨x30, rfl, r30⟩ : gi 0 24 v := hv
        refine lv_iload hx hb dX11_extreme_33 (lv_at hl 5 rfl) ?_
        obtain ⟨V1, hV1⟩ := kp_all hW k0
        refine cc_i2 (B2 := fun r H => mI N h0 H ∧ kp N h0 [32, 33, 34, 35, 36, 37, 38, 39, 40, 41, 42] V1 H ∧ (¬ r = 0 → ∃ bu bb : Int64, pL N h0 39 bu H ∧ pL N h0 40 bb H ∧ 0 ≤ bu.toInt ∧ 1 ≤ bb.toInt)) (wt_runV (As := [.int x30, .int v22_7]) (rest := []) ⟨hx, hb, hml, hown, hts⟩ (m_X11_shines l N h0 k0 hO V1 x30 r30 v22_7 rv22_7_25 x30 (by have h6 := r30; have h7 := r30; omega)) wm_X11_shines q1238 ⟨rfl, rfl⟩ ⟨Nat.le_of_ble_eq_true rfl, Nat.le_of_ble_eq_true rfl⟩ (cS_preV (B := fun H => mI N h0 H ∧ kp N h0 [32, 33, 34, 35, 36, 37, 38, 39, 40, 41, 42] V1 H ∧ wt_pin N.1 vwCl h0 11 7 (.int x30) H) hK hW hT hnn hS (cg11 k0) rfl rfl (And.intro hI (And.intro (kp_of (F := [32, 33, 34, 35, 36, 37, 38, 39, 40, 41, 42]) hV1) nh0_7))) rfl hl.1 rfl (Nat.le_of_ble_eq_true rfl) dX11_extreme_35 ⟨Nat.zero_le _, Nat.zero_le _⟩) hS (by decide) (fun x35 H locs hp hW hS oq hB2 => ?_)
        obtain ⟨hI, hV2, hB2⟩ := hB2
        have hV := kp_call hV hV1 hV2 (by decide)
        have hq35 := hB2
        have nh0_7 := kp_use hV1 hV2 (by decide) (by decide) nh0_7
        have r35 : ir x35 0 1 := hp
        refine lv_if_ne (tgt := 44) hx hb dX11_extreme_38 (by decide) (fun c38 => ?_) (fun c38 => ?_)
        · have rx35_38 : ir x35 1 1 := rf_ne0 c38 r35
          obtain ⟨bu35, bb35, nh0_39, nh0_40, vu35, vb35⟩ := hq35 c38
          refine lv_iload_n hx hb dX11_extreme_44 rfl (lv_at hl 2 rfl) ?_
          refine lv_iconst (v := -1) hx hb dX11_extreme_45 (by decide) ?_
          refine lv_icmp_eq (tgt := 93) hx hb dX11_extreme_46 (by decide) (fun c46 => ?_) (fun c46 => ?_)
          · have rv22_2_46 : ir v22_2 (-1) (-1) := rf_eq c46 (ir_c (-1) (by decide) : ir (-1 : Int32) (-1) (-1))
            exact w2 _ _ _ (J93 _ _ _ x30 bu35 bb35 hW hI hV hS (lv_sub hl [0, 1, 5] rfl) rv22_1 rv22_7_25 r30 nh0_7 (⟨vu35, (lr_any bu35).2⟩ : lr bu35 0 9223372036854775807) nh0_39 (⟨vb35, (lr_any bb35).2⟩ : lr bb35 1 9223372036854775807) nh0_40)
          · have rv22_2_46 : ir v22_2 0 4 := rf_nel c46 rv22_2 (by decide) (by decide)
            refine lv_iload_n hx hb dX11_extreme_49 rfl (lv_at hl 1 rfl) ?_
            refine lv_if_ne (tgt := 73) hx hb dX11_extreme_50 (by decide) (fun c50 => ?_) (fun c50 => ?_)
            · have rp1_50 : ir p1 1 1 := rf_ne0 c50 rv22_1
              refine lv_lload_n hx hb dX11_extreme_73 rfl (lv_at hl 3 rfl) ?_
              refine lv_lload hx hb dX11_extreme_74 (lv_at hl 4 rfl) ?_
              refine lv_aload_n hx hb dX11_extreme_76 rfl (lv_at hl 0 rfl) ?_
              refine wt_rel hx hb hts cfX11 hown hK nh0_39 rfl (by decide) (Or.inl (hts _ q911)) dX11_extreme_77 ?_
              refine lv_aload_n hx hb dX11_extreme_80 rfl (lv_at hl 0 rfl) ?_
              refine wt_rel hx hb hts cfX11 hown hK nh0_40 rfl (by decide) (Or.inl (hts _ q912)) dX11_extreme_81 ?_
              refine cp_i (wt_runS (As := [.long v22_3, .long v22_5, .long bu35, .long bb35]) (rest := []) ⟨hx, hb, hml, hown, hts⟩ (m_X11_isLess l v22_3 rv22_3 v22_5 rv22_5 bu35 (⟨vu35, (lr_any bu35).2⟩ : lr bu35 0 9223372036854775807) bb35 (⟨vb35, (lr_any bb35).2⟩ : lr bb35 1 9223372036854775807)) wm_X11_isLess q1291 ⟨rfl, rfl⟩ ⟨Nat.le_of_ble_eq_true rfl, Nat.le_of_ble_eq_true rfl⟩ pS_pre rfl hl.1 rfl (Nat.le_of_ble_eq_true rfl) dX11_extreme_84 ⟨Nat.zero_le _, Nat.zero_le _⟩) hW hS (fun x84 H locs hp hW1 hS oq => ?_)
              have hV := hV.same hW k0 oq
              have hI := mI.fr.same hI hW oq
              have hW := hW1
              have nh0_7 := nh0_7.kept (oq _ nh0_7.lt (cE_not k0 (by decide)))
              have nh0_39 := nh0_39.kept (oq _ nh0_39.lt (cE_not k0 (by decide)))
              have nh0_40 := nh0_40.kept (oq _ nh0_40.lt (cE_not k0 (by decide)))
              have r84 : ir x84 0 1 := hp
              refine lv_if_ne (tgt := 93) hx hb dX11_extreme_87 (by decide) (fun c87 => ?_) (fun c87 => ?_)
              · have rx84_87 : ir x84 1 1 := rf_ne0 c87 r84
                exact w2 _ _ _ (J93 _ _ _ x30 bu35 bb35 hW hI hV hS (lv_sub hl [0, 1, 5] rfl) (ir_w (lo' := 0) (hi' := 1) rp1_50 (by decide) (by decide)) rv22_7_25 r30 nh0_7 (⟨vu35, (lr_any bu35).2⟩ : lr bu35 0 9223372036854775807) nh0_39 (⟨vb35, (lr_any bb35).2⟩ : lr bb35 1 9223372036854775807) nh0_40)
              · have rx84_87 : ir x84 0 0 := rf_eq c87 (ir_c (0) (by decide) : ir (0 : Int32) (0) (0))
                refine lv_goto (tgt := 107) hx hb dX11_extreme_90 (by decide) ?_
                exact w2 _ _ _ (J107 _ _ _ v22_2 v22_3 v22_5 x30 hW hI hV hS (lv_sub hl [0, 1, 2, 3, 4, 5] rfl) (ir_w (lo' := 0) (hi' := 1) rp1_50 (by decide) (by decide)) (ir_w (lo' := -1) (hi' := 4) rv22_2_46 (by decide) (by decide)) rv22_3 rv22_5 rv22_7_25 r30 nh0_7)
            · have rp1_50 : ir p1 0 0 := rf_eq c50 (ir_c (0) (by decide) : ir (0 : Int32) (0) (0))
              refine lv_aload_n hx hb dX11_extreme_53 rfl (lv_at hl 0 rfl) ?_
              refine wt_rel hx hb hts cfX11 hown hK nh0_39 rfl (by decide) (Or.inl (hts _ q911)) dX11_extreme_54 ?_
              refine lv_aload_n hx hb dX11_extreme_57 rfl (lv_at hl 0 rfl) ?_
              refine wt_rel hx hb hts cfX11 hown hK nh0_40 rfl (by decide) (Or.inl (hts _ q912)) dX11_extreme_58 ?_
              refine lv_lload_n hx hb dX11_extreme_61 rfl (lv_at hl 3 rfl) ?_
              refine lv_lload hx hb dX11_extreme_62 (lv_at hl 4 rfl) ?_
              refine cp_i (wt_runS (As := [.long bu35, .long bb35, .long v22_3, .long v22_5]) (rest := []) ⟨hx, hb, hml, hown, hts⟩ (m_X11_isLess l bu35 (⟨vu35, (lr_any bu35).2⟩ : lr bu35 0 9223372036854775807) bb35 (⟨vb35, (lr_any bb35).2⟩ : lr bb35 1 9223372036854775807) v22_3 rv22_3 v22_5 rv22_5) wm_X11_isLess q1291 ⟨rfl, rfl⟩ ⟨Nat.le_of_ble_eq_true rfl, Nat.le_of_ble_eq_true rfl⟩ pS_pre rfl hl.1 rfl (Nat.le_of_ble_eq_true rfl) dX11_extreme_64 ⟨Nat.zero_le _, Nat.zero_le _⟩) hW hS (fun x64 H locs hp hW1 hS oq => ?_)
              have hV := hV.same hW k0 oq
              have hI := mI.fr.same hI hW oq
              have hW := hW1
              have nh0_7 := nh0_7.kept (oq _ nh0_7.lt (cE_not k0 (by decide)))
              have nh0_39 := nh0_39.kept (oq _ nh0_39.lt (cE_not k0 (by decide)))
              have nh0_40 := nh0_40.kept (oq _ nh0_40.lt (cE_not k0 (by decide)))
              have r64 : ir x64 0 1 := hp
              refine lv_if_eq (tgt := 107) hx hb dX11_extreme_67 (by decide) (fun c67 => ?_) (fun c67 => ?_)
              · have rx64_67 : ir x64 0 0 := rf_eq c67 (ir_c (0) (by decide) : ir (0 : Int32) (0) (0))
                exact w2 _ _ _ (J107 _ _ _ v22_2 v22_3 v22_5 x30 hW hI hV hS (lv_sub hl [0, 1, 2, 3, 4, 5] rfl) (ir_w (lo' := 0) (hi' := 1) rp1_50 (by decide) (by decide)) (ir_w (lo' := -1) (hi' := 4) rv22_2_46 (by decide) (by decide)) rv22_3 rv22_5 rv22_7_25 r30 nh0_7)
              · have rx64_67 : ir x64 1 1 := rf_ne0 c67 r64
                refine lv_goto (tgt := 93) hx hb dX11_extreme_70 (by decide) ?_
                exact w2 _ _ _ (J93 _ _ _ x30 bu35 bb35 hW hI hV hS (lv_sub hl [0, 1, 5] rfl) (ir_w (lo' := 0) (hi' := 1) rp1_50 (by decide) (by decide)) rv22_7_25 r30 nh0_7 (⟨vu35, (lr_any bu35).2⟩ : lr bu35 0 9223372036854775807) nh0_39 (⟨vb35, (lr_any bb35).2⟩ : lr bb35 1 9223372036854775807) nh0_40)
        · have rx35_38 : ir x35 0 0 := rf_eq c38 (ir_c (0) (by decide) : ir (0 : Int32) (0) (0))
          refine lv_goto (tgt := 107) hx hb dX11_extreme_41 (by decide) ?_
          exact w2 _ _ _ (J107 _ _ _ v22_2 v22_3 v22_5 x30 hW hI hV hS (lv_sub hl [0, 1, 2, 3, 4, 5] rfl) rv22_1 rv22_2 rv22_3 rv22_5 rv22_7_25 r30 nh0_7)
  refine lv_iload_n hx hb dX11_extreme_0 rfl (lv_at hl 1 rfl) ?_
  refine lv_i2l hx hb dX11_extreme_1 rfl ?_
  refine lv_topl (fun x1 e1 => ?_)
  have r1 : lr x1 (-2147483648) 2147483647 := by rw [e1]; exact i2l_r (ir_any p1)
  have t1 : x1.toInt = p1.toInt := by rw [e1]; exact Int32.toInt_toInt64 p1
  refine lv_lconst (v := 0) hx hb dX11_extreme_2 (by decide) ?_
  refine lv_lconst (v := 1) hx hb dX11_extreme_3 (by decide) ?_
  refine cp_i (wt_runS (As := [.long x1, .long (0 : Int64), .long (1 : Int64)]) (rest := []) ⟨hx, hb, hml, hown, hts⟩ (m_X11_isIn l x1 (0 : Int64) (1 : Int64)) wm_X11_isIn q1050 ⟨rfl, rfl⟩ ⟨Nat.le_of_ble_eq_true rfl, Nat.le_of_ble_eq_true rfl⟩ pS_pre rfl hl.1 rfl (Nat.le_of_ble_eq_true rfl) dX11_extreme_4 ⟨Nat.zero_le _, Nat.zero_le _⟩) hW hS (fun x4 H locs hp hW1 hS oq => ?_)
  have hV := hV.same hW k0 oq
  have hI := mI.fr.same hI hW oq
  have hW := hW1
  obtain ⟨r4, b4⟩ := hp
  refine lv_if_ne (tgt := 12) hx hb dX11_extreme_7 (by decide) (fun c7 => ?_) (fun c7 => ?_)
  · have rx4_7 : ir x4 1 1 := rf_ne0 c7 r4
    have bx4_7 := b4 c7
    have rbx1_7 : lr x1 0 1 := by have h5 := bx4_7; have h6 := r1; have h7 := (lr_c (0) (by decide) : lr (0 : Int64) (0) (0)); have h8 := (lr_c (1) (by decide) : lr (1 : Int64) (1) (1)); constructor <;> omega
    have rp1_7 : ir p1 0 1 := i2l_b e1 rbx1_7
    refine lv_iconst (v := -1) hx hb dX11_extreme_12 (by decide) ?_
    refine lv_istore_n (lv' := [(2, .int (-1 : Int32)), (0, .ref h0), (1, .int p1)]) hx hb dX11_extreme_13 rfl hl (by decide) rfl (fun ls hl => ?_)
    refine lv_lconst (v := 0) hx hb dX11_extreme_14 (by decide) ?_
    refine lv_lstore_n (lv' := [(3, .long (0 : Int64)), (2, .int (-1 : Int32)), (0, .ref h0), (1, .int p1)]) hx hb dX11_extreme_15 rfl hl (by decide) rfl (fun ls hl => ?_)
    refine lv_lconst (v := 1) hx hb dX11_extreme_16 (by decide) ?_
    refine lv_lstore (lv' := [(5, .long (1 : Int64)), (3, .long (0 : Int64)), (2, .int (-1 : Int32)), (0, .ref h0), (1, .int p1)]) hx hb dX11_extreme_17 hl (by decide) rfl (fun ls hl => ?_)
    refine lv_iconst (v := 1) hx hb dX11_extreme_19 (by decide) ?_
    refine lv_istore (lv' := [(7, .int (1 : Int32)), (5, .long (1 : Int64)), (3, .long (0 : Int64)), (2, .int (-1 : Int32)), (0, .ref h0), (1, .int p1)]) hx hb dX11_extreme_20 hl (by decide) rfl (fun ls hl => ?_)
    exact w2 _ _ _ (L22 5 _ _ _ (-1 : Int32) (0 : Int64) (1 : Int64) (1 : Int32) hW hI hV hS (lv_sub hl [4, 5, 3, 2, 1, 0] rfl) rp1_7 (ir_w (lo' := -1) (hi' := 4) (ir_c (-1) (by decide) : ir (-1 : Int32) (-1) (-1)) (by decide) (by decide)) (lr_w (lo' := 0) (hi' := 9223372036854775807) (lr_c (0) (by decide) : lr (0 : Int64) (0) (0)) (by decide) (by decide)) (lr_w (lo' := 1) (hi' := 9223372036854775807) (lr_c (1) (by decide) : lr (1 : Int64) (1) (1)) (by decide) (by decide)) (ir_w (lo' := 1) (hi' := 5) (ir_c (1) (by decide) : ir (1 : Int32) (1) (1)) (by decide) (by decide)) (by have h9 := (ir_c (1) (by decide) : ir (1 : Int32) (1) (1)); omega))
  · have rx4_7 : ir x4 0 0 := rf_eq c7 (ir_c (0) (by decide) : ir (0 : Int32) (0) (0))
    refine lv_iconst (v := -1) hx hb dX11_extreme_10 (by decide) ?_
    exact W.iret (v := (-1 : Int32)) hx hb hr (fun t ht _ => ⟨⟨(-1 : Int32), (-1 : Int32), rfl, ⟨rfl, trivial⟩, cW_at ht hW, ⟨mI_at ht hI, kp_at ht hV⟩⟩, hS.F ht⟩) hS.2.2 dX11_extreme_11
set_option maxHeartbeats 4000000 in
set_option maxRecDepth 100000 in
theorem m_X11_below (l : Launch) (N : c_N) (h0 : Nat) (k0 : N.2.2.1 h0 = some 11) (hO : mOK N) (V : Nat → Value) (p1 : Int32) (p2 : Int32) (p3 : Int32) : cMi2 l yX11_below cX11_below 6 .int { frames := 5, cells := 0, slots := 0, locals := 148 } [.ref h0, .int p1, .int p2, .int p3] N [11] (fun H => mI N h0 H ∧ kp N h0 [32, 33, 34, 35, 36, 37, 38, 39, 40, 41, 42] V H) (fun _ => True) (fun _ H => mI N h0 H ∧ kp N h0 [32, 33, 34, 35, 36, 37, 38, 39, 40, 41, 42] V H) := by
  refine Met.ofW (cc := cX11_below) (maxL := 6) (ret := some .int) (by decide) rfl ?_
  intro p e s m args below meth c s₁ B hml hv
  obtain ⟨rfl, ⟨hK, hW, hT, hnn⟩, hB⟩ := hv
  obtain ⟨hI, hV⟩ := hB
  have hx := B.exec
  have hb := B.bytes
  have hr := B.returns
  have hts : ∀ w ∈ lw_g, w.before _ s = true := fun w h => atoms_spec (ws := wc_ws yX11_below cX11_below 6 (some .int)) B.pre w (List.mem_cons_of_mem _ h)
  have hown : s.vm.findClass RX11 = some m.cls := findClass_of_methodNamed B.named
  have hlocks := B.notSynchronized
  have hS : va_S (cE N [11]) s.heap s.heap [] := va_S.rf
  have hl := lv_entry ([.ref h0, .int p1, .int p2, .int p3]) (n := 6) (Nat.le_of_ble_eq_true rfl)
  rw [lg_entry_eq]
  generalize (lg_sl ([.ref h0, .int p1, .int p2, .int p3]) ++ List.replicate (6 - (lg_sl ([.ref h0, .int p1, .int p2, .int p3])).length) Slot.unset).toArray = ls at hl ⊢
  have hl : lv_has ls 6 [(0, .ref h0), (1, .int p1), (2, .int p2), (3, .int p3)] := hl
  refine wq_all ?_
  intro WW w1 w2
  have L40 : ∀ (n : Nat) (H : Heap) (locs : List Loc) (ls : Array Slot) (v40_4 : Int32) (v40_5 : Int32), cW N H → mI N h0 H → kp N h0 [32, 33, 34, 35, 36, 37, 38, 39, 40, 41, 42] V H → va_S (cE N [11]) s.heap H locs → lv_has ls 6 [(0, .ref h0), (1, .int p1), (2, .int p2), (3, .int p3), (4, .int v40_4), (5, .int v40_5)] → ir p1 1 4 → ir p2 0 1000 → ir p3 1 1000 → ir v40_5 0 25 → 25 - v40_5.toInt < (n : Int) → WW H locs (F0 m 40 ls []) := by
    intro n
    induction n with
    | zero =>
      intro H locs ls v40_4 v40_5 hW hI hV hS hl rv40_1 rv40_2 rv40_3 rv40_5 mu40
      exfalso
      omega
    | succ n ih40 =>
      intro H locs ls v40_4 v40_5 hW hI hV hS hl rv40_1 rv40_2 rv40_3 rv40_5 mu40
      have J84 : ∀ (H : Heap) (locs : List Loc) (ls : Array Slot) (w84_0 : Int32) (u84_0 : Int32), cW N H → mI N h0 H → kp N h0 [32, 33, 34, 35, 36, 37, 38, 39, 40, 41, 42] V H → va_S (cE N [11]) s.heap H locs → lv_has ls 6 [(0, .ref h0), (1, .int p1), (2, .int p2), (3, .int p3), (5, .int v40_5)] → ir p1 1 4 → ir p2 0 1000 → ir p3 1 1000 → ir v40_5 0 24 → ir w84_0 0 1 → ir u84_0 0 24 → wt_pin N.1 vwCl h0 11 7 (.int u84_0) H → WW H locs (F0 m 84 ls [.int w84_0, .int v40_4]) := by
        intro H locs ls w84_0 u84_0 hW hI hV hS hl rv84_1 rv84_2 rv84_3 rv84_5 rw84_0 ru84_0 nh0_7
        refine w1 _ _ _ ?_
        refine cp_i (wt_runS (As := [.int w84_0]) (rest := [.int v40_4]) ⟨hx, hb, hml, hown, hts⟩ (m_X11_one l w84_0 rw84_0) wm_X11_one q1065 ⟨rfl, rfl⟩ ⟨Nat.le_of_ble_eq_true rfl, Nat.le_of_ble_eq_true rfl⟩ pS_pre rfl hl.1 rfl (Nat.le_of_ble_eq_true rfl) dX11_below_84 ⟨Nat.zero_le _, Nat.zero_le _⟩) hW hS (fun x84 H locs hp hW1 hS oq => ?_)
        have hV := hV.same hW k0 oq
        have hI := mI.fr.same hI hW oq
        have hW := hW1
        have nh0_7 := nh0_7.kept (oq _ nh0_7.lt (cE_not k0 (by decide)))
        have r84 : ir x84 0 1 := hp
        refine lv_iadd hx hb dX11_below_87 ?_
        refine lv_topi (fun x87 e87 => ?_)
        refine lv_istore (lv' := [(4, .int x87), (0, .ref h0), (1, .int p1), (2, .int p2), (3, .int p3), (5, .int v40_5)]) hx hb dX11_below_88 hl (by decide) rfl (fun ls hl => ?_)
        obtain ⟨x90, e90⟩ : ∃ y : Int32, y = v40_5 + 1 := ⟨_, rfl⟩
        have r90 : ir x90 1 25 := ir_w (ir_add e90 rv84_5 (ir_c (1) (by decide) : ir (1 : Int32) (1) (1)) (by decide) (by decide)) (by decide) (by decide)
        have t90 : x90.toInt = v40_5.toInt + (1) := it_add e90 rv84_5 (ir_c (1) (by decide) : ir (1 : Int32) (1) (1)) (by decide) (by decide)
        refine lv_iinc (v := x90) (lv' := [(5, .int x90), (4, .int x87), (0, .ref h0), (1, .int p1), (2, .int p2), (3, .int p3)]) hx hb dX11_below_90 hl (k := 5) rfl (by rw [e90]; rfl) (by decide) rfl (fun ls hl => ?_)
        refine lv_goto (tgt := 40) hx hb dX11_below_93 (by decide) ?_
        exact w2 _ _ _ (ih40 _ _ _ x87 x90 hW hI hV hS (lv_sub hl [2, 3, 4, 5, 1, 0] rfl) rv84_1 rv84_2 rv84_3 (ir_w (lo' := 0) (hi' := 25) r90 (by decide) (by decide)) (by have h9 := r90; omega))
      have J83 : ∀ (H : Heap) (locs : List Loc) (ls : Array Slot) (u83_0 : Int32), cW N H → mI N h0 H → kp N h0 [32, 33, 34, 35, 36, 37, 38, 39, 40, 41, 42] V H → va_S (cE N [11]) s.heap H locs → lv_has ls 6 [(0, .ref h0), (1, .int p1), (2, .int p2), (3, .int p3), (5, .int v40_5)] → ir p1 1 4 → ir p2 0 1000 → ir p3 1 1000 → ir v40_5 0 24 → ir u83_0 0 24 → wt_pin N.1 vwCl h0 11 7 (.int u83_0) H → WW H locs (F0 m 83 ls [.int v40_4]) := by
        intro H locs ls u83_0 hW hI hV hS hl rv83_1 rv83_2 rv83_3 rv83_5 ru83_0 nh0_7
        refine w1 _ _ _ ?_
        refine lv_iconst (v := 0) hx hb dX11_below_83 (by decide) ?_
        exact w2 _ _ _ (J84 _ _ _ (0 : Int32) u83_0 hW hI hV hS (lv_sub hl [0, 1, 2, 3, 4] rfl) rv83_1 rv83_2 rv83_3 rv83_5 (ir_w (lo' := 0) (hi' := 1) (ir_c (0) (by decide) : ir (0 : Int32) (0) (0)) (by decide) (by decide)) ru83_0 nh0_7)
      refine w1 _ _ _ ?_
      refine lv_iload hx hb dX11_below_40 (lv_at hl 5 rfl) ?_
      refine lv_aload_n hx hb dX11_below_42 rfl (lv_at hl 0 rfl) ?_
      refine wt_getp hx hb hts cfX11 hown hK hW (cg11 k0) rfl 7 (by decide) (Or.inl (hts _ q879)) dX11_below_43 (fun v hv nh0_7 => ?_)
      obtain ⟨x43, rfl, r43⟩ : gi 0 24 v := hv
      refine lv_icmp_gt (tgt := 96) hx hb dX11_below_46 (by decide) (fun c46 => ?_) (fun c46 => ?_)
      · have rv40_5_46 : ir v40_5 1 25 := ⟨Int.le_trans (by decide) (rf_lt c46 r43 rv40_5).2, (rv40_5).2⟩
        have d46 := Int32.lt_iff_toInt_lt.mp c46
        refine lv_iload hx hb dX11_below_96 (lv_at hl 4 rfl) ?_
        exact W.iret (v := v40_4) hx hb hr (fun t ht _ => ⟨⟨v40_4, v40_4, rfl, ⟨rfl, trivial⟩, cW_at ht hW, ⟨mI_at ht hI, kp_at ht hV⟩⟩, hS.F ht⟩) hS.2.2 dX11_below_98
      · have rv40_5_46 : ir v40_5 0 24 := ⟨(rv40_5).1, Int.le_trans (rf_le (rf_nlt c46) rv40_5 r43).1 (by decide)⟩
        have d46 := Int32.le_iff_toInt_le.mp (rf_nlt c46)
        refine lv_iload hx hb dX11_below_49 (lv_at hl 4 rfl) ?_
        refine lv_aload_n hx hb dX11_below_51 rfl (lv_at hl 0 rfl) ?_
        refine lv_iload hx hb dX11_below_52 (lv_at hl 5 rfl) ?_
        refine lv_iload_n hx hb dX11_below_54 rfl (lv_at hl 1 rfl) ?_
        obtain ⟨V1, hV1⟩ := kp_all hW k0
        refine cc_i2 (B2 := fun r H => mI N h0 H ∧ kp N h0 [32, 33, 34, 35, 36, 37, 38, 39, 40, 41, 42] V1 H ∧ (¬ r = 0 → ∃ bu bb : Int64, pL N h0 39 bu H ∧ pL N h0 40 bb H ∧ 0 ≤ bu.toInt ∧ 1 ≤ bb.toInt)) (wt_runV (As := [.int v40_5, .int p1]) (rest := [.int v40_4]) ⟨hx, hb, hml, hown, hts⟩ (m_X11_shines l N h0 k0 hO V1 v40_5 rv40_5_46 p1 rv40_1 x43 (by have h6 := rv40_5_46; have h7 := r43; omega)) wm_X11_shines q1238 ⟨rfl, rfl⟩ ⟨Nat.le_of_ble_eq_true rfl, Nat.le_of_ble_eq_true rfl⟩ (cS_preV (B := fun H => mI N h0 H ∧ kp N h0 [32, 33, 34, 35, 36, 37, 38, 39, 40, 41, 42] V1 H ∧ wt_pin N.1 vwCl h0 11 7 (.int x43) H) hK hW hT hnn hS (cg11 k0) rfl rfl (And.intro hI (And.intro (kp_of (F := [32, 33, 34, 35, 36, 37, 38, 39, 40, 41, 42]) hV1) nh0_7))) rfl hl.1 rfl (Nat.le_of_ble_eq_true rfl) dX11_below_55 ⟨Nat.zero_le _, Nat.zero_le _⟩) hS (by decide) (fun x55 H locs hp hW hS oq hB2 => ?_)
        obtain ⟨hI, hV2, hB2⟩ := hB2
        have hV := kp_call hV hV1 hV2 (by decide)
        have hq55 := hB2
        have nh0_7 := kp_use hV1 hV2 (by decide) (by decide) nh0_7
        have r55 : ir x55 0 1 := hp
        refine lv_if_eq (tgt := 83) hx hb dX11_below_58 (by decide) (fun c58 => ?_) (fun c58 => ?_)
        · have rx55_58 : ir x55 0 0 := rf_eq c58 (ir_c (0) (by decide) : ir (0 : Int32) (0) (0))
          exact w2 _ _ _ (J83 _ _ _ x43 hW hI hV hS (lv_sub hl [0, 1, 2, 3, 5] rfl) rv40_1 rv40_2 rv40_3 rv40_5_46 r43 nh0_7)
        · have rx55_58 : ir x55 1 1 := rf_ne0 c58 r55
          obtain ⟨bu55, bb55, nh0_39, nh0_40, vu55, vb55⟩ := hq55 c58
          refine lv_iload_n hx hb dX11_below_61 rfl (lv_at hl 2 rfl) ?_
          refine lv_i2l hx hb dX11_below_62 rfl ?_
          refine lv_topl (fun x62 e62 => ?_)
          have r62 : lr x62 0 1000 := by rw [e62]; exact i2l_r rv40_2
          have t62 : x62.toInt = p2.toInt := by rw [e62]; exact Int32.toInt_toInt64 p2
          refine lv_iload_n hx hb dX11_below_63 rfl (lv_at hl 3 rfl) ?_
          refine lv_i2l hx hb dX11_below_64 rfl ?_
          refine lv_topl (fun x64 e64 => ?_)
          have r64 : lr x64 1 1000 := by rw [e64]; exact i2l_r rv40_3
          have t64 : x64.toInt = p3.toInt := by rw [e64]; exact Int32.toInt_toInt64 p3
          refine lv_aload_n hx hb dX11_below_65 rfl (lv_at hl 0 rfl) ?_
          refine wt_rel hx hb hts cfX11 hown hK nh0_39 rfl (by decide) (Or.inl (hts _ q911)) dX11_below_66 ?_
          refine lv_aload_n hx hb dX11_below_69 rfl (lv_at hl 0 rfl) ?_
          refine wt_rel hx hb hts cfX11 hown hK nh0_40 rfl (by decide) (Or.inl (hts _ q912)) dX11_below_70 ?_
          refine cp_i (wt_runS (As := [.long x62, .long x64, .long bu55, .long bb55]) (rest := [.int v40_4]) ⟨hx, hb, hml, hown, hts⟩ (m_X11_isLess l x62 (lr_w (lo' := 0) (hi' := 9223372036854775807) r62 (by decide) (by decide)) x64 (lr_w (lo' := 1) (hi' := 9223372036854775807) r64 (by decide) (by decide)) bu55 (⟨vu55, (lr_any bu55).2⟩ : lr bu55 0 9223372036854775807) bb55 (⟨vb55, (lr_any bb55).2⟩ : lr bb55 1 9223372036854775807)) wm_X11_isLess q1291 ⟨rfl, rfl⟩ ⟨Nat.le_of_ble_eq_true rfl, Nat.le_of_ble_eq_true rfl⟩ pS_pre rfl hl.1 rfl (Nat.le_of_ble_eq_true rfl) dX11_below_73 ⟨Nat.zero_le _, Nat.zero_le _⟩) hW hS (fun x73 H locs hp hW1 hS oq => ?_)
          have hV := hV.same hW k0 oq
          have hI := mI.fr.same hI hW oq
          have hW := hW1
          have nh0_7 := nh0_7.kept (oq _ nh0_7.lt (cE_not k0 (by decide)))
          have nh0_39 := nh0_39.kept (oq _ nh0_39.lt (cE_not k0 (by decide)))
          have nh0_40 := nh0_40.kept (oq _ nh0_40.lt (cE_not k0 (by decide)))
          have r73 : ir x73 0 1 := hp
          refine lv_if_ne (tgt := 83) hx hb dX11_below_76 (by decide) (fun c76 => ?_) (fun c76 => ?_)
          · have rx73_76 : ir x73 1 1 := rf_ne0 c76 r73
            exact w2 _ _ _ (J83 _ _ _ x43 hW hI hV hS (lv_sub hl [0, 1, 2, 3, 5] rfl) rv40_1 rv40_2 rv40_3 rv40_5_46 r43 nh0_7)
          · have rx73_76 : ir x73 0 0 := rf_eq c76 (ir_c (0) (by decide) : ir (0 : Int32) (0) (0))
            refine lv_iconst (v := 1) hx hb dX11_below_79 (by decide) ?_
            refine lv_goto (tgt := 84) hx hb dX11_below_80 (by decide) ?_
            exact w2 _ _ _ (J84 _ _ _ (1 : Int32) x43 hW hI hV hS (lv_sub hl [0, 1, 2, 3, 5] rfl) rv40_1 rv40_2 rv40_3 rv40_5_46 (ir_w (lo' := 0) (hi' := 1) (ir_c (1) (by decide) : ir (1 : Int32) (1) (1)) (by decide) (by decide)) r43 nh0_7)
  refine lv_aload_n hx hb dX11_below_0 rfl (lv_at hl 0 rfl) ?_
  refine lv_iload_n hx hb dX11_below_1 rfl (lv_at hl 1 rfl) ?_
  obtain ⟨V1, hV1⟩ := kp_all hW k0
  refine cc_i2 (B2 := fun _ H => mI N h0 H ∧ kp N h0 [] V1 H) (wt_runV (As := [.int p1]) (rest := []) ⟨hx, hb, hml, hown, hts⟩ (m_X11_isMark l N h0 k0 hO V1 p1) wm_X11_isMark q1204 ⟨rfl, rfl⟩ ⟨Nat.le_of_ble_eq_true rfl, Nat.le_of_ble_eq_true rfl⟩ (cS_preV (B := fun H => mI N h0 H ∧ kp N h0 [] V1 H) hK hW hT hnn hS (cg11 k0) rfl rfl (And.intro hI (kp_of (F := []) hV1))) rfl hl.1 rfl (Nat.le_of_ble_eq_true rfl) dX11_below_2 ⟨Nat.zero_le _, Nat.zero_le _⟩) hS (by decide) (fun x2 H locs hp hW hS oq hB2 => ?_)
  obtain ⟨hI, hV2⟩ := hB2
  have hV := kp_call hV hV1 hV2 (by decide)
  obtain ⟨r2, b2⟩ := hp
  refine lv_if_eq (tgt := 32) hx hb dX11_below_5 (by decide) (fun c5 => ?_) (fun c5 => ?_)
  · have rx2_5 : ir x2 0 0 := rf_eq c5 (ir_c (0) (by decide) : ir (0 : Int32) (0) (0))
    refine lv_iconst (v := -1) hx hb dX11_below_32 (by decide) ?_
    exact W.iret (v := (-1 : Int32)) hx hb hr (fun t ht _ => ⟨⟨(-1 : Int32), (-1 : Int32), rfl, ⟨rfl, trivial⟩, cW_at ht hW, ⟨mI_at ht hI, kp_at ht hV⟩⟩, hS.F ht⟩) hS.2.2 dX11_below_33
  · have rx2_5 : ir x2 1 1 := rf_ne0 c5 r2
    have bx2_5 := b2 c5
    refine lv_iload_n hx hb dX11_below_8 rfl (lv_at hl 2 rfl) ?_
    refine lv_i2l hx hb dX11_below_9 rfl ?_
    refine lv_topl (fun x9 e9 => ?_)
    have r9 : lr x9 (-2147483648) 2147483647 := by rw [e9]; exact i2l_r (ir_any p2)
    have t9 : x9.toInt = p2.toInt := by rw [e9]; exact Int32.toInt_toInt64 p2
    refine lv_lconst (v := 0) hx hb dX11_below_10 (by decide) ?_
    refine lv_ldc2 hx hb hown (hts _ q1298) dX11_below_11 ?_
    refine cp_i (wt_runS (As := [.long x9, .long (0 : Int64), .long (1000 : Int64)]) (rest := []) ⟨hx, hb, hml, hown, hts⟩ (m_X11_isIn l x9 (0 : Int64) (1000 : Int64)) wm_X11_isIn q1050 ⟨rfl, rfl⟩ ⟨Nat.le_of_ble_eq_true rfl, Nat.le_of_ble_eq_true rfl⟩ pS_pre rfl hl.1 rfl (Nat.le_of_ble_eq_true rfl) dX11_below_14 ⟨Nat.zero_le _, Nat.zero_le _⟩) hW hS (fun x14 H locs hp hW1 hS oq => ?_)
    have hV := hV.same hW k0 oq
    have hI := mI.fr.same hI hW oq
    have hW := hW1
    obtain ⟨r14, b14⟩ := hp
    refine lv_if_eq (tgt := 32) hx hb dX11_below_17 (by decide) (fun c17 => ?_) (fun c17 => ?_)
    · have rx14_17 : ir x14 0 0 := rf_eq c17 (ir_c (0) (by decide) : ir (0 : Int32) (0) (0))
      refine lv_iconst (v := -1) hx hb dX11_below_32 (by decide) ?_
      exact W.iret (v := (-1 : Int32)) hx hb hr (fun t ht _ => ⟨⟨(-1 : Int32), (-1 : Int32), rfl, ⟨rfl, trivial⟩, cW_at ht hW, ⟨mI_at ht hI, kp_at ht hV⟩⟩, hS.F ht⟩) hS.2.2 dX11_below_33
    · have rx14_17 : ir x14 1 1 := rf_ne0 c17 r14
      have bx14_17 := b14 c17
      have rbx9_17 : lr x9 0 1000 := by have h5 := bx14_17; have h6 := r9; have h7 := (lr_c (0) (by decide) : lr (0 : Int64) (0) (0)); have h8 := (lr_c (1000) (by decide) : lr (1000 : Int64) (1000) (1000)); constructor <;> omega
      have rp2_17 : ir p2 0 1000 := i2l_b e9 rbx9_17
      refine lv_iload_n hx hb dX11_below_20 rfl (lv_at hl 3 rfl) ?_
      refine lv_i2l hx hb dX11_below_21 rfl ?_
      refine lv_topl (fun x21 e21 => ?_)
      have r21 : lr x21 (-2147483648) 2147483647 := by rw [e21]; exact i2l_r (ir_any p3)
      have t21 : x21.toInt = p3.toInt := by rw [e21]; exact Int32.toInt_toInt64 p3
      refine lv_lconst (v := 1) hx hb dX11_below_22 (by decide) ?_
      refine lv_ldc2 hx hb hown (hts _ q1298) dX11_below_23 ?_
      refine cp_i (wt_runS (As := [.long x21, .long (1 : Int64), .long (1000 : Int64)]) (rest := []) ⟨hx, hb, hml, hown, hts⟩ (m_X11_isIn l x21 (1 : Int64) (1000 : Int64)) wm_X11_isIn q1050 ⟨rfl, rfl⟩ ⟨Nat.le_of_ble_eq_true rfl, Nat.le_of_ble_eq_true rfl⟩ pS_pre rfl hl.1 rfl (Nat.le_of_ble_eq_true rfl) dX11_below_26 ⟨Nat.zero_le _, Nat.zero_le _⟩) hW hS (fun x26 H locs hp hW1 hS oq => ?_)
      have hV := hV.same hW k0 oq
      have hI := mI.fr.same hI hW oq
      have hW := hW1
      obtain ⟨r26, b26⟩ := hp
      refine lv_if_ne (tgt := 34) hx hb dX11_below_29 (by decide) (fun c29 => ?_) (fun c29 => ?_)
      · have rx26_29 : ir x26 1 1 := rf_ne0 c29 r26
        have bx26_29 := b26 c29
        have rbx21_29 : lr x21 1 1000 := by have h5 := bx26_29; have h6 := r21; have h7 := (lr_c (1) (by decide) : lr (1 : Int64) (1) (1)); have h8 := (lr_c (1000) (by decide) : lr (1000 : Int64) (1000) (1000)); constructor <;> omega
        have rp3_29 : ir p3 1 1000 := i2l_b e21 rbx21_29
        refine lv_iconst (v := 0) hx hb dX11_below_34 (by decide) ?_
        refine lv_istore (lv' := [(4, .int (0 : Int32)), (0, .ref h0), (1, .int p1), (2, .int p2), (3, .int p3)]) hx hb dX11_below_35 hl (by decide) rfl (fun ls hl => ?_)
        refine lv_iconst (v := 0) hx hb dX11_below_37 (by decide) ?_
        refine lv_istore (lv' := [(5, .int (0 : Int32)), (4, .int (0 : Int32)), (0, .ref h0), (1, .int p1), (2, .int p2), (3, .int p3)]) hx hb dX11_below_38 hl (by decide) rfl (fun ls hl => ?_)
        exact w2 _ _ _ (L40 26 _ _ _ (0 : Int32) (0 : Int32) hW hI hV hS (lv_sub hl [2, 3, 4, 5, 1, 0] rfl) bx2_5 rp2_17 rp3_29 (ir_w (lo' := 0) (hi' := 25) (ir_c (0) (by decide) : ir (0 : Int32) (0) (0)) (by decide) (by decide)) (by have h9 := (ir_c (0) (by decide) : ir (0 : Int32) (0) (0)); omega))
      · have rx26_29 : ir x26 0 0 := rf_eq c29 (ir_c (0) (by decide) : ir (0 : Int32) (0) (0))
        refine lv_iconst (v := -1) hx hb dX11_below_32 (by decide) ?_
        exact W.iret (v := (-1 : Int32)) hx hb hr (fun t ht _ => ⟨⟨(-1 : Int32), (-1 : Int32), rfl, ⟨rfl, trivial⟩, cW_at ht hW, ⟨mI_at ht hI, kp_at ht hV⟩⟩, hS.F ht⟩) hS.2.2 dX11_below_33
set_option maxHeartbeats 4000000 in
set_option maxRecDepth 100000 in
theorem m_X11_worst (l : Launch) (N : c_N) (h0 : Nat) (k0 : N.2.2.1 h0 = some 11) (hO : mOK N) (V : Nat → Value) (p1 : Int32) (p2 : Int32) (p3 : Int32) : cMl2 l yX11_worst cX11_worst 10 .long { frames := 4, cells := 0, slots := 0, locals := 134 } [.ref h0, .int p1, .int p2, .int p3] N [11] (fun H => mI N h0 H ∧ kp N h0 [32, 33, 34, 35, 36, 37, 38, 39, 40, 41, 42] V H) (fun _ => True) (fun _ H => mI N h0 H ∧ kp N h0 [32, 33, 34, 35, 36, 37, 38, 39, 40, 41, 42] V H) := by
  refine Met.ofW (cc := cX11_worst) (maxL := 10) (ret := some .long) (by decide) rfl ?_
  intro p e s m args below meth c s₁ B hml hv
  obtain ⟨rfl, ⟨hK, hW, hT, hnn⟩, hB⟩ := hv
  obtain ⟨hI, hV⟩ := hB
  have hx := B.exec
  have hb := B.bytes
  have hr := B.returns
  have hts : ∀ w ∈ lw_g, w.before _ s = true := fun w h => atoms_spec (ws := wc_ws yX11_worst cX11_worst 10 (some .long)) B.pre w (List.mem_cons_of_mem _ h)
  have hown : s.vm.findClass RX11 = some m.cls := findClass_of_methodNamed B.named
  have hlocks := B.notSynchronized
  have hS : va_S (cE N [11]) s.heap s.heap [] := va_S.rf
  have hl := lv_entry ([.ref h0, .int p1, .int p2, .int p3]) (n := 10) (Nat.le_of_ble_eq_true rfl)
  rw [lg_entry_eq]
  generalize (lg_sl ([.ref h0, .int p1, .int p2, .int p3]) ++ List.replicate (10 - (lg_sl ([.ref h0, .int p1, .int p2, .int p3])).length) Slot.unset).toArray = ls at hl ⊢
  have hl : lv_has ls 10 [(0, .ref h0), (1, .int p1), (2, .int p2), (3, .int p3)] := hl
  refine wq_all ?_
  intro WW w1 w2
  have L46 : ∀ (n : Nat) (H : Heap) (locs : List Loc) (ls : Array Slot) (v46_4 : Int32) (v46_5 : Int64) (v46_7 : Int64) (v46_9 : Int32) (u46_0 : Int32), cW N H → mI N h0 H → kp N h0 [32, 33, 34, 35, 36, 37, 38, 39, 40, 41, 42] V H → va_S (cE N [11]) s.heap H locs → lv_has ls 10 [(0, .ref h0), (1, .int p1), (2, .int p2), (3, .int p3), (4, .int v46_4), (5, .long v46_5), (7, .long v46_7), (9, .int v46_9)] → ir p1 1 4 → ir p2 2 12 → ir p3 0 2 → ir v46_4 (-1) 2147483647 → lr v46_5 0 9223372036854775807 → lr v46_7 1 9223372036854775807 → ir v46_9 0 2147483647 → ir u46_0 0 8 → wt_pin N.1 vwCl h0 11 7 (.int u46_0) H → 2147483647 - v46_9.toInt < (n : Int) → WW H locs (F0 m 46 ls []) := by
    intro n
    induction n with
    | zero =>
      intro H locs ls v46_4 v46_5 v46_7 v46_9 u46_0 hW hI hV hS hl rv46_1 rv46_2 rv46_3 rv46_4 rv46_5 rv46_7 rv46_9 ru46_0 nh0_7 mu46
      exfalso
      omega
    | succ n ih46 =>
      intro H locs ls v46_4 v46_5 v46_7 v46_9 u46_0 hW hI hV hS hl rv46_1 rv46_2 rv46_3 rv46_4 rv46_5 rv46_7 rv46_9 ru46_0 nh0_7 mu46
      have J123 : ∀ (H : Heap) (locs : List Loc) (ls : Array Slot) (v123_4 : Int32) (v123_5 : Int64) (v123_7 : Int64) (u123_1 : Int64) (u123_2 : Int64), cW N H → mI N h0 H → kp N h0 [32, 33, 34, 35, 36, 37, 38, 39, 40, 41, 42] V H → va_S (cE N [11]) s.heap H locs → lv_has ls 10 [(0, .ref h0), (1, .int p1), (2, .int p2), (3, .int p3), (4, .int v123_4), (5, .long v123_5), (7, .long v123_7), (9, .int v46_9)] → ir p1 1 4 → ir p2 2 12 → ir p3 0 2 → ir v123_4 (-1) 2147483647 → lr v123_5 0 9223372036854775807 → lr v123_7 1 9223372036854775807 → ir v46_9 0 2147483646 → ir u46_0 0 8 → wt_pin N.1 vwCl h0 11 7 (.int u46_0) H → lr u123_1 0 9223372036854775807 → wt_pin N.1 vwCl h0 11 39 (.long u123_1) H → lr u123_2 1 9223372036854775807 → wt_pin N.1 vwCl h0 11 40 (.long u123_2) H → WW H locs (F0 m 123 ls []) := by
        intro H locs ls v123_4 v123_5 v123_7 u123_1 u123_2 hW hI hV hS hl rv123_1 rv123_2 rv123_3 rv123_4 rv123_5 rv123_7 rv123_9 ru123_0 nh0_7 ru123_1 nh0_39 ru123_2 nh0_40
        refine w1 _ _ _ ?_
        obtain ⟨x123, e123⟩ : ∃ y : Int32, y = v46_9 + 1 := ⟨_, rfl⟩
        have r123 : ir x123 1 2147483647 := ir_w (ir_add e123 rv123_9 (ir_c (1) (by decide) : ir (1 : Int32) (1) (1)) (by decide) (by decide)) (by decide) (by decide)
        have t123 : x123.toInt = v46_9.toInt + (1) := it_add e123 rv123_9 (ir_c (1) (by decide) : ir (1 : Int32) (1) (1)) (by decide) (by decide)
        refine lv_iinc (v := x123) (lv' := [(9, .int x123), (0, .ref h0), (1, .int p1), (2, .int p2), (3, .int p3), (4, .int v123_4), (5, .long v123_5), (7, .long v123_7)]) hx hb dX11_worst_123 hl (k := 7) rfl (by rw [e123]; rfl) (by decide) rfl (fun ls hl => ?_)
        refine lv_goto (tgt := 46) hx hb dX11_worst_126 (by decide) ?_
        exact w2 _ _ _ (ih46 _ _ _ v123_4 v123_5 v123_7 x123 u46_0 hW hI hV hS (lv_sub hl [1, 2, 3, 4, 5, 6, 7, 0] rfl) rv123_1 rv123_2 rv123_3 rv123_4 rv123_5 rv123_7 (ir_w (lo' := 0) (hi' := 2147483647) r123 (by decide) (by decide)) ru123_0 nh0_7 (by have h9 := r123; omega))
      have J107 : ∀ (H : Heap) (locs : List Loc) (ls : Array Slot) (u107_1 : Int64) (u107_2 : Int64), cW N H → mI N h0 H → kp N h0 [32, 33, 34, 35, 36, 37, 38, 39, 40, 41, 42] V H → va_S (cE N [11]) s.heap H locs → lv_has ls 10 [(0, .ref h0), (1, .int p1), (2, .int p2), (3, .int p3), (9, .int v46_9)] → ir p1 1 4 → ir p2 2 12 → ir p3 0 2 → ir v46_9 0 2147483646 → ir u46_0 0 8 → wt_pin N.1 vwCl h0 11 7 (.int u46_0) H → lr u107_1 0 9223372036854775807 → wt_pin N.1 vwCl h0 11 39 (.long u107_1) H → lr u107_2 1 9223372036854775807 → wt_pin N.1 vwCl h0 11 40 (.long u107_2) H → WW H locs (F0 m 107 ls []) := by
        intro H locs ls u107_1 u107_2 hW hI hV hS hl rv107_1 rv107_2 rv107_3 rv107_9 ru107_0 nh0_7 ru107_1 nh0_39 ru107_2 nh0_40
        refine w1 _ _ _ ?_
        refine lv_iload hx hb dX11_worst_107 (lv_at hl 4 rfl) ?_
        refine lv_istore (lv' := [(4, .int v46_9), (0, .ref h0), (1, .int p1), (2, .int p2), (3, .int p3), (9, .int v46_9)]) hx hb dX11_worst_109 hl (by decide) rfl (fun ls hl => ?_)
        refine lv_aload_n hx hb dX11_worst_111 rfl (lv_at hl 1 rfl) ?_
        refine wt_rel hx hb hts cfX11 hown hK nh0_39 rfl (by decide) (Or.inl (hts _ q911)) dX11_worst_112 ?_
        refine lv_lstore (lv' := [(5, .long u107_1), (4, .int v46_9), (0, .ref h0), (1, .int p1), (2, .int p2), (3, .int p3), (9, .int v46_9)]) hx hb dX11_worst_115 hl (by decide) rfl (fun ls hl => ?_)
        refine lv_aload_n hx hb dX11_worst_117 rfl (lv_at hl 2 rfl) ?_
        refine wt_rel hx hb hts cfX11 hown hK nh0_40 rfl (by decide) (Or.inl (hts _ q912)) dX11_worst_118 ?_
        refine lv_lstore (lv' := [(7, .long u107_2), (5, .long u107_1), (4, .int v46_9), (0, .ref h0), (1, .int p1), (2, .int p2), (3, .int p3), (9, .int v46_9)]) hx hb dX11_worst_121 hl (by decide) rfl (fun ls hl => ?_)
        exact w2 _ _ _ (J123 _ _ _ v46_9 u107_1 u107_2 u107_1 u107_2 hW hI hV hS (lv_sub hl [3, 4, 5, 6, 2, 1, 0, 7] rfl) rv107_1 rv107_2 rv107_3 (ir_w (lo' := -1) (hi' := 2147483647) rv107_9 (by decide) (by decide)) ru107_1 ru107_2 rv107_9 ru107_0 nh0_7 ru107_1 nh0_39 ru107_2 nh0_40)
      refine w1 _ _ _ ?_
      refine lv_iload hx hb dX11_worst_46 (lv_at hl 7 rfl) ?_
      refine lv_iconst (v := 1) hx hb dX11_worst_48 (by decide) ?_
      refine lv_aload_n hx hb dX11_worst_49 rfl (lv_at hl 0 rfl) ?_
      refine wt_rel hx hb hts cfX11 hown hK nh0_7 rfl (by decide) (Or.inl (hts _ q879)) dX11_worst_50 ?_
      refine lv_ishl hx hb dX11_worst_53 ?_
      refine lv_topi (fun x53 e53 => ?_)
      refine lv_icmp_ge (tgt := 129) hx hb dX11_worst_54 (by decide) (fun c54 => ?_) (fun c54 => ?_)
      · have d54 := Int32.le_iff_toInt_le.mp c54
        refine lv_iload_n hx hb dX11_worst_129 rfl (lv_at hl 3 rfl) ?_
        refine lv_if_ne (tgt := 139) hx hb dX11_worst_130 (by decide) (fun c130 => ?_) (fun c130 => ?_)
        · have rp3_130 : ir p3 1 2 := rf_ne0 c130 rv46_3
          refine lv_iload_n hx hb dX11_worst_139 rfl (lv_at hl 3 rfl) ?_
          refine lv_iconst (v := 1) hx hb dX11_worst_140 (by decide) ?_
          refine lv_icmp_ne (tgt := 149) hx hb dX11_worst_141 (by decide) (fun c141 => ?_) (fun c141 => ?_)
          · have rp3_141 : ir p3 2 2 := rf_nel c141 rp3_130 (by decide) (by decide)
            refine lv_lload hx hb dX11_worst_149 (lv_at hl 6 rfl) ?_
            exact W.lret (v := v46_7) hx hb hr (fun t ht _ => ⟨⟨v46_7, v46_7, rfl, ⟨rfl, trivial⟩, cW_at ht hW, ⟨mI_at ht hI, kp_at ht hV⟩⟩, hS.F ht⟩) hS.2.2 dX11_worst_151
          · have rp3_141 : ir p3 1 1 := rf_eq c141 (ir_c (1) (by decide) : ir (1 : Int32) (1) (1))
            refine lv_lload hx hb dX11_worst_144 (lv_at hl 5 rfl) ?_
            refine lv_goto (tgt := 151) hx hb dX11_worst_146 (by decide) ?_
            exact W.lret (v := v46_5) hx hb hr (fun t ht _ => ⟨⟨v46_5, v46_5, rfl, ⟨rfl, trivial⟩, cW_at ht hW, ⟨mI_at ht hI, kp_at ht hV⟩⟩, hS.F ht⟩) hS.2.2 dX11_worst_151
        · have rp3_130 : ir p3 0 0 := rf_eq c130 (ir_c (0) (by decide) : ir (0 : Int32) (0) (0))
          refine lv_iload hx hb dX11_worst_133 (lv_at hl 4 rfl) ?_
          refine lv_i2l hx hb dX11_worst_135 rfl ?_
          refine lv_topl (fun x135 e135 => ?_)
          have r135 : lr x135 (-1) 2147483647 := by rw [e135]; exact i2l_r rv46_4
          have t135 : x135.toInt = v46_4.toInt := by rw [e135]; exact Int32.toInt_toInt64 v46_4
          refine lv_goto (tgt := 151) hx hb dX11_worst_136 (by decide) ?_
          exact W.lret (v := x135) hx hb hr (fun t ht _ => ⟨⟨x135, x135, rfl, ⟨rfl, trivial⟩, cW_at ht hW, ⟨mI_at ht hI, kp_at ht hV⟩⟩, hS.F ht⟩) hS.2.2 dX11_worst_151
      · have rv46_9_54 : ir v46_9 0 2147483646 := ⟨(rv46_9).1, Int.le_trans (rf_lt (rf_nle c54) rv46_9 (ir_any x53)).1 (by decide)⟩
        have rx53_54 : ir x53 1 2147483647 := ⟨Int.le_trans (by decide) (rf_lt (rf_nle c54) rv46_9 (ir_any x53)).2, ((ir_any x53)).2⟩
        have d54 := Int32.lt_iff_toInt_lt.mp (rf_nle c54)
        refine lv_aload_n hx hb dX11_worst_57 rfl (lv_at hl 0 rfl) ?_
        refine lv_iload_n hx hb dX11_worst_58 rfl (lv_at hl 1 rfl) ?_
        refine lv_iload_n hx hb dX11_worst_59 rfl (lv_at hl 2 rfl) ?_
        refine lv_iconst (v := 1) hx hb dX11_worst_60 (by decide) ?_
        refine lv_aload_n hx hb dX11_worst_61 rfl (lv_at hl 0 rfl) ?_
        refine wt_rel hx hb hts cfX11 hown hK nh0_7 rfl (by decide) (Or.inl (hts _ q879)) dX11_worst_62 ?_
        refine lv_ishl hx hb dX11_worst_65 ?_
        refine lv_topi (fun x65 e65 => ?_)
        refine lv_iconst (v := 1) hx hb dX11_worst_66 (by decide) ?_
        refine lv_isub hx hb dX11_worst_67 ?_
        refine lv_topi (fun x67 e67 => ?_)
        refine lv_iload hx hb dX11_worst_68 (lv_at hl 7 rfl) ?_
        obtain ⟨V1, hV1⟩ := kp_all hW k0
        refine cc_i2 (B2 := fun r H => mI N h0 H ∧ kp N h0 [32, 33, 34, 35, 36, 37, 38, 39, 40, 41, 42] V1 H ∧ (¬ r = 0 → ∃ bu bb : Int64, pL N h0 39 bu H ∧ pL N h0 40 bb H ∧ 0 ≤ bu.toInt ∧ 1 ≤ bb.toInt)) (wt_runV (As := [.int p1, .int p2, .int x67, .int v46_9]) (rest := []) ⟨hx, hb, hml, hown, hts⟩ (m_X11_slips l N h0 k0 hO V1 p1 rv46_1 p2 rv46_2 x67 v46_9) wm_X11_slips q1308 ⟨rfl, rfl⟩ ⟨Nat.le_of_ble_eq_true rfl, Nat.le_of_ble_eq_true rfl⟩ (cS_preV (B := fun H => mI N h0 H ∧ kp N h0 [32, 33, 34, 35, 36, 37, 38, 39, 40, 41, 42] V1 H) hK hW hT hnn hS (cg11 k0) rfl rfl (And.intro hI (kp_of (F := [32, 33, 34, 35, 36, 37, 38, 39, 40, 41, 42]) hV1))) rfl hl.1 rfl (Nat.le_of_ble_eq_true rfl) dX11_worst_70 ⟨Nat.zero_le _, Nat.zero_le _⟩) hS (by decide) (fun x70 H locs hp hW hS oq hB2 => ?_)
        obtain ⟨hI, hV2, hB2⟩ := hB2
        have hV := kp_call hV hV1 hV2 (by decide)
        have hq70 := hB2
        have nh0_7 := kp_use hV1 hV2 (by decide) (by decide) nh0_7
        have r70 : ir x70 0 1 := hp
        refine lv_if_ne (tgt := 80) hx hb dX11_worst_73 (by decide) (fun c73 => ?_) (fun c73 => ?_)
        · have rx70_73 : ir x70 1 1 := rf_ne0 c73 r70
          obtain ⟨bu70, bb70, nh0_39, nh0_40, vu70, vb70⟩ := hq70 c73
          refine lv_iload hx hb dX11_worst_80 (lv_at hl 4 rfl) ?_
          refine lv_iconst (v := -1) hx hb dX11_worst_82 (by decide) ?_
          refine lv_icmp_eq (tgt := 107) hx hb dX11_worst_83 (by decide) (fun c83 => ?_) (fun c83 => ?_)
          · have rv46_4_83 : ir v46_4 (-1) (-1) := rf_eq c83 (ir_c (-1) (by decide) : ir (-1 : Int32) (-1) (-1))
            exact w2 _ _ _ (J107 _ _ _ bu70 bb70 hW hI hV hS (lv_sub hl [0, 1, 2, 3, 7] rfl) rv46_1 rv46_2 rv46_3 rv46_9_54 ru46_0 nh0_7 (⟨vu70, (lr_any bu70).2⟩ : lr bu70 0 9223372036854775807) nh0_39 (⟨vb70, (lr_any bb70).2⟩ : lr bb70 1 9223372036854775807) nh0_40)
          · have rv46_4_83 : ir v46_4 0 2147483647 := rf_nel c83 rv46_4 (by decide) (by decide)
            refine lv_lload hx hb dX11_worst_86 (lv_at hl 5 rfl) ?_
            refine lv_lload hx hb dX11_worst_88 (lv_at hl 6 rfl) ?_
            refine lv_aload_n hx hb dX11_worst_90 rfl (lv_at hl 0 rfl) ?_
            refine wt_rel hx hb hts cfX11 hown hK nh0_39 rfl (by decide) (Or.inl (hts _ q911)) dX11_worst_91 ?_
            refine lv_aload_n hx hb dX11_worst_94 rfl (lv_at hl 0 rfl) ?_
            refine wt_rel hx hb hts cfX11 hown hK nh0_40 rfl (by decide) (Or.inl (hts _ q912)) dX11_worst_95 ?_
            refine cp_i (wt_runS (As := [.long v46_5, .long v46_7, .long bu70, .long bb70]) (rest := []) ⟨hx, hb, hml, hown, hts⟩ (m_X11_isLess l v46_5 rv46_5 v46_7 rv46_7 bu70 (⟨vu70, (lr_any bu70).2⟩ : lr bu70 0 9223372036854775807) bb70 (⟨vb70, (lr_any bb70).2⟩ : lr bb70 1 9223372036854775807)) wm_X11_isLess q1291 ⟨rfl, rfl⟩ ⟨Nat.le_of_ble_eq_true rfl, Nat.le_of_ble_eq_true rfl⟩ pS_pre rfl hl.1 rfl (Nat.le_of_ble_eq_true rfl) dX11_worst_98 ⟨Nat.zero_le _, Nat.zero_le _⟩) hW hS (fun x98 H locs hp hW1 hS oq => ?_)
            have hV := hV.same hW k0 oq
            have hI := mI.fr.same hI hW oq
            have hW := hW1
            have nh0_7 := nh0_7.kept (oq _ nh0_7.lt (cE_not k0 (by decide)))
            have nh0_39 := nh0_39.kept (oq _ nh0_39.lt (cE_not k0 (by decide)))
            have nh0_40 := nh0_40.kept (oq _ nh0_40.lt (cE_not k0 (by decide)))
            have r98 : ir x98 0 1 := hp
            refine lv_if_ne (tgt := 107) hx hb dX11_worst_101 (by decide) (fun c101 => ?_) (fun c101 => ?_)
            · have rx98_101 : ir x98 1 1 := rf_ne0 c101 r98
              exact w2 _ _ _ (J107 _ _ _ bu70 bb70 hW hI hV hS (lv_sub hl [0, 1, 2, 3, 7] rfl) rv46_1 rv46_2 rv46_3 rv46_9_54 ru46_0 nh0_7 (⟨vu70, (lr_any bu70).2⟩ : lr bu70 0 9223372036854775807) nh0_39 (⟨vb70, (lr_any bb70).2⟩ : lr bb70 1 9223372036854775807) nh0_40)
            · have rx98_101 : ir x98 0 0 := rf_eq c101 (ir_c (0) (by decide) : ir (0 : Int32) (0) (0))
              refine lv_goto (tgt := 123) hx hb dX11_worst_104 (by decide) ?_
              exact w2 _ _ _ (J123 _ _ _ v46_4 v46_5 v46_7 bu70 bb70 hW hI hV hS (lv_sub hl [0, 1, 2, 3, 4, 5, 6, 7] rfl) rv46_1 rv46_2 rv46_3 (ir_w (lo' := -1) (hi' := 2147483647) rv46_4_83 (by decide) (by decide)) rv46_5 rv46_7 rv46_9_54 ru46_0 nh0_7 (⟨vu70, (lr_any bu70).2⟩ : lr bu70 0 9223372036854775807) nh0_39 (⟨vb70, (lr_any bb70).2⟩ : lr bb70 1 9223372036854775807) nh0_40)
        · have rx70_73 : ir x70 0 0 := rf_eq c73 (ir_c (0) (by decide) : ir (0 : Int32) (0) (0))
          refine lv_ldc2 hx hb hown (hts _ q1203) dX11_worst_76 ?_
          exact W.lret (v := (-1 : Int64)) hx hb hr (fun t ht _ => ⟨⟨(-1 : Int64), (-1 : Int64), rfl, ⟨rfl, trivial⟩, cW_at ht hW, ⟨mI_at ht hI, kp_at ht hV⟩⟩, hS.F ht⟩) hS.2.2 dX11_worst_79
  refine lv_aload_n hx hb dX11_worst_0 rfl (lv_at hl 0 rfl) ?_
  refine lv_iload_n hx hb dX11_worst_1 rfl (lv_at hl 1 rfl) ?_
  refine lv_iload_n hx hb dX11_worst_2 rfl (lv_at hl 2 rfl) ?_
  obtain ⟨V1, hV1⟩ := kp_all hW k0
  refine cc_i2 (B2 := fun _ H => mI N h0 H ∧ kp N h0 [] V1 H) (wt_runV (As := [.int p1, .int p2]) (rest := []) ⟨hx, hb, hml, hown, hts⟩ (m_X11_canSlip l N h0 k0 hO V1 p1 p2) wm_X11_canSlip q1303 ⟨rfl, rfl⟩ ⟨Nat.le_of_ble_eq_true rfl, Nat.le_of_ble_eq_true rfl⟩ (cS_preV (B := fun H => mI N h0 H ∧ kp N h0 [] V1 H) hK hW hT hnn hS (cg11 k0) rfl rfl (And.intro hI (kp_of (F := []) hV1))) rfl hl.1 rfl (Nat.le_of_ble_eq_true rfl) dX11_worst_3 ⟨Nat.zero_le _, Nat.zero_le _⟩) hS (by decide) (fun x3 H locs hp hW hS oq hB2 => ?_)
  obtain ⟨hI, hV2⟩ := hB2
  have hV := kp_call hV hV1 hV2 (by decide)
  obtain ⟨r3, b3⟩ := hp
  refine lv_if_eq (tgt := 30) hx hb dX11_worst_6 (by decide) (fun c6 => ?_) (fun c6 => ?_)
  · have rx3_6 : ir x3 0 0 := rf_eq c6 (ir_c (0) (by decide) : ir (0 : Int32) (0) (0))
    refine lv_ldc2 hx hb hown (hts _ q1237) dX11_worst_30 ?_
    exact W.lret (v := (-2 : Int64)) hx hb hr (fun t ht _ => ⟨⟨(-2 : Int64), (-2 : Int64), rfl, ⟨rfl, trivial⟩, cW_at ht hW, ⟨mI_at ht hI, kp_at ht hV⟩⟩, hS.F ht⟩) hS.2.2 dX11_worst_33
  · have rx3_6 : ir x3 1 1 := rf_ne0 c6 r3
    have bx3_6 := b3 c6
    refine lv_aload_n hx hb dX11_worst_9 rfl (lv_at hl 0 rfl) ?_
    refine wt_getp hx hb hts cfX11 hown hK hW (cg11 k0) rfl 7 (by decide) (Or.inl (hts _ q879)) dX11_worst_10 (fun v hv nh0_7 => ?_)
    obtain ⟨x10, rfl, r10⟩ : gi 0 24 v := hv
    refine lv_bipush (v := 8) hx hb dX11_worst_13 (by decide) ?_
    refine lv_icmp_gt (tgt := 30) hx hb dX11_worst_15 (by decide) (fun c15 => ?_) (fun c15 => ?_)
    · have rx10_15 : ir x10 9 24 := ⟨Int.le_trans (by decide) (rf_lt c15 (ir_c (8) (by decide) : ir (8 : Int32) (8) (8)) r10).2, (r10).2⟩
      have d15 := Int32.lt_iff_toInt_lt.mp c15
      refine lv_ldc2 hx hb hown (hts _ q1237) dX11_worst_30 ?_
      exact W.lret (v := (-2 : Int64)) hx hb hr (fun t ht _ => ⟨⟨(-2 : Int64), (-2 : Int64), rfl, ⟨rfl, trivial⟩, cW_at ht hW, ⟨mI_at ht hI, kp_at ht hV⟩⟩, hS.F ht⟩) hS.2.2 dX11_worst_33
    · have rx10_15 : ir x10 0 8 := ⟨(r10).1, Int.le_trans (rf_le (rf_nlt c15) r10 (ir_c (8) (by decide) : ir (8 : Int32) (8) (8))).1 (by decide)⟩
      have d15 := Int32.le_iff_toInt_le.mp (rf_nlt c15)
      refine lv_iload_n hx hb dX11_worst_18 rfl (lv_at hl 3 rfl) ?_
      refine lv_i2l hx hb dX11_worst_19 rfl ?_
      refine lv_topl (fun x19 e19 => ?_)
      have r19 : lr x19 (-2147483648) 2147483647 := by rw [e19]; exact i2l_r (ir_any p3)
      have t19 : x19.toInt = p3.toInt := by rw [e19]; exact Int32.toInt_toInt64 p3
      refine lv_lconst (v := 0) hx hb dX11_worst_20 (by decide) ?_
      refine lv_ldc2 hx hb hown (hts _ q1227) dX11_worst_21 ?_
      refine cp_i (wt_runS (As := [.long x19, .long (0 : Int64), .long (2 : Int64)]) (rest := []) ⟨hx, hb, hml, hown, hts⟩ (m_X11_isIn l x19 (0 : Int64) (2 : Int64)) wm_X11_isIn q1050 ⟨rfl, rfl⟩ ⟨Nat.le_of_ble_eq_true rfl, Nat.le_of_ble_eq_true rfl⟩ pS_pre rfl hl.1 rfl (Nat.le_of_ble_eq_true rfl) dX11_worst_24 ⟨Nat.zero_le _, Nat.zero_le _⟩) hW hS (fun x24 H locs hp hW1 hS oq => ?_)
      have hV := hV.same hW k0 oq
      have hI := mI.fr.same hI hW oq
      have hW := hW1
      have nh0_7 := nh0_7.kept (oq _ nh0_7.lt (cE_not k0 (by decide)))
      obtain ⟨r24, b24⟩ := hp
      refine lv_if_ne (tgt := 34) hx hb dX11_worst_27 (by decide) (fun c27 => ?_) (fun c27 => ?_)
      · have rx24_27 : ir x24 1 1 := rf_ne0 c27 r24
        have bx24_27 := b24 c27
        have rbx19_27 : lr x19 0 2 := by have h5 := bx24_27; have h6 := r19; have h7 := (lr_c (0) (by decide) : lr (0 : Int64) (0) (0)); have h8 := (lr_c (2) (by decide) : lr (2 : Int64) (2) (2)); constructor <;> omega
        have rp3_27 : ir p3 0 2 := i2l_b e19 rbx19_27
        refine lv_iconst (v := -1) hx hb dX11_worst_34 (by decide) ?_
        refine lv_istore (lv' := [(4, .int (-1 : Int32)), (0, .ref h0), (1, .int p1), (2, .int p2), (3, .int p3)]) hx hb dX11_worst_35 hl (by decide) rfl (fun ls hl => ?_)
        refine lv_lconst (v := 0) hx hb dX11_worst_37 (by decide) ?_
        refine lv_lstore (lv' := [(5, .long (0 : Int64)), (4, .int (-1 : Int32)), (0, .ref h0), (1, .int p1), (2, .int p2), (3, .int p3)]) hx hb dX11_worst_38 hl (by decide) rfl (fun ls hl => ?_)
        refine lv_lconst (v := 1) hx hb dX11_worst_40 (by decide) ?_
        refine lv_lstore (lv' := [(7, .long (1 : Int64)), (5, .long (0 : Int64)), (4, .int (-1 : Int32)), (0, .ref h0), (1, .int p1), (2, .int p2), (3, .int p3)]) hx hb dX11_worst_41 hl (by decide) rfl (fun ls hl => ?_)
        refine lv_iconst (v := 0) hx hb dX11_worst_43 (by decide) ?_
        refine lv_istore (lv' := [(9, .int (0 : Int32)), (7, .long (1 : Int64)), (5, .long (0 : Int64)), (4, .int (-1 : Int32)), (0, .ref h0), (1, .int p1), (2, .int p2), (3, .int p3)]) hx hb dX11_worst_44 hl (by decide) rfl (fun ls hl => ?_)
        exact w2 _ _ _ (L46 2147483648 _ _ _ (-1 : Int32) (0 : Int64) (1 : Int64) (0 : Int32) x10 hW hI hV hS (lv_sub hl [4, 5, 6, 7, 3, 2, 1, 0] rfl) bx3_6.1 bx3_6.2 rp3_27 (ir_w (lo' := -1) (hi' := 2147483647) (ir_c (-1) (by decide) : ir (-1 : Int32) (-1) (-1)) (by decide) (by decide)) (lr_w (lo' := 0) (hi' := 9223372036854775807) (lr_c (0) (by decide) : lr (0 : Int64) (0) (0)) (by decide) (by decide)) (lr_w (lo' := 1) (hi' := 9223372036854775807) (lr_c (1) (by decide) : lr (1 : Int64) (1) (1)) (by decide) (by decide)) (ir_w (lo' := 0) (hi' := 2147483647) (ir_c (0) (by decide) : ir (0 : Int32) (0) (0)) (by decide) (by decide)) rx10_15 nh0_7 (by have h9 := (ir_c (0) (by decide) : ir (0 : Int32) (0) (0)); omega))
      · have rx24_27 : ir x24 0 0 := rf_eq c27 (ir_c (0) (by decide) : ir (0 : Int32) (0) (0))
        refine lv_ldc2 hx hb hown (hts _ q1237) dX11_worst_30 ?_
        exact W.lret (v := (-2 : Int64)) hx hb hr (fun t ht _ => ⟨⟨(-2 : Int64), (-2 : Int64), rfl, ⟨rfl, trivial⟩, cW_at ht hW, ⟨mI_at ht hI, kp_at ht hV⟩⟩, hS.F ht⟩) hS.2.2 dX11_worst_33
set_option maxHeartbeats 4000000 in
set_option maxRecDepth 100000 in
theorem m_X11_corner (l : Launch) (N : c_N) (h0 : Nat) (k0 : N.2.2.1 h0 = some 11) (hO : mOK N) (V : Nat → Value) (p1 : Int32) (p2 : Int32) (p3 : Int32) (p4 : Int32) : cMl2 l yX11_corner cX11_corner 5 .long { frames := 4, cells := 0, slots := 0, locals := 134 } [.ref h0, .int p1, .int p2, .int p3, .int p4] N [11] (fun H => mI N h0 H ∧ kp N h0 [32, 33, 34, 35, 36, 37, 38, 39, 40, 41, 42] V H) (fun _ => True) (fun _ H => mI N h0 H ∧ kp N h0 [32, 33, 34, 35, 36, 37, 38, 39, 40, 41, 42] V H) := by
  refine Met.ofW (cc := cX11_corner) (maxL := 5) (ret := some .long) (by decide) rfl ?_
  intro p e s m args below meth c s₁ B hml hv
  obtain ⟨rfl, ⟨hK, hW, hT, hnn⟩, hB⟩ := hv
  obtain ⟨hI, hV⟩ := hB
  have hx := B.exec
  have hb := B.bytes
  have hr := B.returns
  have hts : ∀ w ∈ lw_g, w.before _ s = true := fun w h => atoms_spec (ws := wc_ws yX11_corner cX11_corner 5 (some .long)) B.pre w (List.mem_cons_of_mem _ h)
  have hown : s.vm.findClass RX11 = some m.cls := findClass_of_methodNamed B.named
  have hlocks := B.notSynchronized
  have hS : va_S (cE N [11]) s.heap s.heap [] := va_S.rf
  have hl := lv_entry ([.ref h0, .int p1, .int p2, .int p3, .int p4]) (n := 5) (Nat.le_of_ble_eq_true rfl)
  rw [lg_entry_eq]
  generalize (lg_sl ([.ref h0, .int p1, .int p2, .int p3, .int p4]) ++ List.replicate (5 - (lg_sl ([.ref h0, .int p1, .int p2, .int p3, .int p4])).length) Slot.unset).toArray = ls at hl ⊢
  have hl : lv_has ls 5 [(0, .ref h0), (1, .int p1), (2, .int p2), (3, .int p3), (4, .int p4)] := hl
  refine wq_all ?_
  intro WW w1 w2
  refine lv_aload_n hx hb dX11_corner_0 rfl (lv_at hl 0 rfl) ?_
  refine lv_iload_n hx hb dX11_corner_1 rfl (lv_at hl 1 rfl) ?_
  refine lv_iload_n hx hb dX11_corner_2 rfl (lv_at hl 2 rfl) ?_
  obtain ⟨V1, hV1⟩ := kp_all hW k0
  refine cc_i2 (B2 := fun _ H => mI N h0 H ∧ kp N h0 [] V1 H) (wt_runV (As := [.int p1, .int p2]) (rest := []) ⟨hx, hb, hml, hown, hts⟩ (m_X11_canSlip l N h0 k0 hO V1 p1 p2) wm_X11_canSlip q1303 ⟨rfl, rfl⟩ ⟨Nat.le_of_ble_eq_true rfl, Nat.le_of_ble_eq_true rfl⟩ (cS_preV (B := fun H => mI N h0 H ∧ kp N h0 [] V1 H) hK hW hT hnn hS (cg11 k0) rfl rfl (And.intro hI (kp_of (F := []) hV1))) rfl hl.1 rfl (Nat.le_of_ble_eq_true rfl) dX11_corner_3 ⟨Nat.zero_le _, Nat.zero_le _⟩) hS (by decide) (fun x3 H locs hp hW hS oq hB2 => ?_)
  obtain ⟨hI, hV2⟩ := hB2
  have hV := kp_call hV hV1 hV2 (by decide)
  obtain ⟨r3, b3⟩ := hp
  refine lv_if_eq (tgt := 47) hx hb dX11_corner_6 (by decide) (fun c6 => ?_) (fun c6 => ?_)
  · have rx3_6 : ir x3 0 0 := rf_eq c6 (ir_c (0) (by decide) : ir (0 : Int32) (0) (0))
    refine lv_ldc2 hx hb hown (hts _ q1237) dX11_corner_47 ?_
    exact W.lret (v := (-2 : Int64)) hx hb hr (fun t ht _ => ⟨⟨(-2 : Int64), (-2 : Int64), rfl, ⟨rfl, trivial⟩, cW_at ht hW, ⟨mI_at ht hI, kp_at ht hV⟩⟩, hS.F ht⟩) hS.2.2 dX11_corner_50
  · have rx3_6 : ir x3 1 1 := rf_ne0 c6 r3
    have bx3_6 := b3 c6
    refine lv_aload_n hx hb dX11_corner_9 rfl (lv_at hl 0 rfl) ?_
    refine wt_getp hx hb hts cfX11 hown hK hW (cg11 k0) rfl 7 (by decide) (Or.inl (hts _ q879)) dX11_corner_10 (fun v hv nh0_7 => ?_)
    obtain ⟨x10, rfl, r10⟩ : gi 0 24 v := hv
    refine lv_bipush (v := 8) hx hb dX11_corner_13 (by decide) ?_
    refine lv_icmp_gt (tgt := 47) hx hb dX11_corner_15 (by decide) (fun c15 => ?_) (fun c15 => ?_)
    · have rx10_15 : ir x10 9 24 := ⟨Int.le_trans (by decide) (rf_lt c15 (ir_c (8) (by decide) : ir (8 : Int32) (8) (8)) r10).2, (r10).2⟩
      have d15 := Int32.lt_iff_toInt_lt.mp c15
      refine lv_ldc2 hx hb hown (hts _ q1237) dX11_corner_47 ?_
      exact W.lret (v := (-2 : Int64)) hx hb hr (fun t ht _ => ⟨⟨(-2 : Int64), (-2 : Int64), rfl, ⟨rfl, trivial⟩, cW_at ht hW, ⟨mI_at ht hI, kp_at ht hV⟩⟩, hS.F ht⟩) hS.2.2 dX11_corner_50
    · have rx10_15 : ir x10 0 8 := ⟨(r10).1, Int.le_trans (rf_le (rf_nlt c15) r10 (ir_c (8) (by decide) : ir (8 : Int32) (8) (8))).1 (by decide)⟩
      have d15 := Int32.le_iff_toInt_le.mp (rf_nlt c15)
      refine lv_iload_n hx hb dX11_corner_18 rfl (lv_at hl 3 rfl) ?_
      refine lv_i2l hx hb dX11_corner_19 rfl ?_
      refine lv_topl (fun x19 e19 => ?_)
      have r19 : lr x19 (-2147483648) 2147483647 := by rw [e19]; exact i2l_r (ir_any p3)
      have t19 : x19.toInt = p3.toInt := by rw [e19]; exact Int32.toInt_toInt64 p3
      refine lv_lconst (v := 0) hx hb dX11_corner_20 (by decide) ?_
      refine lv_iconst (v := 1) hx hb dX11_corner_21 (by decide) ?_
      refine lv_aload_n hx hb dX11_corner_22 rfl (lv_at hl 0 rfl) ?_
      refine wt_rel hx hb hts cfX11 hown hK nh0_7 rfl (by decide) (Or.inl (hts _ q879)) dX11_corner_23 ?_
      refine lv_ishl hx hb dX11_corner_26 ?_
      refine lv_topi (fun x26 e26 => ?_)
      refine lv_iconst (v := 1) hx hb dX11_corner_27 (by decide) ?_
      refine lv_isub hx hb dX11_corner_28 ?_
      refine lv_topi (fun x28 e28 => ?_)
      refine lv_i2l hx hb dX11_corner_29 rfl ?_
      refine lv_topl (fun x29 e29 => ?_)
      have r29 : lr x29 (-2147483648) 2147483647 := by rw [e29]; exact i2l_r (ir_any x28)
      have t29 : x29.toInt = x28.toInt := by rw [e29]; exact Int32.toInt_toInt64 x28
      refine cp_i (wt_runS (As := [.long x19, .long (0 : Int64), .long x29]) (rest := []) ⟨hx, hb, hml, hown, hts⟩ (m_X11_isIn l x19 (0 : Int64) x29) wm_X11_isIn q1050 ⟨rfl, rfl⟩ ⟨Nat.le_of_ble_eq_true rfl, Nat.le_of_ble_eq_true rfl⟩ pS_pre rfl hl.1 rfl (Nat.le_of_ble_eq_true rfl) dX11_corner_30 ⟨Nat.zero_le _, Nat.zero_le _⟩) hW hS (fun x30 H locs hp hW1 hS oq => ?_)
      have hV := hV.same hW k0 oq
      have hI := mI.fr.same hI hW oq
      have hW := hW1
      have nh0_7 := nh0_7.kept (oq _ nh0_7.lt (cE_not k0 (by decide)))
      obtain ⟨r30, b30⟩ := hp
      refine lv_if_eq (tgt := 47) hx hb dX11_corner_33 (by decide) (fun c33 => ?_) (fun c33 => ?_)
      · have rx30_33 : ir x30 0 0 := rf_eq c33 (ir_c (0) (by decide) : ir (0 : Int32) (0) (0))
        refine lv_ldc2 hx hb hown (hts _ q1237) dX11_corner_47 ?_
        exact W.lret (v := (-2 : Int64)) hx hb hr (fun t ht _ => ⟨⟨(-2 : Int64), (-2 : Int64), rfl, ⟨rfl, trivial⟩, cW_at ht hW, ⟨mI_at ht hI, kp_at ht hV⟩⟩, hS.F ht⟩) hS.2.2 dX11_corner_50
      · have rx30_33 : ir x30 1 1 := rf_ne0 c33 r30
        have bx30_33 := b30 c33
        have rbx19_33 : lr x19 0 2147483647 := by have h5 := bx30_33; have h6 := r19; have h7 := (lr_c (0) (by decide) : lr (0 : Int64) (0) (0)); have h8 := r29; constructor <;> omega
        have rp3_33 : ir p3 0 2147483647 := i2l_b e19 rbx19_33
        refine lv_iload hx hb dX11_corner_36 (lv_at hl 4 rfl) ?_
        refine lv_i2l hx hb dX11_corner_38 rfl ?_
        refine lv_topl (fun x38 e38 => ?_)
        have r38 : lr x38 (-2147483648) 2147483647 := by rw [e38]; exact i2l_r (ir_any p4)
        have t38 : x38.toInt = p4.toInt := by rw [e38]; exact Int32.toInt_toInt64 p4
        refine lv_lconst (v := 0) hx hb dX11_corner_39 (by decide) ?_
        refine lv_lconst (v := 1) hx hb dX11_corner_40 (by decide) ?_
        refine cp_i (wt_runS (As := [.long x38, .long (0 : Int64), .long (1 : Int64)]) (rest := []) ⟨hx, hb, hml, hown, hts⟩ (m_X11_isIn l x38 (0 : Int64) (1 : Int64)) wm_X11_isIn q1050 ⟨rfl, rfl⟩ ⟨Nat.le_of_ble_eq_true rfl, Nat.le_of_ble_eq_true rfl⟩ pS_pre rfl hl.1 rfl (Nat.le_of_ble_eq_true rfl) dX11_corner_41 ⟨Nat.zero_le _, Nat.zero_le _⟩) hW hS (fun x41 H locs hp hW1 hS oq => ?_)
        have hV := hV.same hW k0 oq
        have hI := mI.fr.same hI hW oq
        have hW := hW1
        have nh0_7 := nh0_7.kept (oq _ nh0_7.lt (cE_not k0 (by decide)))
        obtain ⟨r41, b41⟩ := hp
        refine lv_if_ne (tgt := 51) hx hb dX11_corner_44 (by decide) (fun c44 => ?_) (fun c44 => ?_)
        · have rx41_44 : ir x41 1 1 := rf_ne0 c44 r41
          have bx41_44 := b41 c44
          have rbx38_44 : lr x38 0 1 := by have h5 := bx41_44; have h6 := r38; have h7 := (lr_c (0) (by decide) : lr (0 : Int64) (0) (0)); have h8 := (lr_c (1) (by decide) : lr (1 : Int64) (1) (1)); constructor <;> omega
          have rp4_44 : ir p4 0 1 := i2l_b e38 rbx38_44
          refine lv_aload_n hx hb dX11_corner_51 rfl (lv_at hl 0 rfl) ?_
          refine lv_iload_n hx hb dX11_corner_52 rfl (lv_at hl 1 rfl) ?_
          refine lv_iload_n hx hb dX11_corner_53 rfl (lv_at hl 2 rfl) ?_
          refine lv_iconst (v := 1) hx hb dX11_corner_54 (by decide) ?_
          refine lv_aload_n hx hb dX11_corner_55 rfl (lv_at hl 0 rfl) ?_
          refine wt_rel hx hb hts cfX11 hown hK nh0_7 rfl (by decide) (Or.inl (hts _ q879)) dX11_corner_56 ?_
          refine lv_ishl hx hb dX11_corner_59 ?_
          refine lv_topi (fun x59 e59 => ?_)
          refine lv_iconst (v := 1) hx hb dX11_corner_60 (by decide) ?_
          refine lv_isub hx hb dX11_corner_61 ?_
          refine lv_topi (fun x61 e61 => ?_)
          refine lv_iload_n hx hb dX11_corner_62 rfl (lv_at hl 3 rfl) ?_
          obtain ⟨V1, hV1⟩ := kp_all hW k0
          refine cc_i2 (B2 := fun r H => mI N h0 H ∧ kp N h0 [32, 33, 34, 35, 36, 37, 38, 39, 40, 41, 42] V1 H ∧ (¬ r = 0 → ∃ bu bb : Int64, pL N h0 39 bu H ∧ pL N h0 40 bb H ∧ 0 ≤ bu.toInt ∧ 1 ≤ bb.toInt)) (wt_runV (As := [.int p1, .int p2, .int x61, .int p3]) (rest := []) ⟨hx, hb, hml, hown, hts⟩ (m_X11_slips l N h0 k0 hO V1 p1 bx3_6.1 p2 bx3_6.2 x61 p3) wm_X11_slips q1308 ⟨rfl, rfl⟩ ⟨Nat.le_of_ble_eq_true rfl, Nat.le_of_ble_eq_true rfl⟩ (cS_preV (B := fun H => mI N h0 H ∧ kp N h0 [32, 33, 34, 35, 36, 37, 38, 39, 40, 41, 42] V1 H) hK hW hT hnn hS (cg11 k0) rfl rfl (And.intro hI (kp_of (F := [32, 33, 34, 35, 36, 37, 38, 39, 40, 41, 42]) hV1))) rfl hl.1 rfl (Nat.le_of_ble_eq_true rfl) dX11_corner_63 ⟨Nat.zero_le _, Nat.zero_le _⟩) hS (by decide) (fun x63 H locs hp hW hS oq hB2 => ?_)
          obtain ⟨hI, hV2, hB2⟩ := hB2
          have hV := kp_call hV hV1 hV2 (by decide)
          have hq63 := hB2
          have nh0_7 := kp_use hV1 hV2 (by decide) (by decide) nh0_7
          have r63 : ir x63 0 1 := hp
          refine lv_if_eq (tgt := 78) hx hb dX11_corner_66 (by decide) (fun c66 => ?_) (fun c66 => ?_)
          · have rx63_66 : ir x63 0 0 := rf_eq c66 (ir_c (0) (by decide) : ir (0 : Int32) (0) (0))
            refine lv_ldc2 hx hb hown (hts _ q1203) dX11_corner_78 ?_
            exact W.lret (v := (-1 : Int64)) hx hb hr (fun t ht _ => ⟨⟨(-1 : Int64), (-1 : Int64), rfl, ⟨rfl, trivial⟩, cW_at ht hW, ⟨mI_at ht hI, kp_at ht hV⟩⟩, hS.F ht⟩) hS.2.2 dX11_corner_81
          · have rx63_66 : ir x63 1 1 := rf_ne0 c66 r63
            obtain ⟨bu63, bb63, nh0_39, nh0_40, vu63, vb63⟩ := hq63 c66
            refine lv_aload_n hx hb dX11_corner_69 rfl (lv_at hl 0 rfl) ?_
            refine lv_iload hx hb dX11_corner_70 (lv_at hl 4 rfl) ?_
            obtain ⟨V1, hV1⟩ := kp_all hW k0
            refine cc_l2 (B2 := fun _ H => mI N h0 H ∧ kp N h0 [] V1 H) (wt_runV (As := [.int p4]) (rest := []) ⟨hx, hb, hml, hown, hts⟩ (m_X11_lightOf l N h0 k0 hO V1 p4) wm_X11_lightOf q1246 ⟨rfl, rfl⟩ ⟨Nat.le_of_ble_eq_true rfl, Nat.le_of_ble_eq_true rfl⟩ (cS_preV (B := fun H => mI N h0 H ∧ kp N h0 [] V1 H) hK hW hT hnn hS (cg11 k0) rfl rfl (And.intro hI (kp_of (F := []) hV1))) rfl hl.1 rfl (Nat.le_of_ble_eq_true rfl) dX11_corner_72 ⟨Nat.zero_le _, Nat.zero_le _⟩) hS (by decide) (fun x72 H locs hp hW hS oq hB2 => ?_)
            obtain ⟨hI, hV2⟩ := hB2
            have hV := kp_call hV hV1 hV2 (by decide)
            have nh0_7 := kp_use hV1 hV2 (by decide) (by decide) nh0_7
            have nh0_39 := kp_use hV1 hV2 (by decide) (by decide) nh0_39
            have nh0_40 := kp_use hV1 hV2 (by decide) (by decide) nh0_40
            refine lv_goto (tgt := 81) hx hb dX11_corner_75 (by decide) ?_
            exact W.lret (v := x72) hx hb hr (fun t ht _ => ⟨⟨x72, x72, rfl, ⟨rfl, trivial⟩, cW_at ht hW, ⟨mI_at ht hI, kp_at ht hV⟩⟩, hS.F ht⟩) hS.2.2 dX11_corner_81
        · have rx41_44 : ir x41 0 0 := rf_eq c44 (ir_c (0) (by decide) : ir (0 : Int32) (0) (0))
          refine lv_ldc2 hx hb hown (hts _ q1237) dX11_corner_47 ?_
          exact W.lret (v := (-2 : Int64)) hx hb hr (fun t ht _ => ⟨⟨(-2 : Int64), (-2 : Int64), rfl, ⟨rfl, trivial⟩, cW_at ht hW, ⟨mI_at ht hI, kp_at ht hV⟩⟩, hS.F ht⟩) hS.2.2 dX11_corner_50
set_option maxHeartbeats 4000000 in
set_option maxRecDepth 100000 in
theorem m_X11_tender (l : Launch) (N : c_N) (h0 : Nat) (k0 : N.2.2.1 h0 = some 11) (hO : mOK N) (V : Nat → Value) (p1 : Int32) (p2 : Int32) : cMi2 l yX11_tender cX11_tender 9 .int { frames := 5, cells := 0, slots := 0, locals := 148 } [.ref h0, .int p1, .int p2] N [11] (fun H => mI N h0 H ∧ kp N h0 [32, 33, 34, 35, 36, 37, 38, 39, 40, 41, 42] V H) (fun _ => True) (fun _ H => mI N h0 H ∧ kp N h0 [32, 33, 34, 35, 36, 37, 38, 39, 40, 41, 42] V H) := by
  refine Met.ofW (cc := cX11_tender) (maxL := 9) (ret := some .int) (by decide) rfl ?_
  intro p e s m args below meth c s₁ B hml hv
  obtain ⟨rfl, ⟨hK, hW, hT, hnn⟩, hB⟩ := hv
  obtain ⟨hI, hV⟩ := hB
  have hx := B.exec
  have hb := B.bytes
  have hr := B.returns
  have hts : ∀ w ∈ lw_g, w.before _ s = true := fun w h => atoms_spec (ws := wc_ws yX11_tender cX11_tender 9 (some .int)) B.pre w (List.mem_cons_of_mem _ h)
  have hown : s.vm.findClass RX11 = some m.cls := findClass_of_methodNamed B.named
  have hlocks := B.notSynchronized
  have hS : va_S (cE N [11]) s.heap s.heap [] := va_S.rf
  have hl := lv_entry ([.ref h0, .int p1, .int p2]) (n := 9) (Nat.le_of_ble_eq_true rfl)
  rw [lg_entry_eq]
  generalize (lg_sl ([.ref h0, .int p1, .int p2]) ++ List.replicate (9 - (lg_sl ([.ref h0, .int p1, .int p2])).length) Slot.unset).toArray = ls at hl ⊢
  have hl : lv_has ls 9 [(0, .ref h0), (1, .int p1), (2, .int p2)] := hl
  refine wq_all ?_
  intro WW w1 w2
  have L43 : ∀ (n : Nat) (H : Heap) (locs : List Loc) (ls : Array Slot) (v43_3 : Int64) (v43_5 : Int64) (v43_7 : Int32) (v43_8 : Int32) (u43_0 : Int32) (u43_1 : Int64) (u43_2 : Int64), cW N H → mI N h0 H → kp N h0 [32, 33, 34, 35, 36, 37, 38, 39, 40, 41, 42] V H → va_S (cE N [11]) s.heap H locs → lv_has ls 9 [(0, .ref h0), (1, .int p1), (2, .int p2), (3, .long v43_3), (5, .long v43_5), (7, .int v43_7), (8, .int v43_8)] → ir p1 1 4 → ir p2 2 12 → lr v43_3 0 9223372036854775807 → lr v43_5 1 9223372036854775807 → ir v43_7 (-1) 23 → ir v43_8 0 48 → ir u43_0 0 24 → wt_pin N.1 vwCl h0 11 7 (.int u43_0) H → lr u43_1 0 9223372036854775807 → wt_pin N.1 vwCl h0 11 39 (.long u43_1) H → lr u43_2 1 9223372036854775807 → wt_pin N.1 vwCl h0 11 40 (.long u43_2) H → 48 - v43_8.toInt < (n : Int) → WW H locs (F0 m 43 ls []) := by
    intro n
    induction n with
    | zero =>
      intro H locs ls v43_3 v43_5 v43_7 v43_8 u43_0 u43_1 u43_2 hW hI hV hS hl rv43_1 rv43_2 rv43_3 rv43_5 rv43_7 rv43_8 ru43_0 nh0_7 ru43_1 nh0_39 ru43_2 nh0_40 mu43
      exfalso
      omega
    | succ n ih43 =>
      intro H locs ls v43_3 v43_5 v43_7 v43_8 u43_0 u43_1 u43_2 hW hI hV hS hl rv43_1 rv43_2 rv43_3 rv43_5 rv43_7 rv43_8 ru43_0 nh0_7 ru43_1 nh0_39 ru43_2 nh0_40 mu43
      have J117 : ∀ (H : Heap) (locs : List Loc) (ls : Array Slot) (v117_3 : Int64) (v117_5 : Int64) (v117_7 : Int32) (u117_1 : Int64) (u117_2 : Int64), cW N H → mI N h0 H → kp N h0 [32, 33, 34, 35, 36, 37, 38, 39, 40, 41, 42] V H → va_S (cE N [11]) s.heap H locs → lv_has ls 9 [(0, .ref h0), (1, .int p1), (2, .int p2), (3, .long v117_3), (5, .long v117_5), (7, .int v117_7), (8, .int v43_8)] → ir p1 1 4 → ir p2 2 12 → lr v117_3 0 9223372036854775807 → lr v117_5 1 9223372036854775807 → ir v117_7 (-1) 23 → ir v43_8 0 47 → ir u43_0 0 24 → wt_pin N.1 vwCl h0 11 7 (.int u43_0) H → lr u117_1 0 9223372036854775807 → wt_pin N.1 vwCl h0 11 39 (.long u117_1) H → lr u117_2 1 9223372036854775807 → wt_pin N.1 vwCl h0 11 40 (.long u117_2) H → WW H locs (F0 m 117 ls []) := by
        intro H locs ls v117_3 v117_5 v117_7 u117_1 u117_2 hW hI hV hS hl rv117_1 rv117_2 rv117_3 rv117_5 rv117_7 rv117_8 ru117_0 nh0_7 ru117_1 nh0_39 ru117_2 nh0_40
        refine w1 _ _ _ ?_
        obtain ⟨x117, e117⟩ : ∃ y : Int32, y = v43_8 + 1 := ⟨_, rfl⟩
        have r117 : ir x117 1 48 := ir_w (ir_add e117 rv117_8 (ir_c (1) (by decide) : ir (1 : Int32) (1) (1)) (by decide) (by decide)) (by decide) (by decide)
        have t117 : x117.toInt = v43_8.toInt + (1) := it_add e117 rv117_8 (ir_c (1) (by decide) : ir (1 : Int32) (1) (1)) (by decide) (by decide)
        refine lv_iinc (v := x117) (lv' := [(8, .int x117), (0, .ref h0), (1, .int p1), (2, .int p2), (3, .long v117_3), (5, .long v117_5), (7, .int v117_7)]) hx hb dX11_tender_117 hl (k := 6) rfl (by rw [e117]; rfl) (by decide) rfl (fun ls hl => ?_)
        refine lv_goto (tgt := 43) hx hb dX11_tender_120 (by decide) ?_
        exact w2 _ _ _ (ih43 _ _ _ v117_3 v117_5 v117_7 x117 u43_0 u117_1 u117_2 hW hI hV hS (lv_sub hl [1, 2, 3, 4, 5, 6, 0] rfl) rv117_1 rv117_2 rv117_3 rv117_5 rv117_7 (ir_w (lo' := 0) (hi' := 48) r117 (by decide) (by decide)) ru117_0 nh0_7 ru117_1 nh0_39 ru117_2 nh0_40 (by have h9 := r117; omega))
      refine w1 _ _ _ ?_
      refine lv_iload hx hb dX11_tender_43 (lv_at hl 6 rfl) ?_
      refine lv_iconst (v := 2) hx hb dX11_tender_45 (by decide) ?_
      refine lv_aload_n hx hb dX11_tender_46 rfl (lv_at hl 0 rfl) ?_
      refine wt_rel hx hb hts cfX11 hown hK nh0_7 rfl (by decide) (Or.inl (hts _ q879)) dX11_tender_47 ?_
      refine lv_imul hx hb dX11_tender_50 ?_
      refine lv_topi (fun x50 e50 => ?_)
      have t50 : x50.toInt = (2) * u43_0.toInt := (it_mul e50 (ir_c (2) (by decide) : ir (2 : Int32) (2) (2)) ru43_0 (by decide) (by decide) (by decide)).1
      have r50 : ir x50 0 48 := ir_w (it_mul e50 (ir_c (2) (by decide) : ir (2 : Int32) (2) (2)) ru43_0 (by decide) (by decide) (by decide)).2 (by decide) (by decide)
      refine lv_icmp_ge (tgt := 123) hx hb dX11_tender_51 (by decide) (fun c51 => ?_) (fun c51 => ?_)
      · have d51 := Int32.le_iff_toInt_le.mp c51
        refine lv_iload hx hb dX11_tender_123 (lv_at hl 5 rfl) ?_
        exact W.iret (v := v43_7) hx hb hr (fun t ht _ => ⟨⟨v43_7, v43_7, rfl, ⟨rfl, trivial⟩, cW_at ht hW, ⟨mI_at ht hI, kp_at ht hV⟩⟩, hS.F ht⟩) hS.2.2 dX11_tender_125
      · have rv43_8_51 : ir v43_8 0 47 := ⟨(rv43_8).1, Int.le_trans (rf_lt (rf_nle c51) rv43_8 r50).1 (by decide)⟩
        have rx50_51 : ir x50 1 48 := ⟨Int.le_trans (by decide) (rf_lt (rf_nle c51) rv43_8 r50).2, (r50).2⟩
        have d51 := Int32.lt_iff_toInt_lt.mp (rf_nle c51)
        refine lv_aload_n hx hb dX11_tender_54 rfl (lv_at hl 0 rfl) ?_
        refine lv_iload_n hx hb dX11_tender_55 rfl (lv_at hl 1 rfl) ?_
        refine lv_iload_n hx hb dX11_tender_56 rfl (lv_at hl 2 rfl) ?_
        refine lv_iconst (v := 1) hx hb dX11_tender_57 (by decide) ?_
        refine lv_iload hx hb dX11_tender_58 (lv_at hl 6 rfl) ?_
        refine lv_iconst (v := 2) hx hb dX11_tender_60 (by decide) ?_
        refine lv_idiv hx hb dX11_tender_61 (by decide) ?_
        refine lv_topi (fun x61 e61 => ?_)
        have t61 := ir_divc e61 rv43_8_51 (by decide) 2 (by decide) (by decide) (by decide)
        have r61 : ir x61 0 23 := by have t := ir_divc e61 rv43_8_51 (by decide) 2 (by decide) (by decide) (by decide); have h9 := rv43_8_51; constructor <;> omega
        refine lv_ishl hx hb dX11_tender_62 ?_
        refine lv_topi (fun x62 e62 => ?_)
        refine lv_iload hx hb dX11_tender_63 (lv_at hl 6 rfl) ?_
        refine lv_iconst (v := 2) hx hb dX11_tender_65 (by decide) ?_
        refine lv_irem hx hb dX11_tender_66 (by decide) ?_
        refine lv_topi (fun x66 e66 => ?_)
        have r66 : ir x66 0 1 := ir_remr e66 rv43_8_51 (by decide) 2 (by decide) (by decide) (by decide) (by decide)
        refine lv_iload hx hb dX11_tender_67 (lv_at hl 6 rfl) ?_
        refine lv_iconst (v := 2) hx hb dX11_tender_69 (by decide) ?_
        refine lv_idiv hx hb dX11_tender_70 (by decide) ?_
        refine lv_topi (fun x70 e70 => ?_)
        have t70 := ir_divc e70 rv43_8_51 (by decide) 2 (by decide) (by decide) (by decide)
        have r70 : ir x70 0 23 := by have t := ir_divc e70 rv43_8_51 (by decide) 2 (by decide) (by decide) (by decide); have h9 := rv43_8_51; constructor <;> omega
        refine lv_ishl hx hb dX11_tender_71 ?_
        refine lv_topi (fun x71 e71 => ?_)
        obtain ⟨V1, hV1⟩ := kp_all hW k0
        refine cc_i2 (B2 := fun r H => mI N h0 H ∧ kp N h0 [32, 33, 34, 35, 36, 37, 38, 39, 40, 41, 42] V1 H ∧ (¬ r = 0 → ∃ bu bb : Int64, pL N h0 39 bu H ∧ pL N h0 40 bb H ∧ 0 ≤ bu.toInt ∧ 1 ≤ bb.toInt)) (wt_runV (As := [.int p1, .int p2, .int x62, .int x71]) (rest := []) ⟨hx, hb, hml, hown, hts⟩ (m_X11_slips l N h0 k0 hO V1 p1 rv43_1 p2 rv43_2 x62 x71) wm_X11_slips q1308 ⟨rfl, rfl⟩ ⟨Nat.le_of_ble_eq_true rfl, Nat.le_of_ble_eq_true rfl⟩ (cS_preV (B := fun H => mI N h0 H ∧ kp N h0 [32, 33, 34, 35, 36, 37, 38, 39, 40, 41, 42] V1 H) hK hW hT hnn hS (cg11 k0) rfl rfl (And.intro hI (kp_of (F := [32, 33, 34, 35, 36, 37, 38, 39, 40, 41, 42]) hV1))) rfl hl.1 rfl (Nat.le_of_ble_eq_true rfl) dX11_tender_72 ⟨Nat.zero_le _, Nat.zero_le _⟩) hS (by decide) (fun x72 H locs hp hW hS oq hB2 => ?_)
        obtain ⟨hI, hV2, hB2⟩ := hB2
        have hV := kp_call hV hV1 hV2 (by decide)
        have hq72 := hB2
        have nh0_7 := kp_use hV1 hV2 (by decide) (by decide) nh0_7
        have r72 : ir x72 0 1 := hp
        refine lv_if_ne (tgt := 80) hx hb dX11_tender_75 (by decide) (fun c75 => ?_) (fun c75 => ?_)
        · have rx72_75 : ir x72 1 1 := rf_ne0 c75 r72
          obtain ⟨bu72, bb72, nh0_39, nh0_40, vu72, vb72⟩ := hq72 c75
          refine lv_lload_n hx hb dX11_tender_80 rfl (lv_at hl 3 rfl) ?_
          refine lv_lload hx hb dX11_tender_81 (lv_at hl 4 rfl) ?_
          refine lv_aload_n hx hb dX11_tender_83 rfl (lv_at hl 0 rfl) ?_
          refine wt_rel hx hb hts cfX11 hown hK nh0_39 rfl (by decide) (Or.inl (hts _ q911)) dX11_tender_84 ?_
          refine lv_aload_n hx hb dX11_tender_87 rfl (lv_at hl 0 rfl) ?_
          refine wt_rel hx hb hts cfX11 hown hK nh0_40 rfl (by decide) (Or.inl (hts _ q912)) dX11_tender_88 ?_
          refine cp_i (wt_runS (As := [.long v43_3, .long v43_5, .long bu72, .long bb72]) (rest := []) ⟨hx, hb, hml, hown, hts⟩ (m_X11_isLess l v43_3 rv43_3 v43_5 rv43_5 bu72 (⟨vu72, (lr_any bu72).2⟩ : lr bu72 0 9223372036854775807) bb72 (⟨vb72, (lr_any bb72).2⟩ : lr bb72 1 9223372036854775807)) wm_X11_isLess q1291 ⟨rfl, rfl⟩ ⟨Nat.le_of_ble_eq_true rfl, Nat.le_of_ble_eq_true rfl⟩ pS_pre rfl hl.1 rfl (Nat.le_of_ble_eq_true rfl) dX11_tender_91 ⟨Nat.zero_le _, Nat.zero_le _⟩) hW hS (fun x91 H locs hp hW1 hS oq => ?_)
          have hV := hV.same hW k0 oq
          have hI := mI.fr.same hI hW oq
          have hW := hW1
          have nh0_7 := nh0_7.kept (oq _ nh0_7.lt (cE_not k0 (by decide)))
          have nh0_39 := nh0_39.kept (oq _ nh0_39.lt (cE_not k0 (by decide)))
          have nh0_40 := nh0_40.kept (oq _ nh0_40.lt (cE_not k0 (by decide)))
          have r91 : ir x91 0 1 := hp
          refine lv_if_ne (tgt := 100) hx hb dX11_tender_94 (by decide) (fun c94 => ?_) (fun c94 => ?_)
          · have rx91_94 : ir x91 1 1 := rf_ne0 c94 r91
            refine lv_iload hx hb dX11_tender_100 (lv_at hl 6 rfl) ?_
            refine lv_iconst (v := 2) hx hb dX11_tender_102 (by decide) ?_
            refine lv_idiv hx hb dX11_tender_103 (by decide) ?_
            refine lv_topi (fun x103 e103 => ?_)
            have t103 := ir_divc e103 rv43_8_51 (by decide) 2 (by decide) (by decide) (by decide)
            have r103 : ir x103 0 23 := by have t := ir_divc e103 rv43_8_51 (by decide) 2 (by decide) (by decide) (by decide); have h9 := rv43_8_51; constructor <;> omega
            refine lv_istore (lv' := [(7, .int x103), (0, .ref h0), (1, .int p1), (2, .int p2), (3, .long v43_3), (5, .long v43_5), (8, .int v43_8)]) hx hb dX11_tender_104 hl (by decide) rfl (fun ls hl => ?_)
            refine lv_aload_n hx hb dX11_tender_106 rfl (lv_at hl 1 rfl) ?_
            refine wt_rel hx hb hts cfX11 hown hK nh0_39 rfl (by decide) (Or.inl (hts _ q911)) dX11_tender_107 ?_
            refine lv_lstore_n (lv' := [(3, .long bu72), (7, .int x103), (0, .ref h0), (1, .int p1), (2, .int p2), (5, .long v43_5), (8, .int v43_8)]) hx hb dX11_tender_110 rfl hl (by decide) rfl (fun ls hl => ?_)
            refine lv_aload_n hx hb dX11_tender_111 rfl (lv_at hl 2 rfl) ?_
            refine wt_rel hx hb hts cfX11 hown hK nh0_40 rfl (by decide) (Or.inl (hts _ q912)) dX11_tender_112 ?_
            refine lv_lstore (lv' := [(5, .long bb72), (3, .long bu72), (7, .int x103), (0, .ref h0), (1, .int p1), (2, .int p2), (8, .int v43_8)]) hx hb dX11_tender_115 hl (by decide) rfl (fun ls hl => ?_)
            exact w2 _ _ _ (J117 _ _ _ bu72 bb72 x103 bu72 bb72 hW hI hV hS (lv_sub hl [3, 4, 5, 1, 0, 2, 6] rfl) rv43_1 rv43_2 (⟨vu72, (lr_any bu72).2⟩ : lr bu72 0 9223372036854775807) (⟨vb72, (lr_any bb72).2⟩ : lr bb72 1 9223372036854775807) (ir_w (lo' := -1) (hi' := 23) r103 (by decide) (by decide)) rv43_8_51 ru43_0 nh0_7 (⟨vu72, (lr_any bu72).2⟩ : lr bu72 0 9223372036854775807) nh0_39 (⟨vb72, (lr_any bb72).2⟩ : lr bb72 1 9223372036854775807) nh0_40)
          · have rx91_94 : ir x91 0 0 := rf_eq c94 (ir_c (0) (by decide) : ir (0 : Int32) (0) (0))
            refine lv_goto (tgt := 117) hx hb dX11_tender_97 (by decide) ?_
            exact w2 _ _ _ (J117 _ _ _ v43_3 v43_5 v43_7 bu72 bb72 hW hI hV hS (lv_sub hl [0, 1, 2, 3, 4, 5, 6] rfl) rv43_1 rv43_2 rv43_3 rv43_5 rv43_7 rv43_8_51 ru43_0 nh0_7 (⟨vu72, (lr_any bu72).2⟩ : lr bu72 0 9223372036854775807) nh0_39 (⟨vb72, (lr_any bb72).2⟩ : lr bb72 1 9223372036854775807) nh0_40)
        · have rx72_75 : ir x72 0 0 := rf_eq c75 (ir_c (0) (by decide) : ir (0 : Int32) (0) (0))
          refine lv_iconst (v := -1) hx hb dX11_tender_78 (by decide) ?_
          exact W.iret (v := (-1 : Int32)) hx hb hr (fun t ht _ => ⟨⟨(-1 : Int32), (-1 : Int32), rfl, ⟨rfl, trivial⟩, cW_at ht hW, ⟨mI_at ht hI, kp_at ht hV⟩⟩, hS.F ht⟩) hS.2.2 dX11_tender_79
  refine lv_aload_n hx hb dX11_tender_0 rfl (lv_at hl 0 rfl) ?_
  refine lv_iload_n hx hb dX11_tender_1 rfl (lv_at hl 1 rfl) ?_
  refine lv_iload_n hx hb dX11_tender_2 rfl (lv_at hl 2 rfl) ?_
  obtain ⟨V1, hV1⟩ := kp_all hW k0
  refine cc_i2 (B2 := fun _ H => mI N h0 H ∧ kp N h0 [] V1 H) (wt_runV (As := [.int p1, .int p2]) (rest := []) ⟨hx, hb, hml, hown, hts⟩ (m_X11_canSlip l N h0 k0 hO V1 p1 p2) wm_X11_canSlip q1303 ⟨rfl, rfl⟩ ⟨Nat.le_of_ble_eq_true rfl, Nat.le_of_ble_eq_true rfl⟩ (cS_preV (B := fun H => mI N h0 H ∧ kp N h0 [] V1 H) hK hW hT hnn hS (cg11 k0) rfl rfl (And.intro hI (kp_of (F := []) hV1))) rfl hl.1 rfl (Nat.le_of_ble_eq_true rfl) dX11_tender_3 ⟨Nat.zero_le _, Nat.zero_le _⟩) hS (by decide) (fun x3 H locs hp hW hS oq hB2 => ?_)
  obtain ⟨hI, hV2⟩ := hB2
  have hV := kp_call hV hV1 hV2 (by decide)
  obtain ⟨r3, b3⟩ := hp
  refine lv_if_ne (tgt := 12) hx hb dX11_tender_6 (by decide) (fun c6 => ?_) (fun c6 => ?_)
  · have rx3_6 : ir x3 1 1 := rf_ne0 c6 r3
    have bx3_6 := b3 c6
    refine lv_aload_n hx hb dX11_tender_12 rfl (lv_at hl 0 rfl) ?_
    refine lv_aload_n hx hb dX11_tender_13 rfl (lv_at hl 0 rfl) ?_
    refine wt_getp hx hb hts cfX11 hown hK hW (cg11 k0) rfl 7 (by decide) (Or.inl (hts _ q879)) dX11_tender_14 (fun v hv nh0_7 => ?_)
    obtain ⟨x14, rfl, r14⟩ : gi 0 24 v := hv
    refine lv_iload_n hx hb dX11_tender_17 rfl (lv_at hl 1 rfl) ?_
    obtain ⟨V1, hV1⟩ := kp_all hW k0
    refine cc_i2 (B2 := fun r H => mI N h0 H ∧ kp N h0 [32, 33, 34, 35, 36, 37, 38, 39, 40, 41, 42] V1 H ∧ (¬ r = 0 → ∃ bu bb : Int64, pL N h0 39 bu H ∧ pL N h0 40 bb H ∧ 0 ≤ bu.toInt ∧ 1 ≤ bb.toInt)) (wt_runV (As := [.int x14, .int p1]) (rest := []) ⟨hx, hb, hml, hown, hts⟩ (m_X11_shines l N h0 k0 hO V1 x14 r14 p1 bx3_6.1 x14 (by have h6 := r14; have h7 := r14; omega)) wm_X11_shines q1238 ⟨rfl, rfl⟩ ⟨Nat.le_of_ble_eq_true rfl, Nat.le_of_ble_eq_true rfl⟩ (cS_preV (B := fun H => mI N h0 H ∧ kp N h0 [32, 33, 34, 35, 36, 37, 38, 39, 40, 41, 42] V1 H ∧ wt_pin N.1 vwCl h0 11 7 (.int x14) H) hK hW hT hnn hS (cg11 k0) rfl rfl (And.intro hI (And.intro (kp_of (F := [32, 33, 34, 35, 36, 37, 38, 39, 40, 41, 42]) hV1) nh0_7))) rfl hl.1 rfl (Nat.le_of_ble_eq_true rfl) dX11_tender_18 ⟨Nat.zero_le _, Nat.zero_le _⟩) hS (by decide) (fun x18 H locs hp hW hS oq hB2 => ?_)
    obtain ⟨hI, hV2, hB2⟩ := hB2
    have hV := kp_call hV hV1 hV2 (by decide)
    have hq18 := hB2
    have nh0_7 := kp_use hV1 hV2 (by decide) (by decide) nh0_7
    have r18 : ir x18 0 1 := hp
    refine lv_if_ne (tgt := 26) hx hb dX11_tender_21 (by decide) (fun c21 => ?_) (fun c21 => ?_)
    · have rx18_21 : ir x18 1 1 := rf_ne0 c21 r18
      obtain ⟨bu18, bb18, nh0_39, nh0_40, vu18, vb18⟩ := hq18 c21
      refine lv_aload_n hx hb dX11_tender_26 rfl (lv_at hl 0 rfl) ?_
      refine wt_rel hx hb hts cfX11 hown hK nh0_39 rfl (by decide) (Or.inl (hts _ q911)) dX11_tender_27 ?_
      refine lv_lstore_n (lv' := [(3, .long bu18), (0, .ref h0), (1, .int p1), (2, .int p2)]) hx hb dX11_tender_30 rfl hl (by decide) rfl (fun ls hl => ?_)
      refine lv_aload_n hx hb dX11_tender_31 rfl (lv_at hl 1 rfl) ?_
      refine wt_rel hx hb hts cfX11 hown hK nh0_40 rfl (by decide) (Or.inl (hts _ q912)) dX11_tender_32 ?_
      refine lv_lstore (lv' := [(5, .long bb18), (3, .long bu18), (0, .ref h0), (1, .int p1), (2, .int p2)]) hx hb dX11_tender_35 hl (by decide) rfl (fun ls hl => ?_)
      refine lv_iconst (v := -1) hx hb dX11_tender_37 (by decide) ?_
      refine lv_istore (lv' := [(7, .int (-1 : Int32)), (5, .long bb18), (3, .long bu18), (0, .ref h0), (1, .int p1), (2, .int p2)]) hx hb dX11_tender_38 hl (by decide) rfl (fun ls hl => ?_)
      refine lv_iconst (v := 0) hx hb dX11_tender_40 (by decide) ?_
      refine lv_istore (lv' := [(8, .int (0 : Int32)), (7, .int (-1 : Int32)), (5, .long bb18), (3, .long bu18), (0, .ref h0), (1, .int p1), (2, .int p2)]) hx hb dX11_tender_41 hl (by decide) rfl (fun ls hl => ?_)
      exact w2 _ _ _ (L43 49 _ _ _ bu18 bb18 (-1 : Int32) (0 : Int32) x14 bu18 bb18 hW hI hV hS (lv_sub hl [4, 5, 6, 3, 2, 1, 0] rfl) bx3_6.1 bx3_6.2 (⟨vu18, (lr_any bu18).2⟩ : lr bu18 0 9223372036854775807) (⟨vb18, (lr_any bb18).2⟩ : lr bb18 1 9223372036854775807) (ir_w (lo' := -1) (hi' := 23) (ir_c (-1) (by decide) : ir (-1 : Int32) (-1) (-1)) (by decide) (by decide)) (ir_w (lo' := 0) (hi' := 48) (ir_c (0) (by decide) : ir (0 : Int32) (0) (0)) (by decide) (by decide)) r14 nh0_7 (⟨vu18, (lr_any bu18).2⟩ : lr bu18 0 9223372036854775807) nh0_39 (⟨vb18, (lr_any bb18).2⟩ : lr bb18 1 9223372036854775807) nh0_40 (by have h9 := (ir_c (0) (by decide) : ir (0 : Int32) (0) (0)); omega))
    · have rx18_21 : ir x18 0 0 := rf_eq c21 (ir_c (0) (by decide) : ir (0 : Int32) (0) (0))
      refine lv_iconst (v := -1) hx hb dX11_tender_24 (by decide) ?_
      exact W.iret (v := (-1 : Int32)) hx hb hr (fun t ht _ => ⟨⟨(-1 : Int32), (-1 : Int32), rfl, ⟨rfl, trivial⟩, cW_at ht hW, ⟨mI_at ht hI, kp_at ht hV⟩⟩, hS.F ht⟩) hS.2.2 dX11_tender_25
  · have rx3_6 : ir x3 0 0 := rf_eq c6 (ir_c (0) (by decide) : ir (0 : Int32) (0) (0))
    refine lv_bipush (v := -2) hx hb dX11_tender_9 (by decide) ?_
    exact W.iret (v := (-2 : Int32)) hx hb hr (fun t ht _ => ⟨⟨(-2 : Int32), (-2 : Int32), rfl, ⟨rfl, trivial⟩, cW_at ht hW, ⟨mI_at ht hI, kp_at ht hV⟩⟩, hS.F ht⟩) hS.2.2 dX11_tender_11
set_option maxHeartbeats 4000000 in
set_option maxRecDepth 100000 in
theorem m_X11_lightsAll (l : Launch) (N : c_N) (h0 : Nat) (k0 : N.2.2.1 h0 = some 11) (hO : mOK N) (V : Nat → Value) (p1 : Int32) : cMi2 l yX11_lightsAll cX11_lightsAll 3 .boolean { frames := 5, cells := 0, slots := 0, locals := 148 } [.ref h0, .int p1] N [11] (fun H => mI N h0 H ∧ kp N h0 [32, 33, 34, 35, 36, 37, 38, 39, 40, 41, 42, 52, 53] V H) (fun r => ir r 0 1) (fun r H => mI N h0 H ∧ kp N h0 [32, 33, 34, 35, 36, 37, 38, 39, 40, 41, 42, 52, 53] V H ∧ ∃ u b : Int64, pL N h0 52 u H ∧ pL N h0 53 b H ∧ 0 ≤ u.toInt ∧ 1 ≤ b.toInt) := by
  refine Met.ofW (cc := cX11_lightsAll) (maxL := 3) (ret := some .boolean) (by decide) rfl ?_
  intro p e s m args below meth c s₁ B hml hv
  obtain ⟨rfl, ⟨hK, hW, hT, hnn⟩, hB⟩ := hv
  obtain ⟨hI, hV⟩ := hB
  have hx := B.exec
  have hb := B.bytes
  have hr := B.returns
  have hts : ∀ w ∈ lw_g, w.before _ s = true := fun w h => atoms_spec (ws := wc_ws yX11_lightsAll cX11_lightsAll 3 (some .boolean)) B.pre w (List.mem_cons_of_mem _ h)
  have hown : s.vm.findClass RX11 = some m.cls := findClass_of_methodNamed B.named
  have hlocks := B.notSynchronized
  have hS : va_S (cE N [11]) s.heap s.heap [] := va_S.rf
  have hl := lv_entry ([.ref h0, .int p1]) (n := 3) (Nat.le_of_ble_eq_true rfl)
  rw [lg_entry_eq]
  generalize (lg_sl ([.ref h0, .int p1]) ++ List.replicate (3 - (lg_sl ([.ref h0, .int p1])).length) Slot.unset).toArray = ls at hl ⊢
  have hl : lv_has ls 3 [(0, .ref h0), (1, .int p1)] := hl
  refine wq_all ?_
  intro WW w1 w2
  have L12 : ∀ (n : Nat) (H : Heap) (locs : List Loc) (ls : Array Slot) (v12_2 : Int32) (u12_0 : Int64) (u12_1 : Int64), cW N H → mI N h0 H → kp N h0 [32, 33, 34, 35, 36, 37, 38, 39, 40, 41, 42, 52, 53] V H → va_S (cE N [11]) s.heap H locs → lv_has ls 3 [(0, .ref h0), (1, .int p1), (2, .int v12_2)] → ir v12_2 1 5 → lr u12_0 0 9223372036854775807 → wt_pin N.1 vwCl h0 11 52 (.long u12_0) H → lr u12_1 1 9223372036854775807 → wt_pin N.1 vwCl h0 11 53 (.long u12_1) H → 5 - v12_2.toInt < (n : Int) → WW H locs (F0 m 12 ls []) := by
    intro n
    induction n with
    | zero =>
      intro H locs ls v12_2 u12_0 u12_1 hW hI hV hS hl rv12_2 ru12_0 nh0_52 ru12_1 nh0_53 mu12
      exfalso
      omega
    | succ n ih12 =>
      intro H locs ls v12_2 u12_0 u12_1 hW hI hV hS hl rv12_2 ru12_0 nh0_52 ru12_1 nh0_53 mu12
      have J85 : ∀ (H : Heap) (locs : List Loc) (ls : Array Slot) (u85_3 : Int64) (u85_4 : Int64), cW N H → mI N h0 H → kp N h0 [32, 33, 34, 35, 36, 37, 38, 39, 40, 41, 42, 52, 53] V H → va_S (cE N [11]) s.heap H locs → lv_has ls 3 [(0, .ref h0), (1, .int p1), (2, .int v12_2)] → ir v12_2 1 4 → lr u85_3 0 9223372036854775807 → wt_pin N.1 vwCl h0 11 52 (.long u85_3) H → lr u85_4 1 9223372036854775807 → wt_pin N.1 vwCl h0 11 53 (.long u85_4) H → WW H locs (F0 m 85 ls []) := by
        intro H locs ls u85_3 u85_4 hW hI hV hS hl rv85_2 ru85_3 nh0_52 ru85_4 nh0_53
        refine w1 _ _ _ ?_
        obtain ⟨x85, e85⟩ : ∃ y : Int32, y = v12_2 + 1 := ⟨_, rfl⟩
        have r85 : ir x85 2 5 := ir_w (ir_add e85 rv85_2 (ir_c (1) (by decide) : ir (1 : Int32) (1) (1)) (by decide) (by decide)) (by decide) (by decide)
        have t85 : x85.toInt = v12_2.toInt + (1) := it_add e85 rv85_2 (ir_c (1) (by decide) : ir (1 : Int32) (1) (1)) (by decide) (by decide)
        refine lv_iinc (v := x85) (lv' := [(2, .int x85), (0, .ref h0), (1, .int p1)]) hx hb dX11_lightsAll_85 hl (k := 2) rfl (by rw [e85]; rfl) (by decide) rfl (fun ls hl => ?_)
        refine lv_goto (tgt := 12) hx hb dX11_lightsAll_88 (by decide) ?_
        exact w2 _ _ _ (ih12 _ _ _ x85 u85_3 u85_4 hW hI hV hS (lv_sub hl [1, 2, 0] rfl) (ir_w (lo' := 1) (hi' := 5) r85 (by decide) (by decide)) ru85_3 nh0_52 ru85_4 nh0_53 (by have h9 := r85; omega))
      refine w1 _ _ _ ?_
      refine lv_iload_n hx hb dX11_lightsAll_12 rfl (lv_at hl 2 rfl) ?_
      refine lv_iconst (v := 4) hx hb dX11_lightsAll_13 (by decide) ?_
      refine lv_icmp_gt (tgt := 91) hx hb dX11_lightsAll_14 (by decide) (fun c14 => ?_) (fun c14 => ?_)
      · have rv12_2_14 : ir v12_2 5 5 := ⟨Int.le_trans (by decide) (rf_lt c14 (ir_c (4) (by decide) : ir (4 : Int32) (4) (4)) rv12_2).2, (rv12_2).2⟩
        have d14 := Int32.lt_iff_toInt_lt.mp c14
        refine lv_iconst (v := 1) hx hb dX11_lightsAll_91 (by decide) ?_
        exact W.zret (v := (1 : Int32)) hx hb hr rfl (fun t ht _ => ⟨⟨(1 : Int32), (1 : Int32), rfl, ⟨rfl, (⟨by decide, by decide⟩)⟩, cW_at ht hW, ⟨mI_at ht hI, kp_at ht hV, ⟨_, _, pin_at ht nh0_52, pin_at ht nh0_53, (ru12_0).1, (ru12_1).1⟩⟩⟩, hS.F ht⟩) hS.2.2 dX11_lightsAll_92
      · have rv12_2_14 : ir v12_2 1 4 := ⟨(rv12_2).1, Int.le_trans (rf_le (rf_nlt c14) rv12_2 (ir_c (4) (by decide) : ir (4 : Int32) (4) (4))).1 (by decide)⟩
        have d14 := Int32.le_iff_toInt_le.mp (rf_nlt c14)
        refine lv_iload_n hx hb dX11_lightsAll_17 rfl (lv_at hl 1 rfl) ?_
        refine lv_iload_n hx hb dX11_lightsAll_18 rfl (lv_at hl 2 rfl) ?_
        refine lv_iconst (v := 1) hx hb dX11_lightsAll_19 (by decide) ?_
        refine lv_isub hx hb dX11_lightsAll_20 ?_
        refine lv_topi (fun x20 e20 => ?_)
        have t20 : x20.toInt = v12_2.toInt - (1) := it_sub e20 rv12_2_14 (ir_c (1) (by decide) : ir (1 : Int32) (1) (1)) (by decide) (by decide)
        have r20 : ir x20 0 3 := ir_w (ir_sub e20 rv12_2_14 (ir_c (1) (by decide) : ir (1 : Int32) (1) (1)) (by decide) (by decide)) (by decide) (by decide)
        refine cp_i (wt_runS (As := [.int p1, .int x20]) (rest := []) ⟨hx, hb, hml, hown, hts⟩ (m_X11_has l p1 x20) wm_X11_has q1312 ⟨rfl, rfl⟩ ⟨Nat.le_of_ble_eq_true rfl, Nat.le_of_ble_eq_true rfl⟩ pS_pre rfl hl.1 rfl (Nat.le_of_ble_eq_true rfl) dX11_lightsAll_21 ⟨Nat.zero_le _, Nat.zero_le _⟩) hW hS (fun x21 H locs hp hW1 hS oq => ?_)
        have hV := hV.same hW k0 oq
        have hI := mI.fr.same hI hW oq
        have hW := hW1
        have nh0_52 := nh0_52.kept (oq _ nh0_52.lt (cE_not k0 (by decide)))
        have nh0_53 := nh0_53.kept (oq _ nh0_53.lt (cE_not k0 (by decide)))
        have r21 : ir x21 0 1 := hp
        refine lv_if_ne (tgt := 30) hx hb dX11_lightsAll_24 (by decide) (fun c24 => ?_) (fun c24 => ?_)
        · have rx21_24 : ir x21 1 1 := rf_ne0 c24 r21
          refine lv_aload_n hx hb dX11_lightsAll_30 rfl (lv_at hl 0 rfl) ?_
          refine lv_aload_n hx hb dX11_lightsAll_31 rfl (lv_at hl 0 rfl) ?_
          refine wt_getp hx hb hts cfX11 hown hK hW (cg11 k0) rfl 7 (by decide) (Or.inl (hts _ q879)) dX11_lightsAll_32 (fun v hv nh0_7 => ?_)
          obtain ⟨x32, rfl, r32⟩ : gi 0 24 v := hv
          refine lv_iload_n hx hb dX11_lightsAll_35 rfl (lv_at hl 2 rfl) ?_
          obtain ⟨V1, hV1⟩ := kp_all hW k0
          refine cc_i2 (B2 := fun r H => mI N h0 H ∧ kp N h0 [32, 33, 34, 35, 36, 37, 38, 39, 40, 41, 42] V1 H ∧ (¬ r = 0 → ∃ bu bb : Int64, pL N h0 39 bu H ∧ pL N h0 40 bb H ∧ 0 ≤ bu.toInt ∧ 1 ≤ bb.toInt)) (wt_runV (As := [.int x32, .int v12_2]) (rest := []) ⟨hx, hb, hml, hown, hts⟩ (m_X11_shines l N h0 k0 hO V1 x32 r32 v12_2 rv12_2_14 x32 (by have h6 := r32; have h7 := r32; omega)) wm_X11_shines q1238 ⟨rfl, rfl⟩ ⟨Nat.le_of_ble_eq_true rfl, Nat.le_of_ble_eq_true rfl⟩ (cS_preV (B := fun H => mI N h0 H ∧ kp N h0 [32, 33, 34, 35, 36, 37, 38, 39, 40, 41, 42] V1 H ∧ wt_pin N.1 vwCl h0 11 7 (.int x32) H) hK hW hT hnn hS (cg11 k0) rfl rfl (And.intro hI (And.intro (kp_of (F := [32, 33, 34, 35, 36, 37, 38, 39, 40, 41, 42]) hV1) nh0_7))) rfl hl.1 rfl (Nat.le_of_ble_eq_true rfl) dX11_lightsAll_36 ⟨Nat.zero_le _, Nat.zero_le _⟩) hS (by decide) (fun x36 H locs hp hW hS oq hB2 => ?_)
          obtain ⟨hI, hV2, hB2⟩ := hB2
          have hV := kp_call hV hV1 hV2 (by decide)
          have hq36 := hB2
          have nh0_52 := kp_use hV1 hV2 (by decide) (by decide) nh0_52
          have nh0_53 := kp_use hV1 hV2 (by decide) (by decide) nh0_53
          have nh0_7 := kp_use hV1 hV2 (by decide) (by decide) nh0_7
          have r36 : ir x36 0 1 := hp
          refine lv_if_ne (tgt := 44) hx hb dX11_lightsAll_39 (by decide) (fun c39 => ?_) (fun c39 => ?_)
          · have rx36_39 : ir x36 1 1 := rf_ne0 c39 r36
            obtain ⟨bu36, bb36, nh0_39, nh0_40, vu36, vb36⟩ := hq36 c39
            refine lv_aload_n hx hb dX11_lightsAll_44 rfl (lv_at hl 0 rfl) ?_
            refine wt_rel hx hb hts cfX11 hown hK nh0_52 rfl (by decide) (Or.inl (hts _ q924)) dX11_lightsAll_45 ?_
            refine lv_aload_n hx hb dX11_lightsAll_48 rfl (lv_at hl 0 rfl) ?_
            refine wt_rel hx hb hts cfX11 hown hK nh0_53 rfl (by decide) (Or.inl (hts _ q925)) dX11_lightsAll_49 ?_
            refine lv_aload_n hx hb dX11_lightsAll_52 rfl (lv_at hl 0 rfl) ?_
            refine wt_rel hx hb hts cfX11 hown hK nh0_39 rfl (by decide) (Or.inl (hts _ q911)) dX11_lightsAll_53 ?_
            refine lv_aload_n hx hb dX11_lightsAll_56 rfl (lv_at hl 0 rfl) ?_
            refine wt_rel hx hb hts cfX11 hown hK nh0_40 rfl (by decide) (Or.inl (hts _ q912)) dX11_lightsAll_57 ?_
            refine cp_i (wt_runS (As := [.long u12_0, .long u12_1, .long bu36, .long bb36]) (rest := []) ⟨hx, hb, hml, hown, hts⟩ (m_X11_isLess l u12_0 ru12_0 u12_1 ru12_1 bu36 (⟨vu36, (lr_any bu36).2⟩ : lr bu36 0 9223372036854775807) bb36 (⟨vb36, (lr_any bb36).2⟩ : lr bb36 1 9223372036854775807)) wm_X11_isLess q1291 ⟨rfl, rfl⟩ ⟨Nat.le_of_ble_eq_true rfl, Nat.le_of_ble_eq_true rfl⟩ pS_pre rfl hl.1 rfl (Nat.le_of_ble_eq_true rfl) dX11_lightsAll_60 ⟨Nat.zero_le _, Nat.zero_le _⟩) hW hS (fun x60 H locs hp hW1 hS oq => ?_)
            have hV := hV.same hW k0 oq
            have hI := mI.fr.same hI hW oq
            have hW := hW1
            have nh0_52 := nh0_52.kept (oq _ nh0_52.lt (cE_not k0 (by decide)))
            have nh0_53 := nh0_53.kept (oq _ nh0_53.lt (cE_not k0 (by decide)))
            have nh0_7 := nh0_7.kept (oq _ nh0_7.lt (cE_not k0 (by decide)))
            have nh0_39 := nh0_39.kept (oq _ nh0_39.lt (cE_not k0 (by decide)))
            have nh0_40 := nh0_40.kept (oq _ nh0_40.lt (cE_not k0 (by decide)))
            have r60 : ir x60 0 1 := hp
            refine lv_if_ne (tgt := 69) hx hb dX11_lightsAll_63 (by decide) (fun c63 => ?_) (fun c63 => ?_)
            · have rx60_63 : ir x60 1 1 := rf_ne0 c63 r60
              refine lv_aload_n hx hb dX11_lightsAll_69 rfl (lv_at hl 0 rfl) ?_
              refine lv_aload_n hx hb dX11_lightsAll_70 rfl (lv_at hl 0 rfl) ?_
              refine wt_rel hx hb hts cfX11 hown hK nh0_39 rfl (by decide) (Or.inl (hts _ q911)) dX11_lightsAll_71 ?_
              refine wt_putp hx hb hts cfX11 tyX11 tyX11_ok nmX11 hown hK hW hS (cg11 k0) (ce k0 (by decide)) rfl 52 (by decide) (Or.inl (hts _ q924)) rfl rfl rfl gl_mk dX11_lightsAll_74 (fun H locs hW hS oq o2 np => ?_)
              have nh0_53 := o2 53 _ (by decide) (by decide) nh0_53
              have nh0_7 := o2 7 _ (by decide) (by decide) nh0_7
              have nh0_39 := o2 39 _ (by decide) (by decide) nh0_39
              have nh0_40 := o2 40 _ (by decide) (by decide) nh0_40
              have nh0_52 : wt_pin N.1 vwCl h0 11 52 (.long bu36) H := np
              have hV := hV.put (by decide) o2
              have hI := mI.fr.put hI k0 oq o2 (by decide) (by decide)
              refine lv_aload_n hx hb dX11_lightsAll_77 rfl (lv_at hl 0 rfl) ?_
              refine lv_aload_n hx hb dX11_lightsAll_78 rfl (lv_at hl 0 rfl) ?_
              refine wt_rel hx hb hts cfX11 hown hK nh0_40 rfl (by decide) (Or.inl (hts _ q912)) dX11_lightsAll_79 ?_
              refine wt_putp hx hb hts cfX11 tyX11 tyX11_ok nmX11 hown hK hW hS (cg11 k0) (ce k0 (by decide)) rfl 53 (by decide) (Or.inl (hts _ q925)) rfl rfl rfl gl_mk dX11_lightsAll_82 (fun H locs hW hS oq o2 np => ?_)
              have nh0_7 := o2 7 _ (by decide) (by decide) nh0_7
              have nh0_39 := o2 39 _ (by decide) (by decide) nh0_39
              have nh0_40 := o2 40 _ (by decide) (by decide) nh0_40
              have nh0_52 := o2 52 _ (by decide) (by decide) nh0_52
              have nh0_53 : wt_pin N.1 vwCl h0 11 53 (.long bb36) H := np
              have hV := hV.put (by decide) o2
              have hI := mI.fr.put hI k0 oq o2 (by decide) (by decide)
              exact w2 _ _ _ (J85 _ _ _ bu36 bb36 hW hI hV hS (lv_sub hl [0, 1, 2] rfl) rv12_2_14 (⟨vu36, (lr_any bu36).2⟩ : lr bu36 0 9223372036854775807) nh0_52 (⟨vb36, (lr_any bb36).2⟩ : lr bb36 1 9223372036854775807) nh0_53)
            · have rx60_63 : ir x60 0 0 := rf_eq c63 (ir_c (0) (by decide) : ir (0 : Int32) (0) (0))
              refine lv_goto (tgt := 85) hx hb dX11_lightsAll_66 (by decide) ?_
              exact w2 _ _ _ (J85 _ _ _ u12_0 u12_1 hW hI hV hS (lv_sub hl [0, 1, 2] rfl) rv12_2_14 ru12_0 nh0_52 ru12_1 nh0_53)
          · have rx36_39 : ir x36 0 0 := rf_eq c39 (ir_c (0) (by decide) : ir (0 : Int32) (0) (0))
            refine lv_iconst (v := 0) hx hb dX11_lightsAll_42 (by decide) ?_
            exact W.zret (v := (0 : Int32)) hx hb hr rfl (fun t ht _ => ⟨⟨(0 : Int32), (0 : Int32), rfl, ⟨rfl, (⟨by decide, by decide⟩)⟩, cW_at ht hW, ⟨mI_at ht hI, kp_at ht hV, ⟨_, _, pin_at ht nh0_52, pin_at ht nh0_53, (ru12_0).1, (ru12_1).1⟩⟩⟩, hS.F ht⟩) hS.2.2 dX11_lightsAll_43
        · have rx21_24 : ir x21 0 0 := rf_eq c24 (ir_c (0) (by decide) : ir (0 : Int32) (0) (0))
          refine lv_goto (tgt := 85) hx hb dX11_lightsAll_27 (by decide) ?_
          exact w2 _ _ _ (J85 _ _ _ u12_0 u12_1 hW hI hV hS (lv_sub hl [0, 1, 2] rfl) rv12_2_14 ru12_0 nh0_52 ru12_1 nh0_53)
  refine lv_aload_n hx hb dX11_lightsAll_0 rfl (lv_at hl 0 rfl) ?_
  refine lv_lconst (v := 0) hx hb dX11_lightsAll_1 (by decide) ?_
  refine wt_putp hx hb hts cfX11 tyX11 tyX11_ok nmX11 hown hK hW hS (cg11 k0) (ce k0 (by decide)) rfl 52 (by decide) (Or.inl (hts _ q924)) rfl rfl rfl gl_mk dX11_lightsAll_2 (fun H locs hW hS oq o2 np => ?_)
  have nh0_52 : wt_pin N.1 vwCl h0 11 52 (.long (0 : Int64)) H := np
  have hV := hV.put (by decide) o2
  have hI := mI.fr.put hI k0 oq o2 (by decide) (by decide)
  refine lv_aload_n hx hb dX11_lightsAll_5 rfl (lv_at hl 0 rfl) ?_
  refine lv_lconst (v := 1) hx hb dX11_lightsAll_6 (by decide) ?_
  refine wt_putp hx hb hts cfX11 tyX11 tyX11_ok nmX11 hown hK hW hS (cg11 k0) (ce k0 (by decide)) rfl 53 (by decide) (Or.inl (hts _ q925)) rfl rfl rfl gl_mk dX11_lightsAll_7 (fun H locs hW hS oq o2 np => ?_)
  have nh0_52 := o2 52 _ (by decide) (by decide) nh0_52
  have nh0_53 : wt_pin N.1 vwCl h0 11 53 (.long (1 : Int64)) H := np
  have hV := hV.put (by decide) o2
  have hI := mI.fr.put hI k0 oq o2 (by decide) (by decide)
  refine lv_iconst (v := 1) hx hb dX11_lightsAll_10 (by decide) ?_
  refine lv_istore_n (lv' := [(2, .int (1 : Int32)), (0, .ref h0), (1, .int p1)]) hx hb dX11_lightsAll_11 rfl hl (by decide) rfl (fun ls hl => ?_)
  exact w2 _ _ _ (L12 5 _ _ _ (1 : Int32) (0 : Int64) (1 : Int64) hW hI hV hS (lv_sub hl [1, 2, 0] rfl) (ir_w (lo' := 1) (hi' := 5) (ir_c (1) (by decide) : ir (1 : Int32) (1) (1)) (by decide) (by decide)) (lr_w (lo' := 0) (hi' := 9223372036854775807) (lr_c (0) (by decide) : lr (0 : Int64) (0) (0)) (by decide) (by decide)) nh0_52 (lr_w (lo' := 1) (hi' := 9223372036854775807) (lr_c (1) (by decide) : lr (1 : Int64) (1) (1)) (by decide) (by decide)) nh0_53 (by have h9 := (ir_c (1) (by decide) : ir (1 : Int32) (1) (1)); omega))
set_option maxHeartbeats 4000000 in
set_option maxRecDepth 100000 in
theorem m_X11_period (l : Launch) (N : c_N) (h0 : Nat) (k0 : N.2.2.1 h0 = some 11) (hO : mOK N) (V : Nat → Value) (p1 : Int32) : cMi2 l yX11_period cX11_period 5 .int { frames := 1, cells := 0, slots := 0, locals := 25 } [.ref h0, .int p1] N [] (fun H => mI N h0 H ∧ kp N h0 [] V H) (fun _ => True) (fun _ H => mI N h0 H ∧ kp N h0 [] V H) := by
  refine Met.ofW (cc := cX11_period) (maxL := 5) (ret := some .int) (by decide) rfl ?_
  intro p e s m args below meth c s₁ B hml hv
  obtain ⟨rfl, ⟨hK, hW, hT, hnn⟩, hB⟩ := hv
  obtain ⟨hI, hV⟩ := hB
  have hx := B.exec
  have hb := B.bytes
  have hr := B.returns
  have hts : ∀ w ∈ lw_g, w.before _ s = true := fun w h => atoms_spec (ws := wc_ws yX11_period cX11_period 5 (some .int)) B.pre w (List.mem_cons_of_mem _ h)
  have hown : s.vm.findClass RX11 = some m.cls := findClass_of_methodNamed B.named
  have hlocks := B.notSynchronized
  have hS : va_S (cE N []) s.heap s.heap [] := va_S.rf
  have hl := lv_entry ([.ref h0, .int p1]) (n := 5) (Nat.le_of_ble_eq_true rfl)
  rw [lg_entry_eq]
  generalize (lg_sl ([.ref h0, .int p1]) ++ List.replicate (5 - (lg_sl ([.ref h0, .int p1])).length) Slot.unset).toArray = ls at hl ⊢
  have hl : lv_has ls 5 [(0, .ref h0), (1, .int p1)] := hl
  refine wq_all ?_
  intro WW w1 w2
  have L14 : ∀ (n : Nat) (H : Heap) (locs : List Loc) (ls : Array Slot) (v14_2 : Int32), cW N H → mI N h0 H → kp N h0 [] V H → va_S (cE N []) s.heap H locs → lv_has ls 5 [(0, .ref h0), (1, .int p1), (2, .int v14_2)] → ir p1 0 1 → ir v14_2 1 25 → 25 - v14_2.toInt < (n : Int) → WW H locs (F0 m 14 ls []) := by
    intro n
    induction n with
    | zero =>
      intro H locs ls v14_2 hW hI hV hS hl rv14_1 rv14_2 mu14
      exfalso
      omega
    | succ n ih14 =>
      intro H locs ls v14_2 hW hI hV hS hl rv14_1 rv14_2 mu14
      have J70 : ∀ (H : Heap) (locs : List Loc) (ls : Array Slot) (v70_3 : Int32) (u70_0 : Int32), cW N H → mI N h0 H → kp N h0 [] V H → va_S (cE N []) s.heap H locs → lv_has ls 5 [(0, .ref h0), (1, .int p1), (2, .int v14_2), (3, .int v70_3)] → ir p1 0 1 → ir v14_2 1 24 → ir v70_3 0 1 → ir u70_0 1 24 → wt_pin N.1 vwCl h0 11 7 (.int u70_0) H → WW H locs (F0 m 70 ls []) := by
        intro H locs ls v70_3 u70_0 hW hI hV hS hl rv70_1 rv70_2 rv70_3 ru70_0 nh0_7
        refine w1 _ _ _ ?_
        refine lv_iload_n hx hb dX11_period_70 rfl (lv_at hl 3 rfl) ?_
        refine lv_if_eq (tgt := 89) hx hb dX11_period_71 (by decide) (fun c71 => ?_) (fun c71 => ?_)
        · have rv70_3_71 : ir v70_3 0 0 := rf_eq c71 (ir_c (0) (by decide) : ir (0 : Int32) (0) (0))
          obtain ⟨x89, e89⟩ : ∃ y : Int32, y = v14_2 + 1 := ⟨_, rfl⟩
          have r89 : ir x89 2 25 := ir_w (ir_add e89 rv70_2 (ir_c (1) (by decide) : ir (1 : Int32) (1) (1)) (by decide) (by decide)) (by decide) (by decide)
          have t89 : x89.toInt = v14_2.toInt + (1) := it_add e89 rv70_2 (ir_c (1) (by decide) : ir (1 : Int32) (1) (1)) (by decide) (by decide)
          refine lv_iinc (v := x89) (lv' := [(2, .int x89), (0, .ref h0), (1, .int p1), (3, .int v70_3)]) hx hb dX11_period_89 hl (k := 2) rfl (by rw [e89]; rfl) (by decide) rfl (fun ls hl => ?_)
          refine lv_goto (tgt := 14) hx hb dX11_period_92 (by decide) ?_
          exact w2 _ _ _ (ih14 _ _ _ x89 hW hI hV hS (lv_sub hl [1, 2, 0] rfl) rv70_1 (ir_w (lo' := 1) (hi' := 25) r89 (by decide) (by decide)) (by have h9 := r89; omega))
        · have rv70_3_71 : ir v70_3 1 1 := rf_ne0 c71 rv70_3
          refine lv_iload_n hx hb dX11_period_74 rfl (lv_at hl 1 rfl) ?_
          refine lv_if_ne (tgt := 82) hx hb dX11_period_75 (by decide) (fun c75 => ?_) (fun c75 => ?_)
          · have rp1_75 : ir p1 1 1 := rf_ne0 c75 rv70_1
            refine lv_aload_n hx hb dX11_period_82 rfl (lv_at hl 0 rfl) ?_
            refine wt_rel hx hb hts cfX11 hown hK nh0_7 rfl (by decide) (Or.inl (hts _ q879)) dX11_period_83 ?_
            refine lv_iload_n hx hb dX11_period_86 rfl (lv_at hl 2 rfl) ?_
            refine lv_idiv hx hb dX11_period_87 (i_ne0 rv70_2 (by decide)) ?_
            refine lv_topi (fun x87 e87 => ?_)
            have r87 : ir x87 0 24 := ir_div e87 ru70_0 rv70_2 (by decide) (by decide)
            exact W.iret (v := x87) hx hb hr (fun t ht _ => ⟨⟨x87, x87, rfl, ⟨rfl, trivial⟩, cW_at ht hW, ⟨mI_at ht hI, kp_at ht hV⟩⟩, hS.F ht⟩) hS.2.2 dX11_period_88
          · have rp1_75 : ir p1 0 0 := rf_eq c75 (ir_c (0) (by decide) : ir (0 : Int32) (0) (0))
            refine lv_iload_n hx hb dX11_period_78 rfl (lv_at hl 2 rfl) ?_
            refine lv_goto (tgt := 88) hx hb dX11_period_79 (by decide) ?_
            exact W.iret (v := v14_2) hx hb hr (fun t ht _ => ⟨⟨v14_2, v14_2, rfl, ⟨rfl, trivial⟩, cW_at ht hW, ⟨mI_at ht hI, kp_at ht hV⟩⟩, hS.F ht⟩) hS.2.2 dX11_period_88
      have L40 : ∀ (n : Nat) (H : Heap) (locs : List Loc) (ls : Array Slot) (v40_3 : Int32) (v40_4 : Int32) (u40_0 : Int32), cW N H → mI N h0 H → kp N h0 [] V H → va_S (cE N []) s.heap H locs → lv_has ls 5 [(0, .ref h0), (1, .int p1), (2, .int v14_2), (3, .int v40_3), (4, .int v40_4)] → ir p1 0 1 → ir v14_2 1 24 → ir v40_3 0 1 → ir v40_4 1 24 → ir u40_0 1 24 → wt_pin N.1 vwCl h0 11 7 (.int u40_0) H → v14_2.toInt ≤ v40_4.toInt → 24 - v40_4.toInt < (n : Int) → WW H locs (F0 m 40 ls []) := by
        intro n
        induction n with
        | zero =>
          intro H locs ls v40_3 v40_4 u40_0 hW hI hV hS hl rv40_1 rv40_2 rv40_3 rv40_4 ru40_0 nh0_7 rw40_0 mu40
          exfalso
          omega
        | succ n ih40 =>
          intro H locs ls v40_3 v40_4 u40_0 hW hI hV hS hl rv40_1 rv40_2 rv40_3 rv40_4 ru40_0 nh0_7 rw40_0 mu40
          refine w1 _ _ _ ?_
          refine lv_iload hx hb dX11_period_40 (lv_at hl 4 rfl) ?_
          refine lv_aload_n hx hb dX11_period_42 rfl (lv_at hl 0 rfl) ?_
          refine wt_rel hx hb hts cfX11 hown hK nh0_7 rfl (by decide) (Or.inl (hts _ q879)) dX11_period_43 ?_
          refine lv_icmp_ge (tgt := 70) hx hb dX11_period_46 (by decide) (fun c46 => ?_) (fun c46 => ?_)
          · have d46 := Int32.le_iff_toInt_le.mp c46
            exact w2 _ _ _ (J70 _ _ _ v40_3 u40_0 hW hI hV hS (lv_sub hl [0, 1, 2, 3] rfl) rv40_1 rv40_2 rv40_3 ru40_0 nh0_7)
          · have rv40_4_46 : ir v40_4 1 23 := ⟨(rv40_4).1, Int.le_trans (rf_lt (rf_nle c46) rv40_4 ru40_0).1 (by decide)⟩
            have ru40_0_46 : ir u40_0 2 24 := ⟨Int.le_trans (by decide) (rf_lt (rf_nle c46) rv40_4 ru40_0).2, (ru40_0).2⟩
            have d46 := Int32.lt_iff_toInt_lt.mp (rf_nle c46)
            refine lv_iload_n hx hb dX11_period_49 rfl (lv_at hl 3 rfl) ?_
            refine lv_if_eq (tgt := 70) hx hb dX11_period_50 (by decide) (fun c50 => ?_) (fun c50 => ?_)
            · have rv40_3_50 : ir v40_3 0 0 := rf_eq c50 (ir_c (0) (by decide) : ir (0 : Int32) (0) (0))
              exact w2 _ _ _ (J70 _ _ _ v40_3 u40_0 hW hI hV hS (lv_sub hl [0, 1, 2, 3] rfl) rv40_1 rv40_2 (ir_w (lo' := 0) (hi' := 1) rv40_3_50 (by decide) (by decide)) (ir_w (lo' := 1) (hi' := 24) ru40_0_46 (by decide) (by decide)) nh0_7)
            · have rv40_3_50 : ir v40_3 1 1 := rf_ne0 c50 rv40_3
              refine lv_aload_n hx hb dX11_period_53 rfl (lv_at hl 0 rfl) ?_
              refine lv_iload hx hb dX11_period_54 (lv_at hl 4 rfl) ?_
              refine lv_iload hx hb dX11_period_56 (lv_at hl 4 rfl) ?_
              refine lv_iload_n hx hb dX11_period_58 rfl (lv_at hl 2 rfl) ?_
              refine lv_isub hx hb dX11_period_59 ?_
              refine lv_topi (fun x59 e59 => ?_)
              have t59 : x59.toInt = v40_4.toInt - v14_2.toInt := it_sub e59 rv40_4_46 rv40_2 (by decide) (by decide)
              have r59 : ir x59 0 23 := by have h6 := rv40_4_46; have h7 := rv40_2; constructor <;> omega
              obtain ⟨V1, hV1⟩ := kp_all hW k0
              refine cc_i2 (B2 := fun _ H => mI N h0 H ∧ kp N h0 [] V1 H) (wt_runV (As := [.int v40_4, .int x59]) (rest := []) ⟨hx, hb, hml, hown, hts⟩ (m_X11_areAlike l N h0 k0 hO V1 v40_4 (ir_w (lo' := 0) (hi' := 24) rv40_4_46 (by decide) (by decide)) x59 (ir_w (lo' := 0) (hi' := 24) r59 (by decide) (by decide))) wm_X11_areAlike q1116 ⟨rfl, rfl⟩ ⟨Nat.le_of_ble_eq_true rfl, Nat.le_of_ble_eq_true rfl⟩ (cS_preV (B := fun H => mI N h0 H ∧ kp N h0 [] V1 H) hK hW hT hnn hS (cg11 k0) rfl rfl (And.intro hI (kp_of (F := []) hV1))) rfl hl.1 rfl (Nat.le_of_ble_eq_true rfl) dX11_period_60 ⟨Nat.zero_le _, Nat.zero_le _⟩) hS (by decide) (fun x60 H locs hp hW hS oq hB2 => ?_)
              obtain ⟨hI, hV2⟩ := hB2
              have hV := kp_call hV hV1 hV2 (by decide)
              have nh0_7 := kp_use hV1 hV2 (by decide) (by decide) nh0_7
              have r60 : ir x60 0 1 := hp
              refine lv_istore_n (lv' := [(3, .int x60), (0, .ref h0), (1, .int p1), (2, .int v14_2), (4, .int v40_4)]) hx hb dX11_period_63 rfl hl (by decide) rfl (fun ls hl => ?_)
              obtain ⟨x64, e64⟩ : ∃ y : Int32, y = v40_4 + 1 := ⟨_, rfl⟩
              have r64 : ir x64 2 24 := ir_w (ir_add e64 rv40_4_46 (ir_c (1) (by decide) : ir (1 : Int32) (1) (1)) (by decide) (by decide)) (by decide) (by decide)
              have t64 : x64.toInt = v40_4.toInt + (1) := it_add e64 rv40_4_46 (ir_c (1) (by decide) : ir (1 : Int32) (1) (1)) (by decide) (by decide)
              refine lv_iinc (v := x64) (lv' := [(4, .int x64), (3, .int x60), (0, .ref h0), (1, .int p1), (2, .int v14_2)]) hx hb dX11_period_64 hl (k := 4) rfl (by rw [e64]; rfl) (by decide) rfl (fun ls hl => ?_)
              refine lv_goto (tgt := 40) hx hb dX11_period_67 (by decide) ?_
              exact w2 _ _ _ (ih40 _ _ _ x60 x64 u40_0 hW hI hV hS (lv_sub hl [2, 3, 4, 1, 0] rfl) rv40_1 rv40_2 r60 (ir_w (lo' := 1) (hi' := 24) r64 (by decide) (by decide)) (ir_w (lo' := 1) (hi' := 24) ru40_0_46 (by decide) (by decide)) nh0_7 (by have h20 := rv40_2; have h21 := r64; omega) (by have h9 := r64; omega))
      have J36 : ∀ (H : Heap) (locs : List Loc) (ls : Array Slot) (w36_0 : Int32) (u36_0 : Int32), cW N H → mI N h0 H → kp N h0 [] V H → va_S (cE N []) s.heap H locs → lv_has ls 5 [(0, .ref h0), (1, .int p1), (2, .int v14_2)] → ir p1 0 1 → ir v14_2 1 24 → ir w36_0 0 1 → ir u36_0 1 24 → wt_pin N.1 vwCl h0 11 7 (.int u36_0) H → WW H locs (F0 m 36 ls [.int w36_0]) := by
        intro H locs ls w36_0 u36_0 hW hI hV hS hl rv36_1 rv36_2 rw36_0 ru36_0 nh0_7
        refine w1 _ _ _ ?_
        refine lv_istore_n (lv' := [(3, .int w36_0), (0, .ref h0), (1, .int p1), (2, .int v14_2)]) hx hb dX11_period_36 rfl hl (by decide) rfl (fun ls hl => ?_)
        refine lv_iload_n hx hb dX11_period_37 rfl (lv_at hl 3 rfl) ?_
        refine lv_istore (lv' := [(4, .int v14_2), (3, .int w36_0), (0, .ref h0), (1, .int p1), (2, .int v14_2)]) hx hb dX11_period_38 hl (by decide) rfl (fun ls hl => ?_)
        exact w2 _ _ _ (L40 24 _ _ _ w36_0 v14_2 u36_0 hW hI hV hS (lv_sub hl [2, 3, 4, 1, 0] rfl) rv36_1 rv36_2 rw36_0 rv36_2 ru36_0 nh0_7 (by have h20 := rv36_2; have h21 := rv36_2; omega) (by have h9 := rv36_2; omega))
      refine w1 _ _ _ ?_
      refine lv_iload_n hx hb dX11_period_14 rfl (lv_at hl 2 rfl) ?_
      refine lv_aload_n hx hb dX11_period_15 rfl (lv_at hl 0 rfl) ?_
      refine wt_getp hx hb hts cfX11 hown hK hW (cg11 k0) rfl 7 (by decide) (Or.inl (hts _ q879)) dX11_period_16 (fun v hv nh0_7 => ?_)
      obtain ⟨x16, rfl, r16⟩ : gi 0 24 v := hv
      refine lv_icmp_gt (tgt := 95) hx hb dX11_period_19 (by decide) (fun c19 => ?_) (fun c19 => ?_)
      · have d19 := Int32.lt_iff_toInt_lt.mp c19
        refine lv_iconst (v := 0) hx hb dX11_period_95 (by decide) ?_
        exact W.iret (v := (0 : Int32)) hx hb hr (fun t ht _ => ⟨⟨(0 : Int32), (0 : Int32), rfl, ⟨rfl, trivial⟩, cW_at ht hW, ⟨mI_at ht hI, kp_at ht hV⟩⟩, hS.F ht⟩) hS.2.2 dX11_period_96
      · have rv14_2_19 : ir v14_2 1 24 := ⟨(rv14_2).1, Int.le_trans (rf_le (rf_nlt c19) rv14_2 r16).1 (by decide)⟩
        have rx16_19 : ir x16 1 24 := ⟨Int.le_trans (by decide) (rf_le (rf_nlt c19) rv14_2 r16).2, (r16).2⟩
        have d19 := Int32.le_iff_toInt_le.mp (rf_nlt c19)
        refine lv_aload_n hx hb dX11_period_22 rfl (lv_at hl 0 rfl) ?_
        refine wt_rel hx hb hts cfX11 hown hK nh0_7 rfl (by decide) (Or.inl (hts _ q879)) dX11_period_23 ?_
        refine lv_iload_n hx hb dX11_period_26 rfl (lv_at hl 2 rfl) ?_
        refine lv_irem hx hb dX11_period_27 (i_ne0 rv14_2_19 (by decide)) ?_
        refine lv_topi (fun x27 e27 => ?_)
        refine lv_if_ne (tgt := 35) hx hb dX11_period_28 (by decide) (fun c28 => ?_) (fun c28 => ?_)
        · refine lv_iconst (v := 0) hx hb dX11_period_35 (by decide) ?_
          exact w2 _ _ _ (J36 _ _ _ (0 : Int32) x16 hW hI hV hS (lv_sub hl [0, 1, 2] rfl) rv14_1 rv14_2_19 (ir_w (lo' := 0) (hi' := 1) (ir_c (0) (by decide) : ir (0 : Int32) (0) (0)) (by decide) (by decide)) rx16_19 nh0_7)
        · have rx27_28 : ir x27 0 0 := rf_eq c28 (ir_c (0) (by decide) : ir (0 : Int32) (0) (0))
          refine lv_iconst (v := 1) hx hb dX11_period_31 (by decide) ?_
          refine lv_goto (tgt := 36) hx hb dX11_period_32 (by decide) ?_
          exact w2 _ _ _ (J36 _ _ _ (1 : Int32) x16 hW hI hV hS (lv_sub hl [0, 1, 2] rfl) rv14_1 rv14_2_19 (ir_w (lo' := 0) (hi' := 1) (ir_c (1) (by decide) : ir (1 : Int32) (1) (1)) (by decide) (by decide)) rx16_19 nh0_7)
  refine lv_iload_n hx hb dX11_period_0 rfl (lv_at hl 1 rfl) ?_
  refine lv_i2l hx hb dX11_period_1 rfl ?_
  refine lv_topl (fun x1 e1 => ?_)
  have r1 : lr x1 (-2147483648) 2147483647 := by rw [e1]; exact i2l_r (ir_any p1)
  have t1 : x1.toInt = p1.toInt := by rw [e1]; exact Int32.toInt_toInt64 p1
  refine lv_lconst (v := 0) hx hb dX11_period_2 (by decide) ?_
  refine lv_lconst (v := 1) hx hb dX11_period_3 (by decide) ?_
  refine cp_i (wt_runS (As := [.long x1, .long (0 : Int64), .long (1 : Int64)]) (rest := []) ⟨hx, hb, hml, hown, hts⟩ (m_X11_isIn l x1 (0 : Int64) (1 : Int64)) wm_X11_isIn q1050 ⟨rfl, rfl⟩ ⟨Nat.le_of_ble_eq_true rfl, Nat.le_of_ble_eq_true rfl⟩ pS_pre rfl hl.1 rfl (Nat.le_of_ble_eq_true rfl) dX11_period_4 ⟨Nat.zero_le _, Nat.zero_le _⟩) hW hS (fun x4 H locs hp hW1 hS oq => ?_)
  have hV := hV.same hW k0 oq
  have hI := mI.fr.same hI hW oq
  have hW := hW1
  obtain ⟨r4, b4⟩ := hp
  refine lv_if_ne (tgt := 12) hx hb dX11_period_7 (by decide) (fun c7 => ?_) (fun c7 => ?_)
  · have rx4_7 : ir x4 1 1 := rf_ne0 c7 r4
    have bx4_7 := b4 c7
    have rbx1_7 : lr x1 0 1 := by have h5 := bx4_7; have h6 := r1; have h7 := (lr_c (0) (by decide) : lr (0 : Int64) (0) (0)); have h8 := (lr_c (1) (by decide) : lr (1 : Int64) (1) (1)); constructor <;> omega
    have rp1_7 : ir p1 0 1 := i2l_b e1 rbx1_7
    refine lv_iconst (v := 1) hx hb dX11_period_12 (by decide) ?_
    refine lv_istore_n (lv' := [(2, .int (1 : Int32)), (0, .ref h0), (1, .int p1)]) hx hb dX11_period_13 rfl hl (by decide) rfl (fun ls hl => ?_)
    exact w2 _ _ _ (L14 25 _ _ _ (1 : Int32) hW hI hV hS (lv_sub hl [1, 2, 0] rfl) rp1_7 (ir_w (lo' := 1) (hi' := 25) (ir_c (1) (by decide) : ir (1 : Int32) (1) (1)) (by decide) (by decide)) (by have h9 := (ir_c (1) (by decide) : ir (1 : Int32) (1) (1)); omega))
  · have rx4_7 : ir x4 0 0 := rf_eq c7 (ir_c (0) (by decide) : ir (0 : Int32) (0) (0))
    refine lv_iconst (v := -1) hx hb dX11_period_10 (by decide) ?_
    exact W.iret (v := (-1 : Int32)) hx hb hr (fun t ht _ => ⟨⟨(-1 : Int32), (-1 : Int32), rfl, ⟨rfl, trivial⟩, cW_at ht hW, ⟨mI_at ht hI, kp_at ht hV⟩⟩, hS.F ht⟩) hS.2.2 dX11_period_11
set_option maxHeartbeats 4000000 in
set_option maxRecDepth 100000 in
theorem m_X11_canSpare (l : Launch) (N : c_N) (h0 : Nat) (k0 : N.2.2.1 h0 = some 11) (hO : mOK N) (V : Nat → Value) (p1 : Int32) (p2 : Int32) : cMi2 l yX11_canSpare cX11_canSpare 5 .boolean { frames := 3, cells := 0, slots := 0, locals := 103 } [.ref h0, .int p1, .int p2] N [11] (fun H => mI N h0 H ∧ kp N h0 [32, 33, 34, 35, 36, 37, 38, 39, 40, 41, 42] V H) (fun r => ir r 0 1) (fun _ H => mI N h0 H ∧ kp N h0 [32, 33, 34, 35, 36, 37, 38, 39, 40, 41, 42] V H) := by
  refine Met.ofW (cc := cX11_canSpare) (maxL := 5) (ret := some .boolean) (by decide) rfl ?_
  intro p e s m args below meth c s₁ B hml hv
  obtain ⟨rfl, ⟨hK, hW, hT, hnn⟩, hB⟩ := hv
  obtain ⟨hI, hV⟩ := hB
  have hx := B.exec
  have hb := B.bytes
  have hr := B.returns
  have hts : ∀ w ∈ lw_g, w.before _ s = true := fun w h => atoms_spec (ws := wc_ws yX11_canSpare cX11_canSpare 5 (some .boolean)) B.pre w (List.mem_cons_of_mem _ h)
  have hown : s.vm.findClass RX11 = some m.cls := findClass_of_methodNamed B.named
  have hlocks := B.notSynchronized
  have hS : va_S (cE N [11]) s.heap s.heap [] := va_S.rf
  have hl := lv_entry ([.ref h0, .int p1, .int p2]) (n := 5) (Nat.le_of_ble_eq_true rfl)
  rw [lg_entry_eq]
  generalize (lg_sl ([.ref h0, .int p1, .int p2]) ++ List.replicate (5 - (lg_sl ([.ref h0, .int p1, .int p2])).length) Slot.unset).toArray = ls at hl ⊢
  have hl : lv_has ls 5 [(0, .ref h0), (1, .int p1), (2, .int p2)] := hl
  refine wq_all ?_
  intro WW w1 w2
  have L2 : ∀ (n : Nat) (H : Heap) (locs : List Loc) (ls : Array Slot) (v2_3 : Int32), cW N H → mI N h0 H → kp N h0 [32, 33, 34, 35, 36, 37, 38, 39, 40, 41, 42] V H → va_S (cE N [11]) s.heap H locs → lv_has ls 5 [(0, .ref h0), (1, .int p1), (2, .int p2), (3, .int v2_3)] → ir v2_3 1 5 → 5 - v2_3.toInt < (n : Int) → WW H locs (F0 m 2 ls []) := by
    intro n
    induction n with
    | zero =>
      intro H locs ls v2_3 hW hI hV hS hl rv2_3 mu2
      exfalso
      omega
    | succ n ih2 =>
      intro H locs ls v2_3 hW hI hV hS hl rv2_3 mu2
      have J127 : ∀ (H : Heap) (locs : List Loc) (ls : Array Slot) , cW N H → mI N h0 H → kp N h0 [32, 33, 34, 35, 36, 37, 38, 39, 40, 41, 42] V H → va_S (cE N [11]) s.heap H locs → lv_has ls 5 [(0, .ref h0), (1, .int p1), (2, .int p2), (3, .int v2_3)] → ir v2_3 1 4 → WW H locs (F0 m 127 ls []) := by
        intro H locs ls  hW hI hV hS hl rv127_3
        refine w1 _ _ _ ?_
        obtain ⟨x127, e127⟩ : ∃ y : Int32, y = v2_3 + 1 := ⟨_, rfl⟩
        have r127 : ir x127 2 5 := ir_w (ir_add e127 rv127_3 (ir_c (1) (by decide) : ir (1 : Int32) (1) (1)) (by decide) (by decide)) (by decide) (by decide)
        have t127 : x127.toInt = v2_3.toInt + (1) := it_add e127 rv127_3 (ir_c (1) (by decide) : ir (1 : Int32) (1) (1)) (by decide) (by decide)
        refine lv_iinc (v := x127) (lv' := [(3, .int x127), (0, .ref h0), (1, .int p1), (2, .int p2)]) hx hb dX11_canSpare_127 hl (k := 3) rfl (by rw [e127]; rfl) (by decide) rfl (fun ls hl => ?_)
        refine lv_goto (tgt := 2) hx hb dX11_canSpare_130 (by decide) ?_
        exact w2 _ _ _ (ih2 _ _ _ x127 hW hI hV hS (lv_sub hl [1, 2, 3, 0] rfl) (ir_w (lo' := 1) (hi' := 5) r127 (by decide) (by decide)) (by have h9 := r127; omega))
      have L27 : ∀ (n : Nat) (H : Heap) (locs : List Loc) (ls : Array Slot) (v27_4 : Int32), cW N H → mI N h0 H → kp N h0 [32, 33, 34, 35, 36, 37, 38, 39, 40, 41, 42] V H → va_S (cE N [11]) s.heap H locs → lv_has ls 5 [(0, .ref h0), (1, .int p1), (2, .int p2), (3, .int v2_3), (4, .int v27_4)] → ir v2_3 1 4 → ir v27_4 0 24 → 24 - v27_4.toInt < (n : Int) → WW H locs (F0 m 27 ls []) := by
        intro n
        induction n with
        | zero =>
          intro H locs ls v27_4 hW hI hV hS hl rv27_3 rv27_4 mu27
          exfalso
          omega
        | succ n ih27 =>
          intro H locs ls v27_4 hW hI hV hS hl rv27_3 rv27_4 mu27
          have J70 : ∀ (H : Heap) (locs : List Loc) (ls : Array Slot) (u70_0 : Int32), cW N H → mI N h0 H → kp N h0 [32, 33, 34, 35, 36, 37, 38, 39, 40, 41, 42] V H → va_S (cE N [11]) s.heap H locs → lv_has ls 5 [(0, .ref h0), (1, .int p1), (2, .int p2), (3, .int v2_3), (4, .int v27_4)] → ir v2_3 1 4 → ir v27_4 0 23 → ir u70_0 1 24 → wt_pin N.1 vwCl h0 11 7 (.int u70_0) H → WW H locs (F0 m 70 ls []) := by
            intro H locs ls u70_0 hW hI hV hS hl rv70_3 rv70_4 ru70_0 nh0_7
            refine w1 _ _ _ ?_
            obtain ⟨x70, e70⟩ : ∃ y : Int32, y = v27_4 + 1 := ⟨_, rfl⟩
            have r70 : ir x70 1 24 := ir_w (ir_add e70 rv70_4 (ir_c (1) (by decide) : ir (1 : Int32) (1) (1)) (by decide) (by decide)) (by decide) (by decide)
            have t70 : x70.toInt = v27_4.toInt + (1) := it_add e70 rv70_4 (ir_c (1) (by decide) : ir (1 : Int32) (1) (1)) (by decide) (by decide)
            refine lv_iinc (v := x70) (lv' := [(4, .int x70), (0, .ref h0), (1, .int p1), (2, .int p2), (3, .int v2_3)]) hx hb dX11_canSpare_70 hl (k := 4) rfl (by rw [e70]; rfl) (by decide) rfl (fun ls hl => ?_)
            refine lv_goto (tgt := 27) hx hb dX11_canSpare_73 (by decide) ?_
            exact w2 _ _ _ (ih27 _ _ _ x70 hW hI hV hS (lv_sub hl [1, 2, 3, 4, 0] rfl) rv70_3 (ir_w (lo' := 0) (hi' := 24) r70 (by decide) (by decide)) (by have h9 := r70; omega))
          refine w1 _ _ _ ?_
          refine lv_iload hx hb dX11_canSpare_27 (lv_at hl 4 rfl) ?_
          refine lv_aload_n hx hb dX11_canSpare_29 rfl (lv_at hl 0 rfl) ?_
          refine wt_getp hx hb hts cfX11 hown hK hW (cg11 k0) rfl 7 (by decide) (Or.inl (hts _ q879)) dX11_canSpare_30 (fun v hv nh0_7 => ?_)
          obtain ⟨x30, rfl, r30⟩ : gi 0 24 v := hv
          refine lv_icmp_ge (tgt := 76) hx hb dX11_canSpare_33 (by decide) (fun c33 => ?_) (fun c33 => ?_)
          · have d33 := Int32.le_iff_toInt_le.mp c33
            refine lv_aload_n hx hb dX11_canSpare_76 rfl (lv_at hl 0 rfl) ?_
            refine wt_getp hx hb hts cfX11 hown hK hW (cg11 k0) rfl 38 (by decide) (Or.inl (hts _ q910)) dX11_canSpare_77 (fun v hv nh0_38 => ?_)
            obtain ⟨x77, rfl, r77⟩ : gi 0 1 v := hv
            refine lv_if_ne (tgt := 85) hx hb dX11_canSpare_80 (by decide) (fun c80 => ?_) (fun c80 => ?_)
            · have rx77_80 : ir x77 1 1 := rf_ne0 c80 r77
              refine lv_aload_n hx hb dX11_canSpare_85 rfl (lv_at hl 0 rfl) ?_
              obtain ⟨V1, hV1⟩ := kp_all hW k0
              refine cc_v (B2 := fun H => mI N h0 H ∧ kp N h0 [39, 40, 41, 42] V1 H ∧ ∃ bu bb : Int64, pL N h0 39 bu H ∧ pL N h0 40 bb H ∧ 0 ≤ bu.toInt ∧ 1 ≤ bb.toInt) (wt_runV (As := []) (rest := []) ⟨hx, hb, hml, hown, hts⟩ (m_X11_lights l N h0 k0 hO V1 x77 (i_ne0 rx77_80 (by decide))) wm_X11_lights q1242 ⟨rfl, rfl⟩ ⟨Nat.le_of_ble_eq_true rfl, Nat.le_of_ble_eq_true rfl⟩ (cS_preV (B := fun H => mI N h0 H ∧ kp N h0 [39, 40, 41, 42] V1 H ∧ wt_pin N.1 vwCl h0 11 38 (.int x77) H) hK hW hT hnn hS (cg11 k0) rfl rfl (And.intro hI (And.intro (kp_of (F := [39, 40, 41, 42]) hV1) nh0_38))) rfl hl.1 rfl (Nat.le_of_ble_eq_true rfl) dX11_canSpare_86 ⟨Nat.zero_le _, Nat.zero_le _⟩) hS (by decide) (fun H locs hW hS oq hB2 => ?_)
              obtain ⟨hI, hV2, hB2⟩ := hB2
              have hV := kp_call hV hV1 hV2 (by decide)
              obtain ⟨bu86, bb86, nh0_39, nh0_40, vu86, vb86⟩ := hB2
              have nh0_7 := kp_use hV1 hV2 (by decide) (by decide) nh0_7
              have nh0_38 := kp_use hV1 hV2 (by decide) (by decide) nh0_38
              refine lv_aload_n hx hb dX11_canSpare_89 rfl (lv_at hl 0 rfl) ?_
              refine wt_rel hx hb hts cfX11 hown hK nh0_39 rfl (by decide) (Or.inl (hts _ q911)) dX11_canSpare_90 ?_
              refine lv_aload_n hx hb dX11_canSpare_93 rfl (lv_at hl 0 rfl) ?_
              refine wt_get hx hb hts cfX11 hown hK hW (cg11 k0) rfl 56 (by decide) q928 dX11_canSpare_94 (fun v hv => ?_)
              obtain ⟨x94, rfl, k94⟩ : gr N 62 v := hv
              refine lv_iconst (v := 2) hx hb dX11_canSpare_97 (by decide) ?_
              refine lv_iload_n hx hb dX11_canSpare_98 rfl (lv_at hl 3 rfl) ?_
              refine lv_imul hx hb dX11_canSpare_99 ?_
              refine lv_topi (fun x99 e99 => ?_)
              have t99 : x99.toInt = (2) * v2_3.toInt := (it_mul e99 (ir_c (2) (by decide) : ir (2 : Int32) (2) (2)) rv27_3 (by decide) (by decide) (by decide)).1
              have r99 : ir x99 2 8 := ir_w (it_mul e99 (ir_c (2) (by decide) : ir (2 : Int32) (2) (2)) rv27_3 (by decide) (by decide) (by decide)).2 (by decide) (by decide)
              refine lv_iconst (v := 2) hx hb dX11_canSpare_100 (by decide) ?_
              refine lv_isub hx hb dX11_canSpare_101 ?_
              refine lv_topi (fun x101 e101 => ?_)
              have t101 : x101.toInt = x99.toInt - (2) := it_sub e101 r99 (ir_c (2) (by decide) : ir (2 : Int32) (2) (2)) (by decide) (by decide)
              have r101 : ir x101 0 6 := ir_w (ir_sub e101 r99 (ir_c (2) (by decide) : ir (2 : Int32) (2) (2)) (by decide) (by decide)) (by decide) (by decide)
              refine wt_lald hx hb hK hW 1 (cg62 k94) rfl (ir_in (ir_w (lo' := 0) (hi' := 7) r101 (by decide) (by decide)) (by decide) (by decide)) dX11_canSpare_102 (fun v hv => ?_)
              obtain ⟨x102, rfl⟩ : gl v := hv
              refine wl_ne (tgt := 125) hx hb dX11_canSpare_103 dX11_canSpare_104 (by decide) (fun c103 => ?_) (fun c103 => ?_)
              · refine lv_iconst (v := 0) hx hb dX11_canSpare_125 (by decide) ?_
                exact W.zret (v := (0 : Int32)) hx hb hr rfl (fun t ht _ => ⟨⟨(0 : Int32), (0 : Int32), rfl, ⟨rfl, (⟨by decide, by decide⟩)⟩, cW_at ht hW, ⟨mI_at ht hI, kp_at ht hV⟩⟩, hS.F ht⟩) hS.2.2 dX11_canSpare_126
              · have rx102_103 : lr x102 0 9223372036854775807 := by have h8 := (lr_any x102); have h9 := (⟨vu86, (lr_any bu86).2⟩ : lr bu86 0 9223372036854775807); constructor <;> omega
                refine lv_aload_n hx hb dX11_canSpare_107 rfl (lv_at hl 0 rfl) ?_
                refine wt_rel hx hb hts cfX11 hown hK nh0_40 rfl (by decide) (Or.inl (hts _ q912)) dX11_canSpare_108 ?_
                refine lv_aload_n hx hb dX11_canSpare_111 rfl (lv_at hl 0 rfl) ?_
                refine wt_get hx hb hts cfX11 hown hK hW (cg11 k0) rfl 56 (by decide) q928 dX11_canSpare_112 (fun v hv => ?_)
                obtain ⟨x112, rfl, k112⟩ : gr N 62 v := hv
                refine lv_iconst (v := 2) hx hb dX11_canSpare_115 (by decide) ?_
                refine lv_iload_n hx hb dX11_canSpare_116 rfl (lv_at hl 3 rfl) ?_
                refine lv_imul hx hb dX11_canSpare_117 ?_
                refine lv_topi (fun x117 e117 => ?_)
                have t117 : x117.toInt = (2) * v2_3.toInt := (it_mul e117 (ir_c (2) (by decide) : ir (2 : Int32) (2) (2)) rv27_3 (by decide) (by decide) (by decide)).1
                have r117 : ir x117 2 8 := ir_w (it_mul e117 (ir_c (2) (by decide) : ir (2 : Int32) (2) (2)) rv27_3 (by decide) (by decide) (by decide)).2 (by decide) (by decide)
                refine lv_iconst (v := 1) hx hb dX11_canSpare_118 (by decide) ?_
                refine lv_isub hx hb dX11_canSpare_119 ?_
                refine lv_topi (fun x119 e119 => ?_)
                have t119 : x119.toInt = x117.toInt - (1) := it_sub e119 r117 (ir_c (1) (by decide) : ir (1 : Int32) (1) (1)) (by decide) (by decide)
                have r119 : ir x119 1 7 := ir_w (ir_sub e119 r117 (ir_c (1) (by decide) : ir (1 : Int32) (1) (1)) (by decide) (by decide)) (by decide) (by decide)
                refine wt_lald hx hb hK hW 1 (cg62 k112) rfl (ir_in (ir_w (lo' := 0) (hi' := 7) r119 (by decide) (by decide)) (by decide) (by decide)) dX11_canSpare_120 (fun v hv => ?_)
                obtain ⟨x120, rfl⟩ : gl v := hv
                refine wl_eq (tgt := 127) hx hb dX11_canSpare_121 dX11_canSpare_122 (by decide) (fun c121 => ?_) (fun c121 => ?_)
                · have rx120_121 : lr x120 1 9223372036854775807 := by have h8 := (lr_any x120); have h9 := (⟨vb86, (lr_any bb86).2⟩ : lr bb86 1 9223372036854775807); constructor <;> omega
                  exact w2 _ _ _ (J127 _ _ _  hW hI hV hS (lv_sub hl [0, 1, 2, 3] rfl) rv27_3)
                · refine lv_iconst (v := 0) hx hb dX11_canSpare_125 (by decide) ?_
                  exact W.zret (v := (0 : Int32)) hx hb hr rfl (fun t ht _ => ⟨⟨(0 : Int32), (0 : Int32), rfl, ⟨rfl, (⟨by decide, by decide⟩)⟩, cW_at ht hW, ⟨mI_at ht hI, kp_at ht hV⟩⟩, hS.F ht⟩) hS.2.2 dX11_canSpare_126
            · have rx77_80 : ir x77 0 0 := rf_eq c80 (ir_c (0) (by decide) : ir (0 : Int32) (0) (0))
              refine lv_iconst (v := 0) hx hb dX11_canSpare_83 (by decide) ?_
              exact W.zret (v := (0 : Int32)) hx hb hr rfl (fun t ht _ => ⟨⟨(0 : Int32), (0 : Int32), rfl, ⟨rfl, (⟨by decide, by decide⟩)⟩, cW_at ht hW, ⟨mI_at ht hI, kp_at ht hV⟩⟩, hS.F ht⟩) hS.2.2 dX11_canSpare_84
          · have rv27_4_33 : ir v27_4 0 23 := ⟨(rv27_4).1, Int.le_trans (rf_lt (rf_nle c33) rv27_4 r30).1 (by decide)⟩
            have rx30_33 : ir x30 1 24 := ⟨Int.le_trans (by decide) (rf_lt (rf_nle c33) rv27_4 r30).2, (r30).2⟩
            have d33 := Int32.lt_iff_toInt_lt.mp (rf_nle c33)
            refine lv_iload hx hb dX11_canSpare_36 (lv_at hl 4 rfl) ?_
            refine lv_iload_n hx hb dX11_canSpare_38 rfl (lv_at hl 1 rfl) ?_
            refine lv_icmp_eq (tgt := 70) hx hb dX11_canSpare_39 (by decide) (fun c39 => ?_) (fun c39 => ?_)
            · have rp1_39 : ir p1 0 23 := rf_eq c39.symm rv27_4_33
              exact w2 _ _ _ (J70 _ _ _ x30 hW hI hV hS (lv_sub hl [0, 1, 2, 3, 4] rfl) rv27_3 rv27_4_33 rx30_33 nh0_7)
            · refine lv_aload_n hx hb dX11_canSpare_42 rfl (lv_at hl 0 rfl) ?_
              refine lv_aload_n hx hb dX11_canSpare_43 rfl (lv_at hl 0 rfl) ?_
              refine wt_get hx hb hts cfX11 hown hK hW (cg11 k0) rfl 4 (by decide) q876 dX11_canSpare_44 (fun v hv => ?_)
              obtain ⟨x44, rfl, k44⟩ : gr N 42 v := hv
              refine lv_iload hx hb dX11_canSpare_47 (lv_at hl 4 rfl) ?_
              refine wt_iald hx hb hK hW 0 (cg42 k44) rfl (ir_in (ir_w (lo' := 0) (hi' := 24) rv27_4_33 (by decide) (by decide)) (by decide) (by decide)) dX11_canSpare_49 (fun v hv => ?_)
              obtain ⟨x49, rfl, r49⟩ : gi 0 5 v := hv
              refine lv_aload_n hx hb dX11_canSpare_50 rfl (lv_at hl 0 rfl) ?_
              refine wt_get hx hb hts cfX11 hown hK hW (cg11 k0) rfl 5 (by decide) q877 dX11_canSpare_51 (fun v hv => ?_)
              obtain ⟨x51, rfl, k51⟩ : gr N 43 v := hv
              refine lv_iload hx hb dX11_canSpare_54 (lv_at hl 4 rfl) ?_
              refine wt_ialdx hx hb hK hW 0 (cg43 k51) rfl (ir_in (ir_w (lo' := 0) (hi' := 24) rv27_4_33 (by decide) (by decide)) (by decide) (by decide)) dX11_canSpare_56 (fun v hv ap56 => ?_)
              obtain ⟨x56, rfl, r56⟩ : gi 0 6 v := hv
              refine lv_i2l hx hb dX11_canSpare_57 rfl ?_
              refine lv_topl (fun x57 e57 => ?_)
              have r57 : lr x57 0 6 := by rw [e57]; exact i2l_r r56
              have t57 : x57.toInt = x56.toInt := by rw [e57]; exact Int32.toInt_toInt64 x56
              refine lv_aload_n hx hb dX11_canSpare_58 rfl (lv_at hl 0 rfl) ?_
              refine wt_get hx hb hts cfX11 hown hK hW (cg11 k0) rfl 6 (by decide) q878 dX11_canSpare_59 (fun v hv => ?_)
              obtain ⟨x59, rfl, k59⟩ : gr N 44 v := hv
              refine lv_iload hx hb dX11_canSpare_62 (lv_at hl 4 rfl) ?_
              refine wt_ialdx hx hb hK hW 0 (cg44 k59) rfl (ir_in (ir_w (lo' := 0) (hi' := 24) rv27_4_33 (by decide) (by decide)) (by decide) (by decide)) dX11_canSpare_64 (fun v hv ap64 => ?_)
              obtain ⟨x64, rfl, r64⟩ : gi 0 6 v := hv
              refine lv_i2l hx hb dX11_canSpare_65 rfl ?_
              refine lv_topl (fun x65 e65 => ?_)
              have r65 : lr x65 0 6 := by rw [e65]; exact i2l_r r64
              have t65 : x65.toInt = x64.toInt := by rw [e65]; exact Int32.toInt_toInt64 x64
              refine lv_iload_n hx hb dX11_canSpare_66 rfl (lv_at hl 3 rfl) ?_
              obtain ⟨V1, hV1⟩ := kp_all hW k0
              refine cc_v (B2 := fun H => mI N h0 H ∧ kp N h0 [32, 33, 34, 35, 36, 37, 38] V1 H) (wt_runV (As := [.int x49, .long x57, .long x65, .int v2_3]) (rest := []) ⟨hx, hb, hml, hown, hts⟩ (m_X11_adds l N h0 k0 hO V1 x49 r49 x57 (lr_w (lo' := 0) (hi' := 78) r57 (by decide) (by decide)) x65 (lr_w (lo' := 0) (hi' := 78) r65 (by decide) (by decide)) v2_3 rv27_3 (hz_l (QL_use hI.1 nh0_7 k51 k59 ap56 ap64 rv27_4_33 (by decide) (by decide) (by omega)) e57 e65)) wm_X11_adds q1223 ⟨rfl, rfl⟩ ⟨Nat.le_of_ble_eq_true rfl, Nat.le_of_ble_eq_true rfl⟩ (cS_preV (B := fun H => mI N h0 H ∧ kp N h0 [32, 33, 34, 35, 36, 37, 38] V1 H) hK hW hT hnn hS (cg11 k0) rfl rfl (And.intro hI (kp_of (F := [32, 33, 34, 35, 36, 37, 38]) hV1))) rfl hl.1 rfl (Nat.le_of_ble_eq_true rfl) dX11_canSpare_67 ⟨Nat.zero_le _, Nat.zero_le _⟩) hS (by decide) (fun H locs hW hS oq hB2 => ?_)
              obtain ⟨hI, hV2⟩ := hB2
              have hV := kp_call hV hV1 hV2 (by decide)
              have nh0_7 := kp_use hV1 hV2 (by decide) (by decide) nh0_7
              exact w2 _ _ _ (J70 _ _ _ x30 hW hI hV hS (lv_sub hl [0, 1, 2, 3, 4] rfl) rv27_3 rv27_4_33 rx30_33 nh0_7)
      refine w1 _ _ _ ?_
      refine lv_iload_n hx hb dX11_canSpare_2 rfl (lv_at hl 3 rfl) ?_
      refine lv_iconst (v := 4) hx hb dX11_canSpare_3 (by decide) ?_
      refine lv_icmp_gt (tgt := 133) hx hb dX11_canSpare_4 (by decide) (fun c4 => ?_) (fun c4 => ?_)
      · have rv2_3_4 : ir v2_3 5 5 := ⟨Int.le_trans (by decide) (rf_lt c4 (ir_c (4) (by decide) : ir (4 : Int32) (4) (4)) rv2_3).2, (rv2_3).2⟩
        have d4 := Int32.lt_iff_toInt_lt.mp c4
        refine lv_iconst (v := 1) hx hb dX11_canSpare_133 (by decide) ?_
        exact W.zret (v := (1 : Int32)) hx hb hr rfl (fun t ht _ => ⟨⟨(1 : Int32), (1 : Int32), rfl, ⟨rfl, (⟨by decide, by decide⟩)⟩, cW_at ht hW, ⟨mI_at ht hI, kp_at ht hV⟩⟩, hS.F ht⟩) hS.2.2 dX11_canSpare_134
      · have rv2_3_4 : ir v2_3 1 4 := ⟨(rv2_3).1, Int.le_trans (rf_le (rf_nlt c4) rv2_3 (ir_c (4) (by decide) : ir (4 : Int32) (4) (4))).1 (by decide)⟩
        have d4 := Int32.le_iff_toInt_le.mp (rf_nlt c4)
        refine lv_iload_n hx hb dX11_canSpare_7 rfl (lv_at hl 2 rfl) ?_
        refine lv_iload_n hx hb dX11_canSpare_8 rfl (lv_at hl 3 rfl) ?_
        refine lv_iconst (v := 1) hx hb dX11_canSpare_9 (by decide) ?_
        refine lv_isub hx hb dX11_canSpare_10 ?_
        refine lv_topi (fun x10 e10 => ?_)
        have t10 : x10.toInt = v2_3.toInt - (1) := it_sub e10 rv2_3_4 (ir_c (1) (by decide) : ir (1 : Int32) (1) (1)) (by decide) (by decide)
        have r10 : ir x10 0 3 := ir_w (ir_sub e10 rv2_3_4 (ir_c (1) (by decide) : ir (1 : Int32) (1) (1)) (by decide) (by decide)) (by decide) (by decide)
        refine cp_i (wt_runS (As := [.int p2, .int x10]) (rest := []) ⟨hx, hb, hml, hown, hts⟩ (m_X11_has l p2 x10) wm_X11_has q1312 ⟨rfl, rfl⟩ ⟨Nat.le_of_ble_eq_true rfl, Nat.le_of_ble_eq_true rfl⟩ pS_pre rfl hl.1 rfl (Nat.le_of_ble_eq_true rfl) dX11_canSpare_11 ⟨Nat.zero_le _, Nat.zero_le _⟩) hW hS (fun x11 H locs hp hW1 hS oq => ?_)
        have hV := hV.same hW k0 oq
        have hI := mI.fr.same hI hW oq
        have hW := hW1
        have r11 : ir x11 0 1 := hp
        refine lv_if_ne (tgt := 20) hx hb dX11_canSpare_14 (by decide) (fun c14 => ?_) (fun c14 => ?_)
        · have rx11_14 : ir x11 1 1 := rf_ne0 c14 r11
          refine lv_aload_n hx hb dX11_canSpare_20 rfl (lv_at hl 0 rfl) ?_
          obtain ⟨V1, hV1⟩ := kp_all hW k0
          refine cc_v (B2 := fun H => mI N h0 H ∧ kp N h0 [34, 35, 36, 37, 38] V1 H ∧ pL N h0 34 1 H ∧ pL N h0 35 0 H ∧ pL N h0 36 0 H ∧ pL N h0 37 1 H ∧ pI N h0 38 1 H) (wt_runV (As := []) (rest := []) ⟨hx, hb, hml, hown, hts⟩ (m_X11_begins l N h0 k0 hO V1) wm_X11_begins q1219 ⟨rfl, rfl⟩ ⟨Nat.le_of_ble_eq_true rfl, Nat.le_of_ble_eq_true rfl⟩ (cS_preV (B := fun H => mI N h0 H ∧ kp N h0 [34, 35, 36, 37, 38] V1 H) hK hW hT hnn hS (cg11 k0) rfl rfl (And.intro hI (kp_of (F := [34, 35, 36, 37, 38]) hV1))) rfl hl.1 rfl (Nat.le_of_ble_eq_true rfl) dX11_canSpare_21 ⟨Nat.zero_le _, Nat.zero_le _⟩) hS (by decide) (fun H locs hW hS oq hB2 => ?_)
          obtain ⟨hI, hV2, hB2⟩ := hB2
          have hV := kp_call hV hV1 hV2 (by decide)
          obtain ⟨nh0_34, nh0_35, nh0_36, nh0_37, nh0_38⟩ := hB2
          refine lv_iconst (v := 0) hx hb dX11_canSpare_24 (by decide) ?_
          refine lv_istore (lv' := [(4, .int (0 : Int32)), (0, .ref h0), (1, .int p1), (2, .int p2), (3, .int v2_3)]) hx hb dX11_canSpare_25 hl (by decide) rfl (fun ls hl => ?_)
          exact w2 _ _ _ (L27 25 _ _ _ (0 : Int32) hW hI hV hS (lv_sub hl [1, 2, 3, 4, 0] rfl) rv2_3_4 (ir_w (lo' := 0) (hi' := 24) (ir_c (0) (by decide) : ir (0 : Int32) (0) (0)) (by decide) (by decide)) (by have h9 := (ir_c (0) (by decide) : ir (0 : Int32) (0) (0)); omega))
        · have rx11_14 : ir x11 0 0 := rf_eq c14 (ir_c (0) (by decide) : ir (0 : Int32) (0) (0))
          refine lv_goto (tgt := 127) hx hb dX11_canSpare_17 (by decide) ?_
          exact w2 _ _ _ (J127 _ _ _  hW hI hV hS (lv_sub hl [0, 1, 2, 3] rfl) rv2_3_4)
  refine lv_iconst (v := 1) hx hb dX11_canSpare_0 (by decide) ?_
  refine lv_istore_n (lv' := [(3, .int (1 : Int32)), (0, .ref h0), (1, .int p1), (2, .int p2)]) hx hb dX11_canSpare_1 rfl hl (by decide) rfl (fun ls hl => ?_)
  exact w2 _ _ _ (L2 5 _ _ _ (1 : Int32) hW hI hV hS (lv_sub hl [1, 2, 3, 0] rfl) (ir_w (lo' := 1) (hi' := 5) (ir_c (1) (by decide) : ir (1 : Int32) (1) (1)) (by decide) (by decide)) (by have h9 := (ir_c (1) (by decide) : ir (1 : Int32) (1) (1)); omega))
set_option maxHeartbeats 4000000 in
set_option maxRecDepth 100000 in
theorem m_X11_spare (l : Launch) (N : c_N) (h0 : Nat) (k0 : N.2.2.1 h0 = some 11) (hO : mOK N) (V : Nat → Value) (p1 : Int32) : cMi2 l yX11_spare cX11_spare 4 .int { frames := 5, cells := 0, slots := 0, locals := 148 } [.ref h0, .int p1] N [11, 62] (fun H => mI N h0 H ∧ kp N h0 [32, 33, 34, 35, 36, 37, 38, 39, 40, 41, 42] V H) (fun _ => True) (fun _ H => mI N h0 H ∧ kp N h0 [32, 33, 34, 35, 36, 37, 38, 39, 40, 41, 42] V H) := by
  refine Met.ofW (cc := cX11_spare) (maxL := 4) (ret := some .int) (by decide) rfl ?_
  intro p e s m args below meth c s₁ B hml hv
  obtain ⟨rfl, ⟨hK, hW, hT, hnn⟩, hB⟩ := hv
  obtain ⟨hI, hV⟩ := hB
  have hx := B.exec
  have hb := B.bytes
  have hr := B.returns
  have hts : ∀ w ∈ lw_g, w.before _ s = true := fun w h => atoms_spec (ws := wc_ws yX11_spare cX11_spare 4 (some .int)) B.pre w (List.mem_cons_of_mem _ h)
  have hown : s.vm.findClass RX11 = some m.cls := findClass_of_methodNamed B.named
  have hlocks := B.notSynchronized
  have hS : va_S (cE N [11, 62]) s.heap s.heap [] := va_S.rf
  have hl := lv_entry ([.ref h0, .int p1]) (n := 4) (Nat.le_of_ble_eq_true rfl)
  rw [lg_entry_eq]
  generalize (lg_sl ([.ref h0, .int p1]) ++ List.replicate (4 - (lg_sl ([.ref h0, .int p1])).length) Slot.unset).toArray = ls at hl ⊢
  have hl : lv_has ls 4 [(0, .ref h0), (1, .int p1)] := hl
  refine wq_all ?_
  intro WW w1 w2
  have L87 : ∀ (n : Nat) (H : Heap) (locs : List Loc) (ls : Array Slot) (v87_2 : Int32) (v87_3 : Int32), cW N H → mI N h0 H → kp N h0 [32, 33, 34, 35, 36, 37, 38, 39, 40, 41, 42] V H → va_S (cE N [11, 62]) s.heap H locs → lv_has ls 4 [(0, .ref h0), (1, .int p1), (2, .int v87_2), (3, .int v87_3)] → ir p1 1 15 → ir v87_3 0 24 → 24 - v87_3.toInt < (n : Int) → WW H locs (F0 m 87 ls []) := by
    intro n
    induction n with
    | zero =>
      intro H locs ls v87_2 v87_3 hW hI hV hS hl rv87_1 rv87_3 mu87
      exfalso
      omega
    | succ n ih87 =>
      intro H locs ls v87_2 v87_3 hW hI hV hS hl rv87_1 rv87_3 mu87
      have J112 : ∀ (H : Heap) (locs : List Loc) (ls : Array Slot) (w112_0 : Int32) (u112_0 : Int32), cW N H → mI N h0 H → kp N h0 [32, 33, 34, 35, 36, 37, 38, 39, 40, 41, 42] V H → va_S (cE N [11, 62]) s.heap H locs → lv_has ls 4 [(0, .ref h0), (1, .int p1), (3, .int v87_3)] → ir p1 1 15 → ir v87_3 0 23 → ir u112_0 1 24 → wt_pin N.1 vwCl h0 11 7 (.int u112_0) H → WW H locs (F0 m 112 ls [.int w112_0, .int v87_2]) := by
        intro H locs ls w112_0 u112_0 hW hI hV hS hl rv112_1 rv112_3 ru112_0 nh0_7
        refine w1 _ _ _ ?_
        refine lv_ior hx hb dX11_spare_112 ?_
        refine lv_topi (fun x112 e112 => ?_)
        refine lv_istore_n (lv' := [(2, .int x112), (0, .ref h0), (1, .int p1), (3, .int v87_3)]) hx hb dX11_spare_113 rfl hl (by decide) rfl (fun ls hl => ?_)
        obtain ⟨x114, e114⟩ : ∃ y : Int32, y = v87_3 + 1 := ⟨_, rfl⟩
        have r114 : ir x114 1 24 := ir_w (ir_add e114 rv112_3 (ir_c (1) (by decide) : ir (1 : Int32) (1) (1)) (by decide) (by decide)) (by decide) (by decide)
        have t114 : x114.toInt = v87_3.toInt + (1) := it_add e114 rv112_3 (ir_c (1) (by decide) : ir (1 : Int32) (1) (1)) (by decide) (by decide)
        refine lv_iinc (v := x114) (lv' := [(3, .int x114), (2, .int x112), (0, .ref h0), (1, .int p1)]) hx hb dX11_spare_114 hl (k := 3) rfl (by rw [e114]; rfl) (by decide) rfl (fun ls hl => ?_)
        refine lv_goto (tgt := 87) hx hb dX11_spare_117 (by decide) ?_
        exact w2 _ _ _ (ih87 _ _ _ x112 x114 hW hI hV hS (lv_sub hl [2, 3, 1, 0] rfl) rv112_1 (ir_w (lo' := 0) (hi' := 24) r114 (by decide) (by decide)) (by have h9 := r114; omega))
      refine w1 _ _ _ ?_
      refine lv_iload_n hx hb dX11_spare_87 rfl (lv_at hl 3 rfl) ?_
      refine lv_aload_n hx hb dX11_spare_88 rfl (lv_at hl 0 rfl) ?_
      refine wt_getp hx hb hts cfX11 hown hK hW (cg11 k0) rfl 7 (by decide) (Or.inl (hts _ q879)) dX11_spare_89 (fun v hv nh0_7 => ?_)
      obtain ⟨x89, rfl, r89⟩ : gi 0 24 v := hv
      refine lv_icmp_ge (tgt := 120) hx hb dX11_spare_92 (by decide) (fun c92 => ?_) (fun c92 => ?_)
      · have d92 := Int32.le_iff_toInt_le.mp c92
        refine lv_iload_n hx hb dX11_spare_120 rfl (lv_at hl 2 rfl) ?_
        exact W.iret (v := v87_2) hx hb hr (fun t ht _ => ⟨⟨v87_2, v87_2, rfl, ⟨rfl, trivial⟩, cW_at ht hW, ⟨mI_at ht hI, kp_at ht hV⟩⟩, hS.F ht⟩) hS.2.2 dX11_spare_121
      · have rv87_3_92 : ir v87_3 0 23 := ⟨(rv87_3).1, Int.le_trans (rf_lt (rf_nle c92) rv87_3 r89).1 (by decide)⟩
        have rx89_92 : ir x89 1 24 := ⟨Int.le_trans (by decide) (rf_lt (rf_nle c92) rv87_3 r89).2, (r89).2⟩
        have d92 := Int32.lt_iff_toInt_lt.mp (rf_nle c92)
        refine lv_iload_n hx hb dX11_spare_95 rfl (lv_at hl 2 rfl) ?_
        refine lv_aload_n hx hb dX11_spare_96 rfl (lv_at hl 0 rfl) ?_
        refine lv_iload_n hx hb dX11_spare_97 rfl (lv_at hl 3 rfl) ?_
        refine lv_iload_n hx hb dX11_spare_98 rfl (lv_at hl 1 rfl) ?_
        obtain ⟨V1, hV1⟩ := kp_all hW k0
        refine cc_i2 (B2 := fun _ H => mI N h0 H ∧ kp N h0 [32, 33, 34, 35, 36, 37, 38, 39, 40, 41, 42] V1 H) (wt_runV (As := [.int v87_3, .int p1]) (rest := [.int v87_2]) ⟨hx, hb, hml, hown, hts⟩ (m_X11_canSpare l N h0 k0 hO V1 v87_3 p1) wm_X11_canSpare q1402 ⟨rfl, rfl⟩ ⟨Nat.le_of_ble_eq_true rfl, Nat.le_of_ble_eq_true rfl⟩ (cS_preV (B := fun H => mI N h0 H ∧ kp N h0 [32, 33, 34, 35, 36, 37, 38, 39, 40, 41, 42] V1 H) hK hW hT hnn hS (cg11 k0) rfl rfl (And.intro hI (kp_of (F := [32, 33, 34, 35, 36, 37, 38, 39, 40, 41, 42]) hV1))) rfl hl.1 rfl (Nat.le_of_ble_eq_true rfl) dX11_spare_99 ⟨Nat.zero_le _, Nat.zero_le _⟩) hS (by decide) (fun x99 H locs hp hW hS oq hB2 => ?_)
        obtain ⟨hI, hV2⟩ := hB2
        have hV := kp_call hV hV1 hV2 (by decide)
        have nh0_7 := kp_use hV1 hV2 (by decide) (by decide) nh0_7
        have r99 : ir x99 0 1 := hp
        refine lv_if_eq (tgt := 111) hx hb dX11_spare_102 (by decide) (fun c102 => ?_) (fun c102 => ?_)
        · have rx99_102 : ir x99 0 0 := rf_eq c102 (ir_c (0) (by decide) : ir (0 : Int32) (0) (0))
          refine lv_iconst (v := 0) hx hb dX11_spare_111 (by decide) ?_
          exact w2 _ _ _ (J112 _ _ _ (0 : Int32) x89 hW hI hV hS (lv_sub hl [0, 1, 3] rfl) rv87_1 rv87_3_92 rx89_92 nh0_7)
        · have rx99_102 : ir x99 1 1 := rf_ne0 c102 r99
          refine lv_iconst (v := 1) hx hb dX11_spare_105 (by decide) ?_
          refine lv_iload_n hx hb dX11_spare_106 rfl (lv_at hl 3 rfl) ?_
          refine lv_ishl hx hb dX11_spare_107 ?_
          refine lv_topi (fun x107 e107 => ?_)
          refine lv_goto (tgt := 112) hx hb dX11_spare_108 (by decide) ?_
          exact w2 _ _ _ (J112 _ _ _ x107 x89 hW hI hV hS (lv_sub hl [0, 1, 3] rfl) rv87_1 rv87_3_92 rx89_92 nh0_7)
  have L17 : ∀ (n : Nat) (H : Heap) (locs : List Loc) (ls : Array Slot) (v17_2 : Int32), cW N H → mI N h0 H → kp N h0 [32, 33, 34, 35, 36, 37, 38, 39, 40, 41, 42] V H → va_S (cE N [11, 62]) s.heap H locs → lv_has ls 4 [(0, .ref h0), (1, .int p1), (2, .int v17_2)] → ir p1 1 15 → ir v17_2 1 5 → 5 - v17_2.toInt < (n : Int) → WW H locs (F0 m 17 ls []) := by
    intro n
    induction n with
    | zero =>
      intro H locs ls v17_2 hW hI hV hS hl rv17_1 rv17_2 mu17
      exfalso
      omega
    | succ n ih17 =>
      intro H locs ls v17_2 hW hI hV hS hl rv17_1 rv17_2 mu17
      have J77 : ∀ (H : Heap) (locs : List Loc) (ls : Array Slot) , cW N H → mI N h0 H → kp N h0 [32, 33, 34, 35, 36, 37, 38, 39, 40, 41, 42] V H → va_S (cE N [11, 62]) s.heap H locs → lv_has ls 4 [(0, .ref h0), (1, .int p1), (2, .int v17_2)] → ir p1 1 15 → ir v17_2 1 4 → WW H locs (F0 m 77 ls []) := by
        intro H locs ls  hW hI hV hS hl rv77_1 rv77_2
        refine w1 _ _ _ ?_
        obtain ⟨x77, e77⟩ : ∃ y : Int32, y = v17_2 + 1 := ⟨_, rfl⟩
        have r77 : ir x77 2 5 := ir_w (ir_add e77 rv77_2 (ir_c (1) (by decide) : ir (1 : Int32) (1) (1)) (by decide) (by decide)) (by decide) (by decide)
        have t77 : x77.toInt = v17_2.toInt + (1) := it_add e77 rv77_2 (ir_c (1) (by decide) : ir (1 : Int32) (1) (1)) (by decide) (by decide)
        refine lv_iinc (v := x77) (lv' := [(2, .int x77), (0, .ref h0), (1, .int p1)]) hx hb dX11_spare_77 hl (k := 2) rfl (by rw [e77]; rfl) (by decide) rfl (fun ls hl => ?_)
        refine lv_goto (tgt := 17) hx hb dX11_spare_80 (by decide) ?_
        exact w2 _ _ _ (ih17 _ _ _ x77 hW hI hV hS (lv_sub hl [1, 2, 0] rfl) rv77_1 (ir_w (lo' := 1) (hi' := 5) r77 (by decide) (by decide)) (by have h9 := r77; omega))
      refine w1 _ _ _ ?_
      refine lv_iload_n hx hb dX11_spare_17 rfl (lv_at hl 2 rfl) ?_
      refine lv_iconst (v := 4) hx hb dX11_spare_18 (by decide) ?_
      refine lv_icmp_gt (tgt := 83) hx hb dX11_spare_19 (by decide) (fun c19 => ?_) (fun c19 => ?_)
      · have rv17_2_19 : ir v17_2 5 5 := ⟨Int.le_trans (by decide) (rf_lt c19 (ir_c (4) (by decide) : ir (4 : Int32) (4) (4)) rv17_2).2, (rv17_2).2⟩
        have d19 := Int32.lt_iff_toInt_lt.mp c19
        refine lv_iconst (v := 0) hx hb dX11_spare_83 (by decide) ?_
        refine lv_istore_n (lv' := [(2, .int (0 : Int32)), (0, .ref h0), (1, .int p1)]) hx hb dX11_spare_84 rfl hl (by decide) rfl (fun ls hl => ?_)
        refine lv_iconst (v := 0) hx hb dX11_spare_85 (by decide) ?_
        refine lv_istore_n (lv' := [(3, .int (0 : Int32)), (2, .int (0 : Int32)), (0, .ref h0), (1, .int p1)]) hx hb dX11_spare_86 rfl hl (by decide) rfl (fun ls hl => ?_)
        exact w2 _ _ _ (L87 25 _ _ _ (0 : Int32) (0 : Int32) hW hI hV hS (lv_sub hl [2, 3, 1, 0] rfl) rv17_1 (ir_w (lo' := 0) (hi' := 24) (ir_c (0) (by decide) : ir (0 : Int32) (0) (0)) (by decide) (by decide)) (by have h9 := (ir_c (0) (by decide) : ir (0 : Int32) (0) (0)); omega))
      · have rv17_2_19 : ir v17_2 1 4 := ⟨(rv17_2).1, Int.le_trans (rf_le (rf_nlt c19) rv17_2 (ir_c (4) (by decide) : ir (4 : Int32) (4) (4))).1 (by decide)⟩
        have d19 := Int32.le_iff_toInt_le.mp (rf_nlt c19)
        refine lv_iload_n hx hb dX11_spare_22 rfl (lv_at hl 1 rfl) ?_
        refine lv_iload_n hx hb dX11_spare_23 rfl (lv_at hl 2 rfl) ?_
        refine lv_iconst (v := 1) hx hb dX11_spare_24 (by decide) ?_
        refine lv_isub hx hb dX11_spare_25 ?_
        refine lv_topi (fun x25 e25 => ?_)
        have t25 : x25.toInt = v17_2.toInt - (1) := it_sub e25 rv17_2_19 (ir_c (1) (by decide) : ir (1 : Int32) (1) (1)) (by decide) (by decide)
        have r25 : ir x25 0 3 := ir_w (ir_sub e25 rv17_2_19 (ir_c (1) (by decide) : ir (1 : Int32) (1) (1)) (by decide) (by decide)) (by decide) (by decide)
        refine cp_i (wt_runS (As := [.int p1, .int x25]) (rest := []) ⟨hx, hb, hml, hown, hts⟩ (m_X11_has l p1 x25) wm_X11_has q1312 ⟨rfl, rfl⟩ ⟨Nat.le_of_ble_eq_true rfl, Nat.le_of_ble_eq_true rfl⟩ pS_pre rfl hl.1 rfl (Nat.le_of_ble_eq_true rfl) dX11_spare_26 ⟨Nat.zero_le _, Nat.zero_le _⟩) hW hS (fun x26 H locs hp hW1 hS oq => ?_)
        have hV := hV.same hW k0 oq
        have hI := mI.fr.same hI hW oq
        have hW := hW1
        have r26 : ir x26 0 1 := hp
        refine lv_if_ne (tgt := 35) hx hb dX11_spare_29 (by decide) (fun c29 => ?_) (fun c29 => ?_)
        · have rx26_29 : ir x26 1 1 := rf_ne0 c29 r26
          refine lv_aload_n hx hb dX11_spare_35 rfl (lv_at hl 0 rfl) ?_
          refine lv_aload_n hx hb dX11_spare_36 rfl (lv_at hl 0 rfl) ?_
          refine wt_getp hx hb hts cfX11 hown hK hW (cg11 k0) rfl 7 (by decide) (Or.inl (hts _ q879)) dX11_spare_37 (fun v hv nh0_7 => ?_)
          obtain ⟨x37, rfl, r37⟩ : gi 0 24 v := hv
          refine lv_iload_n hx hb dX11_spare_40 rfl (lv_at hl 2 rfl) ?_
          obtain ⟨V1, hV1⟩ := kp_all hW k0
          refine cc_i2 (B2 := fun r H => mI N h0 H ∧ kp N h0 [32, 33, 34, 35, 36, 37, 38, 39, 40, 41, 42] V1 H ∧ (¬ r = 0 → ∃ bu bb : Int64, pL N h0 39 bu H ∧ pL N h0 40 bb H ∧ 0 ≤ bu.toInt ∧ 1 ≤ bb.toInt)) (wt_runV (As := [.int x37, .int v17_2]) (rest := []) ⟨hx, hb, hml, hown, hts⟩ (m_X11_shines l N h0 k0 hO V1 x37 r37 v17_2 rv17_2_19 x37 (by have h6 := r37; have h7 := r37; omega)) wm_X11_shines q1238 ⟨rfl, rfl⟩ ⟨Nat.le_of_ble_eq_true rfl, Nat.le_of_ble_eq_true rfl⟩ (cS_preV (B := fun H => mI N h0 H ∧ kp N h0 [32, 33, 34, 35, 36, 37, 38, 39, 40, 41, 42] V1 H ∧ wt_pin N.1 vwCl h0 11 7 (.int x37) H) hK hW hT hnn hS (cg11 k0) rfl rfl (And.intro hI (And.intro (kp_of (F := [32, 33, 34, 35, 36, 37, 38, 39, 40, 41, 42]) hV1) nh0_7))) rfl hl.1 rfl (Nat.le_of_ble_eq_true rfl) dX11_spare_41 ⟨Nat.zero_le _, Nat.zero_le _⟩) hS (by decide) (fun x41 H locs hp hW hS oq hB2 => ?_)
          obtain ⟨hI, hV2, hB2⟩ := hB2
          have hV := kp_call hV hV1 hV2 (by decide)
          have hq41 := hB2
          have nh0_7 := kp_use hV1 hV2 (by decide) (by decide) nh0_7
          have r41 : ir x41 0 1 := hp
          refine lv_if_ne (tgt := 49) hx hb dX11_spare_44 (by decide) (fun c44 => ?_) (fun c44 => ?_)
          · have rx41_44 : ir x41 1 1 := rf_ne0 c44 r41
            obtain ⟨bu41, bb41, nh0_39, nh0_40, vu41, vb41⟩ := hq41 c44
            refine lv_aload_n hx hb dX11_spare_49 rfl (lv_at hl 0 rfl) ?_
            refine wt_get hx hb hts cfX11 hown hK hW (cg11 k0) rfl 56 (by decide) q928 dX11_spare_50 (fun v hv => ?_)
            obtain ⟨x50, rfl, k50⟩ : gr N 62 v := hv
            refine lv_iconst (v := 2) hx hb dX11_spare_53 (by decide) ?_
            refine lv_iload_n hx hb dX11_spare_54 rfl (lv_at hl 2 rfl) ?_
            refine lv_imul hx hb dX11_spare_55 ?_
            refine lv_topi (fun x55 e55 => ?_)
            have t55 : x55.toInt = (2) * v17_2.toInt := (it_mul e55 (ir_c (2) (by decide) : ir (2 : Int32) (2) (2)) rv17_2_19 (by decide) (by decide) (by decide)).1
            have r55 : ir x55 2 8 := ir_w (it_mul e55 (ir_c (2) (by decide) : ir (2 : Int32) (2) (2)) rv17_2_19 (by decide) (by decide) (by decide)).2 (by decide) (by decide)
            refine lv_iconst (v := 2) hx hb dX11_spare_56 (by decide) ?_
            refine lv_isub hx hb dX11_spare_57 ?_
            refine lv_topi (fun x57 e57 => ?_)
            have t57 : x57.toInt = x55.toInt - (2) := it_sub e57 r55 (ir_c (2) (by decide) : ir (2 : Int32) (2) (2)) (by decide) (by decide)
            have r57 : ir x57 0 6 := ir_w (ir_sub e57 r55 (ir_c (2) (by decide) : ir (2 : Int32) (2) (2)) (by decide) (by decide)) (by decide) (by decide)
            refine lv_aload_n hx hb dX11_spare_58 rfl (lv_at hl 0 rfl) ?_
            refine wt_rel hx hb hts cfX11 hown hK nh0_39 rfl (by decide) (Or.inl (hts _ q911)) dX11_spare_59 ?_
            refine wt_lastp hx hb hK hW hS 1 (cg62 k50) (ce k50 (by decide)) rfl (ir_in (ir_w (lo' := 0) (hi' := 7) r57 (by decide) (by decide)) (by decide) (by decide)) gl_mk dX11_spare_62 (fun H locs hW hS oq => ?_)
            have nh0_7 := nh0_7.kept (oq _ (ne_kind k0 k50 (by decide)))
            have nh0_39 := nh0_39.kept (oq _ (ne_kind k0 k50 (by decide)))
            have nh0_40 := nh0_40.kept (oq _ (ne_kind k0 k50 (by decide)))
            have hV := hV.keep (oq _ (ne_kind k0 k50 (by decide)))
            have hI := mI.fr.arr hI k0 k50 oq (by decide) (by decide)
            refine lv_aload_n hx hb dX11_spare_63 rfl (lv_at hl 0 rfl) ?_
            refine wt_get hx hb hts cfX11 hown hK hW (cg11 k0) rfl 56 (by decide) q928 dX11_spare_64 (fun v hv => ?_)
            obtain ⟨x64, rfl, k64⟩ : gr N 62 v := hv
            refine lv_iconst (v := 2) hx hb dX11_spare_67 (by decide) ?_
            refine lv_iload_n hx hb dX11_spare_68 rfl (lv_at hl 2 rfl) ?_
            refine lv_imul hx hb dX11_spare_69 ?_
            refine lv_topi (fun x69 e69 => ?_)
            have t69 : x69.toInt = (2) * v17_2.toInt := (it_mul e69 (ir_c (2) (by decide) : ir (2 : Int32) (2) (2)) rv17_2_19 (by decide) (by decide) (by decide)).1
            have r69 : ir x69 2 8 := ir_w (it_mul e69 (ir_c (2) (by decide) : ir (2 : Int32) (2) (2)) rv17_2_19 (by decide) (by decide) (by decide)).2 (by decide) (by decide)
            refine lv_iconst (v := 1) hx hb dX11_spare_70 (by decide) ?_
            refine lv_isub hx hb dX11_spare_71 ?_
            refine lv_topi (fun x71 e71 => ?_)
            have t71 : x71.toInt = x69.toInt - (1) := it_sub e71 r69 (ir_c (1) (by decide) : ir (1 : Int32) (1) (1)) (by decide) (by decide)
            have r71 : ir x71 1 7 := ir_w (ir_sub e71 r69 (ir_c (1) (by decide) : ir (1 : Int32) (1) (1)) (by decide) (by decide)) (by decide) (by decide)
            refine lv_aload_n hx hb dX11_spare_72 rfl (lv_at hl 0 rfl) ?_
            refine wt_rel hx hb hts cfX11 hown hK nh0_40 rfl (by decide) (Or.inl (hts _ q912)) dX11_spare_73 ?_
            refine wt_lastp hx hb hK hW hS 1 (cg62 k64) (ce k64 (by decide)) rfl (ir_in (ir_w (lo' := 0) (hi' := 7) r71 (by decide) (by decide)) (by decide) (by decide)) gl_mk dX11_spare_76 (fun H locs hW hS oq => ?_)
            have nh0_7 := nh0_7.kept (oq _ (ne_kind k0 k64 (by decide)))
            have nh0_39 := nh0_39.kept (oq _ (ne_kind k0 k64 (by decide)))
            have nh0_40 := nh0_40.kept (oq _ (ne_kind k0 k64 (by decide)))
            have hV := hV.keep (oq _ (ne_kind k0 k64 (by decide)))
            have hI := mI.fr.arr hI k0 k64 oq (by decide) (by decide)
            exact w2 _ _ _ (J77 _ _ _  hW hI hV hS (lv_sub hl [0, 1, 2] rfl) rv17_1 rv17_2_19)
          · have rx41_44 : ir x41 0 0 := rf_eq c44 (ir_c (0) (by decide) : ir (0 : Int32) (0) (0))
            refine lv_iconst (v := 0) hx hb dX11_spare_47 (by decide) ?_
            exact W.iret (v := (0 : Int32)) hx hb hr (fun t ht _ => ⟨⟨(0 : Int32), (0 : Int32), rfl, ⟨rfl, trivial⟩, cW_at ht hW, ⟨mI_at ht hI, kp_at ht hV⟩⟩, hS.F ht⟩) hS.2.2 dX11_spare_48
        · have rx26_29 : ir x26 0 0 := rf_eq c29 (ir_c (0) (by decide) : ir (0 : Int32) (0) (0))
          refine lv_goto (tgt := 77) hx hb dX11_spare_32 (by decide) ?_
          exact w2 _ _ _ (J77 _ _ _  hW hI hV hS (lv_sub hl [0, 1, 2] rfl) rv17_1 rv17_2_19)
  refine lv_iload_n hx hb dX11_spare_0 rfl (lv_at hl 1 rfl) ?_
  refine lv_i2l hx hb dX11_spare_1 rfl ?_
  refine lv_topl (fun x1 e1 => ?_)
  have r1 : lr x1 (-2147483648) 2147483647 := by rw [e1]; exact i2l_r (ir_any p1)
  have t1 : x1.toInt = p1.toInt := by rw [e1]; exact Int32.toInt_toInt64 p1
  refine lv_lconst (v := 1) hx hb dX11_spare_2 (by decide) ?_
  refine lv_ldc2 hx hb hown (hts _ q1333) dX11_spare_3 ?_
  refine cp_i (wt_runS (As := [.long x1, .long (1 : Int64), .long (15 : Int64)]) (rest := []) ⟨hx, hb, hml, hown, hts⟩ (m_X11_isIn l x1 (1 : Int64) (15 : Int64)) wm_X11_isIn q1050 ⟨rfl, rfl⟩ ⟨Nat.le_of_ble_eq_true rfl, Nat.le_of_ble_eq_true rfl⟩ pS_pre rfl hl.1 rfl (Nat.le_of_ble_eq_true rfl) dX11_spare_6 ⟨Nat.zero_le _, Nat.zero_le _⟩) hW hS (fun x6 H locs hp hW1 hS oq => ?_)
  have hV := hV.same hW k0 oq
  have hI := mI.fr.same hI hW oq
  have hW := hW1
  obtain ⟨r6, b6⟩ := hp
  refine lv_if_ne (tgt := 15) hx hb dX11_spare_9 (by decide) (fun c9 => ?_) (fun c9 => ?_)
  · have rx6_9 : ir x6 1 1 := rf_ne0 c9 r6
    have bx6_9 := b6 c9
    have rbx1_9 : lr x1 1 15 := by have h5 := bx6_9; have h6 := r1; have h7 := (lr_c (1) (by decide) : lr (1 : Int64) (1) (1)); have h8 := (lr_c (15) (by decide) : lr (15 : Int64) (15) (15)); constructor <;> omega
    have rp1_9 : ir p1 1 15 := i2l_b e1 rbx1_9
    refine lv_iconst (v := 1) hx hb dX11_spare_15 (by decide) ?_
    refine lv_istore_n (lv' := [(2, .int (1 : Int32)), (0, .ref h0), (1, .int p1)]) hx hb dX11_spare_16 rfl hl (by decide) rfl (fun ls hl => ?_)
    exact w2 _ _ _ (L17 5 _ _ _ (1 : Int32) hW hI hV hS (lv_sub hl [1, 2, 0] rfl) rp1_9 (ir_w (lo' := 1) (hi' := 5) (ir_c (1) (by decide) : ir (1 : Int32) (1) (1)) (by decide) (by decide)) (by have h9 := (ir_c (1) (by decide) : ir (1 : Int32) (1) (1)); omega))
  · have rx6_9 : ir x6 0 0 := rf_eq c9 (ir_c (0) (by decide) : ir (0 : Int32) (0) (0))
    refine lv_bipush (v := -2) hx hb dX11_spare_12 (by decide) ?_
    exact W.iret (v := (-2 : Int32)) hx hb hr (fun t ht _ => ⟨⟨(-2 : Int32), (-2 : Int32), rfl, ⟨rfl, trivial⟩, cW_at ht hW, ⟨mI_at ht hI, kp_at ht hV⟩⟩, hS.F ht⟩) hS.2.2 dX11_spare_14
