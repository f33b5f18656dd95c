/-! WHAT MAY DRAW -/
section DRW
variable {p : Program} {l : Launch} {e : Env} {R : Room} {s : State} {m : MethodId} {args : Array Value} {below : List Frame} {meth : Method} {c : Code} {H : Heap} {locs : List Loc} {cells slots : Nat} {Q : State → Prop} {g : JFrame} {d0 : Drawn}
variable {y : MethodName} {bytes cc : ByteArray} {maxL nL mc ms n index pc : Nat} {ret : Option FieldType} {rm : Room} {Pc : Array Value → State → Prop} {Qc : Array Value → State → Outcome → State → Prop} {free : Addr → Prop} {own C host : String} {b : Addr} {As rest st : List Value} {ls : Array Slot}
theorem W.base2 (k : W p l e R s m args below meth c H locs cells slots Q g) : W p l e R (s.setDrawn s.drawn) m args below meth c H locs cells slots Q g := k
theorem wq_allD (h : ∀ WW : Drawn → Heap → List Loc → JFrame → Prop, (∀ d H' locs' g', W p l e R (s.setDrawn d) m args below meth c H' locs' cells slots Q g' → WW d H' locs' g') → (∀ d H' locs' g', WW d H' locs' g' → W p l e R (s.setDrawn d) m args below meth c H' locs' cells slots Q g') → W p l e R (s.setDrawn d0) m args below meth c H locs cells slots Q g) : W p l e R (s.setDrawn d0) m args below meth c H locs cells slots Q g :=
  h (fun d H' locs' g' => W p l e R (s.setDrawn d) m args below meth c H' locs' cells slots Q g') (fun _ _ _ _ h => h) (fun _ _ _ _ h => h)
theorem wd_ldcwF {T : State} (X : Stand p l e R s m args below meth c T locs cells slots) (hexec : p.tables.exec = Jvm.exec) {own : String} {index : Nat} {v : UInt32} (hown : s.vm.findClass own = some m.cls)
    (hconst : (Cond.constantFloat own index v).before args s = true) {g : JFrame} (hg : g.method = m) (hdg : decode c.code g.pc = .ok (.ldc_w index, 3)) :
    ∀ target, Steps p.tables e below (T.setTop { g with pc := g.pc + 3, stack := .float v :: g.stack }) target → Steps p.tables e below (T.setTop g) target := by
  obtain ⟨k, cf, hk, hcf, hcp⟩ := Cond.constantFloat_spec hown hconst
  obtain ⟨k', hk', he⟩ := X.warmed.alike.2.2 _ _ hk
  intro target hrest
  subst hg
  jvm_step X.here [hexec, hdg, ldc_w.wp_float (s := T) (f := g) X.here.top hk' (by rw [he]; exact hcf) hcp]
  exact hrest
theorem wd_ldcwf (hexec : p.tables.exec = Jvm.exec) (hb : c.code = cc) {own : String} {index : Nat} {v : UInt32} (hown : s.vm.findClass own = some m.cls) (hconst : (Jvm.Cond.constantFloat own index v).before args s = true) (hdg : decode cc pc = .ok (.ldc_w index, 3)) (k : W p l e R s m args below meth c H locs cells slots Q (F0 m (pc + 3) ls (.float v :: rest))) : W p l e R s m args below meth c H locs cells slots Q (F0 m pc ls rest) := by
  intro T hT X
  obtain ⟨t, a, b⟩ := k T hT X
  exact ⟨t, wd_ldcwF X hexec hown hconst (g := F0 m pc ls rest) rfl (by rw [hb]; exact hdg) t a, b⟩
theorem wt_runV_D (S : CallFix p m c cc nL s args lw_g own) (hM : MetD lw_cs l y (wc_ws y bytes maxL ret) rm Pc Qc mc ms free) (cm : wc_VM C y bytes maxL ret n) (hl : Cond.methodLink own index y ∈ lw_g) (hrm : rm.cells = mc ∧ rm.slots = ms) (hR : rm.frames + 1 ≤ R.frames ∧ 8 + (maxL + 11) + rm.locals ≤ R.locals) (hp : PreV s H C b Pc As)
    (hn : As.length = n) (hsize : ls.size = nL) (hstack : st = As.reverse ++ .ref b :: rest) (hW : (rest.map fun v => v.category).sum ≤ 8) (hdg : decode cc pc = .ok (.invokevirtual index, 3)) (hf : cells + mc ≤ R.cells ∧ slots + ms ≤ R.slots) :
    va_RunD lw_cs p l e R s m args below meth c H locs cells slots mc ms (F0 m pc ls st) rest (Qc (Value.ref b :: As).toArray) (free) :=
  va_runV_D (ws := wc_ws y bytes maxL ret) (ret := ret) S hM ⟨callB_of n S.2.2.2.2 (wc_good cm.1) rfl hrm.1 hrm.2 (S.2.2.2.2 _ cm.2.2.2.1) (S.2.2.2.2 _ hl) cm.2.2.2.2 hR, S.2.2.2.2 _ cm.2.1, S.2.2.2.2 _ cm.2.2.1⟩ hp rfl hn hsize hstack (lv_room hW) hdg hf
theorem wt_runS_D (S : CallFix p m c cc nL s args lw_g own) (hM : MetD lw_cs l y (wc_ws y bytes maxL ret) rm Pc Qc mc ms free) (cm : wc_SM y bytes maxL ret n) (hl : Cond.methodLink own index y ∈ lw_g) (hrm : rm.cells = mc ∧ rm.slots = ms) (hR : rm.frames + 1 ≤ R.frames ∧ 8 + (maxL + 11) + rm.locals ≤ R.locals) (hp : PreS s H Pc As)
    (hn : As.length = n) (hsize : ls.size = nL) (hstack : st = As.reverse ++ rest) (hW : (rest.map fun v => v.category).sum ≤ 8) (hdg : decode cc pc = .ok (.invokestatic index, 3)) (hf : cells + mc ≤ R.cells ∧ slots + ms ≤ R.slots) :
    va_RunD lw_cs p l e R s m args below meth c H locs cells slots mc ms (F0 m pc ls st) rest (Qc As.toArray) (free) :=
  va_runS_D (ws := wc_ws y bytes maxL ret) (ret := ret) S hM ⟨callB_of n S.2.2.2.2 (wc_good cm.1) rfl hrm.1 hrm.2 (S.2.2.2.2 _ cm.2.2.1) (S.2.2.2.2 _ hl) cm.2.2.2 hR, S.2.2.2.2 _ cm.2.1⟩ hp rfl hn hsize hstack (lv_room hW) hdg hf
end DRW
theorem Met.ofWF {l : Launch} {y : MethodName} {ws ws' : List Cond} {rm : Room} {Pc : Array Value → State → Prop} {Qc : Array Value → State → Outcome → State → Prop} {mc ms : Nat} {free : Addr → Prop} {cc : ByteArray} {maxL : Nat} {ret : Option FieldType}
    (hy : plainFor y = true) (hw : ws = Cond.code y cc maxL ret :: ws')
    (body : ∀ p e s m args below meth c s₁, BodyLoose p l y (headSpec ws rm) cc maxL ret e s m args below meth c s₁ → c.maxLocals = maxL → Pc args s →
      W p l e (headSpec ws rm).room s m args below meth c s.heap [] 0 0 (MQ below Qc args s mc ms free) (entryFrame m args maxL)) : Met l y ws rm Pc Qc mc ms free := by
  refine MetFree.of_bodySF (code := cc) (maxLocals := maxL) (ret := ret) hy ?_ ?_
  · intro args s m h hn
    obtain ⟨meth, c, h1, h2, h3, h4, h5, h6, -, -⟩ := Cond.code_spec hn (atoms_spec (ws := ws) h _ (by rw [hw]; exact List.mem_cons_self))
    exact ⟨meth, c, h1, h2, h3, h4, h5, h6⟩
  · intro p e s m args below meth c s₁ B hml hP _
    have hh0 : s₁.heap = s.heap := by rw [B.state]; rfl
    obtain ⟨t, a1, o, b1, b2, b3⟩ := body p e s m args below meth c s₁ B hml hP s₁ hh0 (Stand.of_body B)
    exact ⟨t, o, a1, b1, b2, ⟨b3.1, b3.2⟩⟩
abbrev pMiD (l : Launch) (y : MethodName) (b : ByteArray) (n : Nat) (r : FieldType) (rm : Room) (As : List Value) : Prop := MetD lw_cs l y (wc_ws y b n (some r)) rm (va_Pc As (fun _ => True)) (va_Qi (fun _ (_ : Unit) => True) (fun _ _ => True) (fun _ => False)) 0 0 (fun _ => False)
abbrev pMlD (l : Launch) (y : MethodName) (b : ByteArray) (n : Nat) (r : FieldType) (rm : Room) (As : List Value) : Prop := MetD lw_cs l y (wc_ws y b n (some r)) rm (va_Pc As (fun _ => True)) (va_Ql (fun _ (_ : Unit) => True) (fun _ _ => True) (fun _ => False)) 0 0 (fun _ => False)
abbrev cMiD (l : Launch) (y : MethodName) (b : ByteArray) (n : Nat) (r : FieldType) (rm : Room) (As : List Value) (N : c_N) (S : List Nat) (B : Heap → Prop) (post : Int32 → Prop) : Prop := MetD lw_cs l y (wc_ws y b n (some r)) rm (va_Pc As (cSp N B)) (va_Qi (fun r (_ : Unit) => post r) (fun _ t => cW N t.heap) (cE N S)) 0 0 (cE N S)
abbrev cMlD (l : Launch) (y : MethodName) (b : ByteArray) (n : Nat) (r : FieldType) (rm : Room) (As : List Value) (N : c_N) (S : List Nat) (B : Heap → Prop) (post : Int64 → Prop) : Prop := MetD lw_cs l y (wc_ws y b n (some r)) rm (va_Pc As (cSp N B)) (va_Ql (fun r (_ : Unit) => post r) (fun _ t => cW N t.heap) (cE N S)) 0 0 (cE N S)
abbrev cMi2D (l : Launch) (y : MethodName) (b : ByteArray) (n : Nat) (r : FieldType) (rm : Room) (As : List Value) (N : c_N) (S : List Nat) (B : Heap → Prop) (post : Int32 → Prop) (B2 : Int32 → Heap → Prop) : Prop := MetD lw_cs l y (wc_ws y b n (some r)) rm (va_Pc As (cSp N B)) (va_Qi (fun r (u : Int32) => r = u ∧ post r) (fun u t => cW N t.heap ∧ B2 u t.heap) (cE N S)) 0 0 (cE N S)
abbrev cMl2D (l : Launch) (y : MethodName) (b : ByteArray) (n : Nat) (r : FieldType) (rm : Room) (As : List Value) (N : c_N) (S : List Nat) (B : Heap → Prop) (post : Int64 → Prop) (B2 : Int64 → Heap → Prop) : Prop := MetD lw_cs l y (wc_ws y b n (some r)) rm (va_Pc As (cSp N B)) (va_Ql (fun r (u : Int64) => r = u ∧ post r) (fun u t => cW N t.heap ∧ B2 u t.heap) (cE N S)) 0 0 (cE N S)

set_option maxHeartbeats 4000000 in
set_option maxRecDepth 100000 in
theorem d_X10_bitsOfFloat (l : Launch) (f : UInt32) : pMiD l yX10_bitsOfFloat cX10_bitsOfFloat 4 .int { frames := 0, cells := 0, slots := 0, locals := 0 } [.float f] := by
  refine MetD.ofW (cc := cX10_bitsOfFloat) (maxL := 4) (ret := some .int) (by decide) rfl ?_
  intro p e s m args below meth c s₁ B hml hv hd0
  obtain ⟨rfl, -⟩ := hv
  have hx := B.exec
  have hb := B.bytes
  have hr := B.returns
  have hts : ∀ w ∈ lw_g, w.before _ s = true := fun w h => atoms_spec (ws := wc_ws yX10_bitsOfFloat cX10_bitsOfFloat 4 (some .int)) B.pre w (List.mem_cons_of_mem _ h)
  have hown : s.vm.findClass RX10 = some m.cls := findClass_of_methodNamed B.named
  have hlocks := B.notSynchronized
  have hS : va_S (fun _ => False) s.heap s.heap [] := va_S.rf
  have hl := lv_entry ([.float f]) (n := 4) (Nat.le_of_ble_eq_true rfl)
  rw [lg_entry_eq]
  generalize (lg_sl ([.float f]) ++ List.replicate (4 - (lg_sl ([.float f])).length) Slot.unset).toArray = ls at hl ⊢
  have hl : lv_has ls 4 [(0, .float f)] := hl
  refine wq_allD (d0 := s.drawn) ?_
  intro WW w1 w2
  have J41 : ∀ (x : UInt32) (ex : Int32) (ls : Array Slot) (d0 : Drawn), s.drawn.sameBut d0 lw_cs → lv_has ls 4 [(2, .int ex), (1, .float x)] → WW d0 s.heap [] (F0 m 41 ls []) := by
    intro x ex ls d0 hd0 hl
    refine w1 _ _ _ _ ?_
    refine lv_iload_n hx hb dX10_bitsOfFloat_41 rfl (lv_at hl 0 rfl) ?_
    refine lv_bipush (v := 23) hx hb dX10_bitsOfFloat_42 (by decide) ?_
    refine lv_ishl hx hb dX10_bitsOfFloat_44 ?_
    refine lv_topi (fun y1 _ => ?_)
    refine lv_fload_n hx hb dX10_bitsOfFloat_45 rfl (lv_at hl 1 rfl) ?_
    refine lv_fconst1 hx hb dX10_bitsOfFloat_46 ?_
    refine lv_fsub_any hd0 lw_bits hx hb dX10_bitsOfFloat_47 (fun y2 d1 _ hd1 => ?_)
    refine wd_ldcwf hx hb hown (dr_words hts _ _ q628) dX10_bitsOfFloat_48 ?_
    refine lv_fmul_any hd1 lw_bits hx hb dX10_bitsOfFloat_51 (fun y3 d2 _ hd2 => ?_)
    refine lv_f2i hx hb dX10_bitsOfFloat_52 ?_
    refine lv_topi (fun y4 _ => ?_)
    refine lv_ior hx hb dX10_bitsOfFloat_53 ?_
    refine lv_topi (fun y5 _ => ?_)
    refine W.endD hd2 ?_
    exact W.iret (v := y5) hx hb hr (fun t ht _ => ⟨⟨y5, (), rfl, trivial, trivial⟩, hS.F ht⟩) hS.2.2 dX10_bitsOfFloat_54
  have L15 : ∀ (k : Nat) (x : UInt32) (ex t : Int32) (ls : Array Slot) (d0 : Drawn), ir t 0 200 → 200 - t.toInt < (k : Int) → s.drawn.sameBut d0 lw_cs → lv_has ls 4 [(3, .int t), (2, .int ex), (1, .float x)] → WW d0 s.heap [] (F0 m 15 ls []) := by
    intro k
    induction k with
    | zero => intro x ex t ls d0 rt mu hd0 hl; exfalso; omega
    | succ k ih =>
      intro x ex t ls d0 rt mu hd0 hl
      refine w1 _ _ _ _ ?_
      refine lv_iload_n hx hb dX10_bitsOfFloat_15 rfl (lv_at hl 0 rfl) ?_
      refine lv_sipush (v := 200) hx hb dX10_bitsOfFloat_16 (by decide) ?_
      refine lv_icmp_ge (tgt := 41) hx hb dX10_bitsOfFloat_19 (by decide) (fun c19 => ?_) (fun c19 => ?_)
      · exact w2 _ _ _ _ (J41 x ex _ _ hd0 (lv_sub hl [1, 2] rfl))
      have h19 : t.toInt < 200 := Int32.lt_iff_toInt_lt.mp (Int32.not_le.mp c19)
      refine lv_fload_n hx hb dX10_bitsOfFloat_22 rfl (lv_at hl 2 rfl) ?_
      refine lv_fconst1 hx hb dX10_bitsOfFloat_23 ?_
      refine lv_fcmp hx hb dX10_bitsOfFloat_24 ?_
      refine lv_topi (fun y1 _ => ?_)
      refine lv_if_ge (tgt := 41) hx hb dX10_bitsOfFloat_25 (by decide) (fun c25 => ?_) (fun c25 => ?_)
      · exact w2 _ _ _ _ (J41 x ex _ _ hd0 (lv_sub hl [1, 2] rfl))
      refine lv_fload_n hx hb dX10_bitsOfFloat_28 rfl (lv_at hl 2 rfl) ?_
      refine lv_fconst2 hx hb dX10_bitsOfFloat_29 ?_
      refine lv_fmul_any hd0 lw_bits hx hb dX10_bitsOfFloat_30 (fun y2 d1 _ hd1 => ?_)
      refine lv_fstore_n (lv' := [(1, .float y2), (3, .int t), (2, .int ex)]) hx hb dX10_bitsOfFloat_31 rfl hl (by decide) rfl (fun ls hl => ?_)
      obtain ⟨e2, he2⟩ : ∃ y : Int32, y = ex + (-1) := ⟨_, rfl⟩
      refine lv_iinc (v := e2) (lv' := [(2, .int e2), (1, .float y2), (3, .int t)]) hx hb dX10_bitsOfFloat_32 hl (k := 2) rfl (by rw [he2]; rfl) (by decide) rfl (fun ls hl => ?_)
      obtain ⟨t2, he3⟩ : ∃ y : Int32, y = t + 1 := ⟨_, rfl⟩
      have tt : t2.toInt = t.toInt + 1 := it_add he3 rt (ir_c 1 (by decide) : ir (1 : Int32) 1 1) (by decide) (by decide)
      refine lv_iinc (v := t2) (lv' := [(3, .int t2), (2, .int e2), (1, .float y2)]) hx hb dX10_bitsOfFloat_35 hl (k := 2) rfl (by rw [he3]; rfl) (by decide) rfl (fun ls hl => ?_)
      refine lv_goto (tgt := 15) hx hb dX10_bitsOfFloat_38 (by decide) ?_
      exact w2 _ _ _ _ (ih y2 e2 t2 _ _ (by have h9 := rt; constructor <;> omega) (by omega) hd1 hl)
  refine lv_fload_n hx hb dX10_bitsOfFloat_0 rfl (lv_at hl 0 rfl) ?_
  refine lv_fconst0 hx hb dX10_bitsOfFloat_1 ?_
  refine lv_fcmp hx hb dX10_bitsOfFloat_2 ?_
  refine lv_topi (fun y1 _ => ?_)
  refine lv_if_gt (tgt := 8) hx hb dX10_bitsOfFloat_3 (by decide) (fun c3 => ?_) (fun c3 => ?_)
  · refine lv_fload_n hx hb dX10_bitsOfFloat_8 rfl (lv_at hl 0 rfl) ?_
    refine lv_fstore_n (lv' := [(1, .float f), (0, .float f)]) hx hb dX10_bitsOfFloat_9 rfl hl (by decide) rfl (fun ls hl => ?_)
    refine lv_bipush (v := 127) hx hb dX10_bitsOfFloat_10 (by decide) ?_
    refine lv_istore_n (lv' := [(2, .int (127 : Int32)), (1, .float f), (0, .float f)]) hx hb dX10_bitsOfFloat_12 rfl hl (by decide) rfl (fun ls hl => ?_)
    refine lv_iconst (v := 0) hx hb dX10_bitsOfFloat_13 (by decide) ?_
    refine lv_istore_n (lv' := [(3, .int (0 : Int32)), (2, .int (127 : Int32)), (1, .float f), (0, .float f)]) hx hb dX10_bitsOfFloat_14 rfl hl (by decide) rfl (fun ls hl => ?_)
    exact w2 _ _ _ _ (L15 201 f 127 0 _ _ (by decide) (by decide) hd0 (lv_sub hl [0, 1, 2] rfl))
  · refine lv_iconst (v := 0) hx hb dX10_bitsOfFloat_6 (by decide) ?_
    refine W.endD hd0 ?_
    exact W.iret (v := (0 : Int32)) hx hb hr (fun t ht _ => ⟨⟨(0 : Int32), (), rfl, trivial, trivial⟩, hS.F ht⟩) hS.2.2 dX10_bitsOfFloat_7

set_option maxHeartbeats 4000000 in
set_option maxRecDepth 100000 in
theorem d_X10_bitsOfDouble (l : Launch) (f : UInt64) : pMlD l yX10_bitsOfDouble cX10_bitsOfDouble 7 .long { frames := 0, cells := 0, slots := 0, locals := 0 } [.double f] := by
  refine MetD.ofW (cc := cX10_bitsOfDouble) (maxL := 7) (ret := some .long) (by decide) rfl ?_
  intro p e s m args below meth c s₁ B hml hv hd0
  obtain ⟨rfl, -⟩ := hv
  have hx := B.exec
  have hb := B.bytes
  have hr := B.returns
  have hts : ∀ w ∈ lw_g, w.before _ s = true := fun w h => atoms_spec (ws := wc_ws yX10_bitsOfDouble cX10_bitsOfDouble 7 (some .long)) B.pre w (List.mem_cons_of_mem _ h)
  have hown : s.vm.findClass RX10 = some m.cls := findClass_of_methodNamed B.named
  have hlocks := B.notSynchronized
  have hS : va_S (fun _ => False) s.heap s.heap [] := va_S.rf
  have hl := lv_entry ([.double f]) (n := 7) (Nat.le_of_ble_eq_true rfl)
  rw [lg_entry_eq]
  generalize (lg_sl ([.double f]) ++ List.replicate (7 - (lg_sl ([.double f])).length) Slot.unset).toArray = ls at hl ⊢
  have hl : lv_has ls 7 [(0, .double f)] := hl
  refine wq_allD (d0 := s.drawn) ?_
  intro WW w1 w2
  have J50 : ∀ (x : UInt64) (ex : Int64) (ls : Array Slot) (d0 : Drawn), s.drawn.sameBut d0 lw_cs → lv_has ls 7 [(4, .long ex), (2, .double x)] → WW d0 s.heap [] (F0 m 50 ls []) := by
    intro x ex ls d0 hd0 hl
    refine w1 _ _ _ _ ?_
    refine lv_lload hx hb dX10_bitsOfDouble_50 (lv_at hl 0 rfl) ?_
    refine lv_bipush (v := 52) hx hb dX10_bitsOfDouble_52 (by decide) ?_
    refine lv_lshl hx hb dX10_bitsOfDouble_54 rfl ?_
    refine lv_topl (fun y1 _ => ?_)
    refine lv_dload_n hx hb dX10_bitsOfDouble_55 rfl (lv_at hl 1 rfl) ?_
    refine lv_dconst1 hx hb dX10_bitsOfDouble_56 ?_
    refine lv_dsub_any hd0 lw_bits hx hb dX10_bitsOfDouble_57 (fun y2 d1 _ hd1 => ?_)
    refine lv_ldc2d hx hb hown (dr_words hts _ _ q638) dX10_bitsOfDouble_58 ?_
    refine lv_dmul_any hd1 lw_bits hx hb dX10_bitsOfDouble_61 (fun y3 d2 _ hd2 => ?_)
    refine lv_d2l hx hb dX10_bitsOfDouble_62 ?_
    refine lv_topl (fun y4 _ => ?_)
    refine lv_lor hx hb dX10_bitsOfDouble_63 ?_
    refine lv_topl (fun y5 _ => ?_)
    refine W.endD hd2 ?_
    exact W.lret (v := y5) hx hb hr (fun t ht _ => ⟨⟨y5, (), rfl, trivial, trivial⟩, hS.F ht⟩) hS.2.2 dX10_bitsOfDouble_64
  have L18 : ∀ (k : Nat) (x : UInt64) (ex : Int64) (t : Int32) (ls : Array Slot) (d0 : Drawn), ir t 0 200 → 200 - t.toInt < (k : Int) → s.drawn.sameBut d0 lw_cs → lv_has ls 7 [(6, .int t), (4, .long ex), (2, .double x)] → WW d0 s.heap [] (F0 m 18 ls []) := by
    intro k
    induction k with
    | zero => intro x ex t ls d0 rt mu hd0 hl; exfalso; omega
    | succ k ih =>
      intro x ex t ls d0 rt mu hd0 hl
      refine w1 _ _ _ _ ?_
      refine lv_iload hx hb dX10_bitsOfDouble_18 (lv_at hl 0 rfl) ?_
      refine lv_sipush (v := 200) hx hb dX10_bitsOfDouble_20 (by decide) ?_
      refine lv_icmp_ge (tgt := 50) hx hb dX10_bitsOfDouble_23 (by decide) (fun c19 => ?_) (fun c19 => ?_)
      · exact w2 _ _ _ _ (J50 x ex _ _ hd0 (lv_sub hl [1, 2] rfl))
      have h19 : t.toInt < 200 := Int32.lt_iff_toInt_lt.mp (Int32.not_le.mp c19)
      refine lv_dload_n hx hb dX10_bitsOfDouble_26 rfl (lv_at hl 2 rfl) ?_
      refine lv_dconst1 hx hb dX10_bitsOfDouble_27 ?_
      refine lv_dcmp hx hb dX10_bitsOfDouble_28 ?_
      refine lv_topi (fun y1 _ => ?_)
      refine lv_if_ge (tgt := 50) hx hb dX10_bitsOfDouble_29 (by decide) (fun c25 => ?_) (fun c25 => ?_)
      · exact w2 _ _ _ _ (J50 x ex _ _ hd0 (lv_sub hl [1, 2] rfl))
      refine lv_dload_n hx hb dX10_bitsOfDouble_32 rfl (lv_at hl 2 rfl) ?_
      refine lv_ldc2d hx hb hown (dr_words hts _ _ q637) dX10_bitsOfDouble_33 ?_
      refine lv_dmul_any hd0 lw_bits hx hb dX10_bitsOfDouble_36 (fun y2 d1 _ hd1 => ?_)
      refine lv_dstore_n (lv' := [(2, .double y2), (6, .int t), (4, .long ex)]) hx hb dX10_bitsOfDouble_37 rfl hl (by decide) rfl (fun ls hl => ?_)
      refine lv_lload hx hb dX10_bitsOfDouble_38 (lv_at hl 2 rfl) ?_
      refine lv_lconst (v := 1) hx hb dX10_bitsOfDouble_40 (by decide) ?_
      refine lv_lsub hx hb dX10_bitsOfDouble_41 ?_
      refine lv_topl (fun e2 _ => ?_)
      refine lv_lstore (lv' := [(4, .long e2), (2, .double y2), (6, .int t)]) hx hb dX10_bitsOfDouble_42 hl (by decide) rfl (fun ls hl => ?_)
      obtain ⟨t2, he3⟩ : ∃ y : Int32, y = t + 1 := ⟨_, rfl⟩
      have tt : t2.toInt = t.toInt + 1 := it_add he3 rt (ir_c 1 (by decide) : ir (1 : Int32) 1 1) (by decide) (by decide)
      refine lv_iinc (v := t2) (lv' := [(6, .int t2), (4, .long e2), (2, .double y2)]) hx hb dX10_bitsOfDouble_44 hl (k := 2) rfl (by rw [he3]; rfl) (by decide) rfl (fun ls hl => ?_)
      refine lv_goto (tgt := 18) hx hb dX10_bitsOfDouble_47 (by decide) ?_
      exact w2 _ _ _ _ (ih y2 e2 t2 _ _ (by have h9 := rt; constructor <;> omega) (by omega) hd1 hl)
  refine lv_dload_n hx hb dX10_bitsOfDouble_0 rfl (lv_at hl 0 rfl) ?_
  refine lv_dconst0 hx hb dX10_bitsOfDouble_1 ?_
  refine lv_dcmp hx hb dX10_bitsOfDouble_2 ?_
  refine lv_topi (fun y1 _ => ?_)
  refine lv_if_gt (tgt := 8) hx hb dX10_bitsOfDouble_3 (by decide) (fun c3 => ?_) (fun c3 => ?_)
  · refine lv_dload_n hx hb dX10_bitsOfDouble_8 rfl (lv_at hl 0 rfl) ?_
    refine lv_dstore_n (lv' := [(2, .double f), (0, .double f)]) hx hb dX10_bitsOfDouble_9 rfl hl (by decide) rfl (fun ls hl => ?_)
    refine lv_ldc2 hx hb hown (dr_words hts _ _ q636) dX10_bitsOfDouble_10 ?_
    refine lv_lstore (lv' := [(4, .long (1023 : Int64)), (2, .double f), (0, .double f)]) hx hb dX10_bitsOfDouble_13 hl (by decide) rfl (fun ls hl => ?_)
    refine lv_iconst (v := 0) hx hb dX10_bitsOfDouble_15 (by decide) ?_
    refine lv_istore (lv' := [(6, .int (0 : Int32)), (4, .long (1023 : Int64)), (2, .double f), (0, .double f)]) hx hb dX10_bitsOfDouble_16 hl (by decide) rfl (fun ls hl => ?_)
    exact w2 _ _ _ _ (L18 201 f 1023 0 _ _ (by decide) (by decide) hd0 (lv_sub hl [0, 1, 2] rfl))
  · refine lv_lconst (v := 0) hx hb dX10_bitsOfDouble_6 (by decide) ?_
    refine W.endD hd0 ?_
    exact W.lret (v := (0 : Int64)) hx hb hr (fun t ht _ => ⟨⟨(0 : Int64), (), rfl, trivial, trivial⟩, hS.F ht⟩) hS.2.2 dX10_bitsOfDouble_7

set_option maxHeartbeats 4000000 in
set_option maxRecDepth 100000 in
theorem m_Jxf58ca_isNaN_12338 (l : Launch) (f : UInt32) : pMi l yJxf58ca_isNaN_12338 cJxf58ca_isNaN_12338 1 .boolean { frames := 0, cells := 0, slots := 0, locals := 0 } [.float f] (fun r => ir r 0 1) := by
  refine Met.ofWF (cc := cJxf58ca_isNaN_12338) (maxL := 1) (ret := some .boolean) (by decide +kernel) rfl ?_
  intro p e s m args below meth c s₁ B hml hv
  obtain ⟨rfl, -⟩ := hv
  have hx := B.exec
  have hb := B.bytes
  have hr := B.returns
  have hts : ∀ w ∈ lw_g, w.before _ s = true := fun w h => atoms_spec (ws := wc_ws yJxf58ca_isNaN_12338 cJxf58ca_isNaN_12338 1 (some .boolean)) B.pre w (List.mem_cons_of_mem _ h)
  have hown : s.vm.findClass RJxf58ca = some m.cls := findClass_of_methodNamed B.named
  have hlocks := B.notSynchronized
  have hS : va_S (fun _ => False) s.heap s.heap [] := va_S.rf
  have hl := lv_entry ([.float f]) (n := 1) (Nat.le_of_ble_eq_true rfl)
  rw [lg_entry_eq]
  generalize (lg_sl ([.float f]) ++ List.replicate (1 - (lg_sl ([.float f])).length) Slot.unset).toArray = ls at hl ⊢
  have hl : lv_has ls 1 [(0, .float f)] := hl
  refine lv_fload_n hx hb dJxf58ca_isNaN_12338_0 rfl (lv_at hl 0 rfl) ?_
  refine lv_fload_n hx hb dJxf58ca_isNaN_12338_1 rfl (lv_at hl 0 rfl) ?_
  refine lv_fcmp hx hb dJxf58ca_isNaN_12338_2 ?_
  refine lv_topi (fun y1 _ => ?_)
  refine lv_if_eq (tgt := 10) hx hb dJxf58ca_isNaN_12338_3 (by decide) (fun c3 => ?_) (fun c3 => ?_)
  · refine lv_iconst (v := 0) hx hb dJxf58ca_isNaN_12338_10 (by decide) ?_
    exact W.zret (v := (0 : Int32)) hx hb hr rfl (fun t ht _ => ⟨⟨(0 : Int32), (), rfl, by decide, trivial⟩, hS.F ht⟩) hS.2.2 dJxf58ca_isNaN_12338_11
  · refine lv_iconst (v := 1) hx hb dJxf58ca_isNaN_12338_6 (by decide) ?_
    refine lv_goto (tgt := 11) hx hb dJxf58ca_isNaN_12338_7 (by decide) ?_
    exact W.zret (v := (1 : Int32)) hx hb hr rfl (fun t ht _ => ⟨⟨(1 : Int32), (), rfl, by decide, trivial⟩, hS.F ht⟩) hS.2.2 dJxf58ca_isNaN_12338_11

set_option maxHeartbeats 4000000 in
set_option maxRecDepth 100000 in
theorem m_Jxf58ca_floatToIntBits_5c35a (l : Launch) (f : UInt32) : pMi l yJxf58ca_floatToIntBits_5c35a cJxf58ca_floatToIntBits_5c35a 1 .int { frames := 1, cells := 0, slots := 0, locals := 40 } [.float f] (fun _ => True) := by
  refine Met.ofWF (cc := cJxf58ca_floatToIntBits_5c35a) (maxL := 1) (ret := some .int) (by decide +kernel) rfl ?_
  intro p e s m args below meth c s₁ B hml hv
  obtain ⟨rfl, -⟩ := hv
  have hx := B.exec
  have hb := B.bytes
  have hr := B.returns
  have hts : ∀ w ∈ lw_g, w.before _ s = true := fun w h => atoms_spec (ws := wc_ws yJxf58ca_floatToIntBits_5c35a cJxf58ca_floatToIntBits_5c35a 1 (some .int)) B.pre w (List.mem_cons_of_mem _ h)
  have hown : s.vm.findClass RJxf58ca = some m.cls := findClass_of_methodNamed B.named
  have hlocks := B.notSynchronized
  have hS : va_S (fun _ => False) s.heap s.heap [] := va_S.rf
  have hl := lv_entry ([.float f]) (n := 1) (Nat.le_of_ble_eq_true rfl)
  rw [lg_entry_eq]
  generalize (lg_sl ([.float f]) ++ List.replicate (1 - (lg_sl ([.float f])).length) Slot.unset).toArray = ls at hl ⊢
  have hl : lv_has ls 1 [(0, .float f)] := hl
  refine lv_fload_n hx hb dJxf58ca_floatToIntBits_5c35a_0 rfl (lv_at hl 0 rfl) ?_
  refine pp_i (wt_runS (As := [.float f]) (rest := []) ⟨hx, hb, hml, hown, hts⟩ (m_Jxf58ca_isNaN_12338 l f) wm_Jxf58ca_isNaN_12338 q1257 ⟨rfl, rfl⟩ ⟨Nat.le_of_ble_eq_true rfl, Nat.le_of_ble_eq_true rfl⟩ pS_pre rfl hl.1 rfl (Nat.le_of_ble_eq_true rfl) dJxf58ca_floatToIntBits_5c35a_1 ⟨Nat.zero_le _, Nat.zero_le _⟩) hS (fun x1 H locs hp hS => ?_)
  refine lv_if_ne (tgt := 12) hx hb dJxf58ca_floatToIntBits_5c35a_4 (by decide) (fun c3 => ?_) (fun c3 => ?_)
  · refine lv_ldc hx hb hown (hts _ q1263) dJxf58ca_floatToIntBits_5c35a_12 ?_
    exact W.iret (v := (2143289344 : Int32)) hx hb hr (fun t ht _ => ⟨⟨(2143289344 : Int32), (), rfl, trivial, trivial⟩, hS.F ht⟩) hS.2.2 dJxf58ca_floatToIntBits_5c35a_14
  · refine lv_fload_n hx hb dJxf58ca_floatToIntBits_5c35a_7 rfl (lv_at hl 0 rfl) ?_
    refine vn_f2i hx hb (hml.trans hl.1.symm) hown (hts _ q1260) (hts _ q1262) (hts _ q1261) (hts _ q15) (Nat.le_of_ble_eq_true rfl) (Nat.le_of_ble_eq_true rfl) dJxf58ca_floatToIntBits_5c35a_8 ?_
    refine lv_topi (fun y2 _ => ?_)
    exact W.iret (v := y2) hx hb hr (fun t ht _ => ⟨⟨y2, (), rfl, trivial, trivial⟩, hS.F ht⟩) hS.2.2 dJxf58ca_floatToIntBits_5c35a_11

set_option maxHeartbeats 4000000 in
set_option maxRecDepth 100000 in
theorem m_Jxe99ae_isNaN_b9ae7 (l : Launch) (f : UInt64) : pMi l yJxe99ae_isNaN_b9ae7 cJxe99ae_isNaN_b9ae7 2 .boolean { frames := 0, cells := 0, slots := 0, locals := 0 } [.double f] (fun r => ir r 0 1) := by
  refine Met.ofW (cc := cJxe99ae_isNaN_b9ae7) (maxL := 2) (ret := some .boolean) (by decide) rfl ?_
  intro p e s m args below meth c s₁ B hml hv
  obtain ⟨rfl, -⟩ := hv
  have hx := B.exec
  have hb := B.bytes
  have hr := B.returns
  have hts : ∀ w ∈ lw_g, w.before _ s = true := fun w h => atoms_spec (ws := wc_ws yJxe99ae_isNaN_b9ae7 cJxe99ae_isNaN_b9ae7 2 (some .boolean)) B.pre w (List.mem_cons_of_mem _ h)
  have hown : s.vm.findClass RJxe99ae = some m.cls := findClass_of_methodNamed B.named
  have hlocks := B.notSynchronized
  have hS : va_S (fun _ => False) s.heap s.heap [] := va_S.rf
  have hl := lv_entry ([.double f]) (n := 2) (Nat.le_of_ble_eq_true rfl)
  rw [lg_entry_eq]
  generalize (lg_sl ([.double f]) ++ List.replicate (2 - (lg_sl ([.double f])).length) Slot.unset).toArray = ls at hl ⊢
  have hl : lv_has ls 2 [(0, .double f)] := hl
  refine lv_dload_n hx hb dJxe99ae_isNaN_b9ae7_0 rfl (lv_at hl 0 rfl) ?_
  refine lv_dload_n hx hb dJxe99ae_isNaN_b9ae7_1 rfl (lv_at hl 0 rfl) ?_
  refine lv_dcmp hx hb dJxe99ae_isNaN_b9ae7_2 ?_
  refine lv_topi (fun y1 _ => ?_)
  refine lv_if_eq (tgt := 10) hx hb dJxe99ae_isNaN_b9ae7_3 (by decide) (fun c3 => ?_) (fun c3 => ?_)
  · refine lv_iconst (v := 0) hx hb dJxe99ae_isNaN_b9ae7_10 (by decide) ?_
    exact W.zret (v := (0 : Int32)) hx hb hr rfl (fun t ht _ => ⟨⟨(0 : Int32), (), rfl, by decide, trivial⟩, hS.F ht⟩) hS.2.2 dJxe99ae_isNaN_b9ae7_11
  · refine lv_iconst (v := 1) hx hb dJxe99ae_isNaN_b9ae7_6 (by decide) ?_
    refine lv_goto (tgt := 11) hx hb dJxe99ae_isNaN_b9ae7_7 (by decide) ?_
    exact W.zret (v := (1 : Int32)) hx hb hr rfl (fun t ht _ => ⟨⟨(1 : Int32), (), rfl, by decide, trivial⟩, hS.F ht⟩) hS.2.2 dJxe99ae_isNaN_b9ae7_11

set_option maxHeartbeats 4000000 in
set_option maxRecDepth 100000 in
theorem m_Jxe99ae_doubleToLongBits_ccdee (l : Launch) (f : UInt64) : pMl l yJxe99ae_doubleToLongBits_ccdee cJxe99ae_doubleToLongBits_ccdee 2 .long { frames := 1, cells := 0, slots := 0, locals := 40 } [.double f] (fun _ => True) := by
  refine Met.ofW (cc := cJxe99ae_doubleToLongBits_ccdee) (maxL := 2) (ret := some .long) (by decide) rfl ?_
  intro p e s m args below meth c s₁ B hml hv
  obtain ⟨rfl, -⟩ := hv
  have hx := B.exec
  have hb := B.bytes
  have hr := B.returns
  have hts : ∀ w ∈ lw_g, w.before _ s = true := fun w h => atoms_spec (ws := wc_ws yJxe99ae_doubleToLongBits_ccdee cJxe99ae_doubleToLongBits_ccdee 2 (some .long)) B.pre w (List.mem_cons_of_mem _ h)
  have hown : s.vm.findClass RJxe99ae = some m.cls := findClass_of_methodNamed B.named
  have hlocks := B.notSynchronized
  have hS : va_S (fun _ => False) s.heap s.heap [] := va_S.rf
  have hl := lv_entry ([.double f]) (n := 2) (Nat.le_of_ble_eq_true rfl)
  rw [lg_entry_eq]
  generalize (lg_sl ([.double f]) ++ List.replicate (2 - (lg_sl ([.double f])).length) Slot.unset).toArray = ls at hl ⊢
  have hl : lv_has ls 2 [(0, .double f)] := hl
  refine lv_dload_n hx hb dJxe99ae_doubleToLongBits_ccdee_0 rfl (lv_at hl 0 rfl) ?_
  refine pp_i (wt_runS (As := [.double f]) (rest := []) ⟨hx, hb, hml, hown, hts⟩ (m_Jxe99ae_isNaN_b9ae7 l f) wm_Jxe99ae_isNaN_b9ae7 q1271 ⟨rfl, rfl⟩ ⟨Nat.le_of_ble_eq_true rfl, Nat.le_of_ble_eq_true rfl⟩ pS_pre rfl hl.1 rfl (Nat.le_of_ble_eq_true rfl) dJxe99ae_doubleToLongBits_ccdee_1 ⟨Nat.zero_le _, Nat.zero_le _⟩) hS (fun x1 H locs hp hS => ?_)
  refine lv_if_ne (tgt := 12) hx hb dJxe99ae_doubleToLongBits_ccdee_4 (by decide) (fun c3 => ?_) (fun c3 => ?_)
  · refine lv_ldc2 hx hb hown (hts _ q1277) dJxe99ae_doubleToLongBits_ccdee_12 ?_
    exact W.lret (v := (9221120237041090560 : Int64)) hx hb hr (fun t ht _ => ⟨⟨(9221120237041090560 : Int64), (), rfl, trivial, trivial⟩, hS.F ht⟩) hS.2.2 dJxe99ae_doubleToLongBits_ccdee_15
  · refine lv_dload_n hx hb dJxe99ae_doubleToLongBits_ccdee_7 rfl (lv_at hl 0 rfl) ?_
    refine vn_d2l hx hb (hml.trans hl.1.symm) hown (hts _ q1274) (hts _ q1276) (hts _ q1275) (hts _ q16) (Nat.le_of_ble_eq_true rfl) (Nat.le_of_ble_eq_true rfl) dJxe99ae_doubleToLongBits_ccdee_8 ?_
    refine lv_topl (fun y2 _ => ?_)
    exact W.lret (v := y2) hx hb hr (fun t ht _ => ⟨⟨y2, (), rfl, trivial, trivial⟩, hS.F ht⟩) hS.2.2 dJxe99ae_doubleToLongBits_ccdee_11

