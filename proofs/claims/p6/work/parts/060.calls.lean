/-! CALLS over one list of words (lw_g) -/
abbrev wc_ws (y : MethodName) (b : ByteArray) (n : Nat) (r : Option FieldType) : List Cond := Cond.code y b n r :: lw_g
theorem wc_good {y : MethodName} {b : ByteArray} {n : Nat} {r : Option FieldType} (h : Cond.code y b n r ∈ lw_g) : GoodIn lw_g (wc_ws y b n r) := by
  intro w hw
  rcases List.mem_cons.mp hw with h1 | h1
  · rw [h1]; exact ⟨h, lw_good h⟩
  · exact ⟨h1, lw_good h1⟩
abbrev wc_pn (y : MethodName) (k : Nat) : Prop := y.cls ≠ "java/lang/invoke/MethodHandle" ∧ y.cls ≠ "java/lang/invoke/VarHandle" ∧ (parseMethodDescriptor y.desc).map (fun d => d.parameters.length) = some k
/-- what the words say of a method: of an object's, a static one, a constructor -/
def wc_VM (C : String) (y : MethodName) (b : ByteArray) (n : Nat) (r : Option FieldType) (k : Nat) : Prop := Cond.code y b n r ∈ lw_g ∧ Cond.instanceMethod y ∈ lw_g ∧ Cond.selects C y y ∈ lw_g ∧ Cond.initialized y.cls ∈ lw_g ∧ wc_pn y k
def wc_SM (y : MethodName) (b : ByteArray) (n : Nat) (r : Option FieldType) (k : Nat) : Prop := Cond.code y b n r ∈ lw_g ∧ Cond.static y ∈ lw_g ∧ Cond.initialized y.cls ∈ lw_g ∧ wc_pn y k
def wc_IM (y : MethodName) (b : ByteArray) (n : Nat) (k : Nat) : Prop := Cond.code y b n none ∈ lw_g ∧ Cond.instanceMethod y ∈ lw_g ∧ Cond.initialized y.cls ∈ lw_g ∧ y.name = "<init>" ∧ wc_pn y k
section WCR
variable {p : Program} {l : Launch} {e : Env} {R : Room} {s : State} {m : MethodId} {args : Array Value} {below : List Frame} {meth : Method} {c : Code} {H : Heap} {locs : List Loc} {cells slots : Nat} {Q : State → Prop}
variable {y : MethodName} {bytes cc : ByteArray} {maxL nL mc ms n index pc : Nat} {ret : Option FieldType} {rm : Room} {Pc : Array Value → State → Prop} {Qc : Array Value → State → Outcome → State → Prop} {free : Addr → Prop} {own C host : String} {b : Addr} {As rest st : List Value} {ls : Array Slot}
theorem wt_runV (S : CallFix p m c cc nL s args lw_g own) (hM : Met l y (wc_ws y bytes maxL ret) rm Pc Qc mc ms free) (cm : wc_VM C y bytes maxL ret n) (hl : Cond.methodLink own index y ∈ lw_g) (hrm : rm.cells = mc ∧ rm.slots = ms) (hR : rm.frames + 1 ≤ R.frames ∧ 8 + (maxL + 11) + rm.locals ≤ R.locals) (hp : PreV s H C b Pc As)
    (hn : As.length = n) (hsize : ls.size = nL) (hstack : st = As.reverse ++ .ref b :: rest) (hW : (rest.map fun v => v.category).sum ≤ 8) (hdg : decode cc pc = .ok (.invokevirtual index, 3)) (hf : cells + mc ≤ R.cells ∧ slots + ms ≤ R.slots) :
    va_Run p l e R s m args below meth c H locs cells slots mc ms (F0 m pc ls st) rest (Qc (Value.ref b :: As).toArray) (free) :=
  va_runV (ws := wc_ws y bytes maxL ret) (ret := ret) S hM ⟨callB_of n S.2.2.2.2 (wc_good cm.1) rfl hrm.1 hrm.2 (S.2.2.2.2 _ cm.2.2.2.1) (S.2.2.2.2 _ hl) cm.2.2.2.2 hR, S.2.2.2.2 _ cm.2.1, S.2.2.2.2 _ cm.2.2.1⟩ hp rfl hn hsize hstack (lv_room hW) hdg hf
theorem wt_runS (S : CallFix p m c cc nL s args lw_g own) (hM : Met l y (wc_ws y bytes maxL ret) rm Pc Qc mc ms free) (cm : wc_SM y bytes maxL ret n) (hl : Cond.methodLink own index y ∈ lw_g) (hrm : rm.cells = mc ∧ rm.slots = ms) (hR : rm.frames + 1 ≤ R.frames ∧ 8 + (maxL + 11) + rm.locals ≤ R.locals) (hp : PreS s H Pc As)
    (hn : As.length = n) (hsize : ls.size = nL) (hstack : st = As.reverse ++ rest) (hW : (rest.map fun v => v.category).sum ≤ 8) (hdg : decode cc pc = .ok (.invokestatic index, 3)) (hf : cells + mc ≤ R.cells ∧ slots + ms ≤ R.slots) :
    va_Run p l e R s m args below meth c H locs cells slots mc ms (F0 m pc ls st) rest (Qc As.toArray) (free) :=
  va_runS (ws := wc_ws y bytes maxL ret) (ret := ret) S hM ⟨callB_of n S.2.2.2.2 (wc_good cm.1) rfl hrm.1 hrm.2 (S.2.2.2.2 _ cm.2.2.1) (S.2.2.2.2 _ hl) cm.2.2.2 hR, S.2.2.2.2 _ cm.2.1⟩ hp rfl hn hsize hstack (lv_room hW) hdg hf
theorem wt_runI (S : CallFix p m c cc nL s args lw_g own) (hM : Met l y (wc_ws y bytes maxL none) rm Pc Qc mc ms free) (cm : wc_IM y bytes maxL n) (hl : Cond.methodLink own index y ∈ lw_g) (hrm : rm.cells = mc ∧ rm.slots = ms) (hR : rm.frames + 1 ≤ R.frames ∧ 8 + (maxL + 11) + rm.locals ≤ R.locals) (hp : PreS s H Pc (.ref b :: As))
    (hn : As.length = n) (hsize : ls.size = nL) (hstack : st = As.reverse ++ .ref b :: rest) (hW : (rest.map fun v => v.category).sum ≤ 8) (hdg : decode cc pc = .ok (.invokespecial index, 3)) (hf : cells + mc ≤ R.cells ∧ slots + ms ≤ R.slots) :
    va_Run p l e R s m args below meth c H locs cells slots mc ms (F0 m pc ls st) rest (Qc (Value.ref b :: As).toArray) (free) :=
  va_runI (ws := wc_ws y bytes maxL none) S hM ⟨callB_of n S.2.2.2.2 (wc_good cm.1) rfl hrm.1 hrm.2 (S.2.2.2.2 _ cm.2.2.1) (S.2.2.2.2 _ hl) cm.2.2.2.2 hR, cm.2.2.2.1, S.2.2.2.2 _ cm.2.1⟩ hp rfl hn hsize hstack (lv_room hW) hdg hf
theorem wt_runVN (S : CallFix p m c cc nL s args lw_g own) (hnn : ∀ w ∈ lw_n, va_Nw w s) (hM : Met l y (wc_ws y bytes maxL ret) rm Pc Qc mc ms free) (cm : wc_VM C y bytes maxL ret n) (hl : Cond.methodLinkNest own index y host ∈ lw_n) (hrm : rm.cells = mc ∧ rm.slots = ms) (hR : rm.frames + 1 ≤ R.frames ∧ 8 + (maxL + 11) + rm.locals ≤ R.locals) (hp : PreV s H C b Pc As)
    (hn : As.length = n) (hsize : ls.size = nL) (hstack : st = As.reverse ++ .ref b :: rest) (hW : (rest.map fun v => v.category).sum ≤ 8) (hdg : decode cc pc = .ok (.invokevirtual index, 3)) (hf : cells + mc ≤ R.cells ∧ slots + ms ≤ R.slots) :
    va_Run p l e R s m args below meth c H locs cells slots mc ms (F0 m pc ls st) rest (Qc (Value.ref b :: As).toArray) (free) :=
  va_runVN (ws := wc_ws y bytes maxL ret) (ret := ret) S hM ⟨va_cnB n S.2.2.2.2 (wc_good cm.1) rfl hrm.1 hrm.2 (hnn _ hl) (S.2.2.2.2 _ cm.2.2.2.1) cm.2.2.2.2 hR, S.2.2.2.2 _ cm.2.1, S.2.2.2.2 _ cm.2.2.1⟩ hp rfl hn hsize hstack (lv_room hW) hdg hf
theorem wt_runSN (S : CallFix p m c cc nL s args lw_g own) (hnn : ∀ w ∈ lw_n, va_Nw w s) (hM : Met l y (wc_ws y bytes maxL ret) rm Pc Qc mc ms free) (cm : wc_SM y bytes maxL ret n) (hl : Cond.methodLinkNest own index y host ∈ lw_n) (hrm : rm.cells = mc ∧ rm.slots = ms) (hR : rm.frames + 1 ≤ R.frames ∧ 8 + (maxL + 11) + rm.locals ≤ R.locals) (hp : PreS s H Pc As)
    (hn : As.length = n) (hsize : ls.size = nL) (hstack : st = As.reverse ++ rest) (hW : (rest.map fun v => v.category).sum ≤ 8) (hdg : decode cc pc = .ok (.invokestatic index, 3)) (hf : cells + mc ≤ R.cells ∧ slots + ms ≤ R.slots) :
    va_Run p l e R s m args below meth c H locs cells slots mc ms (F0 m pc ls st) rest (Qc As.toArray) (free) :=
  va_runSN (ws := wc_ws y bytes maxL ret) (ret := ret) S hM ⟨va_cnB n S.2.2.2.2 (wc_good cm.1) rfl hrm.1 hrm.2 (hnn _ hl) (S.2.2.2.2 _ cm.2.2.1) cm.2.2.2 hR, S.2.2.2.2 _ cm.2.1, trivial⟩ hp rfl hn hsize hstack (lv_room hW) hdg hf
theorem wt_runIN (S : CallFix p m c cc nL s args lw_g own) (hnn : ∀ w ∈ lw_n, va_Nw w s) (hM : Met l y (wc_ws y bytes maxL none) rm Pc Qc mc ms free) (cm : wc_IM y bytes maxL n) (hl : Cond.methodLinkNest own index y host ∈ lw_n) (hrm : rm.cells = mc ∧ rm.slots = ms) (hR : rm.frames + 1 ≤ R.frames ∧ 8 + (maxL + 11) + rm.locals ≤ R.locals) (hp : PreS s H Pc (.ref b :: As))
    (hn : As.length = n) (hsize : ls.size = nL) (hstack : st = As.reverse ++ .ref b :: rest) (hW : (rest.map fun v => v.category).sum ≤ 8) (hdg : decode cc pc = .ok (.invokespecial index, 3)) (hf : cells + mc ≤ R.cells ∧ slots + ms ≤ R.slots) :
    va_Run p l e R s m args below meth c H locs cells slots mc ms (F0 m pc ls st) rest (Qc (Value.ref b :: As).toArray) (free) :=
  va_runIN (ws := wc_ws y bytes maxL none) S hM ⟨va_cnB n S.2.2.2.2 (wc_good cm.1) rfl hrm.1 hrm.2 (hnn _ hl) (S.2.2.2.2 _ cm.2.2.1) cm.2.2.2.2 hR, cm.2.2.2.1, S.2.2.2.2 _ cm.2.1⟩ hp rfl hn hsize hstack (lv_room hW) hdg hf
end WCR
/-! INTS IN A RANGE -/
abbrev ir (x : Int32) (lo hi : Int) : Prop := lo ≤ x.toInt ∧ x.toInt ≤ hi
abbrev lr (x : Int64) (lo hi : Int) : Prop := lo ≤ x.toInt ∧ x.toInt ≤ hi
theorem ir_any (x : Int32) : ir x (-2147483648) 2147483647 := by
  have h1 := Int32.le_toInt x
  have h2 := Int32.toInt_lt x
  constructor <;> omega
theorem lr_any (x : Int64) : lr x (-9223372036854775808) 9223372036854775807 := by
  have h1 := Int64.le_toInt x
  have h2 := Int64.toInt_lt x
  constructor <;> omega
theorem ir_w {x : Int32} {lo hi lo' hi' : Int} (h : ir x lo hi) (h1 : lo' ≤ lo) (h2 : hi ≤ hi') : ir x lo' hi' := ⟨by omega, by omega⟩
theorem lr_w {x : Int64} {lo hi lo' hi' : Int} (h : lr x lo hi) (h1 : lo' ≤ lo) (h2 : hi ≤ hi') : lr x lo' hi' := ⟨by omega, by omega⟩
theorem ir_in {x : Int32} {lo hi : Int} {n : Nat} (h : ir x lo hi) (h1 : 0 ≤ lo) (h2 : hi < n) : vp_in x n := vp_in_iff.mpr ⟨by omega, by omega⟩
theorem bm32 {x : Int} (h1 : -2147483648 ≤ x) (h2 : x ≤ 2147483647) : x.bmod (2 ^ 32) = x := Int.bmod_eq_of_le (by omega) (by omega)
theorem bm64 {x : Int} (h1 : -9223372036854775808 ≤ x) (h2 : x ≤ 9223372036854775807) : x.bmod (2 ^ 64) = x := Int.bmod_eq_of_le (by omega) (by omega)
theorem it_add {a b x : Int32} (e : x = a + b) {la ha lb hb : Int} (A : ir a la ha) (B : ir b lb hb) (h1 : -2147483648 ≤ la + lb) (h2 : ha + hb ≤ 2147483647) : x.toInt = a.toInt + b.toInt := by
  rw [e, Int32.toInt_add]; exact bm32 (by omega) (by omega)
theorem it_sub {a b x : Int32} (e : x = a - b) {la ha lb hb : Int} (A : ir a la ha) (B : ir b lb hb) (h1 : -2147483648 ≤ la - hb) (h2 : ha - lb ≤ 2147483647) : x.toInt = a.toInt - b.toInt := by
  rw [e, Int32.toInt_sub]; exact bm32 (by omega) (by omega)
theorem mul_bd {a b la ha lb hb : Int} (h0 : 0 ≤ la) (h1 : la ≤ a) (h2 : a ≤ ha) (h3 : 0 ≤ lb) (h4 : lb ≤ b) (h5 : b ≤ hb) : la * lb ≤ a * b ∧ a * b ≤ ha * hb :=
  ⟨Int.mul_le_mul h1 h4 h3 (by omega), Int.mul_le_mul h2 h5 (by omega) (by omega)⟩
theorem it_mul {a b x : Int32} (e : x = a * b) {la ha lb hb : Int} (A : ir a la ha) (B : ir b lb hb) (h0 : 0 ≤ la) (h1 : 0 ≤ lb) (h2 : ha * hb ≤ 2147483647) : x.toInt = a.toInt * b.toInt ∧ ir x (la * lb) (ha * hb) := by
  have hm := mul_bd h0 A.1 A.2 h1 B.1 B.2
  have h3 : 0 ≤ la * lb := Int.mul_nonneg h0 h1
  have : x.toInt = a.toInt * b.toInt := by rw [e, Int32.toInt_mul]; exact bm32 (by omega) (by omega)
  exact ⟨this, by rw [ir, this]; exact hm⟩
theorem ir_add {a b x : Int32} (e : x = a + b) {la ha lb hb : Int} (A : ir a la ha) (B : ir b lb hb) (h1 : -2147483648 ≤ la + lb) (h2 : ha + hb ≤ 2147483647) : ir x (la + lb) (ha + hb) := by
  have := it_add e A B h1 h2; constructor <;> omega
theorem ir_sub {a b x : Int32} (e : x = a - b) {la ha lb hb : Int} (A : ir a la ha) (B : ir b lb hb) (h1 : -2147483648 ≤ la - hb) (h2 : ha - lb ≤ 2147483647) : ir x (la - hb) (ha - lb) := by
  have := it_sub e A B h1 h2; constructor <;> omega
theorem ir_c (n : Int) {x : Int32} (e : x.toInt = n) : ir x n n := by constructor <;> omega
