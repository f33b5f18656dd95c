/-! CONTRACTS of the class's methods: S, the kinds of cells that a method may write; B, what it asks of the heap beside the world -/
def cE (N : c_N) (S : List Nat) : Nat → Prop := fun q => ∃ t : Nat, t ∈ S ∧ N.2.2.1 q = some t
theorem ce {N : c_N} {S : List Nat} {a t : Nat} (h : N.2.2.1 a = some t) (ht : t ∈ S) : cE N S a := ⟨t, ht, h⟩
theorem cE_not {N : c_N} {S : List Nat} {a t : Nat} (h : N.2.2.1 a = some t) (ht : t ∉ S) : ¬ cE N S a := by
  rintro ⟨u, h1, h2⟩
  rw [h] at h2
  exact ht (by rw [Option.some.inj h2]; exact h1)
theorem cE_sub {N : c_N} {S S' : List Nat} (h : ∀ t ∈ S', t ∈ S) (q : Nat) (hq : cE N S' q) : cE N S q := by
  obtain ⟨t, h1, h2⟩ := hq
  exact ⟨t, h t h1, h2⟩
theorem cE_cA {N : c_N} {S : List Nat} (q : Nat) (hq : cE N S q) : cA N q := by
  obtain ⟨t, _, h2⟩ := hq
  exact ⟨t, h2⟩
def cSp (N : c_N) (B : Heap → Prop) (U : State) : Prop := cS N U ∧ B U.heap
theorem cSp_blind (N : c_N) (B : Heap → Prop) (As : List Value) : FrameBlind (va_Pc As (cSp N B)) := by
  intro a U g mk q
  exact ⟨q.1, (cS_blind N As a U g mk ⟨q.1, q.2.1⟩).2, q.2.2⟩
theorem cS_preS {N : c_N} {s : State} {H : Heap} {locs : List Loc} {As : List Value} {S : List Nat} {B : Heap → Prop} (hK : va_K N.1 vwCl (ctys N) s) (hW : cW N H) (hT : cT (cA N) s s.heap) (hnn : ∀ w ∈ lw_n, va_Nw w s) (hS : va_S (cE N S) s.heap H locs) (hB : B H) : PreS s H (va_Pc As (cSp N B)) As :=
  ⟨cSp_blind N B As, fun U hU hw => ⟨rfl, cS_at hK hW hT hnn (hS.up cE_cA) U hU hw, by rw [hU]; exact hB⟩⟩
theorem cS_preV {N : c_N} {s : State} {H : Heap} {locs : List Loc} {As : List Value} {S : List Nat} {B : Heap → Prop} {b ci : Nat} {P : Nat → Value → Prop} {q : vw_C} {C : String} (hK : va_K N.1 vwCl (ctys N) s) (hW : cW N H) (hT : cT (cA N) s s.heap) (hnn : ∀ w ∈ lw_n, va_Nw w s) (hS : va_S (cE N S) s.heap H locs) (hq : cG N b = some (.inl (ci, P))) (hc : vwCl[ci]? = some q) (hC : q.1 = C) (hB : B H) : PreV s H C b (va_Pc (.ref b :: As) (cSp N B)) As :=
  ⟨cSp_blind N B _, by rw [← hC]; exact wt_recv hK hW hq hc, fun U hU hw => ⟨rfl, cS_at hK hW hT hnn (hS.up cE_cA) U hU hw, by rw [hU]; exact hB⟩⟩
abbrev cT0 : Heap → Prop := fun _ => True
abbrev cMv (l : Launch) (y : MethodName) (b : ByteArray) (n : Nat) (rm : Room) (As : List Value) (N : c_N) (S : List Nat) (B : Heap → Prop) (B2 : Heap → Prop) : Prop := Met l y (wc_ws y b n none) rm (va_Pc As (cSp N B)) (va_Qv (fun _ : Unit => True) (fun _ t => cW N t.heap ∧ B2 t.heap) (cE N S)) 0 0 (cE N S)
abbrev cMi (l : Launch) (y : MethodName) (b : ByteArray) (n : Nat) (r : FieldType) (rm : Room) (As : List Value) (N : c_N) (S : List Nat) (B : Heap → Prop) (post : Int32 → Prop) : Prop := Met l y (wc_ws y b n (some r)) rm (va_Pc As (cSp N B)) (va_Qi (fun r (_ : Unit) => post r) (fun _ t => cW N t.heap) (cE N S)) 0 0 (cE N S)
abbrev cMl (l : Launch) (y : MethodName) (b : ByteArray) (n : Nat) (r : FieldType) (rm : Room) (As : List Value) (N : c_N) (S : List Nat) (B : Heap → Prop) (post : Int64 → Prop) : Prop := Met l y (wc_ws y b n (some r)) rm (va_Pc As (cSp N B)) (va_Ql (fun r (_ : Unit) => post r) (fun _ t => cW N t.heap) (cE N S)) 0 0 (cE N S)
abbrev cMr (l : Launch) (y : MethodName) (b : ByteArray) (n : Nat) (r : FieldType) (rm : Room) (As : List Value) (N : c_N) (S : List Nat) (B : Heap → Prop) (t : Nat) : Prop := Met l y (wc_ws y b n (some r)) rm (va_Pc As (cSp N B)) (va_Qr (fun _ : Unit => True) (fun _ a u => N.2.2.1 a = some t ∧ cW N u.heap) (cE N S)) 0 0 (cE N S)
section CCC
variable {p : Program} {l : Launch} {e : Env} {R : Room} {s : State} {m : MethodId} {args : Array Value} {below : List Frame} {meth : Method} {c : Code} {H : Heap} {locs : List Loc} {cells slots : Nat} {Q : State → Prop}
variable {pc : Nat} {ls : Array Slot} {rest st0 : List Value} {a : Array Value} {H0 : Heap} {N : c_N} {S S' : List Nat} {B2 : Heap → Prop}
theorem cc_v {post : Unit → Prop} (hr : va_Run p l e R s m args below meth c H locs cells slots 0 0 (F0 m pc ls st0) rest (va_Qv post (fun _ t => cW N t.heap ∧ B2 t.heap) (cE N S') a) (cE N S')) (hS : va_S (cE N S) H0 H locs) (hsub : ∀ t ∈ S', t ∈ S)
    (kk : ∀ (H1 : Heap) (locs1 : List Loc), cW N H1 → va_S (cE N S) H0 H1 locs1 → (∀ q : Nat, q < H.size → ¬ cE N S' q → H1[q]? = H[q]?) → B2 H1 → W p l e R s m args below meth c H1 locs1 cells slots Q (F0 m (pc + 3) ls rest)) : W p l e R s m args below meth c H locs cells slots Q (F0 m pc ls st0) :=
  va_callv hr hS (fun q _ h => cE_sub hsub q h) (fun q h => cE_sub hsub q h) (fun _ _ H1 locs1 ht _ _ hB _ hk hS1 => kk H1 locs1 (by rw [← ht]; exact hB.1) hS1 hk (by rw [← ht]; exact hB.2))
theorem cc_i {post : Int32 → Unit → Prop} (hr : va_Run p l e R s m args below meth c H locs cells slots 0 0 (F0 m pc ls st0) rest (va_Qi post (fun _ t => cW N t.heap) (cE N S') a) (cE N S')) (hS : va_S (cE N S) H0 H locs) (hsub : ∀ t ∈ S', t ∈ S)
    (kk : ∀ (r : Int32) (H1 : Heap) (locs1 : List Loc), post r () → cW N H1 → va_S (cE N S) H0 H1 locs1 → (∀ q : Nat, q < H.size → ¬ cE N S' q → H1[q]? = H[q]?) → W p l e R s m args below meth c H1 locs1 cells slots Q (F0 m (pc + 3) ls (.int r :: rest))) : W p l e R s m args below meth c H locs cells slots Q (F0 m pc ls st0) :=
  va_calli hr hS (fun q _ h => cE_sub hsub q h) (fun q h => cE_sub hsub q h) (fun r _ _ H1 locs1 ht _ hp hB _ hk hS1 => kk r H1 locs1 hp (by rw [← ht]; exact hB) hS1 hk)
theorem cc_l {post : Int64 → Unit → Prop} (hr : va_Run p l e R s m args below meth c H locs cells slots 0 0 (F0 m pc ls st0) rest (va_Ql post (fun _ t => cW N t.heap) (cE N S') a) (cE N S')) (hS : va_S (cE N S) H0 H locs) (hsub : ∀ t ∈ S', t ∈ S)
    (kk : ∀ (r : Int64) (H1 : Heap) (locs1 : List Loc), post r () → cW N H1 → va_S (cE N S) H0 H1 locs1 → (∀ q : Nat, q < H.size → ¬ cE N S' q → H1[q]? = H[q]?) → W p l e R s m args below meth c H1 locs1 cells slots Q (F0 m (pc + 3) ls (.long r :: rest))) : W p l e R s m args below meth c H locs cells slots Q (F0 m pc ls st0) :=
  va_calll hr hS (fun q _ h => cE_sub hsub q h) (fun q h => cE_sub hsub q h) (fun r _ _ H1 locs1 ht _ hp hB _ hk hS1 => kk r H1 locs1 hp (by rw [← ht]; exact hB) hS1 hk)
theorem cc_r {post : Unit → Prop} {t : Nat} (hr : va_Run p l e R s m args below meth c H locs cells slots 0 0 (F0 m pc ls st0) rest (va_Qr post (fun _ a u => N.2.2.1 a = some t ∧ cW N u.heap) (cE N S') a) (cE N S')) (hS : va_S (cE N S) H0 H locs) (hsub : ∀ t ∈ S', t ∈ S)
    (kk : ∀ (q : Nat) (H1 : Heap) (locs1 : List Loc), N.2.2.1 q = some t → cW N H1 → va_S (cE N S) H0 H1 locs1 → (∀ q : Nat, q < H.size → ¬ cE N S' q → H1[q]? = H[q]?) → W p l e R s m args below meth c H1 locs1 cells slots Q (F0 m (pc + 3) ls (.ref q :: rest))) : W p l e R s m args below meth c H locs cells slots Q (F0 m pc ls st0) :=
  va_callr hr hS (fun q _ h => cE_sub hsub q h) (fun q h => cE_sub hsub q h) (fun _ q _ H1 locs1 ht _ _ hB _ hk hS1 => kk q H1 locs1 hB.1 (by rw [← ht]; exact hB.2) hS1 hk)
theorem cp_i {post : Int32 → Unit → Prop} (hr : va_Run p l e R s m args below meth c H locs cells slots 0 0 (F0 m pc ls st0) rest (va_Qi post (fun _ _ => True) (fun _ => False) a) (fun _ => False)) (hW : cW N H) (hS : va_S (cE N S) H0 H locs)
    (kk : ∀ (r : Int32) (H1 : Heap) (locs1 : List Loc), post r () → cW N H1 → va_S (cE N S) H0 H1 locs1 → (∀ q : Nat, q < H.size → ¬ cE N [] q → H1[q]? = H[q]?) → W p l e R s m args below meth c H1 locs1 cells slots Q (F0 m (pc + 3) ls (.int r :: rest))) : W p l e R s m args below meth c H locs cells slots Q (F0 m pc ls st0) :=
  va_calli hr hS (fun _ _ h => h.elim) (fun _ h => h.elim) (fun r _ _ H1 locs1 _ _ hp _ _ hk hS1 => kk r H1 locs1 hp (hW.call hk (fun _ _ _ h => h)) hS1 (fun q hq _ => hk q hq (fun h => h)))
theorem cp_l {post : Int64 → Unit → Prop} (hr : va_Run p l e R s m args below meth c H locs cells slots 0 0 (F0 m pc ls st0) rest (va_Ql post (fun _ _ => True) (fun _ => False) a) (fun _ => False)) (hW : cW N H) (hS : va_S (cE N S) H0 H locs)
    (kk : ∀ (r : Int64) (H1 : Heap) (locs1 : List Loc), post r () → cW N H1 → va_S (cE N S) H0 H1 locs1 → (∀ q : Nat, q < H.size → ¬ cE N [] q → H1[q]? = H[q]?) → W p l e R s m args below meth c H1 locs1 cells slots Q (F0 m (pc + 3) ls (.long r :: rest))) : W p l e R s m args below meth c H locs cells slots Q (F0 m pc ls st0) :=
  va_calll hr hS (fun _ _ h => h.elim) (fun _ h => h.elim) (fun r _ _ H1 locs1 _ _ hp _ _ hk hS1 => kk r H1 locs1 hp (hW.call hk (fun _ _ _ h => h)) hS1 (fun q hq _ => hk q hq (fun h => h)))
end CCC
theorem rf_nel {a b : Int32} {la ha lo : Int} (c : ¬ a = b) (A : ir a la ha) (hb : b.toInt = la) (hl : lo = la + 1) : ir a lo ha := by
  have h := A.1
  refine ⟨?_, A.2⟩
  rcases Int.lt_or_eq_of_le h with h1 | h1
  · omega
  · exact absurd (Int32.toInt_inj.mp (by rw [← h1, hb])) c
theorem cE_nil {N : c_N} (q : Nat) : ¬ cE N [] q := by
  rintro ⟨t, h, -⟩
  exact List.not_mem_nil h
theorem pin_at {D : va_G} {cl : List vw_C} {a ci k : Nat} {v : Value} {t : State} {H : Heap} (ht : t.heap = H) (h : wt_pin D cl a ci k v H) : wt_pin D cl a ci k v t.heap := by rw [ht]; exact h
/-- what peek() answers in this heap -/
def pk (N : c_N) (h0 : Nat) (r : Int32) (H : Heap) : Prop := ∃ (x8 x1 : Int32) (q : Nat) (f : Nat → Value), wt_pin N.1 vwCl h0 9 8 (.int x8) H ∧ wt_pin N.1 vwCl h0 9 1 (.int x1) H ∧ wt_pin N.1 vwCl h0 9 0 (.ref q) H ∧ H[q]? = some (arrV (N.2.1 0) 200 f) ∧ ((0 ≤ x8.toInt ∧ x8.toInt < x1.toInt ∧ x8.toInt < 200) → f x8.toNatClampNeg = .int r) ∧ (¬ (0 ≤ x8.toInt ∧ x8.toInt < x1.toInt ∧ x8.toInt < 200) → r = -1)
theorem pk.kept {N : c_N} {h0 : Nat} {r : Int32} {H H1 : Heap} (h : pk N h0 r H) (hq : ∀ q : Nat, q < H.size → H1[q]? = H[q]?) : pk N h0 r H1 := by
  obtain ⟨x8, x1, q, f, h1, h2, h3, h4, h5, h6⟩ := h
  exact ⟨x8, x1, q, f, h1.kept (hq _ h1.lt), h2.kept (hq _ h2.lt), h3.kept (hq _ h3.lt), by rw [hq q (Array.getElem?_eq_some_iff.mp h4).1]; exact h4, h5, h6⟩
theorem pk_ex {N : c_N} {h0 : Nat} {H : Heap} (hW : cW N H) (k0 : N.2.2.1 h0 = some 9) : ∃ r : Int32, pk N h0 r H ∧ ir r (-1) 255 := by
  obtain ⟨v8, p8, n8⟩ := cpin hW (cg9 k0) rfl 8 (by decide)
  obtain ⟨v1, p1, n1⟩ := cpin hW (cg9 k0) rfl 1 (by decide)
  obtain ⟨v0, p0, n0⟩ := cpin hW (cg9 k0) rfl 0 (by decide)
  obtain ⟨x8, rfl⟩ : ga v8 := p8
  obtain ⟨x1, rfl, -⟩ : gi 0 200 v1 := p1
  obtain ⟨q, rfl, kq⟩ : gr N 21 v0 := p0
  obtain ⟨f, qf, pf⟩ := hW q _ (cg21 kq)
  by_cases hc : 0 ≤ x8.toInt ∧ x8.toInt < x1.toInt ∧ x8.toInt < 200
  · have hcl := (ir_clamp (a := x8) (la := 0) (ha := 199) ⟨hc.1, by omega⟩ (by decide)).1
    obtain ⟨r, e, rr⟩ : gi 0 255 (f x8.toNatClampNeg) := pf x8.toNatClampNeg (by show _ < 200; omega)
    exact ⟨r, ⟨x8, x1, q, f, n8, n1, n0, qf, fun _ => e, fun h => absurd hc h⟩, by constructor <;> omega⟩
  · exact ⟨-1, ⟨x8, x1, q, f, n8, n1, n0, qf, fun h => absurd h hc, fun _ => rfl⟩, by decide⟩
theorem i2l_b {x : Int64} {a : Int32} (e : x = a.toInt64) {lo hi : Int} (h : lr x lo hi) : ir a lo hi := by
  have h : lo ≤ x.toInt ∧ x.toInt ≤ hi := h
  rw [e, Int32.toInt_toInt64] at h
  exact h
