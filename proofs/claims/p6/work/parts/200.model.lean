/-! THE REFERENCE'S WORLD: what holds between its fields and rows -/
/-- of two rows, no place of G holds two noughts -/
def gP (N : c_N) (tA tU len : Nat) (G : Nat → Prop) (H : Heap) : Prop := ∀ (aA aU : Nat) (fA fU : Nat → Value), N.2.2.1 aA = some tA → N.2.2.1 aU = some tU → H[aA]? = some (arrV (N.2.1 0) len fA) → H[aU]? = some (arrV (N.2.1 0) len fU) → ∀ j : Nat, j < len → G j → fA j ≠ .int 0 ∨ fU j ≠ .int 0
def aP (N : c_N) (t len : Nat) (Q : (Nat → Value) → Prop) (H : Heap) : Prop := ∀ (a : Nat) (f : Nat → Value), N.2.2.1 a = some t → H[a]? = some (arrV (N.2.1 0) len f) → Q f
abbrev pI (N : c_N) (o k : Nat) (x : Int32) (H : Heap) : Prop := wt_pin N.1 vwCl o 11 k (.int x) H
abbrev pL (N : c_N) (o k : Nat) (x : Int64) (H : Heap) : Prop := wt_pin N.1 vwCl o 11 k (.long x) H
def QL (N : c_N) (o : Nat) (H : Heap) : Prop := ∃ n : Int32, pI N o 7 n H ∧ gP N 43 44 25 (fun j => (j : Int) < n.toInt) H
def pG (n : Int32) (fM : Nat → Value) : Nat → Prop := fun j => ∃ m : Int32, ((j / 24 : Nat) : Int) < n.toInt ∧ fM (j / 24) = .int m ∧ ((j % 24 : Nat) : Int) < m.toInt
def QP (N : c_N) (o : Nat) (H : Heap) : Prop := ∃ n : Int32, pI N o 13 n H ∧ aP N 48 10 (fun fM => gP N 46 47 240 (pG n fM) H) H
def QR (N : c_N) (o : Nat) (H : Heap) : Prop := ∃ n : Int32, pI N o 26 n H ∧ gP N 52 53 24 (fun j => (j : Int) < n.toInt) H
def QB (N : c_N) (o : Nat) (H : Heap) : Prop := ∃ n k t : Int32, pI N o 26 n H ∧ pI N o 29 k H ∧ pI N o 31 t H ∧ (n.toInt ≤ 24 ∨ ¬ t = -1) ∧ aP N 55 4 (fun f => ∀ j : Nat, j < 4 → (j : Int) < k.toInt → ∃ m : Int32, f j = .int m ∧ m.toInt ≤ n.toInt) H
def detOK (a b c d : Int64) : Prop := lr a (-10000000) 10000000 ∧ lr b (-10000000) 10000000 ∧ lr c (-10000000) 10000000 ∧ lr d (-10000000) 10000000 ∧ 0 < a.toInt * d.toInt + b.toInt * c.toInt
def QM (N : c_N) (o : Nat) (H : Heap) : Prop := ∃ (a b c d : Int64) (f : Int32), pL N o 34 a H ∧ pL N o 35 b H ∧ pL N o 36 c H ∧ pL N o 37 d H ∧ pI N o 38 f H ∧ (¬ f = 0 → detOK a b c d)
/-- a predicate of the heap that speaks of the object's fields F and of the rows of the kinds T -/
def Fr (N : c_N) (o : Nat) (F T : List Nat) (P : Heap → Prop) : Prop := ∀ H H1 : Heap, (∀ k ∈ F, ∀ v : Value, wt_pin N.1 vwCl o 11 k v H → wt_pin N.1 vwCl o 11 k v H1) → (∀ a t : Nat, t ∈ T → N.2.2.1 a = some t → H1[a]? = H[a]?) → P H → P H1
theorem gP.fr {N : c_N} {tA tU len : Nat} {G : Nat → Prop} {H H1 : Heap} (h : gP N tA tU len G H) (hq : ∀ a t : Nat, t = tA ∨ t = tU → N.2.2.1 a = some t → H1[a]? = H[a]?) : gP N tA tU len G H1 :=
  fun aA aU fA fU k1 k2 h1 h2 => h aA aU fA fU k1 k2 (by rw [← hq aA tA (Or.inl rfl) k1]; exact h1) (by rw [← hq aU tU (Or.inr rfl) k2]; exact h2)
theorem gP.sub {N : c_N} {tA tU len : Nat} {G G' : Nat → Prop} {H : Heap} (h : gP N tA tU len G H) (hG : ∀ j, j < len → G' j → G j) : gP N tA tU len G' H :=
  fun aA aU fA fU k1 k2 h1 h2 j hj hg => h aA aU fA fU k1 k2 h1 h2 j hj (hG j hj hg)
theorem QL.fr {N : c_N} {o : Nat} : Fr N o [7] [43, 44] (QL N o) := by
  rintro H H1 hF hT ⟨n, h1, h2⟩
  exact ⟨n, hF 7 (by decide) _ h1, h2.fr (fun a t ht ka => hT a t (by rcases ht with rfl | rfl <;> decide) ka)⟩
theorem QP.fr {N : c_N} {o : Nat} : Fr N o [13] [46, 47, 48] (QP N o) := by
  rintro H H1 hF hT ⟨n, h1, h2⟩
  refine ⟨n, hF 13 (by decide) _ h1, fun a f ka hf => ?_⟩
  exact (h2 a f ka (by rw [← hT a 48 (by decide) ka]; exact hf)).fr (fun a t ht ka => hT a t (by rcases ht with rfl | rfl <;> decide) ka)
theorem QR.fr {N : c_N} {o : Nat} : Fr N o [26] [52, 53] (QR N o) := by
  rintro H H1 hF hT ⟨n, h1, h2⟩
  exact ⟨n, hF 26 (by decide) _ h1, h2.fr (fun a t ht ka => hT a t (by rcases ht with rfl | rfl <;> decide) ka)⟩
theorem QB.fr {N : c_N} {o : Nat} : Fr N o [26, 29, 31] [55] (QB N o) := by
  rintro H H1 hF hT ⟨n, k, t, h1, h2, h4, h5, h3⟩
  exact ⟨n, k, t, hF 26 (by decide) _ h1, hF 29 (by decide) _ h2, hF 31 (by decide) _ h4, h5, fun a f ka hf => h3 a f ka (by rw [← hT a 55 (by decide) ka]; exact hf)⟩
theorem QM.fr {N : c_N} {o : Nat} : Fr N o [34, 35, 36, 37, 38] [] (QM N o) := by
  rintro H H1 hF hT ⟨a, b, c, d, f, h1, h2, h3, h4, h5, h6⟩
  exact ⟨a, b, c, d, f, hF 34 (by decide) _ h1, hF 35 (by decide) _ h2, hF 36 (by decide) _ h3, hF 37 (by decide) _ h4, hF 38 (by decide) _ h5, h6⟩
def mI (N : c_N) (o : Nat) (H : Heap) : Prop := QL N o H ∧ QP N o H ∧ QR N o H ∧ QB N o H ∧ QM N o H
theorem Fr.sub {N : c_N} {o : Nat} {F T F' T' : List Nat} {P : Heap → Prop} (h : Fr N o F T P) (hF : ∀ k ∈ F, k ∈ F') (hT : ∀ k ∈ T, k ∈ T') : Fr N o F' T' P := fun H H1 h1 h2 => h H H1 (fun k hk => h1 k (hF k hk)) (fun a t ht => h2 a t (hT t ht))
theorem Fr.and {N : c_N} {o : Nat} {F T : List Nat} {P Q : Heap → Prop} (h : Fr N o F T P) (h' : Fr N o F T Q) : Fr N o F T (fun H => P H ∧ Q H) := fun H H1 h1 h2 h3 => ⟨h H H1 h1 h2 h3.1, h' H H1 h1 h2 h3.2⟩
abbrev mF : List Nat := [7, 13, 26, 29, 31, 34, 35, 36, 37, 38]
abbrev mT : List Nat := [43, 44, 46, 47, 48, 52, 53, 55]
theorem mI.fr {N : c_N} {o : Nat} : Fr N o mF mT (mI N o) := by
  have h1 : Fr N o mF mT (QL N o) := QL.fr.sub (by decide) (by decide)
  have h2 : Fr N o mF mT (QP N o) := QP.fr.sub (by decide) (by decide)
  have h3 : Fr N o mF mT (QR N o) := QR.fr.sub (by decide) (by decide)
  have h4 : Fr N o mF mT (QB N o) := QB.fr.sub (by decide) (by decide)
  have h5 : Fr N o mF mT (QM N o) := QM.fr.sub (by decide) (by decide)
  exact h1.and (h2.and (h3.and (h4.and h5)))
theorem Fr.put {N : c_N} {o k : Nat} {F T : List Nat} {P : Heap → Prop} {H H1 : Heap} (h : Fr N o F T P) (hP : P H) (ko : N.2.2.1 o = some 11) (oq : ∀ q : Nat, q ≠ o → H1[q]? = H[q]?) (o2 : ∀ (j : Nat) (w : Value), j ≠ k → j < 57 → wt_pin N.1 vwCl o 11 j w H → wt_pin N.1 vwCl o 11 j w H1) (hk : ∀ j ∈ F, j ≠ k ∧ j < 57) (hT : ∀ t ∈ T, t ≠ 11) : P H1 :=
  h H H1 (fun j hj v hp => o2 j v (hk j hj).1 (hk j hj).2 hp) (fun a t ht ka => oq a (ne_kind ka ko (hT t ht))) hP
theorem Fr.arr {N : c_N} {o a u : Nat} {F T : List Nat} {P : Heap → Prop} {H H1 : Heap} (h : Fr N o F T P) (hP : P H) (ko : N.2.2.1 o = some 11) (ka : N.2.2.1 a = some u) (oq : ∀ q : Nat, q ≠ a → H1[q]? = H[q]?) (hu : 11 ≠ u) (hT : ∀ t ∈ T, t ≠ u) : P H1 :=
  h H H1 (fun j hj v hp => hp.kept (oq o (ne_kind ko ka hu))) (fun b t ht kb => oq b (ne_kind kb ka (hT t ht))) hP
theorem Fr.same {N : c_N} {o : Nat} {F T : List Nat} {P : Heap → Prop} {H H1 : Heap} (h : Fr N o F T P) (hP : P H) (hW : cW N H) (oq : ∀ q : Nat, q < H.size → ¬ cE N [] q → H1[q]? = H[q]?) : P H1 :=
  h H H1 (fun j hj v hp => hp.kept (oq _ hp.lt (cE_nil _))) (fun b t ht kb => oq b (hW b _ (cg kb rfl)).lt (cE_nil _)) hP
theorem mI_at {N : c_N} {o : Nat} {t : State} {H : Heap} (ht : t.heap = H) (h : mI N o H) : mI N o t.heap := by rw [ht]; exact h
/-- the reference's rows lie once each; its indices are 1 to 9 -/
def mOK (N : c_N) : Prop := (∀ a b t : Nat, 40 ≤ t → N.2.2.1 a = some t → N.2.2.1 b = some t → a = b) ∧ ∀ a j : Nat, (N.2.2.1 a = some 40 ∨ N.2.2.1 a = some 41) → j < 6 → ir (N.2.2.2 a j) 1 9
theorem mOK_r {N : c_N} (h : mOK N) {a : Nat} {i x : Int32} (ka : N.2.2.1 a = some 40 ∨ N.2.2.1 a = some 41) (hi : vp_in i 6) (e : x = N.2.2.2 a i.toNatClampNeg) : ir x 1 9 := by
  rw [e]; exact h.2 a _ ka (Nat.not_le.mp fun q => hi (Or.inr q))
abbrev cMi2 (l : Launch) (y : MethodName) (b : ByteArray) (n : Nat) (r : FieldType) (rm : Room) (As : List Value) (N : c_N) (S : List Nat) (B : Heap → Prop) (post : Int32 → Prop) (B2 : Int32 → Heap → Prop) : Prop := Met l y (wc_ws y b n (some r)) rm (va_Pc As (cSp N B)) (va_Qi (fun r (u : Int32) => r = u ∧ post r) (fun u t => cW N t.heap ∧ B2 u t.heap) (cE N S)) 0 0 (cE N S)
abbrev cMl2 (l : Launch) (y : MethodName) (b : ByteArray) (n : Nat) (r : FieldType) (rm : Room) (As : List Value) (N : c_N) (S : List Nat) (B : Heap → Prop) (post : Int64 → Prop) (B2 : Int64 → Heap → Prop) : Prop := Met l y (wc_ws y b n (some r)) rm (va_Pc As (cSp N B)) (va_Ql (fun r (u : Int64) => r = u ∧ post r) (fun u t => cW N t.heap ∧ B2 u t.heap) (cE N S)) 0 0 (cE N S)
section CC2
variable {p : Program} {l : Launch} {e : Env} {R : Room} {s : State} {m : MethodId} {args : Array Value} {below : List Frame} {meth : Method} {c : Code} {H : Heap} {locs : List Loc} {cells slots : Nat} {Q : State → Prop}
variable {pc : Nat} {ls : Array Slot} {rest st0 : List Value} {a : Array Value} {H0 : Heap} {N : c_N} {S S' : List Nat}
theorem cc_i2 {post : Int32 → Prop} {B2 : Int32 → Heap → Prop} (hr : va_Run p l e R s m args below meth c H locs cells slots 0 0 (F0 m pc ls st0) rest (va_Qi (fun r (u : Int32) => r = u ∧ post r) (fun u t => cW N t.heap ∧ B2 u t.heap) (cE N S') a) (cE N S')) (hS : va_S (cE N S) H0 H locs) (hsub : ∀ t ∈ S', t ∈ S)
    (kk : ∀ (r : Int32) (H1 : Heap) (locs1 : List Loc), post r → cW N H1 → va_S (cE N S) H0 H1 locs1 → (∀ q : Nat, q < H.size → ¬ cE N S' q → H1[q]? = H[q]?) → B2 r H1 → W p l e R s m args below meth c H1 locs1 cells slots Q (F0 m (pc + 3) ls (.int r :: rest))) : W p l e R s m args below meth c H locs cells slots Q (F0 m pc ls st0) :=
  va_calli hr hS (fun q _ h => cE_sub hsub q h) (fun q h => cE_sub hsub q h) (fun r u _ H1 locs1 ht _ hp hB _ hk hS1 => kk r H1 locs1 hp.2 (by rw [← ht]; exact hB.1) hS1 hk (by rw [← ht, hp.1]; exact hB.2))
theorem cc_l2 {post : Int64 → Prop} {B2 : Int64 → Heap → Prop} (hr : va_Run p l e R s m args below meth c H locs cells slots 0 0 (F0 m pc ls st0) rest (va_Ql (fun r (u : Int64) => r = u ∧ post r) (fun u t => cW N t.heap ∧ B2 u t.heap) (cE N S') a) (cE N S')) (hS : va_S (cE N S) H0 H locs) (hsub : ∀ t ∈ S', t ∈ S)
    (kk : ∀ (r : Int64) (H1 : Heap) (locs1 : List Loc), post r → cW N H1 → va_S (cE N S) H0 H1 locs1 → (∀ q : Nat, q < H.size → ¬ cE N S' q → H1[q]? = H[q]?) → B2 r H1 → W p l e R s m args below meth c H1 locs1 cells slots Q (F0 m (pc + 3) ls (.long r :: rest))) : W p l e R s m args below meth c H locs cells slots Q (F0 m pc ls st0) :=
  va_calll hr hS (fun q _ h => cE_sub hsub q h) (fun q h => cE_sub hsub q h) (fun r u _ H1 locs1 ht _ hp hB _ hk hS1 => kk r H1 locs1 hp.2 (by rw [← ht]; exact hB.1) hS1 hk (by rw [← ht, hp.1]; exact hB.2))
end CC2
section WLP
variable {p : Program} {l : Launch} {e : Env} {R : Room} {s : State} {m : MethodId} {args : Array Value} {below : List Frame} {meth : Method} {c : Code} {H : Heap} {locs : List Loc} {cells slots : Nat} {Q : State → Prop}
variable {cc : ByteArray} {pc : Nat} {ls : Array Slot} {rest : List Value} {D : va_G} {cl : List vw_C} {A : Nat → Prop} {a : Nat} {tys : List (ClassId × FieldType)} {G : Nat → Option wt_E} {H0 : Heap}
theorem wt_lastp (hexec : p.tables.exec = Jvm.exec) (hb : c.code = cc) (hK : va_K D cl tys s) (hW : wt_P D cl G H) (hS : va_S A H0 H locs) (t0 : Nat) {cA : ClassId} {n : Nat} {P : Nat → Value → Prop} (hq : G a = some (.inr (cA, n, P))) (hA : A a) (ht : tys[t0]? = some (cA, .long)) {i : Int32} {x : Int64} (hin : vp_in i n) (hv : P i.toNatClampNeg (.long x)) (hdg : decode cc pc = .ok (.lastore, 1))
    (kk : ∀ (H1 : Heap) (locs1 : List Loc), wt_P D cl G H1 → va_S A H0 H1 locs1 → (∀ q : Nat, q ≠ a → H1[q]? = H[q]?) → W p l e R s m args below meth c H1 locs1 cells slots Q (F0 m (pc + 1) ls rest)) : W p l e R s m args below meth c H locs cells slots Q (F0 m pc ls (.long x :: .int i :: .ref a :: rest)) := by
  obtain ⟨f, q1, q2⟩ := hW a _ hq
  refine W.last hexec hb q1 ((hK.2 t0 _ ht).1 n f) (fun q => by cases q) (by show ¬ (i < 0 ∨ (arrV _ _ _).slots.size ≤ _); rw [arrV_size]; exact hin) rfl rfl hdg fun H1 e z oq => ?_
  exact kk H1 _ ((hW.up (wt_astored q2 e) oq).keepA hq hv) (hS.put z oq hA) oq
end WLP
