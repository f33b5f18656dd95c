/-! pairs of rows under stores and calls -/
theorem row_exi {N : c_N} {H : Heap} (hW : cW N H) {a n : Nat} {P : Nat → Value → Prop} (hq : cG N a = some (.inr (N.2.1 0, n, P))) : ∃ f : Nat → Value, H[a]? = some (arrV (N.2.1 0) n f) := by
  obtain ⟨f, q1, -⟩ := hW a _ hq
  exact ⟨f, q1⟩
theorem ap_of {cA : ClassId} {n a i : Nat} {v : Value} {f : Nat → Value} {H : Heap} (h : H[a]? = some (arrV cA n (updV f i v))) : wt_ap cA n a i v H := ⟨_, h, if_pos rfl⟩
theorem gP.stA {N : c_N} {tA tU len : Nat} {G : Nat → Prop} {H H1 : Heap} (h : gP N tA tU len G H) (hO : mOK N) (h40 : 40 ≤ tA) (hne : tU ≠ tA) {a i : Nat} {v : Value} {f : Nat → Value} (ka : N.2.2.1 a = some tA) (hf : H[a]? = some (arrV (N.2.1 0) len f)) (hf1 : H1[a]? = some (arrV (N.2.1 0) len (updV f i v))) (oq : ∀ q : Nat, q ≠ a → H1[q]? = H[q]?) : gP N tA tU len (fun j => G j ∧ j ≠ i) H1 := by
  intro aA aU fA fU k1 k2 h1 h2 j hj hg
  have e := hO.1 aA a tA h40 k1 ka
  subst e
  have e2 : fA j = f j := by
    rw [arrV_inj (Option.some.inj (h1.symm.trans hf1)) hj]; exact if_neg hg.2
  rw [e2]
  exact h aA aU f fU k1 k2 hf (by rw [← oq aU (ne_kind k2 k1 hne)]; exact h2) j hj hg.1
theorem gP.stU {N : c_N} {tA tU len : Nat} {G : Nat → Prop} {H H1 : Heap} (h : gP N tA tU len G H) (hO : mOK N) (h40 : 40 ≤ tU) (hne : tA ≠ tU) {a i : Nat} {v : Value} {f : Nat → Value} (ka : N.2.2.1 a = some tU) (hf : H[a]? = some (arrV (N.2.1 0) len f)) (hf1 : H1[a]? = some (arrV (N.2.1 0) len (updV f i v))) (oq : ∀ q : Nat, q ≠ a → H1[q]? = H[q]?) : gP N tA tU len (fun j => G j ∧ j ≠ i) H1 := by
  intro aA aU fA fU k1 k2 h1 h2 j hj hg
  have e := hO.1 aU a tU h40 k2 ka
  subst e
  have e2 : fU j = f j := by
    rw [arrV_inj (Option.some.inj (h2.symm.trans hf1)) hj]; exact if_neg hg.2
  rw [e2]
  exact h aA aU fA f k1 k2 (by rw [← oq aA (ne_kind k1 k2 hne)]; exact h1) hf j hj hg.1
theorem gP.ins {N : c_N} {tA tU len : Nat} {G : Nat → Prop} {H : Heap} (h : gP N tA tU len G H) (hO : mOK N) (hA40 : 40 ≤ tA) (hU40 : 40 ≤ tU) {aA aU i i' : Nat} {x y : Int32} (kA : N.2.2.1 aA = some tA) (kU : N.2.2.1 aU = some tU) (hA : wt_ap (N.2.1 0) len aA i (.int x) H) (hU : wt_ap (N.2.1 0) len aU i' (.int y) H) (ei : i' = i) (hz : x.toInt ≠ 0 ∨ y.toInt ≠ 0) : gP N tA tU len (fun j => G j ∨ j = i) H := by
  subst ei
  intro bA bU fA fU k1 k2 h1 h2 j hj hg
  by_cases hji : j = i'
  · have e := hO.1 bA aA tA hA40 k1 kA
    have e' := hO.1 bU aU tU hU40 k2 kU
    subst e; subst e'
    obtain ⟨gA, q1, r1⟩ := hA
    obtain ⟨gU, q2, r2⟩ := hU
    rw [arrV_inj (Option.some.inj (h1.symm.trans q1)) hj, arrV_inj (Option.some.inj (h2.symm.trans q2)) hj, hji, r1, r2]
    rcases hz with h5 | h5
    · exact Or.inl (fun z => h5 (by rw [Value.int.inj z]; rfl))
    · exact Or.inr (fun z => h5 (by rw [Value.int.inj z]; rfl))
  · exact h bA bU fA fU k1 k2 h1 h2 j hj (hg.resolve_right hji)
theorem gP.put {N : c_N} {tA tU len : Nat} {G : Nat → Prop} {H H1 : Heap} (h : gP N tA tU len G H) {a u : Nat} (ka : N.2.2.1 a = some u) (oq : ∀ q : Nat, q ≠ a → H1[q]? = H[q]?) (hA : tA ≠ u) (hU : tU ≠ u) : gP N tA tU len G H1 :=
  h.fr (fun b t ht kb => oq b (ne_kind kb ka (by rcases ht with rfl | rfl; exact hA; exact hU)))
theorem gP.same {N : c_N} {tA tU len : Nat} {G : Nat → Prop} {H H1 : Heap} (h : gP N tA tU len G H) {S : List Nat} (hW : cW N H) (oq : ∀ q : Nat, q < H.size → ¬ cE N S q → H1[q]? = H[q]?) (hA : tA ∉ S) (hU : tU ∉ S) : gP N tA tU len G H1 :=
  h.fr (fun b t ht kb => oq b (hW_lt hW kb) (cE_not kb (by rcases ht with rfl | rfl; exact hA; exact hU)))
theorem gP_at {N : c_N} {tA tU len : Nat} {G : Nat → Prop} {t : State} {H : Heap} (ht : t.heap = H) (h : gP N tA tU len G H) : gP N tA tU len G t.heap := by rw [ht]; exact h
theorem Fr.kcall {N : c_N} {o : Nat} {F T FX S : List Nat} {V1 : Nat → Value} {P : Heap → Prop} {H H1 : Heap} (h : Fr N o F T P) (hP : P H) (hW : cW N H) (ha : ∀ k : Nat, k < 57 → wt_pin N.1 vwCl o 11 k (V1 k) H) (h' : kp N o FX V1 H1) (oq : ∀ q : Nat, q < H.size → ¬ cE N S q → H1[q]? = H[q]?) (hF : ∀ k ∈ F, k < 57 ∧ k ∉ FX) (hT : ∀ t ∈ T, t ∉ S) : P H1 :=
  h H H1 (fun k hk v hp => kp_use ha h' (hF k hk).1 (hF k hk).2 hp) (fun a t ht ka => oq a (hW_lt hW ka) (cE_not ka (hT t ht))) hP
theorem QL_gp {N : c_N} {o : Nat} {H : Heap} {n : Int32} (h : QL N o H) (hn : pI N o 7 n H) : gP N 43 44 25 (fun j => (j : Int) < n.toInt) H := by
  obtain ⟨m, h1, h2⟩ := h
  cases pin_inj (by decide) h1 hn
  exact h2
theorem QR_gp {N : c_N} {o : Nat} {H : Heap} {n : Int32} (h : QR N o H) (hn : pI N o 26 n H) : gP N 52 53 24 (fun j => (j : Int) < n.toInt) H := by
  obtain ⟨m, h1, h2⟩ := h
  cases pin_inj (by decide) h1 hn
  exact h2
theorem gP_all {N : c_N} {tA tU len : Nat} {G G' : Nat → Prop} {H : Heap} (h : gP N tA tU len G H) (hG : ∀ j, j < len → G' j → G j) : gP N tA tU len G' H := h.sub hG
def aB (N : c_N) (n k : Int) (H : Heap) : Prop := aP N 55 4 (fun f => ∀ j : Nat, j < 4 → (j : Int) < k → ∃ m : Int32, f j = .int m ∧ m.toInt ≤ n) H
theorem QB_aB {N : c_N} {o : Nat} {H : Heap} (h : QB N o H) {n k : Int32} (hn : pI N o 26 n H) (hk : pI N o 29 k H) : aB N n.toInt k.toInt H := by
  obtain ⟨m, l, u, h1, h2, h3, h4, h5⟩ := h
  cases pin_inj (by decide) h1 hn
  cases pin_inj (by decide) h2 hk
  exact h5
theorem QB_rel {N : c_N} {o : Nat} {H : Heap} (h : QB N o H) {n t : Int32} (hn : pI N o 26 n H) (ht : pI N o 31 t H) : n.toInt ≤ 24 ∨ ¬ t = -1 := by
  obtain ⟨m, l, u, h1, h2, h3, h4, h5⟩ := h
  cases pin_inj (by decide) h1 hn
  cases pin_inj (by decide) h3 ht
  exact h4
theorem QB_mk {N : c_N} {o : Nat} {H : Heap} {n k t : Int32} (hn : pI N o 26 n H) (hk : pI N o 29 k H) (ht : pI N o 31 t H) (hr : n.toInt ≤ 24 ∨ ¬ t = -1) (hB : aB N n.toInt k.toInt H) : QB N o H := ⟨n, k, t, hn, hk, ht, hr, hB⟩
theorem aB.fr {N : c_N} {n k : Int} {H H1 : Heap} (h : aB N n k H) {a u : Nat} (ka : N.2.2.1 a = some u) (oq : ∀ q : Nat, q ≠ a → H1[q]? = H[q]?) (hu : 55 ≠ u) : aB N n k H1 :=
  fun b f kb hf => h b f kb (by rw [← oq b (ne_kind kb ka hu)]; exact hf)
theorem aB.same {N : c_N} {n k : Int} {H H1 : Heap} (h : aB N n k H) {S : List Nat} (hW : cW N H) (oq : ∀ q : Nat, q < H.size → ¬ cE N S q → H1[q]? = H[q]?) (hu : 55 ∉ S) : aB N n k H1 :=
  fun b f kb hf => h b f kb (by rw [← oq b (hW_lt hW kb) (cE_not kb hu)]; exact hf)
theorem aB.mono {N : c_N} {n k n' k' : Int} {H : Heap} (h : aB N n k H) (h1 : n ≤ n') (h2 : k' ≤ k) : aB N n' k' H := by
  intro b f kb hf j hj hjk
  obtain ⟨m, e1, e2⟩ := h b f kb hf j hj (by omega)
  exact ⟨m, e1, by omega⟩
theorem aB.none {N : c_N} {n k : Int} {H : Heap} (h : k ≤ 0) : aB N n k H := fun _ _ _ _ j _ hj => by omega
theorem aB.get {N : c_N} {n k : Int} {H : Heap} (h : aB N n k H) {i x : Int32} {a : Nat} (ka : N.2.2.1 a = some 55) (hx : wt_ap (N.2.1 0) 4 a i.toNatClampNeg (.int x) H) {lo hi : Int} (I : ir i lo hi) (h0 : 0 ≤ lo) (h1 : hi < 4) (hlt : i.toInt < k) : x.toInt ≤ n := by
  obtain ⟨f, q, e⟩ := hx
  have hc := (ir_clamp I h0).1
  obtain ⟨y, e1, e2⟩ := h a f ka q i.toNatClampNeg (by omega) (by omega)
  rw [e] at e1
  cases e1
  exact e2
theorem aB.st {N : c_N} {n k : Int} {H H1 : Heap} (h : aB N n k H) (hO : mOK N) {a : Nat} (ka : N.2.2.1 a = some 55) {f : Nat → Value} {i x : Int32} (hf : H[a]? = some (arrV (N.2.1 0) 4 f)) (hf1 : H1[a]? = some (arrV (N.2.1 0) 4 (updV f i.toNatClampNeg (.int x)))) {lo hi : Int} (I : ir i lo hi) (h0 : 0 ≤ lo) (hi : i.toInt = k) (hx : x.toInt ≤ n) : aB N n (k + 1) H1 := by
  intro b g kb hg j hj hjk
  have e := hO.1 b a 55 (by decide) kb ka
  subst e
  have hc := (ir_clamp I h0).1
  rw [arrV_inj (Option.some.inj (hg.symm.trans hf1)) hj]
  by_cases hji : j = i.toNatClampNeg
  · exact ⟨x, if_pos hji, hx⟩
  · obtain ⟨y, e1, e2⟩ := h b f ka hf j hj (by omega)
    exact ⟨y, (if_neg hji).trans e1, e2⟩
theorem wt_ap.st {cA : ClassId} {n a i j : Nat} {v w : Value} {H H1 : Heap} (h : wt_ap cA n a j v H) (hat : ∀ f : Nat → Value, H[a]? = some (arrV cA n f) → H1[a]? = some (arrV cA n (updV f i w))) (hne : j ≠ i) : wt_ap cA n a j v H1 := by
  obtain ⟨f, h1, h2⟩ := h
  exact ⟨_, hat f h1, (if_neg hne).trans h2⟩
theorem it_min {x a b : Int32} (e : x = if b < a then b else a) : (x.toInt = a.toInt ∧ a.toInt ≤ b.toInt) ∨ (x.toInt = b.toInt ∧ b.toInt ≤ a.toInt) := by
  by_cases h : b < a
  · rw [if_pos h] at e
    have := Int32.lt_iff_toInt_lt.mp h
    rw [e]; omega
  · rw [if_neg h] at e
    have := Int32.le_iff_toInt_le.mp (Int32.not_lt.mp h)
    rw [e]; omega
theorem ne_m1 {x : Int32} {lo hi : Int} (A : ir x lo hi) (h : 0 ≤ lo) : ¬ x = -1 := by
  intro e
  rw [e] at A
  have h2 : (-1 : Int32).toInt = -1 := by decide
  have := A.1
  omega
theorem gcd_le6 {a b r : Int64} {lo hi lo' hi' m : Int} (h : r.toInt = ((Int.gcd a.toInt b.toInt : Nat) : Int)) (A : lr a lo hi) (B : lr b lo' hi') (h0 : 0 ≤ lo) (h0' : 0 ≤ lo') (h1 : hi ≤ m) (h1' : hi' ≤ m) (hz : a.toInt ≠ 0 ∨ b.toInt ≠ 0) : lr r 1 m := by
  have hne := gcd_ne h hz
  have h2 := gcd_bd h
  refine ⟨by omega, ?_⟩
  rcases hz with hz | hz
  · have := Int.le_of_dvd (by omega) (gcd_dl h); omega
  · have := Int.le_of_dvd (by omega) (gcd_dr h); omega
theorem it_div {x a b : Int32} (e : x = a / b) {la ha lb hb : Int} (A : ir a la ha) (B : ir b lb hb) (h0 : 0 ≤ la) (h1 : 1 ≤ lb) : x.toInt = a.toInt.tdiv b.toInt := by
  have ht : (a.toInt.tdiv b.toInt) = a.toInt / b.toInt := Int.tdiv_eq_ediv_of_nonneg (by omega)
  have hx := ir_any a
  have h2 : 0 ≤ a.toInt / b.toInt := Int.ediv_nonneg (by omega) (by omega)
  have h3 : a.toInt / b.toInt ≤ a.toInt := Int.ediv_le_self _ (by omega)
  rw [e, Int32.toInt_div, ht]; exact bm32 (by omega) (by omega)
theorem lays_nz {a b x y : Int32} {g : Int} (hx : x.toInt = a.toInt.tdiv g) (hy : y.toInt = b.toInt.tdiv g) (da : g ∣ a.toInt) (db : g ∣ b.toInt) (hz : a.toInt ≠ 0 ∨ b.toInt ≠ 0) : x.toInt ≠ 0 ∨ y.toInt ≠ 0 := by
  have e1 := div_ex da
  have e2 := div_ex db
  rw [← hx] at e1
  rw [← hy] at e2
  exact div_hz e1 e2 hz
theorem rf_neu {a b : Int32} {la ha hi : Int} (c : ¬ a = b) (A : ir a la ha) (hb : b.toInt = ha) (hl : hi = ha - 1) : ir a la hi := by
  have h := A.2
  refine ⟨A.1, ?_⟩
  rcases Int.lt_or_eq_of_le h with h1 | h1
  · omega
  · exact absurd (Int32.toInt_inj.mp (by rw [h1, hb])) c
