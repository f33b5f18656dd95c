/-! the parts of a tangent at a mark -/
theorem nrm_step (r t p q : Int) : (r * q - t * p) * (r * q - t * p) + (r * p + t * q) * (r * p + t * q) = (r * r + t * t) * (q * q + p * p) := by grind
theorem sq_nonneg (a : Int) : 0 ≤ a * a := by
  rcases Int.le_total 0 a with h | h
  · exact Int.mul_nonneg h h
  · have := Int.mul_nonneg (a := -a) (b := -a) (by omega) (by omega)
    rwa [Int.neg_mul_neg] at this
theorem sq_le {a m : Int} (h0 : -m ≤ a) (h1 : a ≤ m) : a * a ≤ m * m := (abs_mul_le h0 h1 h0 h1).2
theorem sq_pos {a : Int} (h : a ≠ 0) : 0 < a * a := by
  rcases Int.lt_or_eq_of_le (sq_nonneg a) with h1 | h1
  · exact h1
  · rcases Int.mul_eq_zero.mp h1.symm with h2 | h2 <;> exact absurd h2 h
theorem le_of_sq {a m : Int} (hm : 0 ≤ m) (h : a * a ≤ m * m) : -m ≤ a ∧ a ≤ m := by
  rcases (show m < a ∨ a ≤ m by omega) with h1 | h1
  · exfalso
    have h2 : (m + 1) * (m + 1) ≤ a * a := Int.mul_le_mul (by omega) (by omega) (by omega) (by omega)
    have h3 : (m + 1) * (m + 1) = m * m + 2 * m + 1 := by grind
    omega
  · rcases (show a < -m ∨ -m ≤ a by omega) with h4 | h4
    · exfalso
      have h2 : (m + 1) * (m + 1) ≤ (-a) * (-a) := Int.mul_le_mul (by omega) (by omega) (by omega) (by omega)
      have h3 : (m + 1) * (m + 1) = m * m + 2 * m + 1 := by grind
      rw [Int.neg_mul_neg] at h2
      omega
    · exact ⟨h4, h1⟩
theorem n_pos {p q : Int} (hp : 0 ≤ p) (hp2 : p ≤ 78) (hq : 0 ≤ q) (hq2 : q ≤ 78) (hz : p ≠ 0 ∨ q ≠ 0) : 0 < q * q + p * p ∧ q * q + p * p ≤ 12168 := by
  have h1 := sq_nonneg p
  have h2 := sq_nonneg q
  have h3 := sq_le (a := p) (m := 78) (by omega) hp2
  have h4 := sq_le (a := q) (m := 78) (by omega) hq2
  refine ⟨?_, by omega⟩
  rcases hz with h | h
  · have := sq_pos h; omega
  · have := sq_pos h; omega
theorem M_step {M n C : Int} (h0 : 0 < M) (h1 : M ≤ C) (h2 : 0 < n) (h3 : n ≤ 12168) : 0 < M * n ∧ M * n ≤ C * 12168 :=
  ⟨Int.mul_pos h0 h2, Int.mul_le_mul h1 h3 (by omega) (by omega)⟩
def mkOK (re tu : Int64) : Prop := lr re (-148060224) 148060224 ∧ lr tu (-148060224) 148060224 ∧ (re.toInt ≠ 0 ∨ tu.toInt ≠ 0)
theorem mk_fin {re tu re0 tu0 g : Int64} {M : Int} (hM : re0.toInt * re0.toInt + tu0.toInt * tu0.toInt = M) (h0 : 0 < M) (h1 : M ≤ 12168 * 12168 * 12168 * 12168) (hr : re.toInt = re0.toInt.tdiv g.toInt) (ht : tu.toInt = tu0.toInt.tdiv g.toInt) (d1 : g.toInt ∣ re0.toInt) (d2 : g.toInt ∣ tu0.toInt) : mkOK re tu := by
  have hr2 := sq_nonneg re0.toInt
  have ht2 := sq_nonneg tu0.toInt
  have b1 := le_of_sq (a := re0.toInt) (m := 148060224) (by decide) (by omega)
  have b2 := le_of_sq (a := tu0.toInt) (m := 148060224) (by decide) (by omega)
  have e1 := div_ex d1
  have e2 := div_ex d2
  rw [← hr] at e1
  rw [← ht] at e2
  have c1 : re.toInt.natAbs ≤ re0.toInt.natAbs := by rw [hr, Int.natAbs_tdiv]; exact Nat.div_le_self _ _
  have c2 : tu.toInt.natAbs ≤ tu0.toInt.natAbs := by rw [ht, Int.natAbs_tdiv]; exact Nat.div_le_self _ _
  refine ⟨⟨by omega, by omega⟩, ⟨by omega, by omega⟩, ?_⟩
  by_cases hz : re.toInt = 0
  · refine Or.inr (fun hz2 => ?_)
    rw [hz, Int.mul_zero] at e1
    rw [hz2, Int.mul_zero] at e2
    rw [e1, e2] at hM
    omega
  · exact Or.inl hz
theorem nz_of {r t M : Int} (h : r * r + t * t = M) (h0 : 0 < M) : r ≠ 0 ∨ t ≠ 0 := by
  by_cases hr : r = 0
  · refine Or.inr (fun ht => ?_)
    rw [hr, ht] at h
    omega
  · exact Or.inl hr
theorem det_unit : detOK 1 0 0 1 := by
  refine ⟨?_, ?_, ?_, ?_, ?_⟩ <;> decide
/-! which fields of the object a method leaves as they are -/
def kp (N : c_N) (o : Nat) (F : List Nat) (V : Nat → Value) (H : Heap) : Prop := ∀ k : Nat, k < 57 → k ∉ F → wt_pin N.1 vwCl o 11 k (V k) H
theorem pin_inj {N : c_N} {o k : Nat} {v w : Value} {H : Heap} (hk : k < 57) (h : wt_pin N.1 vwCl o 11 k v H) (h' : wt_pin N.1 vwCl o 11 k w H) : v = w := by
  obtain ⟨r, V, h1, ⟨cell, q1, q2, q3, q4⟩, h3⟩ := h
  obtain ⟨r', V', g1, ⟨cell', s1, s2, s3, s4⟩, g3⟩ := h'
  have hr : r = (RX11, TX11, 57) := Option.some.inj (h1.symm.trans rfl)
  have hr' : r' = (RX11, TX11, 57) := Option.some.inj (g1.symm.trans rfl)
  subst hr; subst hr'
  cases q1.symm.trans s1
  rw [← h3, ← g3]
  exact Option.some.inj ((q4 k hk).symm.trans (s4 k hk))
theorem kp_all {N : c_N} {o : Nat} {H : Heap} (hW : cW N H) (ko : N.2.2.1 o = some 11) : ∃ V : Nat → Value, ∀ k : Nat, k < 57 → wt_pin N.1 vwCl o 11 k (V k) H := by
  obtain ⟨r, V, h1, h2, h3⟩ := hW o _ (cg11 ko)
  exact ⟨V, fun k _ => ⟨r, V, h1, h2, rfl⟩⟩
theorem kp.put {N : c_N} {o k : Nat} {F : List Nat} {V : Nat → Value} {H H1 : Heap} (h : kp N o F V H) (hk : k ∈ F) (o2 : ∀ (j : Nat) (w : Value), j ≠ k → j < 57 → wt_pin N.1 vwCl o 11 j w H → wt_pin N.1 vwCl o 11 j w H1) : kp N o F V H1 :=
  fun j hj hn => o2 j _ (fun e => hn (by rw [e]; exact hk)) hj (h j hj hn)
theorem kp.keep {N : c_N} {o : Nat} {F : List Nat} {V : Nat → Value} {H H1 : Heap} (h : kp N o F V H) (hq : H1[o]? = H[o]?) : kp N o F V H1 :=
  fun j hj hn => (h j hj hn).kept hq
theorem kp.same {N : c_N} {o : Nat} {F : List Nat} {V : Nat → Value} {H H1 : Heap} (h : kp N o F V H) (hW : cW N H) (ko : N.2.2.1 o = some 11) (oq : ∀ q : Nat, q < H.size → ¬ cE N [] q → H1[q]? = H[q]?) : kp N o F V H1 :=
  h.keep (oq o (hW o _ (cg11 ko)).lt (cE_nil _))
theorem kp_call {N : c_N} {o : Nat} {F F' : List Nat} {V V' : Nat → Value} {H H1 : Heap} (h : kp N o F V H) (ha : ∀ k : Nat, k < 57 → wt_pin N.1 vwCl o 11 k (V' k) H) (h' : kp N o F' V' H1) (hF : ∀ k ∈ F', k ∈ F) : kp N o F V H1 := by
  intro k hk hn
  rw [pin_inj hk (h k hk hn) (ha k hk)]
  exact h' k hk (fun z => hn (hF k z))
theorem kp_use {N : c_N} {o k : Nat} {F' : List Nat} {V' : Nat → Value} {H H1 : Heap} {v : Value} (ha : ∀ k : Nat, k < 57 → wt_pin N.1 vwCl o 11 k (V' k) H) (h' : kp N o F' V' H1) (hk : k < 57) (hn : k ∉ F') (hp : wt_pin N.1 vwCl o 11 k v H) : wt_pin N.1 vwCl o 11 k v H1 := by
  rw [pin_inj hk hp (ha k hk)]
  exact h' k hk hn
theorem kp_at {N : c_N} {o : Nat} {F : List Nat} {V : Nat → Value} {t : State} {H : Heap} (ht : t.heap = H) (h : kp N o F V H) : kp N o F V t.heap := by rw [ht]; exact h
theorem kp_of {N : c_N} {o : Nat} {F : List Nat} {V : Nat → Value} {H : Heap} (ha : ∀ k : Nat, k < 57 → wt_pin N.1 vwCl o 11 k (V k) H) : kp N o F V H := fun k hk _ => ha k hk
