/-! the parts of a tangent at a mark -/
theorem nrm_step (r t p q : Int) : (r * q - t * p) * (r * q - t * p) + (r * p + t * q) * (r * p + t * q) = (r * r + t * t) * (q * q + p * p) := by grind
theorem sq_nonneg (a : Int) : 0 ≤ a * a := by
  rcases Int.le_total 0 a with h | h
  · exact Int.mul_nonneg h h
  · have := Int.mul_nonneg (a := -a) (b := -a) (by omega) (by omega)
    rwa [Int.neg_mul_neg] at this
theorem sq_le {a m : Int} (h0 : -m ≤ a) (h1 : a ≤ m) : a * a ≤ m * m := (abs_mul_le h0 h1 h0 h1).2
theorem sq_pos {a : Int} (h : a ≠ 0) : 0 < a * a := by
  rcases Int.lt_or_eq_of_le (sq_nonneg a) with h1 | h1
  · exact h1
  · rcases Int.mul_eq_zero.mp h1.symm with h2 | h2 <;> exact absurd h2 h
theorem le_of_sq {a m : Int} (hm : 0 ≤ m) (h : a * a ≤ m * m) : -m ≤ a ∧ a ≤ m := by
  rcases (show m < a ∨ a ≤ m by omega) with h1 | h1
  · exfalso
    have h2 : (m + 1) * (m + 1) ≤ a * a := Int.mul_le_mul (by omega) (by omega) (by omega) (by omega)
    have h3 : (m + 1) * (m + 1) = m * m + 2 * m + 1 := by grind
    omega
  · rcases (show a < -m ∨ -m ≤ a by omega) with h4 | h4
    · exfalso
      have h2 : (m + 1) * (m + 1) ≤ (-a) * (-a) := Int.mul_le_mul (by omega) (by omega) (by omega) (by omega)
      have h3 : (m + 1) * (m + 1) = m * m + 2 * m + 1 := by grind
      rw [Int.neg_mul_neg] at h2
      omega
    · exact ⟨h4, h1⟩
theorem n_pos {p q : Int} (hp : 0 ≤ p) (hp2 : p ≤ 78) (hq : 0 ≤ q) (hq2 : q ≤ 78) (hz : p ≠ 0 ∨ q ≠ 0) : 0 < q * q + p * p ∧ q * q + p * p ≤ 12168 := by
  have h1 := sq_nonneg p
  have h2 := sq_nonneg q
  have h3 := sq_le (a := p) (m := 78) (by omega) hp2
  have h4 := sq_le (a := q) (m := 78) (by omega) hq2
  refine ⟨?_, by omega⟩
  rcases hz with h | h
  · have := sq_pos h; omega
  · have := sq_pos h; omega
theorem M_step {M n C : Int} (h0 : 0 < M) (h1 : M ≤ C) (h2 : 0 < n) (h3 : n ≤ 12168) : 0 < M * n ∧ M * n ≤ C * 12168 :=
  ⟨Int.mul_pos h0 h2, Int.mul_le_mul h1 h3 (by omega) (by omega)⟩
def mkOK (re tu : Int64) : Prop := lr re (-148060224) 148060224 ∧ lr tu (-148060224) 148060224 ∧ (re.toInt ≠ 0 ∨ tu.toInt ≠ 0)
theorem mk_fin {re tu re0 tu0 g : Int64} {M : Int} (hM : re0.toInt * re0.toInt + tu0.toInt * tu0.toInt = M) (h0 : 0 < M) (h1 : M ≤ 12168 * 12168 * 12168 * 12168) (hr : re.toInt = re0.toInt.tdiv g.toInt) (ht : tu.toInt = tu0.toInt.tdiv g.toInt) (d1 : g.toInt ∣ re0.toInt) (d2 : g.toInt ∣ tu0.toInt) : mkOK re tu := by
  have hr2 := sq_nonneg re0.toInt
  have ht2 := sq_nonneg tu0.toInt
  have b1 := le_of_sq (a := re0.toInt) (m := 148060224) (by decide) (by omega)
  have b2 := le_of_sq (a := tu0.toInt) (m := 148060224) (by decide) (by omega)
  have e1 := div_ex d1
  have e2 := div_ex d2
  rw [← hr] at e1
  rw [← ht] at e2
  have c1 : re.toInt.natAbs ≤ re0.toInt.natAbs := by rw [hr, Int.natAbs_tdiv]; exact Nat.div_le_self _ _
  have c2 : tu.toInt.natAbs ≤ tu0.toInt.natAbs := by rw [ht, Int.natAbs_tdiv]; exact Nat.div_le_self _ _
  refine ⟨⟨by omega, by omega⟩, ⟨by omega, by omega⟩, ?_⟩
  by_cases hz : re.toInt = 0
  · refine Or.inr (fun hz2 => ?_)
    rw [hz, Int.mul_zero] at e1
    rw [hz2, Int.mul_zero] at e2
    rw [e1, e2] at hM
    omega
  · exact Or.inl hz
theorem nz_of {r t M : Int} (h : r * r + t * t = M) (h0 : 0 < M) : r ≠ 0 ∨ t ≠ 0 := by
  by_cases hr : r = 0
  · refine Or.inr (fun ht => ?_)
    rw [hr, ht] at h
    omega
  · exact Or.inl hr
theorem det_unit : detOK 1 0 0 1 := by
  refine ⟨?_, ?_, ?_, ?_, ?_⟩ <;> decide
