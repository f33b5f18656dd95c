/-! a layer's numbers, and what they do to a row's -/
theorem layer_nz {u v re tu : Int} (hu : 1 ≤ u) (hv : 1 ≤ v) (h : re ≠ 0 ∨ tu ≠ 0) : u * v * (re * re - tu * tu) ≠ 0 ∨ 2 * v * v * tu * re ≠ 0 := by
  have huv : u * v ≠ 0 := Int.mul_ne_zero (by omega) (by omega)
  by_cases hr : re = 0
  · have ht : tu ≠ 0 := by
      rcases h with h | h
      · exact absurd hr h
      · exact h
    have h1 := sq_pos ht
    exact Or.inl (Int.mul_ne_zero huv (by rw [hr]; omega))
  · by_cases ht : tu = 0
    · have h1 := sq_pos hr
      exact Or.inl (Int.mul_ne_zero huv (by rw [ht]; omega))
    · exact Or.inr (Int.mul_ne_zero (Int.mul_ne_zero (Int.mul_ne_zero (Int.mul_ne_zero (by decide) (by omega)) (by omega)) ht) hr)
theorem layer_det {u v re tu : Int} (hu : 1 ≤ u) (hv : 1 ≤ v) (h : re ≠ 0 ∨ tu ≠ 0) : 0 < (u * v * (re * re - tu * tu)) * (u * v * (re * re - tu * tu)) + (2 * v * v * tu * re) * (2 * u * u * tu * re) := by
  have e : (u * v * (re * re - tu * tu)) * (u * v * (re * re - tu * tu)) + (2 * v * v * tu * re) * (2 * u * u * tu * re) = (u * v * (re * re + tu * tu)) * (u * v * (re * re + tu * tu)) := by grind
  rw [e]
  refine sq_pos (Int.mul_ne_zero (Int.mul_ne_zero (by omega) (by omega)) ?_)
  have h1 := sq_nonneg re
  have h2 := sq_nonneg tu
  rcases h with h | h
  · have := sq_pos h; omega
  · have := sq_pos h; omega
theorem pos_scaled {a b c d g a' b' c' d' : Int} (ha : a = g * a') (hb : b = g * b') (hc : c = g * c') (hd : d = g * d') (h : 0 < a * d + b * c) : 0 < a' * d' + b' * c' := by
  have e : a * d + b * c = (g * g) * (a' * d' + b' * c') := by rw [ha, hb, hc, hd]; grind
  rw [e] at h
  rcases (show 0 < a' * d' + b' * c' ∨ a' * d' + b' * c' ≤ 0 by omega) with h1 | h1
  · exact h1
  · exfalso
    have h2 := sq_nonneg g
    have h3 : (g * g) * (a' * d' + b' * c') ≤ 0 := Int.mul_nonpos_of_nonneg_of_nonpos h2 h1
    omega
theorem det_mul {a b c d x y z : Int} (h1 : 0 < a * d + b * c) (h2 : 0 < x * x + y * z) : 0 < (a * x - b * z) * (d * x - c * y) + (a * y + b * x) * (c * x + d * z) := by
  have e : (a * x - b * z) * (d * x - c * y) + (a * y + b * x) * (c * x + d * z) = (a * d + b * c) * (x * x + y * z) := by grind
  rw [e]
  exact Int.mul_pos h1 h2
theorem nz4 {a b c d : Int} (h : 0 < a * d + b * c) : (a ≠ 0 ∨ b ≠ 0) ∨ (c ≠ 0 ∨ d ≠ 0) := by
  by_cases ha : a = 0
  · by_cases hb : b = 0
    · rw [ha, hb] at h
      omega
    · exact Or.inl (Or.inr hb)
  · exact Or.inl (Or.inl ha)
theorem qdiv {a g q : Int64} (h : q.toInt = a.toInt.tdiv g.toInt) (hd : g.toInt ∣ a.toInt) : a.toInt = g.toInt * q.toInt := by
  rw [h]; exact div_ex hd
/-! light -/
theorem all_pos {u v x y a b c d : Int} (hu : 1 ≤ u) (hv : 1 ≤ v) (hx : 1 ≤ x) (hy : 1 ≤ y) (h : 0 < a * d + b * c) : 0 < (u * y * a + v * x * d) * (u * y * a + v * x * d) + (u * x * b + v * y * c) * (u * x * b + v * y * c) := by
  have e : (u * y * a + v * x * d) * (u * y * a + v * x * d) + (u * x * b + v * y * c) * (u * x * b + v * y * c) = ((u * y * a - v * x * d) * (u * y * a - v * x * d) + (u * x * b - v * y * c) * (u * x * b - v * y * c)) + 4 * (u * v * x * y * (a * d + b * c)) := by grind
  have h1 := sq_nonneg (u * y * a - v * x * d)
  have h2 := sq_nonneg (u * x * b - v * y * c)
  have h3 : 0 < u * v * x * y * (a * d + b * c) := Int.mul_pos (Int.mul_pos (Int.mul_pos (Int.mul_pos (by omega) (by omega)) (by omega)) (by omega)) h
  omega
theorem quo_pos {a g q : Int} (h : a = g * q) (ha : 0 < a) (hg : 0 < g) : 1 ≤ q := by
  rcases (show 1 ≤ q ∨ q ≤ 0 by omega) with h1 | h1
  · exact h1
  · exfalso
    have : g * q ≤ 0 := Int.mul_nonpos_of_nonneg_of_nonpos (by omega) h1
    omega
theorem quo_nn {a g q : Int} (h : a = g * q) (ha : 0 ≤ a) (hg : 0 < g) : 0 ≤ q := by
  rcases (show 0 ≤ q ∨ q ≤ -1 by omega) with h1 | h1
  · exact h1
  · exfalso
    have h2 : g * q ≤ g * (-1) := Int.mul_le_mul_of_nonneg_left h1 (by omega)
    omega
