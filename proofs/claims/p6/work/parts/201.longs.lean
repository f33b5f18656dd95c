/-! longs by their numbers -/
theorem lt_add {a b x : Int64} (e : x = a + b) {la ha lb hb : Int} (A : lr a la ha) (B : lr b lb hb) (h1 : -9223372036854775808 ≤ la + lb) (h2 : ha + hb ≤ 9223372036854775807) : x.toInt = a.toInt + b.toInt := by
  rw [e, Int64.toInt_add]; exact bm64 (by omega) (by omega)
theorem lt_sub {a b x : Int64} (e : x = a - b) {la ha lb hb : Int} (A : lr a la ha) (B : lr b lb hb) (h1 : -9223372036854775808 ≤ la - hb) (h2 : ha - lb ≤ 9223372036854775807) : x.toInt = a.toInt - b.toInt := by
  rw [e, Int64.toInt_sub]; exact bm64 (by omega) (by omega)
theorem abs_mul_le {a b m1 m2 : Int} (h1 : -m1 ≤ a) (h2 : a ≤ m1) (h3 : -m2 ≤ b) (h4 : b ≤ m2) : -(m1 * m2) ≤ a * b ∧ a * b ≤ m1 * m2 := by
  have k1 : a.natAbs ≤ m1.natAbs := by omega
  have k2 : b.natAbs ≤ m2.natAbs := by omega
  have k3 : (a * b).natAbs ≤ (m1 * m2).natAbs := by
    rw [Int.natAbs_mul, Int.natAbs_mul]; exact Nat.mul_le_mul k1 k2
  have k4 : 0 ≤ m1 * m2 := Int.mul_nonneg (by omega) (by omega)
  omega
theorem lt_mul {a b x : Int64} (e : x = a * b) {la ha lb hb : Int} (A : lr a la ha) (B : lr b lb hb) (m1 m2 : Int) (h1 : -m1 ≤ la) (h2 : ha ≤ m1) (h3 : -m2 ≤ lb) (h4 : hb ≤ m2) (h5 : m1 * m2 ≤ 9223372036854775807) : x.toInt = a.toInt * b.toInt ∧ lr x (-(m1 * m2)) (m1 * m2) := by
  have hm := abs_mul_le (a := a.toInt) (b := b.toInt) (m1 := m1) (m2 := m2) (by omega) (by omega) (by omega) (by omega)
  have : x.toInt = a.toInt * b.toInt := by rw [e, Int64.toInt_mul]; exact bm64 (by omega) (by omega)
  exact ⟨this, by rw [lr, this]; exact hm⟩
theorem lt_mulp {a b x : Int64} (e : x = a * b) {la ha lb hb : Int} (A : lr a la ha) (B : lr b lb hb) (h0 : 0 ≤ la) (h1 : 0 ≤ lb) (h2 : ha * hb ≤ 9223372036854775807) : x.toInt = a.toInt * b.toInt ∧ lr x (la * lb) (ha * hb) := by
  have hm := mul_bd h0 A.1 A.2 h1 B.1 B.2
  have h3 : 0 ≤ la * lb := Int.mul_nonneg h0 h1
  have : x.toInt = a.toInt * b.toInt := by rw [e, Int64.toInt_mul]; exact bm64 (by omega) (by omega)
  exact ⟨this, by rw [lr, this]; exact hm⟩
theorem lr_add {a b x : Int64} (e : x = a + b) {la ha lb hb lo hi : Int} (A : lr a la ha) (B : lr b lb hb) (h1 : -9223372036854775808 ≤ la + lb) (h2 : ha + hb ≤ 9223372036854775807) (h3 : lo = la + lb) (h4 : hi = ha + hb) : lr x lo hi := by
  have := lt_add e A B h1 h2; constructor <;> omega
theorem lr_sub {a b x : Int64} (e : x = a - b) {la ha lb hb lo hi : Int} (A : lr a la ha) (B : lr b lb hb) (h1 : -9223372036854775808 ≤ la - hb) (h2 : ha - lb ≤ 9223372036854775807) (h3 : lo = la - hb) (h4 : hi = ha - lb) : lr x lo hi := by
  have := lt_sub e A B h1 h2; constructor <;> omega
theorem lt_div {a b x : Int64} (e : x = a / b) (hb : ¬ b = 0) {la ha : Int} (A : lr a la ha) (h : -9223372036854775808 < la) : x.toInt = a.toInt.tdiv b.toInt := by
  rw [e]; exact l_div hb (Or.inl (by omega))
theorem lr_div {a b x : Int64} (e : x = a / b) (hb : ¬ b = 0) {la ha : Int} (A : lr a la ha) (h : -9223372036854775808 < la) (m : Int) (h1 : -m ≤ la) (h2 : ha ≤ m) : lr x (-m) m := by
  have h3 := lt_div e hb A h
  have h4 : (a.toInt.tdiv b.toInt).natAbs ≤ a.toInt.natAbs := by rw [Int.natAbs_tdiv]; exact Nat.div_le_self _ _
  constructor <;> omega
/-! gcd -/
theorem gcd_bd {a b : Int64} {r : Int64} (h : r.toInt = ((Int.gcd a.toInt b.toInt : Nat) : Int)) : 0 ≤ r.toInt := by omega
theorem gcd_ne {a b : Int64} {r : Int64} (h : r.toInt = ((Int.gcd a.toInt b.toInt : Nat) : Int)) (hn : a.toInt ≠ 0 ∨ b.toInt ≠ 0) : r.toInt ≠ 0 := by
  intro h0
  have : Int.gcd a.toInt b.toInt = 0 := by omega
  rw [Int.gcd_eq_zero_iff] at this
  omega
theorem gcd_dl {a b : Int64} {r : Int64} (h : r.toInt = ((Int.gcd a.toInt b.toInt : Nat) : Int)) : r.toInt ∣ a.toInt := by rw [h]; exact Int.gcd_dvd_left _ _
theorem gcd_dr {a b : Int64} {r : Int64} (h : r.toInt = ((Int.gcd a.toInt b.toInt : Nat) : Int)) : r.toInt ∣ b.toInt := by rw [h]; exact Int.gcd_dvd_right _ _
theorem div_ex {a b : Int} (h : b ∣ a) : a = b * a.tdiv b := (Int.mul_tdiv_cancel' h).symm
theorem lt_neg {x a : Int64} (e : x = -a) {la ha : Int} (A : lr a la ha) (h0 : -9223372036854775808 < la) : x.toInt = -a.toInt := by
  have ha := lr_any a
  rw [e, Int64.toInt_neg]; exact bm64 (by omega) (by omega)
