def mSn (a b : Int32) : Nat := (mS a b).toNat
theorem mSn_lt {a b : Int32} {lo hi : Int} (A : ir a lo hi) (h : 0 ≤ lo) : ((mSn a b : Nat) : Int) < 202 := by
  have := mS_lt (b := b) A h
  unfold mSn; omega
theorem mSn_step {a b a' x y : Int32} {n : Nat} (hb : b = 0) (h : a.toInt ≤ a'.toInt) (hd : a'.toInt < x.toInt ∨ ¬ y = 0) (rx : ir x 0 200) (ra : ir a' 0 200) (mu : ((mSn a b : Nat) : Int) < ((n + 1 : Nat) : Int)) : ((mSn x y : Nat) : Int) < (n : Int) := by
  have h1 : mS a b < ((n + 1 : Nat) : Int) := by unfold mSn at mu; omega
  have h2 := mS_step hb h hd rx ra h1
  have h3 : 0 < n := by
    unfold mSn mS at mu
    rw [if_pos hb] at mu
    have := ra.2
    omega
  unfold mSn; omega
