/-! more of ints in a range -/
theorem rf_le {a b : Int32} {la ha lb hb : Int} (c : a ≤ b) (A : ir a la ha) (B : ir b lb hb) : a.toInt ≤ hb ∧ la ≤ b.toInt := by
  have := Int32.le_iff_toInt_le.mp c; constructor <;> omega
theorem rf_lt {a b : Int32} {la ha lb hb : Int} (c : a < b) (A : ir a la ha) (B : ir b lb hb) : a.toInt ≤ hb - 1 ∧ la + 1 ≤ b.toInt := by
  have := Int32.lt_iff_toInt_lt.mp c; constructor <;> omega
theorem rf_nle {a b : Int32} (c : ¬ a ≤ b) : b < a := Int32.not_le.mp c
theorem rf_nlt {a b : Int32} (c : ¬ a < b) : b ≤ a := Int32.not_lt.mp c
theorem rf_eq {a b : Int32} {lb hb : Int} (c : a = b) (B : ir b lb hb) : ir a lb hb := by rw [c]; exact B
theorem rf_ne0 {a : Int32} {ha : Int} (c : ¬ a = 0) (A : ir a 0 ha) : ir a 1 ha := by
  refine ⟨?_, A.2⟩
  rcases Int.lt_or_eq_of_le A.1 with h | h
  · omega
  · exact absurd (Int32.toInt_inj.mp (by rw [← h]; rfl)) c
theorem rf_01 {a : Int32} (A : ir a 0 1) : a = 0 ∨ a = 1 := by
  rcases Int.lt_or_eq_of_le A.1 with h | h
  · exact Or.inr (Int32.toInt_inj.mp (by have := A.2; rw [show (1 : Int32).toInt = 1 from rfl]; omega))
  · exact Or.inl (Int32.toInt_inj.mp (by rw [← h]; rfl))
theorem nar01 {a : Int32} (A : ir a 0 1) : narrow .boolean (.int a) = .int a := by
  rcases rf_01 A with h | h <;> rw [h] <;> rfl
theorem ir_nI {a : Int32} {la ha : Int} (A : ir a la ha) (h0 : 0 ≤ la) : ∃ j : Nat, j < 2 ^ 31 ∧ a = nI j ∧ (j : Int) = a.toInt := by
  have hn : ¬ a < 0 := by
    intro h
    have := Int32.lt_iff_toInt_lt.mp h
    rw [Int32.toInt_zero] at this
    omega
  obtain ⟨j, h1, h2⟩ := nI_of hn
  exact ⟨j, h1, h2, by rw [h2, nI_toInt h1]⟩
theorem ir_rem {x a b : Int32} (e : x = a - a / b * b) {la ha : Int} (A : ir a la ha) (h0 : 0 ≤ la) (d : Nat) (hb : b = nI d) (hd : 0 < d) (hd2 : d < 2 ^ 31) : x.toInt = a.toInt % (d : Int) := by
  obtain ⟨j, h1, h2, h3⟩ := ir_nI A h0
  rw [e, hb, h2, pk_rem h1 hd hd2, nI_toInt (Nat.lt_of_le_of_lt (Nat.mod_le _ _) h1), nI_toInt h1]
  omega
theorem ir_remr {x a b : Int32} (e : x = a - a / b * b) {la ha : Int} (A : ir a la ha) (h0 : 0 ≤ la) (d : Nat) (hb : b = nI d) (hd : 0 < d) (hd2 : d < 2 ^ 31) {hi : Int} (hh : hi = (d : Int) - 1) : ir x 0 hi := by
  have h := ir_rem e A h0 d hb hd hd2
  have h1 := Int.emod_nonneg a.toInt (b := (d : Int)) (by omega)
  have h2 := Int.emod_lt_of_pos a.toInt (b := (d : Int)) (by omega)
  constructor <;> omega
theorem ir_div {x a b : Int32} (e : x = a / b) {la ha lb hb : Int} (A : ir a la ha) (B : ir b lb hb) (h0 : 0 ≤ la) (h1 : 1 ≤ lb) : ir x 0 ha := by
  have ht : (a.toInt.tdiv b.toInt) = a.toInt / b.toInt := Int.tdiv_eq_ediv_of_nonneg (by omega)
  have hx := ir_any a
  have h2 : 0 ≤ a.toInt / b.toInt := Int.ediv_nonneg (by omega) (by omega)
  have h3 : a.toInt / b.toInt ≤ a.toInt := Int.ediv_le_self _ (by omega)
  have : x.toInt = a.toInt / b.toInt := by
    rw [e, Int32.toInt_div, ht]; exact bm32 (by omega) (by omega)
  constructor <;> omega
theorem ir_divc {x a b : Int32} (e : x = a / b) {la ha : Int} (A : ir a la ha) (h0 : 0 ≤ la) (d : Nat) (hb : b = nI d) (hd : 0 < d) (hd2 : d < 2 ^ 31) : x.toInt = a.toInt / (d : Int) := by
  obtain ⟨j, h1, h2, h3⟩ := ir_nI A h0
  rw [e, hb, h2, pk_div h1 hd hd2, nI_toInt (Nat.lt_of_le_of_lt (Nat.div_le_self _ _) h1), nI_toInt h1]
  omega
theorem ir_and {x a b : Int32} (e : x = a &&& b) {hb : Int} (B : ir b 0 hb) : ir x 0 hb := by
  have hm : b.toBitVec.msb = false := by
    rw [BitVec.msb_eq_toInt]
    have := B.1
    have h2 : b.toBitVec.toInt = b.toInt := rfl
    simp [h2, this]
  have hz : x.toBitVec = a.toBitVec &&& b.toBitVec := by rw [e]; rfl
  have hzm : x.toBitVec.msb = false := by rw [hz, BitVec.msb_and, hm, Bool.and_false]
  have h1 : x.toInt = (x.toBitVec.toNat : Int) := BitVec.toInt_eq_toNat_of_msb hzm
  have h2 : b.toInt = (b.toBitVec.toNat : Int) := BitVec.toInt_eq_toNat_of_msb hm
  have h3 : x.toBitVec.toNat ≤ b.toBitVec.toNat := by rw [hz, BitVec.toNat_and]; exact Nat.and_le_right
  have := B.2
  constructor <;> omega
theorem ir_shr6 {x a : Int32} (e : x = a >>> ((6 : Int32) &&& 31)) (A : ir a 0 383) : ir x 0 5 := by
  obtain ⟨j, h1, h2, h3⟩ := ir_nI A (Int.le_refl 0)
  have hj : j < 384 := by have := A.2; omega
  have key : ∀ n : Nat, n < 384 → 0 ≤ (nI n >>> ((6 : Int32) &&& 31)).toInt ∧ (nI n >>> ((6 : Int32) &&& 31)).toInt ≤ 5 := by decide +kernel
  rw [e, h2]; exact key j hj
theorem ir_code {x m a b : Int32} (e : x = (m <<< ((6 : Int32) &&& 31) ||| a <<< ((3 : Int32) &&& 31)) ||| b) (M : ir m 0 5) (A : ir a 0 7) (B : ir b 0 7) : ir x 0 383 := by
  obtain ⟨i, -, hi, h3⟩ := ir_nI M (Int.le_refl 0)
  obtain ⟨j, -, hj, h4⟩ := ir_nI A (Int.le_refl 0)
  obtain ⟨k, -, hk, h5⟩ := ir_nI B (Int.le_refl 0)
  have key : ∀ n : Nat, n < 6 → ∀ p : Nat, p < 8 → ∀ q : Nat, q < 8 → 0 ≤ ((nI n <<< ((6 : Int32) &&& 31) ||| nI p <<< ((3 : Int32) &&& 31)) ||| nI q).toInt ∧ ((nI n <<< ((6 : Int32) &&& 31) ||| nI p <<< ((3 : Int32) &&& 31)) ||| nI q).toInt ≤ 383 := by decide +kernel
  have := M.2; have := A.2; have := B.2
  rw [e, hi, hj, hk]; exact key i (by omega) j (by omega) k (by omega)
/-! longs by their numbers; lcmp and the branch behind it -/
section WLC
variable {p : Program} {l : Launch} {e : Env} {R : Room} {s : State} {m : MethodId} {args : Array Value} {below : List Frame} {meth : Method} {c : Code} {H : Heap} {locs : List Loc} {cells slots : Nat} {Q : State → Prop}
variable {cc : ByteArray} {pc : Nat} {ls : Array Slot} {rest : List Value}
theorem lg_cmp3 (x y : Int64) : (lg_cmp x y = 1 ∧ y.toInt < x.toInt) ∨ (lg_cmp x y = 0 ∧ x.toInt = y.toInt) ∨ (lg_cmp x y = -1 ∧ x.toInt < y.toInt) := by
  by_cases h1 : y < x
  · exact Or.inl ⟨by simp [lg_cmp, h1], Int64.lt_iff_toInt_lt.mp h1⟩
  · by_cases h2 : x = y
    · subst h2
      exact Or.inr (Or.inl ⟨by simp [lg_cmp], rfl⟩)
    · refine Or.inr (Or.inr ⟨by simp [lg_cmp, h1, h2], ?_⟩)
      have h3 : ¬ y.toInt < x.toInt := fun h => h1 (Int64.lt_iff_toInt_lt.mpr h)
      have h4 : ¬ x.toInt = y.toInt := fun h => h2 (Int64.toInt_inj.mp h)
      omega
theorem wl_eq (hexec : p.tables.exec = Jvm.exec) (hb : c.code = cc) {x y : Int64} {off : Int} {tgt : Nat} (hdg : decode cc pc = .ok (.lcmp, 1)) (hdg2 : decode cc (pc + 1) = .ok (.ifCond .eq off, 3)) (ht : ((pc + 1 : Nat) : Int) + off = (tgt : Int))
    (kt : x.toInt = y.toInt → W p l e R s m args below meth c H locs cells slots Q (F0 m tgt ls rest)) (kf : x.toInt ≠ y.toInt → W p l e R s m args below meth c H locs cells slots Q (F0 m (pc + 4) ls rest)) : W p l e R s m args below meth c H locs cells slots Q (F0 m pc ls (.long y :: .long x :: rest)) := by
  refine W.lcmp hexec hb hdg (lv_if_eq hexec hb hdg2 ht (fun h => kt ?_) (fun h => kf ?_)) <;> rcases lg_cmp3 x y with ⟨h1, h2⟩ | ⟨h1, h2⟩ | ⟨h1, h2⟩ <;> rw [h1] at h <;> first | omega | exact absurd h (by decide) | exact absurd rfl h
theorem wl_ne (hexec : p.tables.exec = Jvm.exec) (hb : c.code = cc) {x y : Int64} {off : Int} {tgt : Nat} (hdg : decode cc pc = .ok (.lcmp, 1)) (hdg2 : decode cc (pc + 1) = .ok (.ifCond .ne off, 3)) (ht : ((pc + 1 : Nat) : Int) + off = (tgt : Int))
    (kt : x.toInt ≠ y.toInt → W p l e R s m args below meth c H locs cells slots Q (F0 m tgt ls rest)) (kf : x.toInt = y.toInt → W p l e R s m args below meth c H locs cells slots Q (F0 m (pc + 4) ls rest)) : W p l e R s m args below meth c H locs cells slots Q (F0 m pc ls (.long y :: .long x :: rest)) := by
  refine W.lcmp hexec hb hdg (lv_if_ne hexec hb hdg2 ht (fun h => kt ?_) (fun h => kf ?_)) <;> rcases lg_cmp3 x y with ⟨h1, h2⟩ | ⟨h1, h2⟩ | ⟨h1, h2⟩ <;> rw [h1] at h <;> first | omega | exact absurd h (by decide) | exact absurd rfl h
theorem wl_lt (hexec : p.tables.exec = Jvm.exec) (hb : c.code = cc) {x y : Int64} {off : Int} {tgt : Nat} (hdg : decode cc pc = .ok (.lcmp, 1)) (hdg2 : decode cc (pc + 1) = .ok (.ifCond .lt off, 3)) (ht : ((pc + 1 : Nat) : Int) + off = (tgt : Int))
    (kt : x.toInt < y.toInt → W p l e R s m args below meth c H locs cells slots Q (F0 m tgt ls rest)) (kf : y.toInt ≤ x.toInt → W p l e R s m args below meth c H locs cells slots Q (F0 m (pc + 4) ls rest)) : W p l e R s m args below meth c H locs cells slots Q (F0 m pc ls (.long y :: .long x :: rest)) := by
  refine W.lcmp hexec hb hdg (lv_if_lt hexec hb hdg2 ht (fun h => kt ?_) (fun h => kf ?_)) <;> rcases lg_cmp3 x y with ⟨h1, h2⟩ | ⟨h1, h2⟩ | ⟨h1, h2⟩ <;> rw [h1] at h <;> first | omega | exact absurd h (by decide)
theorem wl_ge (hexec : p.tables.exec = Jvm.exec) (hb : c.code = cc) {x y : Int64} {off : Int} {tgt : Nat} (hdg : decode cc pc = .ok (.lcmp, 1)) (hdg2 : decode cc (pc + 1) = .ok (.ifCond .ge off, 3)) (ht : ((pc + 1 : Nat) : Int) + off = (tgt : Int))
    (kt : y.toInt ≤ x.toInt → W p l e R s m args below meth c H locs cells slots Q (F0 m tgt ls rest)) (kf : x.toInt < y.toInt → W p l e R s m args below meth c H locs cells slots Q (F0 m (pc + 4) ls rest)) : W p l e R s m args below meth c H locs cells slots Q (F0 m pc ls (.long y :: .long x :: rest)) := by
  refine W.lcmp hexec hb hdg (lv_if_ge hexec hb hdg2 ht (fun h => kt ?_) (fun h => kf ?_)) <;> rcases lg_cmp3 x y with ⟨h1, h2⟩ | ⟨h1, h2⟩ | ⟨h1, h2⟩ <;> rw [h1] at h <;> first | omega | exact absurd h (by decide)
theorem wl_gt (hexec : p.tables.exec = Jvm.exec) (hb : c.code = cc) {x y : Int64} {off : Int} {tgt : Nat} (hdg : decode cc pc = .ok (.lcmp, 1)) (hdg2 : decode cc (pc + 1) = .ok (.ifCond .gt off, 3)) (ht : ((pc + 1 : Nat) : Int) + off = (tgt : Int))
    (kt : y.toInt < x.toInt → W p l e R s m args below meth c H locs cells slots Q (F0 m tgt ls rest)) (kf : x.toInt ≤ y.toInt → W p l e R s m args below meth c H locs cells slots Q (F0 m (pc + 4) ls rest)) : W p l e R s m args below meth c H locs cells slots Q (F0 m pc ls (.long y :: .long x :: rest)) := by
  refine W.lcmp hexec hb hdg (lv_if_gt hexec hb hdg2 ht (fun h => kt ?_) (fun h => kf ?_)) <;> rcases lg_cmp3 x y with ⟨h1, h2⟩ | ⟨h1, h2⟩ | ⟨h1, h2⟩ <;> rw [h1] at h <;> first | omega | exact absurd h (by decide)
theorem wl_le (hexec : p.tables.exec = Jvm.exec) (hb : c.code = cc) {x y : Int64} {off : Int} {tgt : Nat} (hdg : decode cc pc = .ok (.lcmp, 1)) (hdg2 : decode cc (pc + 1) = .ok (.ifCond .le off, 3)) (ht : ((pc + 1 : Nat) : Int) + off = (tgt : Int))
    (kt : x.toInt ≤ y.toInt → W p l e R s m args below meth c H locs cells slots Q (F0 m tgt ls rest)) (kf : y.toInt < x.toInt → W p l e R s m args below meth c H locs cells slots Q (F0 m (pc + 4) ls rest)) : W p l e R s m args below meth c H locs cells slots Q (F0 m pc ls (.long y :: .long x :: rest)) := by
  refine W.lcmp hexec hb hdg (lv_if_le hexec hb hdg2 ht (fun h => kt ?_) (fun h => kf ?_)) <;> rcases lg_cmp3 x y with ⟨h1, h2⟩ | ⟨h1, h2⟩ | ⟨h1, h2⟩ <;> rw [h1] at h <;> first | omega | exact absurd h (by decide)
end WLC
theorem l_ne0 {x : Int64} (h : x.toInt ≠ 0) : ¬ x = 0 := fun e => h (by rw [e]; rfl)
theorem l_toInt0 : (0 : Int64).toInt = 0 := rfl
theorem i2l_r {x : Int32} {lo hi : Int} (A : ir x lo hi) : lr x.toInt64 lo hi := by
  show lo ≤ x.toInt64.toInt ∧ x.toInt64.toInt ≤ hi
  rw [Int32.toInt_toInt64]; exact A
theorem l2i_r {x : Int64} {lo hi : Int} (A : lr x lo hi) (h1 : -2147483648 ≤ lo) (h2 : hi ≤ 2147483647) : ir x.toInt32 lo hi := by
  show lo ≤ x.toInt32.toInt ∧ x.toInt32.toInt ≤ hi
  rw [Int64.toInt_toInt32, bm32 (by omega) (by omega)]; exact A
theorem lr_c (n : Int) {x : Int64} (e : x.toInt = n) : lr x n n := by constructor <;> omega
theorem i_ne0 {a : Int32} {la ha : Int} (A : ir a la ha) (h1 : 1 ≤ la) : ¬ a = 0 := by
  intro h
  have := A.1
  rw [h, Int32.toInt_zero] at this
  omega
theorem ir_max {x a b : Int32} (e : x = if a < b then b else a) {la ha lb hb lo hi : Int} (A : ir a la ha) (B : ir b lb hb) (h1 : lo ≤ la ∨ lo ≤ lb) (h2 : ha ≤ hi) (h3 : hb ≤ hi) (_ : True) : ir x lo hi := by
  by_cases h : a < b
  · rw [if_pos h] at e
    have := Int32.lt_iff_toInt_lt.mp h
    rw [e]; constructor <;> omega
  · rw [if_neg h] at e
    have := Int32.le_iff_toInt_le.mp (Int32.not_lt.mp h)
    rw [e]; constructor <;> omega
theorem ir_min {x a b : Int32} (e : x = if b < a then b else a) {la ha lb hb lo hi : Int} (A : ir a la ha) (B : ir b lb hb) (h1 : lo ≤ la) (h2 : lo ≤ lb) (h3 : ha ≤ hi ∨ hb ≤ hi) (_ : True) : ir x lo hi := by
  by_cases h : b < a
  · rw [if_pos h] at e
    have := Int32.lt_iff_toInt_lt.mp h
    rw [e]; constructor <;> omega
  · rw [if_neg h] at e
    have := Int32.le_iff_toInt_le.mp (Int32.not_lt.mp h)
    rw [e]; constructor <;> omega
theorem l_div {a b : Int64} (hb : ¬ b = 0) (hmin : -9223372036854775808 < a.toInt ∨ b.toInt ≠ -1) : (a / b).toInt = a.toInt.tdiv b.toInt := by
  rw [Int64.toInt_div]
  have ha := lr_any a
  have hbb := lr_any b
  have hb0 : b.toInt ≠ 0 := fun h => hb (Int64.toInt_inj.mp (by rw [h]; rfl))
  have h1 : (a.toInt.tdiv b.toInt).natAbs ≤ a.toInt.natAbs := by rw [Int.natAbs_tdiv]; exact Nat.div_le_self _ _
  by_cases h2 : a.toInt = -9223372036854775808
  · have hb1 : b.toInt ≠ -1 := by
      rcases hmin with h | h
      · omega
      · exact h
    by_cases h3 : b.toInt = 1
    · rw [h3, Int.tdiv_one]; exact bm64 (by omega) (by omega)
    · have h4 : 2 ≤ b.toInt.natAbs := by omega
      have h5 : (a.toInt.tdiv b.toInt).natAbs ≤ a.toInt.natAbs / 2 := by
        rw [Int.natAbs_tdiv]; exact Nat.div_le_div_left h4 (by omega)
      exact bm64 (by omega) (by omega)
  · exact bm64 (by omega) (by omega)
theorem l_rem {x a b : Int64} (e : x = a - a / b * b) (hb : ¬ b = 0) : x.toInt = a.toInt.tmod b.toInt := by
  have hm : (a.toInt.tmod b.toInt) = a.toInt - a.toInt.tdiv b.toInt * b.toInt := by
    have := Int.tmod_add_mul_tdiv a.toInt b.toInt
    rw [Int.mul_comm] at this
    omega
  have hb0 : b.toInt ≠ 0 := fun h => hb (Int64.toInt_inj.mp (by rw [h]; rfl))
  have hlt : (a.toInt.tmod b.toInt).natAbs < b.toInt.natAbs := by
    rw [Int.natAbs_tmod]; exact Nat.mod_lt _ (by omega)
  have hbb := lr_any b
  rw [e, Int64.toInt_sub, Int64.toInt_mul, Int64.toInt_div, Int.bmod_mul_bmod, Int.sub_bmod_bmod, ← hm]
  exact bm64 (by omega) (by omega)
theorem lr_rem {x a b : Int64} (e : x = a - a / b * b) (hb : ¬ b = 0) {la ha lb hb' hi : Int} (A : lr a la ha) (B : lr b lb hb') (h0 : 0 ≤ la) (h1 : 0 ≤ lb) (h2 : hi = hb' - 1) : lr x 0 hi := by
  have h := l_rem e hb
  have hb0 : b.toInt ≠ 0 := fun h => hb (Int64.toInt_inj.mp (by rw [h]; rfl))
  have h3 : 0 ≤ a.toInt.tmod b.toInt := Int.tmod_nonneg _ (by omega)
  have h4 : a.toInt.tmod b.toInt < b.toInt := Int.tmod_lt_of_pos _ (by omega)
  constructor <;> omega
theorem lr_neg {x a : Int64} (e : x = -a) {la ha lo hi : Int} (A : lr a la ha) (h0 : -9223372036854775808 < la) (h1 : lo = -ha) (h2 : hi = -la) : lr x lo hi := by
  have ha := lr_any a
  have : x.toInt = -a.toInt := by rw [e, Int64.toInt_neg]; exact bm64 (by omega) (by omega)
  constructor <;> omega
