/-! single places of rows -/
def wt_ap (cA : ClassId) (n a j : Nat) (v : Value) (H : Heap) : Prop := ∃ f : Nat → Value, H[a]? = some (arrV cA n f) ∧ f j = v
theorem wt_ap.kept {cA : ClassId} {n a j : Nat} {v : Value} {H H1 : Heap} (h : wt_ap cA n a j v H) (hq : H1[a]? = H[a]?) : wt_ap cA n a j v H1 := by
  obtain ⟨f, h1, h2⟩ := h
  exact ⟨f, by rw [hq]; exact h1, h2⟩
section WAP
variable {p : Program} {l : Launch} {e : Env} {R : Room} {s : State} {m : MethodId} {args : Array Value} {below : List Frame} {meth : Method} {c : Code} {H : Heap} {locs : List Loc} {cells slots : Nat} {Q : State → Prop}
variable {cc : ByteArray} {pc : Nat} {ls : Array Slot} {rest : List Value} {D : va_G} {cl : List vw_C} {A : Nat → Prop} {a : Nat} {tys : List (ClassId × FieldType)} {G : Nat → Option wt_E} {H0 : Heap}
theorem wt_ialdx (hexec : p.tables.exec = Jvm.exec) (hb : c.code = cc) (hK : va_K D cl tys s) (hW : wt_P D cl G H) (t0 : Nat) {cA : ClassId} {n : Nat} {P : Nat → Value → Prop} (hq : G a = some (.inr (cA, n, P))) (ht : tys[t0]? = some (cA, .int)) {i : Int32} (hin : vp_in i n) (hdg : decode cc pc = .ok (.iaload, 1))
    (kk : ∀ v : Value, P i.toNatClampNeg v → wt_ap cA n a i.toNatClampNeg v H → W p l e R s m args below meth c H locs cells slots Q (F0 m (pc + 1) ls (v :: rest))) : W p l e R s m args below meth c H locs cells slots Q (F0 m pc ls (.int i :: .ref a :: rest)) := by
  obtain ⟨f, q1, q2⟩ := hW a _ hq
  have hlt : i.toNatClampNeg < n := Nat.not_le.mp fun q => hin (Or.inr q)
  exact W.iald (v := f i.toNatClampNeg) hexec hb q1 ((hK.2 t0 _ ht).1 n f) (fun q => by cases q) (by show ¬ (i < 0 ∨ (arrV _ _ _).slots.size ≤ _); rw [arrV_size]; exact hin) (by show (arrV _ _ _).slots[_]? = _; rw [arrV_read _ _ hlt]) rfl rfl hdg (kk _ (q2 _ hlt) ⟨f, q1, rfl⟩)
/-- a store of an int, with the row's whole new content -/
theorem wt_iastx (hexec : p.tables.exec = Jvm.exec) (hb : c.code = cc) (hK : va_K D cl tys s) (hW : wt_P D cl G H) (hS : va_S A H0 H locs) (t0 : Nat) {cA : ClassId} {n : Nat} {P : Nat → Value → Prop} (hq : G a = some (.inr (cA, n, P))) (hA : A a) (ht : tys[t0]? = some (cA, .int)) {i x : Int32} (hin : vp_in i n) (hv : P i.toNatClampNeg (.int x)) (hdg : decode cc pc = .ok (.iastore, 1))
    (kk : ∀ (H1 : Heap) (locs1 : List Loc), wt_P D cl G H1 → va_S A H0 H1 locs1 → (∀ q : Nat, q ≠ a → H1[q]? = H[q]?) → (∀ f : Nat → Value, H[a]? = some (arrV cA n f) → H1[a]? = some (arrV cA n (updV f i.toNatClampNeg (.int x)))) → W p l e R s m args below meth c H1 locs1 cells slots Q (F0 m (pc + 1) ls rest)) : W p l e R s m args below meth c H locs cells slots Q (F0 m pc ls (.int x :: .int i :: .ref a :: rest)) := by
  obtain ⟨f, q1, q2⟩ := hW a _ hq
  refine W.iast hexec hb q1 ((hK.2 t0 _ ht).1 n f) (fun q => by cases q) (by show ¬ (i < 0 ∨ (arrV _ _ _).slots.size ≤ _); rw [arrV_size]; exact hin) rfl rfl hdg fun H1 e z oq => ?_
  refine kk H1 _ ((hW.up (wt_astored q2 e) oq).keepA hq hv) (hS.put z oq hA) oq (fun g hg => ?_)
  rw [q1] at hg
  rw [e, arrV_store]
  have hg : arrV cA n f = arrV cA n g := Option.some.inj hg
  rw [← arrV_store, hg, arrV_store]
end WAP
theorem arrV_inj {cA : ClassId} {n : Nat} {f g : Nat → Value} (h : arrV cA n f = arrV cA n g) {j : Nat} (hj : j < n) : f j = g j := by
  have h1 := arrV_read cA f hj
  rw [h, arrV_read cA g hj] at h1
  exact (Option.some.inj h1).symm
theorem gP_use {N : c_N} {tA tU len : Nat} {G : Nat → Prop} {H : Heap} (h : gP N tA tU len G H) {aA aU j : Nat} {x y : Int32} (kA : N.2.2.1 aA = some tA) (kU : N.2.2.1 aU = some tU) (hA : wt_ap (N.2.1 0) len aA j (.int x) H) (hU : wt_ap (N.2.1 0) len aU j (.int y) H) (hj : j < len) (hg : G j) : x.toInt ≠ 0 ∨ y.toInt ≠ 0 := by
  obtain ⟨fA, h1, h2⟩ := hA
  obtain ⟨fU, h3, h4⟩ := hU
  have key : ∀ z : Int32, Value.int z ≠ .int 0 → z.toInt ≠ 0 := fun z hz h0 => hz (by rw [Int32.toInt_inj.mp (show z.toInt = (0 : Int32).toInt by rw [h0]; rfl)])
  rcases h aA aU fA fU kA kU h1 h3 j hj hg with h5 | h5
  · exact Or.inl (key x (by rw [← h2]; exact h5))
  · exact Or.inr (key y (by rw [← h4]; exact h5))
theorem QL_use {N : c_N} {o aA aU : Nat} {n i x y : Int32} {H : Heap} (hL : QL N o H) (hn : pI N o 7 n H) (kA : N.2.2.1 aA = some 43) (kU : N.2.2.1 aU = some 44) (hA : wt_ap (N.2.1 0) 25 aA i.toNatClampNeg (.int x) H) (hU : wt_ap (N.2.1 0) 25 aU i.toNatClampNeg (.int y) H) {lo hi : Int} (I : ir i lo hi) (h0 : 0 ≤ lo) (h1 : hi < 25) (hlt : i.toInt < n.toInt) : x.toInt ≠ 0 ∨ y.toInt ≠ 0 := by
  obtain ⟨n', hp, hg⟩ := hL
  have e : Value.int n' = .int n := pin_inj (by decide) hp hn
  cases e
  have hc := (ir_clamp I h0).1
  exact gP_use hg kA kU hA hU (by omega) (by show (_ : Int) < _; omega)
theorem hz_l {x y : Int32} {xl yl : Int64} (h : x.toInt ≠ 0 ∨ y.toInt ≠ 0) (ex : xl = x.toInt64) (ey : yl = y.toInt64) : xl.toInt ≠ 0 ∨ yl.toInt ≠ 0 := by
  rw [ex, ey, Int32.toInt_toInt64, Int32.toInt_toInt64]; exact h
theorem hW_lt {N : c_N} {H : Heap} {a t : Nat} (hW : cW N H) (ka : N.2.2.1 a = some t) : a < H.size := (hW a _ (cg ka rfl)).lt
theorem i_eq0 {a : Int32} (A : ir a 0 0) : a = 0 := Int32.toInt_inj.mp (by rw [Int32.toInt_zero]; omega)
theorem ap_inj {cA : ClassId} {n a : Nat} {i : Int32} {x y : Int32} {H : Heap} (h : wt_ap cA n a i.toNatClampNeg (.int x) H) (h' : wt_ap cA n a i.toNatClampNeg (.int y) H) (hi : vp_in i n) : x = y := by
  obtain ⟨f, h1, h2⟩ := h
  obtain ⟨g, h3, h4⟩ := h'
  have hlt : i.toNatClampNeg < n := Nat.not_le.mp fun q => hi (Or.inr q)
  have e := arrV_inj (Option.some.inj (h1.symm.trans h3)) hlt
  rw [h2, h4] at e
  exact Value.int.inj e
theorem ap_at {cA : ClassId} {n a j : Nat} {v : Value} {t : State} {H : Heap} (ht : t.heap = H) (h : wt_ap cA n a j v H) : wt_ap cA n a j v t.heap := by rw [ht]; exact h
theorem adm_pos {x y a b c d : Int} (hx : 1 ≤ x) (hy : 1 ≤ y) (h : 0 < a * d + b * c) : 0 < y * a * y * a + x * b * x * b := by
  have e : y * a * y * a + x * b * x * b = (y * a) * (y * a) + (x * b) * (x * b) := by grind
  rw [e]
  have h1 := sq_nonneg (y * a)
  have h2 := sq_nonneg (x * b)
  by_cases ha : a = 0
  · have hb : b ≠ 0 := by
      intro hb
      rw [ha, hb] at h
      omega
    have := sq_pos (Int.mul_ne_zero (show x ≠ 0 by omega) hb)
    omega
  · have := sq_pos (Int.mul_ne_zero (show y ≠ 0 by omega) ha)
    omega
theorem div_hz {p q g a b : Int} (dp : p = g * a) (dq : q = g * b) (h : p ≠ 0 ∨ q ≠ 0) : a ≠ 0 ∨ b ≠ 0 := by
  by_cases ha : a = 0
  · refine Or.inr (fun hb => ?_)
    rw [ha, Int.mul_zero] at dp
    rw [hb, Int.mul_zero] at dq
    omega
  · exact Or.inl ha
theorem lr_max {x a b : Int64} (e : x = if b < a then a else b) {la ha lb hb lo hi : Int} (A : lr a la ha) (B : lr b lb hb) (h1 : lo ≤ la ∨ lo ≤ lb) (h2 : ha ≤ hi) (h3 : hb ≤ hi) : lr x lo hi := by
  by_cases h : b < a
  · rw [if_pos h] at e
    have := Int64.lt_iff_toInt_lt.mp h
    rw [e]; constructor <;> omega
  · rw [if_neg h] at e
    have := Int64.le_iff_toInt_le.mp (Int64.not_lt.mp h)
    rw [e]; constructor <;> omega
