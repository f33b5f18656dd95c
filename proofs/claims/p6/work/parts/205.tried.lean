/-! the rows that the reference's search tries -/
def sl (k mark : Int32) : Nat := (16 * k.toInt + 4 * (mark.toInt - 1)).toNat
def hv (set k : Int32) : Int32 := if (set >>> (k &&& 31)) &&& 1 = 1 then 1 else 0
def tV (f : Nat → Value) (j : Nat) : Prop := ∃ a b c d : Int64, f j = .long a ∧ f (j + 1) = .long b ∧ f (j + 2) = .long c ∧ f (j + 3) = .long d ∧ detOK a b c d
def tJ (N : c_N) (J : Nat → Prop) (H : Heap) : Prop := ∀ j : Nat, J j → j % 4 = 0 ∧ j < 61 ∧ ∀ (a : Nat) (f : Nat → Value), N.2.2.1 a = some 56 → H[a]? = some (arrV (N.2.1 1) 64 f) → tV f j
theorem tJ.fr {N : c_N} {J : Nat → Prop} {H H1 : Heap} (h : tJ N J H) (hq : ∀ a : Nat, N.2.2.1 a = some 56 → H1[a]? = H[a]?) : tJ N J H1 :=
  fun j hj => ⟨(h j hj).1, (h j hj).2.1, fun a f ka hf => (h j hj).2.2 a f ka (by rw [← hq a ka]; exact hf)⟩
theorem tJ.sub {N : c_N} {J J' : Nat → Prop} {H : Heap} (h : tJ N J H) (hs : ∀ j, J' j → J j) : tJ N J' H := fun j hj => h j (hs j hj)
theorem tJ_none {N : c_N} {H : Heap} : tJ N (fun _ => False) H := fun _ h => h.elim
theorem tJ_at {N : c_N} {J : Nat → Prop} {t : State} {H : Heap} (ht : t.heap = H) (h : tJ N J H) : tJ N J t.heap := by rw [ht]; exact h
theorem tJ_get {N : c_N} {J : Nat → Prop} {H : Heap} (h : tJ N J H) {a j j1 j2 j3 : Nat} {v0 v1 v2 v3 : Int64} (hj : J j) (ka : N.2.2.1 a = some 56) (h0 : wt_ap (N.2.1 1) 64 a j (.long v0) H) (h1 : wt_ap (N.2.1 1) 64 a j1 (.long v1) H) (h2 : wt_ap (N.2.1 1) 64 a j2 (.long v2) H) (h3 : wt_ap (N.2.1 1) 64 a j3 (.long v3) H) (e1 : j1 = j + 1) (e2 : j2 = j + 2) (e3 : j3 = j + 3) : detOK v0 v1 v2 v3 := by
  subst e1; subst e2; subst e3
  obtain ⟨f, q0, r0⟩ := h0
  obtain ⟨f1, q1, r1⟩ := h1
  obtain ⟨f2, q2, r2⟩ := h2
  obtain ⟨f3, q3, r3⟩ := h3
  obtain ⟨-, hlt, hV⟩ := h j hj
  obtain ⟨a', b', c', d', s0, s1, s2, s3, hd⟩ := hV a f ka q0
  have k1 := arrV_inj (Option.some.inj (q0.symm.trans q1)) (show j + 1 < 64 by omega)
  have k2 := arrV_inj (Option.some.inj (q0.symm.trans q2)) (show j + 2 < 64 by omega)
  have k3 := arrV_inj (Option.some.inj (q0.symm.trans q3)) (show j + 3 < 64 by omega)
  cases r0.symm.trans s0
  cases (r1.symm.trans k1.symm).trans s1
  cases (r2.symm.trans k2.symm).trans s2
  cases (r3.symm.trans k3.symm).trans s3
  exact hd
/-- four stores at a place of its own -/
theorem tJ_put {N : c_N} {J : Nat → Prop} {H H1 : Heap} (hO : mOK N) (h : tJ N J H) {aT j j1 j2 j3 : Nat} {f : Nat → Value} {v0 v1 v2 v3 : Int64} (ka : N.2.2.1 aT = some 56) (hf : H[aT]? = some (arrV (N.2.1 1) 64 f)) (h1 : H1[aT]? = some (arrV (N.2.1 1) 64 (updV (updV (updV (updV f j (.long v0)) j1 (.long v1)) j2 (.long v2)) j3 (.long v3)))) (e1 : j1 = j + 1) (e2 : j2 = j + 2) (e3 : j3 = j + 3) (hj : j % 4 = 0) (hj2 : j < 61) (hd : detOK v0 v1 v2 v3) : tJ N (fun i => J i ∨ i = j) H1 := by
  subst e1; subst e2; subst e3
  intro i hi
  have key : ∀ (b : Nat) (g : Nat → Value), N.2.2.1 b = some 56 → H1[b]? = some (arrV (N.2.1 1) 64 g) → ∀ q : Nat, q < 64 → g q = updV (updV (updV (updV f j (.long v0)) (j + 1) (.long v1)) (j + 2) (.long v2)) (j + 3) (.long v3) q := by
    intro b g kb hg q hq
    have hb : b = aT := hO.1 b aT 56 (by decide) kb ka
    subst hb
    exact (arrV_inj (Option.some.inj (h1.symm.trans hg)) hq).symm
  by_cases hij : i = j
  · subst hij
    refine ⟨hj, hj2, fun b g kb hg => ⟨v0, v1, v2, v3, ?_, ?_, ?_, ?_, hd⟩⟩
    · rw [key b g kb hg i (by omega)]; simp [updV]
    · rw [key b g kb hg (i + 1) (by omega)]; simp [updV]
    · rw [key b g kb hg (i + 2) (by omega)]; simp [updV]
    · rw [key b g kb hg (i + 3) (by omega)]; simp [updV]
  · have hi : J i := by
      rcases hi with h9 | h9
      · exact h9
      · exact absurd h9 hij
    obtain ⟨g1, g2, g3⟩ := h i hi
    refine ⟨g1, g2, fun b g kb hg => ?_⟩
    obtain ⟨a, b', c, d, s0, s1, s2, s3, hd'⟩ := g3 aT f ka hf
    have out : ∀ q : Nat, q < 4 → g (i + q) = f (i + q) := by
      intro q hq
      rw [key b g kb hg (i + q) (by omega)]
      unfold updV
      rw [if_neg (by omega), if_neg (by omega), if_neg (by omega), if_neg (by omega)]
    exact ⟨a, b', c, d, (out 0 (by omega)).trans s0, (out 1 (by omega)).trans s1, (out 2 (by omega)).trans s2, (out 3 (by omega)).trans s3, hd'⟩
section WLX
variable {p : Program} {l : Launch} {e : Env} {R : Room} {s : State} {m : MethodId} {args : Array Value} {below : List Frame} {meth : Method} {c : Code} {H : Heap} {locs : List Loc} {cells slots : Nat} {Q : State → Prop}
variable {cc : ByteArray} {pc : Nat} {ls : Array Slot} {rest : List Value} {D : va_G} {cl : List vw_C} {A : Nat → Prop} {a : Nat} {tys : List (ClassId × FieldType)} {G : Nat → Option wt_E} {H0 : Heap}
theorem wt_laldx (hexec : p.tables.exec = Jvm.exec) (hb : c.code = cc) (hK : va_K D cl tys s) (hW : wt_P D cl G H) (t0 : Nat) {cA : ClassId} {n : Nat} {P : Nat → Value → Prop} (hq : G a = some (.inr (cA, n, P))) (ht : tys[t0]? = some (cA, .long)) {i : Int32} (hin : vp_in i n) (hdg : decode cc pc = .ok (.laload, 1))
    (kk : ∀ v : Value, P i.toNatClampNeg v → wt_ap cA n a i.toNatClampNeg v H → W p l e R s m args below meth c H locs cells slots Q (F0 m (pc + 1) ls (v :: rest))) : W p l e R s m args below meth c H locs cells slots Q (F0 m pc ls (.int i :: .ref a :: rest)) := by
  obtain ⟨f, q1, q2⟩ := hW a _ hq
  have hlt : i.toNatClampNeg < n := Nat.not_le.mp fun q => hin (Or.inr q)
  exact W.lald (v := f i.toNatClampNeg) hexec hb q1 ((hK.2 t0 _ ht).1 n f) (fun q => by cases q) (by show ¬ (i < 0 ∨ (arrV _ _ _).slots.size ≤ _); rw [arrV_size]; exact hin) (by show (arrV _ _ _).slots[_]? = _; rw [arrV_read _ _ hlt]) rfl rfl hdg (kk _ (q2 _ hlt) ⟨f, q1, rfl⟩)
theorem wt_lastx (hexec : p.tables.exec = Jvm.exec) (hb : c.code = cc) (hK : va_K D cl tys s) (hW : wt_P D cl G H) (hS : va_S A H0 H locs) (t0 : Nat) {cA : ClassId} {n : Nat} {P : Nat → Value → Prop} (hq : G a = some (.inr (cA, n, P))) (hA : A a) (ht : tys[t0]? = some (cA, .long)) {i : Int32} {x : Int64} (hin : vp_in i n) (hv : P i.toNatClampNeg (.long x)) (hdg : decode cc pc = .ok (.lastore, 1))
    (kk : ∀ (H1 : Heap) (locs1 : List Loc), wt_P D cl G H1 → va_S A H0 H1 locs1 → (∀ q : Nat, q ≠ a → H1[q]? = H[q]?) → (∀ f : Nat → Value, H[a]? = some (arrV cA n f) → H1[a]? = some (arrV cA n (updV f i.toNatClampNeg (.long x)))) → W p l e R s m args below meth c H1 locs1 cells slots Q (F0 m (pc + 1) ls rest)) : W p l e R s m args below meth c H locs cells slots Q (F0 m pc ls (.long x :: .int i :: .ref a :: rest)) := by
  obtain ⟨f, q1, q2⟩ := hW a _ hq
  refine W.last hexec hb q1 ((hK.2 t0 _ ht).1 n f) (fun q => by cases q) (by show ¬ (i < 0 ∨ (arrV _ _ _).slots.size ≤ _); rw [arrV_size]; exact hin) rfl rfl hdg fun H1 e z oq => ?_
  refine kk H1 _ ((hW.up (wt_astored q2 e) oq).keepA hq hv) (hS.put z oq hA) oq (fun g hg => ?_)
  rw [q1] at hg
  rw [e, arrV_store]
  have hg : arrV cA n f = arrV cA n g := Option.some.inj hg
  rw [← arrV_store, hg, arrV_store]
end WLX
theorem row_ex {N : c_N} {H : Heap} (hW : cW N H) {a : Nat} (ka : N.2.2.1 a = some 56) : ∃ f : Nat → Value, H[a]? = some (arrV (N.2.1 1) 64 f) := by
  obtain ⟨f, h1, -⟩ := hW a _ (cg56 ka)
  exact ⟨f, h1⟩
theorem sl_at {i k mark : Int32} {lo hi : Int} (I : ir i lo hi) (h0 : 0 ≤ lo) (h : i.toInt = 16 * k.toInt + 4 * (mark.toInt - 1)) : i.toNatClampNeg = sl k mark := by
  have := (ir_clamp I h0).1
  unfold sl
  omega
theorem cl_at {i : Int32} {j d : Nat} {lo hi : Int} (I : ir i lo hi) (h0 : 0 ≤ lo) (h : i.toInt = (j : Int) + d) : i.toNatClampNeg = j + d := by
  have := (ir_clamp I h0).1
  omega
theorem sl_ok {k mark : Int32} (K : ir k 0 3) (M : ir mark 1 4) : sl k mark % 4 = 0 ∧ sl k mark < 61 := by
  unfold sl
  omega
