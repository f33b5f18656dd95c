/-! TYPED HEAPS: each address of a world has a cell description: an object (class number, what each field may hold) or an array (class, length, what each place may hold). -/
abbrev wt_E : Type := (Nat × (Nat → Value → Prop)) ⊕ (ClassId × Nat × (Nat → Value → Prop))
def wt_at (D : va_G) (cl : List vw_C) (a : Nat) (E : wt_E) (H : Heap) : Prop := match E with
  | .inl o => ∃ (r : vw_C) (V : Nat → Value), cl[o.1]? = some r ∧ t_OB a (D.1 o.1) r.2.2 (D.2 o.1) H V ∧ ∀ k, k < r.2.2 → o.2 k (V k)
  | .inr b => ∃ f : Nat → Value, H[a]? = some (arrV b.1 b.2.1 f) ∧ ∀ j, j < b.2.1 → b.2.2 j (f j)
def wt_P (D : va_G) (cl : List vw_C) (G : Nat → Option wt_E) (H : Heap) : Prop := ∀ (a : Nat) (E : wt_E), G a = some E → wt_at D cl a E H
theorem wt_at.lt {D : va_G} {cl : List vw_C} {a : Nat} {E : wt_E} {H : Heap} (h : wt_at D cl a E H) : a < H.size := by
  cases E with
  | inl o =>
    obtain ⟨r, V, -, ⟨cell, q1, -⟩, -⟩ := h
    exact (Array.getElem?_eq_some_iff.mp q1).1
  | inr b =>
    obtain ⟨f, q1, -⟩ := h
    exact (Array.getElem?_eq_some_iff.mp q1).1
theorem wt_at.kept {D : va_G} {cl : List vw_C} {a : Nat} {E : wt_E} {H H1 : Heap} (h : wt_at D cl a E H) (hq : H1[a]? = H[a]?) : wt_at D cl a E H1 := by
  cases E with
  | inl o =>
    obtain ⟨r, V, h1, h2, h3⟩ := h
    exact ⟨r, V, h1, h2.kept hq, h3⟩
  | inr b =>
    obtain ⟨f, q1, q2⟩ := h
    exact ⟨f, by rw [hq]; exact q1, q2⟩
theorem wt_P.kept {D : va_G} {cl : List vw_C} {G : Nat → Option wt_E} {H H1 : Heap} (h : wt_P D cl G H) (hq : ∀ (a : Nat) (E : wt_E), G a = some E → H1[a]? = H[a]?) : wt_P D cl G H1 :=
  fun a E hE => (h a E hE).kept (hq a E hE)
/-- behind a call that changes nothing of this world -/
theorem wt_P.call {D : va_G} {cl : List vw_C} {G : Nat → Option wt_E} {H H1 : Heap} {A1 : Nat → Prop} (h : wt_P D cl G H) (hk : ∀ q : Nat, q < H.size → ¬ A1 q → H1[q]? = H[q]?) (hd : ∀ (a : Nat) (E : wt_E), G a = some E → ¬ A1 a) : wt_P D cl G H1 :=
  fun a E hE => (h a E hE).kept (hk a (h a E hE).lt (hd a E hE))
/-- weaker descriptions -/
def wt_le (E E' : wt_E) : Prop := match E, E' with
  | .inl o, .inl o' => o.1 = o'.1 ∧ ∀ k v, o.2 k v → o'.2 k v
  | .inr b, .inr b' => b.1 = b'.1 ∧ b.2.1 = b'.2.1 ∧ ∀ j v, j < b.2.1 → b.2.2 j v → b'.2.2 j v
  | _, _ => False
theorem wt_at.mono {D : va_G} {cl : List vw_C} {a : Nat} {E E' : wt_E} {H : Heap} (h : wt_at D cl a E H) (hle : wt_le E E') : wt_at D cl a E' H := by
  cases E with
  | inl o =>
    cases E' with
    | inl o' =>
      obtain ⟨e1, e2⟩ := hle
      obtain ⟨r, V, h1, h2, h3⟩ := h
      exact ⟨r, V, by rw [← e1]; exact h1, by rw [← e1]; exact h2, fun k hk => e2 k _ (h3 k hk)⟩
    | inr b' => exact hle.elim
  | inr b =>
    cases E' with
    | inl o' => exact hle.elim
    | inr b' =>
      obtain ⟨e1, e2, e3⟩ := hle
      obtain ⟨f, q1, q2⟩ := h
      exact ⟨f, by rw [← e1, ← e2]; exact q1, fun j hj => e3 j _ (by rw [e2]; exact hj) (q2 j (by rw [e2]; exact hj))⟩
theorem wt_P.mono {D : va_G} {cl : List vw_C} {G G' : Nat → Option wt_E} {H : Heap} (h : wt_P D cl G H) (hle : ∀ (a : Nat) (E' : wt_E), G' a = some E' → ∃ E, G a = some E ∧ wt_le E E') : wt_P D cl G' H := by
  intro a E' hE'
  obtain ⟨E, hE, hl⟩ := hle a E' hE'
  exact (h a E hE).mono hl
/-- one address described anew -/
def wt_up (G : Nat → Option wt_E) (a : Nat) (E : wt_E) : Nat → Option wt_E := fun b => if b = a then some E else G b
theorem wt_up_eq {G : Nat → Option wt_E} {a : Nat} {E : wt_E} : wt_up G a E a = some E := if_pos rfl
theorem wt_up_ne {G : Nat → Option wt_E} {a b : Nat} {E : wt_E} (h : b ≠ a) : wt_up G a E b = G b := if_neg h
theorem wt_P.up {D : va_G} {cl : List vw_C} {G : Nat → Option wt_E} {H H1 : Heap} {a : Nat} {E : wt_E} (h : wt_P D cl G H) (ha : wt_at D cl a E H1) (hq : ∀ q : Nat, q ≠ a → H1[q]? = H[q]?) : wt_P D cl (wt_up G a E) H1 := by
  intro b E' hb
  by_cases e : b = a
  · subst e
    rw [wt_up_eq] at hb
    cases hb
    exact ha
  · rw [wt_up_ne e] at hb
    exact (h b E' hb).kept (hq b e)
theorem wt_P.same {D : va_G} {cl : List vw_C} {G : Nat → Option wt_E} {H H1 : Heap} {a : Nat} {E : wt_E} (h : wt_P D cl G H) (hE : G a = some E) (ha : wt_at D cl a E H1) (hq : ∀ q : Nat, q ≠ a → H1[q]? = H[q]?) : wt_P D cl G H1 := by
  intro b E' hb
  by_cases e : b = a
  · subst e
    cases hE.symm.trans hb
    exact ha
  · exact (h b E' hb).kept (hq b e)
/-- a field's exact value, the other fields as they were -/
def wt_fu (P : Nat → Value → Prop) (k : Nat) (v : Value) : Nat → Value → Prop := fun j w => if j = k then w = v else P j w
theorem wt_recv {s : State} {H : Heap} {D : va_G} {cl : List vw_C} {tys : List (ClassId × FieldType)} {G : Nat → Option wt_E} {a ci : Nat} {q : vw_C} {P : Nat → Value → Prop} (hK : va_K D cl tys s) (hW : wt_P D cl G H) (hq : G a = some (.inl (ci, P))) (hc : cl[ci]? = some q) : ∃ cell : Cell, H[a]? = some cell ∧ cell.vm.isStatics = false ∧ s.vm.findClass q.1 = some cell.cls := by
  obtain ⟨r, V, h1, ⟨cell, q1, q2, q3, q4⟩, hp⟩ := hW a _ hq
  obtain ⟨hS, hfc, kC, hkC, hkind⟩ := hK.1 ci _ hc
  exact ⟨cell, q1, by rw [q3]; rfl, by rw [q2]; exact hfc⟩
section WTR
variable {p : Program} {l : Launch} {e : Env} {R : Room} {s : State} {m : MethodId} {args : Array Value} {below : List Frame} {meth : Method} {c : Code} {H : Heap} {locs : List Loc} {cells slots : Nat} {Q : State → Prop}
variable {cc : ByteArray} {pc : Nat} {ls : Array Slot} {rest : List Value} {D : va_G} {cl : List vw_C} {A : Nat → Prop} {a : Nat} {tys : List (ClassId × FieldType)} {G : Nat → Option wt_E} {H0 : Heap}
theorem wt_get (hexec : p.tables.exec = Jvm.exec) (hb : c.code = cc) {own C : String} {T : u_T} {N ci index : Nat} {Ts : List Cond} (hts : ∀ w ∈ Ts, w.before args s = true) (hin : ∀ w ∈ u_ws C T N, w ∈ Ts) (hown : s.vm.findClass own = some m.cls) (hK : va_K D cl tys s) (hW : wt_P D cl G H) {P : Nat → Value → Prop} (hq : G a = some (.inl (ci, P))) (hc : cl[ci]? = some (C, T, N)) (k : Nat) (hk : k < N) (hlink : (Cond.fieldLink own index (T k).1 (T k).2.1 (T k).2.2.1) ∈ Ts) (hdg : decode cc pc = .ok (.getfield index, 3))
    (kk : ∀ v : Value, P k v → W p l e R s m args below meth c H locs cells slots Q (F0 m (pc + 3) ls (v :: rest))) : W p l e R s m args below meth c H locs cells slots Q (F0 m pc ls (.ref a :: rest)) := by
  obtain ⟨r, V, h1, ⟨cell, q1, q2, q3, q4⟩, hp⟩ := hW a _ hq
  have hr : r = (C, T, N) := Option.some.inj (h1.symm.trans hc)
  subst hr
  obtain ⟨hS, hfc, kC, hkC, hkind⟩ := hK.1 ci _ hc
  obtain ⟨cf, kf, fi, f, hi, hsl⟩ := hS k hk
  refine W.getf hexec hb hown (hts _ hlink) hi (u_facts hfc hkC (u_lays hts hin hk) hi).1 q1 (by rw [q3]; exact fun h => by cases h) (v := V k) ?_ rfl rfl hdg (kk _ (hp k hk))
  rw [hsl, q4 k hk]
theorem wt_getN (hexec : p.tables.exec = Jvm.exec) (hb : c.code = cc) {own C host : String} {T : u_T} {N ci index : Nat} {Ts : List Cond} (hts : ∀ w ∈ Ts, w.before args s = true) (hin : ∀ w ∈ u_ws C T N, w ∈ Ts) (hown : s.vm.findClass own = some m.cls) (hK : va_K D cl tys s) (hW : wt_P D cl G H) {P : Nat → Value → Prop} (hq : G a = some (.inl (ci, P))) (hc : cl[ci]? = some (C, T, N)) (k : Nat) (hk : k < N) (hnn : ∀ w ∈ lw_n, va_Nw w s) (hlink : (Cond.fieldLinkNest own index (T k).1 (T k).2.1 (T k).2.2.1 host) ∈ lw_n) (hdg : decode cc pc = .ok (.getfield index, 3))
    (kk : ∀ v : Value, P k v → W p l e R s m args below meth c H locs cells slots Q (F0 m (pc + 3) ls (v :: rest))) : W p l e R s m args below meth c H locs cells slots Q (F0 m pc ls (.ref a :: rest)) := by
  obtain ⟨r, V, h1, ⟨cell, q1, q2, q3, q4⟩, hp⟩ := hW a _ hq
  have hr : r = (C, T, N) := Option.some.inj (h1.symm.trans hc)
  subst hr
  obtain ⟨hS, hfc, kC, hkC, hkind⟩ := hK.1 ci _ hc
  obtain ⟨cf, kf, fi, f, hi, hsl⟩ := hS k hk
  refine va_Wgetf hexec hb hown (lw_n_use hnn hlink) hi (u_facts hfc hkC (u_lays hts hin hk) hi).1 q1 (by rw [q3]; exact fun h => by cases h) (v := V k) ?_ rfl rfl hdg (kk _ (hp k hk))
  rw [hsl, q4 k hk]
/-- what a store into a field makes of the object -/
theorem wt_stored {own C : String} {T : u_T} {N ci : Nat} {Ts : List Cond} (hts : ∀ w ∈ Ts, w.before args s = true) (hin : ∀ w ∈ u_ws C T N, w ∈ Ts) (ty0 : Nat → FieldType) (hty : ∀ k, k < N → parseFieldDescriptor (T k).2.2.1 = some (ty0 k)) (hnm : ∀ a, a < N → ∀ b, b < N → a ≠ b → (T a).2.1 ≠ (T b).2.1) (hK : va_K D cl tys s) (hc : cl[ci]? = some (C, T, N)) {P : Nat → Value → Prop} {k : Nat} (hk : k < N) {v : Value} {V : Nat → Value} {cell : Cell} {H1 : Heap} (q2 : cell.cls = D.1 ci) (q3 : cell.vm = .none) (q4 : ∀ k, k < N → cell.slots[D.2 ci k]? = some (V k)) (hp : ∀ k, k < N → P k (V k)) (e1 : H1[a]? = some (cell.setSlot (D.2 ci k) v)) : wt_at D cl a (.inl (ci, wt_fu P k v)) H1 := by
  have hap := va_apart (own := own) hts hin ty0 hty hnm hK hc
  refine ⟨(C, T, N), updV V k v, hc, ⟨_, e1, q2, q3, t_set q4 hap hk v⟩, fun j hj => ?_⟩
  show wt_fu P k v j (updV V k v j)
  unfold wt_fu updV
  by_cases h : j = k
  · rw [if_pos h, if_pos h]
  · rw [if_neg h, if_neg h]; exact hp j hj
theorem wt_putU (hexec : p.tables.exec = Jvm.exec) (hb : c.code = cc) {own C : String} {T : u_T} {N ci index : Nat} {Ts : List Cond} (hts : ∀ w ∈ Ts, w.before args s = true) (hin : ∀ w ∈ u_ws C T N, w ∈ Ts) (ty0 : Nat → FieldType) (hty : ∀ k, k < N → parseFieldDescriptor (T k).2.2.1 = some (ty0 k)) (hnm : ∀ a, a < N → ∀ b, b < N → a ≠ b → (T a).2.1 ≠ (T b).2.1) (hown : s.vm.findClass own = some m.cls) (hK : va_K D cl tys s) (hW : wt_P D cl G H) (hS0 : va_S A H0 H locs) {P : Nat → Value → Prop} (hq : G a = some (.inl (ci, P))) (hA : A a) (hc : cl[ci]? = some (C, T, N)) (k : Nat) (hk : k < N) (hlink : (Cond.fieldLink own index (T k).1 (T k).2.1 (T k).2.2.1) ∈ Ts) (hfin : (T k).2.2.2 = false) {v : Value} (hn : narrow (ty0 k) v = v) (hfit : fits (ty0 k) v = true)
    (hdg : decode cc pc = .ok (.putfield index, 3)) (kk : ∀ (H1 : Heap) (locs1 : List Loc), wt_P D cl (wt_up G a (.inl (ci, wt_fu P k v))) H1 → va_S A H0 H1 locs1 → W p l e R s m args below meth c H1 locs1 cells slots Q (F0 m (pc + 3) ls rest)) : W p l e R s m args below meth c H locs cells slots Q (F0 m pc ls (v :: .ref a :: rest)) := by
  obtain ⟨r, V, h1, ⟨cell, q1, q2, q3, q4⟩, hp⟩ := hW a _ hq
  have hr : r = (C, T, N) := Option.some.inj (h1.symm.trans hc)
  subst hr
  obtain ⟨hS, hfc, kC, hkC, hkind⟩ := hK.1 ci _ hc
  obtain ⟨cf, kf, fi, f, hi, hsl⟩ := hS k hk
  have hlay := hts _ (hin _ (u_in_lay hk))
  unfold u_lay at hlay
  rw [if_neg (by rw [hfin]; decide)] at hlay
  have hst := (u_facts hfc hkC (u_lays hts hin hk) hi).1
  have h6 := u_store hfc hkC hkind hlay hi (hty k hk) hn hfit
  refine W.putK hexec hb (f := f) ⟨hown, hts _ hlink, ⟨_, _, _, hi⟩, hst⟩ (by rw [q2]; exact h6) q1 q3 (by rw [hsl]; exact k2_hasslot (q4 k hk)) rfl rfl hdg fun H' e1 e2 e3 => ?_
  rw [hsl] at e1 ⊢
  exact kk H' _ (hW.up (wt_stored (own := own) hts hin ty0 hty hnm hK hc hk q2 q3 q4 hp e1) e3) (hS0.put e2 e3 hA)
theorem wt_putNU (hexec : p.tables.exec = Jvm.exec) (hb : c.code = cc) {own C host : String} {T : u_T} {N ci index : Nat} {Ts : List Cond} (hts : ∀ w ∈ Ts, w.before args s = true) (hin : ∀ w ∈ u_ws C T N, w ∈ Ts) (ty0 : Nat → FieldType) (hty : ∀ k, k < N → parseFieldDescriptor (T k).2.2.1 = some (ty0 k)) (hnm : ∀ a, a < N → ∀ b, b < N → a ≠ b → (T a).2.1 ≠ (T b).2.1) (hown : s.vm.findClass own = some m.cls) (hK : va_K D cl tys s) (hW : wt_P D cl G H) (hS0 : va_S A H0 H locs) {P : Nat → Value → Prop} (hq : G a = some (.inl (ci, P))) (hA : A a) (hc : cl[ci]? = some (C, T, N)) (k : Nat) (hk : k < N) (hnn : ∀ w ∈ lw_n, va_Nw w s) (hlink : (Cond.fieldLinkNest own index (T k).1 (T k).2.1 (T k).2.2.1 host) ∈ lw_n) (hfin : (T k).2.2.2 = false) {v : Value} (hn : narrow (ty0 k) v = v) (hfit : fits (ty0 k) v = true)
    (hdg : decode cc pc = .ok (.putfield index, 3)) (kk : ∀ (H1 : Heap) (locs1 : List Loc), wt_P D cl (wt_up G a (.inl (ci, wt_fu P k v))) H1 → va_S A H0 H1 locs1 → W p l e R s m args below meth c H1 locs1 cells slots Q (F0 m (pc + 3) ls rest)) : W p l e R s m args below meth c H locs cells slots Q (F0 m pc ls (v :: .ref a :: rest)) := by
  obtain ⟨r, V, h1, ⟨cell, q1, q2, q3, q4⟩, hp⟩ := hW a _ hq
  have hr : r = (C, T, N) := Option.some.inj (h1.symm.trans hc)
  subst hr
  obtain ⟨hS, hfc, kC, hkC, hkind⟩ := hK.1 ci _ hc
  obtain ⟨cf, kf, fi, f, hi, hsl⟩ := hS k hk
  have hlay := hts _ (hin _ (u_in_lay hk))
  unfold u_lay at hlay
  rw [if_neg (by rw [hfin]; decide)] at hlay
  have hst := (u_facts hfc hkC (u_lays hts hin hk) hi).1
  have h6 := u_store hfc hkC hkind hlay hi (hty k hk) hn hfit
  refine va_WputK hexec hb (f := f) hown (lw_n_use hnn hlink) hi hst (by rw [q2]; exact h6) q1 q3 (by rw [hsl]; exact k2_hasslot (q4 k hk)) rfl rfl hdg fun H' e1 e2 e3 => ?_
  rw [hsl] at e1 ⊢
  exact kk H' _ (hW.up (wt_stored (own := own) hts hin ty0 hty hnm hK hc hk q2 q3 q4 hp e1) e3) (hS0.put e2 e3 hA)
theorem wt_P.keepF {D : va_G} {cl : List vw_C} {G : Nat → Option wt_E} {H : Heap} {a ci k : Nat} {P : Nat → Value → Prop} {v : Value} (h : wt_P D cl (wt_up G a (.inl (ci, wt_fu P k v))) H) (hq : G a = some (.inl (ci, P))) (hv : P k v) : wt_P D cl G H := by
  refine h.mono (fun b E' hb => ?_)
  by_cases hba : b = a
  · subst hba
    cases hq.symm.trans hb
    refine ⟨_, wt_up_eq, rfl, fun j w hw => ?_⟩
    have hw : (if j = k then w = v else P j w) := hw
    by_cases hj : j = k
    · rw [if_pos hj] at hw; rw [hw, hj]; exact hv
    · rw [if_neg hj] at hw; exact hw
  · refine ⟨E', (wt_up_ne hba).trans hb, ?_⟩
    cases E' with
    | inl o => exact ⟨rfl, fun _ _ h => h⟩
    | inr o => exact ⟨rfl, rfl, fun _ _ _ h => h⟩
theorem wt_put (hexec : p.tables.exec = Jvm.exec) (hb : c.code = cc) {own C : String} {T : u_T} {N ci index : Nat} {Ts : List Cond} (hts : ∀ w ∈ Ts, w.before args s = true) (hin : ∀ w ∈ u_ws C T N, w ∈ Ts) (ty0 : Nat → FieldType) (hty : ∀ k, k < N → parseFieldDescriptor (T k).2.2.1 = some (ty0 k)) (hnm : ∀ a, a < N → ∀ b, b < N → a ≠ b → (T a).2.1 ≠ (T b).2.1) (hown : s.vm.findClass own = some m.cls) (hK : va_K D cl tys s) (hW : wt_P D cl G H) (hS0 : va_S A H0 H locs) {P : Nat → Value → Prop} (hq : G a = some (.inl (ci, P))) (hA : A a) (hc : cl[ci]? = some (C, T, N)) (k : Nat) (hk : k < N) (hlink : (Cond.fieldLink own index (T k).1 (T k).2.1 (T k).2.2.1) ∈ Ts) (hfin : (T k).2.2.2 = false) {v : Value} (hn : narrow (ty0 k) v = v) (hfit : fits (ty0 k) v = true) (hv : P k v)
    (hdg : decode cc pc = .ok (.putfield index, 3)) (kk : ∀ (H1 : Heap) (locs1 : List Loc), wt_P D cl G H1 → va_S A H0 H1 locs1 → W p l e R s m args below meth c H1 locs1 cells slots Q (F0 m (pc + 3) ls rest)) : W p l e R s m args below meth c H locs cells slots Q (F0 m pc ls (v :: .ref a :: rest)) :=
  wt_putU hexec hb hts hin ty0 hty hnm hown hK hW hS0 hq hA hc k hk hlink hfin hn hfit hdg (fun H1 locs1 h1 h2 => kk H1 locs1 (h1.keepF hq hv) h2)
theorem wt_putN (hexec : p.tables.exec = Jvm.exec) (hb : c.code = cc) {own C host : String} {T : u_T} {N ci index : Nat} {Ts : List Cond} (hts : ∀ w ∈ Ts, w.before args s = true) (hin : ∀ w ∈ u_ws C T N, w ∈ Ts) (ty0 : Nat → FieldType) (hty : ∀ k, k < N → parseFieldDescriptor (T k).2.2.1 = some (ty0 k)) (hnm : ∀ a, a < N → ∀ b, b < N → a ≠ b → (T a).2.1 ≠ (T b).2.1) (hown : s.vm.findClass own = some m.cls) (hK : va_K D cl tys s) (hW : wt_P D cl G H) (hS0 : va_S A H0 H locs) {P : Nat → Value → Prop} (hq : G a = some (.inl (ci, P))) (hA : A a) (hc : cl[ci]? = some (C, T, N)) (k : Nat) (hk : k < N) (hnn : ∀ w ∈ lw_n, va_Nw w s) (hlink : (Cond.fieldLinkNest own index (T k).1 (T k).2.1 (T k).2.2.1 host) ∈ lw_n) (hfin : (T k).2.2.2 = false) {v : Value} (hn : narrow (ty0 k) v = v) (hfit : fits (ty0 k) v = true) (hv : P k v)
    (hdg : decode cc pc = .ok (.putfield index, 3)) (kk : ∀ (H1 : Heap) (locs1 : List Loc), wt_P D cl G H1 → va_S A H0 H1 locs1 → W p l e R s m args below meth c H1 locs1 cells slots Q (F0 m (pc + 3) ls rest)) : W p l e R s m args below meth c H locs cells slots Q (F0 m pc ls (v :: .ref a :: rest)) :=
  wt_putNU hexec hb hts hin ty0 hty hnm hown hK hW hS0 hq hA hc k hk hnn hlink hfin hn hfit hdg (fun H1 locs1 h1 h2 => kk H1 locs1 (h1.keepF hq hv) h2)
/-! arrays -/
theorem wt_iald (hexec : p.tables.exec = Jvm.exec) (hb : c.code = cc) (hK : va_K D cl tys s) (hW : wt_P D cl G H) (t0 : Nat) {cA : ClassId} {n : Nat} {P : Nat → Value → Prop} (hq : G a = some (.inr (cA, n, P))) (ht : tys[t0]? = some (cA, .int)) {i : Int32} (hin : vp_in i n) (hdg : decode cc pc = .ok (.iaload, 1))
    (kk : ∀ v : Value, P i.toNatClampNeg v → W p l e R s m args below meth c H locs cells slots Q (F0 m (pc + 1) ls (v :: rest))) : W p l e R s m args below meth c H locs cells slots Q (F0 m pc ls (.int i :: .ref a :: rest)) := by
  obtain ⟨f, q1, q2⟩ := hW a _ hq
  have hlt : i.toNatClampNeg < n := Nat.not_le.mp fun q => hin (Or.inr q)
  exact W.iald (v := f i.toNatClampNeg) hexec hb q1 ((hK.2 t0 _ ht).1 n f) (fun q => by cases q) (by show ¬ (i < 0 ∨ (arrV _ _ _).slots.size ≤ _); rw [arrV_size]; exact hin) (by show (arrV _ _ _).slots[_]? = _; rw [arrV_read _ _ hlt]) rfl rfl hdg (kk _ (q2 _ hlt))
theorem wt_lald (hexec : p.tables.exec = Jvm.exec) (hb : c.code = cc) (hK : va_K D cl tys s) (hW : wt_P D cl G H) (t0 : Nat) {cA : ClassId} {n : Nat} {P : Nat → Value → Prop} (hq : G a = some (.inr (cA, n, P))) (ht : tys[t0]? = some (cA, .long)) {i : Int32} (hin : vp_in i n) (hdg : decode cc pc = .ok (.laload, 1))
    (kk : ∀ v : Value, P i.toNatClampNeg v → W p l e R s m args below meth c H locs cells slots Q (F0 m (pc + 1) ls (v :: rest))) : W p l e R s m args below meth c H locs cells slots Q (F0 m pc ls (.int i :: .ref a :: rest)) := by
  obtain ⟨f, q1, q2⟩ := hW a _ hq
  have hlt : i.toNatClampNeg < n := Nat.not_le.mp fun q => hin (Or.inr q)
  exact W.lald (v := f i.toNatClampNeg) hexec hb q1 ((hK.2 t0 _ ht).1 n f) (fun q => by cases q) (by show ¬ (i < 0 ∨ (arrV _ _ _).slots.size ≤ _); rw [arrV_size]; exact hin) (by show (arrV _ _ _).slots[_]? = _; rw [arrV_read _ _ hlt]) rfl rfl hdg (kk _ (q2 _ hlt))
theorem wt_zald (hexec : p.tables.exec = Jvm.exec) (hb : c.code = cc) (hK : va_K D cl tys s) (hW : wt_P D cl G H) (t0 : Nat) {cA : ClassId} {n : Nat} {P : Nat → Value → Prop} (hq : G a = some (.inr (cA, n, P))) (ht : tys[t0]? = some (cA, .boolean)) {i : Int32} (hin : vp_in i n) (hdg : decode cc pc = .ok (.baload, 1))
    (kk : ∀ v : Value, P i.toNatClampNeg v → W p l e R s m args below meth c H locs cells slots Q (F0 m (pc + 1) ls (v :: rest))) : W p l e R s m args below meth c H locs cells slots Q (F0 m pc ls (.int i :: .ref a :: rest)) := by
  obtain ⟨f, q1, q2⟩ := hW a _ hq
  have hlt : i.toNatClampNeg < n := Nat.not_le.mp fun q => hin (Or.inr q)
  exact W.zald (v := f i.toNatClampNeg) hexec hb q1 ((hK.2 t0 _ ht).1 n f) (fun q => by cases q) (by show ¬ (i < 0 ∨ (arrV _ _ _).slots.size ≤ _); rw [arrV_size]; exact hin) (by show (arrV _ _ _).slots[_]? = _; rw [arrV_read _ _ hlt]) rfl rfl hdg (kk _ (q2 _ hlt))
theorem wt_aald (hexec : p.tables.exec = Jvm.exec) (hb : c.code = cc) (hK : va_K D cl tys s) (hW : wt_P D cl G H) (t0 : Nat) {cA : ClassId} {n : Nat} {P : Nat → Value → Prop} {C : String} (hq : G a = some (.inr (cA, n, P))) (ht : tys[t0]? = some (cA, .object C)) {i : Int32} (hin : vp_in i n) (hdg : decode cc pc = .ok (.aaload, 1))
    (kk : ∀ v : Value, P i.toNatClampNeg v → W p l e R s m args below meth c H locs cells slots Q (F0 m (pc + 1) ls (v :: rest))) : W p l e R s m args below meth c H locs cells slots Q (F0 m pc ls (.int i :: .ref a :: rest)) := by
  obtain ⟨f, q1, q2⟩ := hW a _ hq
  have hlt : i.toNatClampNeg < n := Nat.not_le.mp fun q => hin (Or.inr q)
  exact W.aald (v := f i.toNatClampNeg) hexec hb q1 ((hK.2 t0 _ ht).1 n f) rfl (fun q => by cases q) (by show ¬ (i < 0 ∨ (arrV _ _ _).slots.size ≤ _); rw [arrV_size]; exact hin) (by show (arrV _ _ _).slots[_]? = _; rw [arrV_read _ _ hlt]) rfl rfl hdg (kk _ (q2 _ hlt))
theorem wt_alen (hexec : p.tables.exec = Jvm.exec) (hb : c.code = cc) (hK : va_K D cl tys s) (hW : wt_P D cl G H) (t0 : Nat) {cA : ClassId} {n : Nat} {P : Nat → Value → Prop} {ty : FieldType} (hq : G a = some (.inr (cA, n, P))) (ht : tys[t0]? = some (cA, ty)) {v : Int32} (hv : Int32.ofNat n = v) (hdg : decode cc pc = .ok (.arraylength, 1))
    (kk : W p l e R s m args below meth c H locs cells slots Q (F0 m (pc + 1) ls (.int v :: rest))) : W p l e R s m args below meth c H locs cells slots Q (F0 m pc ls (.ref a :: rest)) := by
  obtain ⟨f, q1, q2⟩ := hW a _ hq
  exact W.alen hexec hb q1 ((hK.2 t0 _ ht).1 n f) (by rw [arrV_size]; exact hv) rfl rfl hdg kk
/-- a place's exact value, the other places as they were -/
theorem wt_astored {cA : ClassId} {n i : Nat} {P : Nat → Value → Prop} {v : Value} {f : Nat → Value} {H1 : Heap} (q2 : ∀ j, j < n → P j (f j)) (e1 : H1[a]? = some ((arrV cA n f).setSlot i v)) : wt_at D cl a (.inr (cA, n, wt_fu P i v)) H1 := by
  refine ⟨updV f i v, by rw [e1, arrV_store], fun j hj => ?_⟩
  show wt_fu P i v j (updV f i v j)
  unfold wt_fu updV
  by_cases h : j = i
  · rw [if_pos h, if_pos h]
  · rw [if_neg h, if_neg h]; exact q2 j hj
theorem wt_P.keepA {D : va_G} {cl : List vw_C} {G : Nat → Option wt_E} {H : Heap} {a n k : Nat} {cA : ClassId} {P : Nat → Value → Prop} {v : Value} (h : wt_P D cl (wt_up G a (.inr (cA, n, wt_fu P k v))) H) (hq : G a = some (.inr (cA, n, P))) (hv : P k v) : wt_P D cl G H := by
  refine h.mono (fun b E' hb => ?_)
  by_cases hba : b = a
  · subst hba
    cases hq.symm.trans hb
    refine ⟨_, wt_up_eq, rfl, rfl, fun j w _ hw => ?_⟩
    have hw : (if j = k then w = v else P j w) := hw
    by_cases hj : j = k
    · rw [if_pos hj] at hw; rw [hw, hj]; exact hv
    · rw [if_neg hj] at hw; exact hw
  · refine ⟨E', (wt_up_ne hba).trans hb, ?_⟩
    cases E' with
    | inl o => exact ⟨rfl, fun _ _ h => h⟩
    | inr o => exact ⟨rfl, rfl, fun _ _ _ h => h⟩
theorem wt_iastU (hexec : p.tables.exec = Jvm.exec) (hb : c.code = cc) (hK : va_K D cl tys s) (hW : wt_P D cl G H) (hS : va_S A H0 H locs) (t0 : Nat) {cA : ClassId} {n : Nat} {P : Nat → Value → Prop} (hq : G a = some (.inr (cA, n, P))) (hA : A a) (ht : tys[t0]? = some (cA, .int)) {i x : Int32} (hin : vp_in i n) (hdg : decode cc pc = .ok (.iastore, 1))
    (kk : ∀ (H1 : Heap) (locs1 : List Loc), wt_P D cl (wt_up G a (.inr (cA, n, wt_fu P i.toNatClampNeg (.int x)))) H1 → va_S A H0 H1 locs1 → W p l e R s m args below meth c H1 locs1 cells slots Q (F0 m (pc + 1) ls rest)) : W p l e R s m args below meth c H locs cells slots Q (F0 m pc ls (.int x :: .int i :: .ref a :: rest)) := by
  obtain ⟨f, q1, q2⟩ := hW a _ hq
  refine W.iast hexec hb q1 ((hK.2 t0 _ ht).1 n f) (fun q => by cases q) (by show ¬ (i < 0 ∨ (arrV _ _ _).slots.size ≤ _); rw [arrV_size]; exact hin) rfl rfl hdg fun H1 e z oq => ?_
  exact kk H1 _ (hW.up (wt_astored q2 e) oq) (hS.put z oq hA)
theorem wt_iast (hexec : p.tables.exec = Jvm.exec) (hb : c.code = cc) (hK : va_K D cl tys s) (hW : wt_P D cl G H) (hS : va_S A H0 H locs) (t0 : Nat) {cA : ClassId} {n : Nat} {P : Nat → Value → Prop} (hq : G a = some (.inr (cA, n, P))) (hA : A a) (ht : tys[t0]? = some (cA, .int)) {i x : Int32} (hin : vp_in i n) (hv : P i.toNatClampNeg (.int x)) (hdg : decode cc pc = .ok (.iastore, 1))
    (kk : ∀ (H1 : Heap) (locs1 : List Loc), wt_P D cl G H1 → va_S A H0 H1 locs1 → W p l e R s m args below meth c H1 locs1 cells slots Q (F0 m (pc + 1) ls rest)) : W p l e R s m args below meth c H locs cells slots Q (F0 m pc ls (.int x :: .int i :: .ref a :: rest)) :=
  wt_iastU hexec hb hK hW hS t0 hq hA ht hin hdg (fun H1 locs1 h1 h2 => kk H1 locs1 (h1.keepA hq hv) h2)
theorem wt_lastU (hexec : p.tables.exec = Jvm.exec) (hb : c.code = cc) (hK : va_K D cl tys s) (hW : wt_P D cl G H) (hS : va_S A H0 H locs) (t0 : Nat) {cA : ClassId} {n : Nat} {P : Nat → Value → Prop} (hq : G a = some (.inr (cA, n, P))) (hA : A a) (ht : tys[t0]? = some (cA, .long)) {i : Int32} {x : Int64} (hin : vp_in i n) (hdg : decode cc pc = .ok (.lastore, 1))
    (kk : ∀ (H1 : Heap) (locs1 : List Loc), wt_P D cl (wt_up G a (.inr (cA, n, wt_fu P i.toNatClampNeg (.long x)))) H1 → va_S A H0 H1 locs1 → W p l e R s m args below meth c H1 locs1 cells slots Q (F0 m (pc + 1) ls rest)) : W p l e R s m args below meth c H locs cells slots Q (F0 m pc ls (.long x :: .int i :: .ref a :: rest)) := by
  obtain ⟨f, q1, q2⟩ := hW a _ hq
  refine W.last hexec hb q1 ((hK.2 t0 _ ht).1 n f) (fun q => by cases q) (by show ¬ (i < 0 ∨ (arrV _ _ _).slots.size ≤ _); rw [arrV_size]; exact hin) rfl rfl hdg fun H1 e z oq => ?_
  exact kk H1 _ (hW.up (wt_astored q2 e) oq) (hS.put z oq hA)
theorem wt_last (hexec : p.tables.exec = Jvm.exec) (hb : c.code = cc) (hK : va_K D cl tys s) (hW : wt_P D cl G H) (hS : va_S A H0 H locs) (t0 : Nat) {cA : ClassId} {n : Nat} {P : Nat → Value → Prop} (hq : G a = some (.inr (cA, n, P))) (hA : A a) (ht : tys[t0]? = some (cA, .long)) {i : Int32} {x : Int64} (hin : vp_in i n) (hv : P i.toNatClampNeg (.long x)) (hdg : decode cc pc = .ok (.lastore, 1))
    (kk : ∀ (H1 : Heap) (locs1 : List Loc), wt_P D cl G H1 → va_S A H0 H1 locs1 → W p l e R s m args below meth c H1 locs1 cells slots Q (F0 m (pc + 1) ls rest)) : W p l e R s m args below meth c H locs cells slots Q (F0 m pc ls (.long x :: .int i :: .ref a :: rest)) :=
  wt_lastU hexec hb hK hW hS t0 hq hA ht hin hdg (fun H1 locs1 h1 h2 => kk H1 locs1 (h1.keepA hq hv) h2)
theorem wt_zastU (hexec : p.tables.exec = Jvm.exec) (hb : c.code = cc) (hK : va_K D cl tys s) (hW : wt_P D cl G H) (hS : va_S A H0 H locs) (t0 : Nat) {cA : ClassId} {n : Nat} {P : Nat → Value → Prop} (hq : G a = some (.inr (cA, n, P))) (hA : A a) (ht : tys[t0]? = some (cA, .boolean)) {i x : Int32} (hin : vp_in i n) (hdg : decode cc pc = .ok (.bastore, 1))
    (kk : ∀ (H1 : Heap) (locs1 : List Loc), wt_P D cl (wt_up G a (.inr (cA, n, wt_fu P i.toNatClampNeg (narrow .boolean (.int x))))) H1 → va_S A H0 H1 locs1 → W p l e R s m args below meth c H1 locs1 cells slots Q (F0 m (pc + 1) ls rest)) : W p l e R s m args below meth c H locs cells slots Q (F0 m pc ls (.int x :: .int i :: .ref a :: rest)) := by
  obtain ⟨f, q1, q2⟩ := hW a _ hq
  refine W.zast hexec hb q1 ((hK.2 t0 _ ht).1 n f) (fun q => by cases q) (by show ¬ (i < 0 ∨ (arrV _ _ _).slots.size ≤ _); rw [arrV_size]; exact hin) rfl rfl hdg fun H1 e z oq => ?_
  exact kk H1 _ (hW.up (wt_astored q2 e) oq) (hS.put z oq hA)
theorem wt_zast (hexec : p.tables.exec = Jvm.exec) (hb : c.code = cc) (hK : va_K D cl tys s) (hW : wt_P D cl G H) (hS : va_S A H0 H locs) (t0 : Nat) {cA : ClassId} {n : Nat} {P : Nat → Value → Prop} (hq : G a = some (.inr (cA, n, P))) (hA : A a) (ht : tys[t0]? = some (cA, .boolean)) {i x : Int32} (hin : vp_in i n) (hv : P i.toNatClampNeg (narrow .boolean (.int x))) (hdg : decode cc pc = .ok (.bastore, 1))
    (kk : ∀ (H1 : Heap) (locs1 : List Loc), wt_P D cl G H1 → va_S A H0 H1 locs1 → W p l e R s m args below meth c H1 locs1 cells slots Q (F0 m (pc + 1) ls rest)) : W p l e R s m args below meth c H locs cells slots Q (F0 m pc ls (.int x :: .int i :: .ref a :: rest)) :=
  wt_zastU hexec hb hK hW hS t0 hq hA ht hin hdg (fun H1 locs1 h1 h2 => kk H1 locs1 (h1.keepA hq hv) h2)
end WTR
