theorem fit01 {a : Int32} (A : ir a 0 1) : fits .boolean (.int a) = true := by
  rcases rf_01 A with h | h <;> rw [h] <;> rfl
theorem ir_clamp {a : Int32} {la ha : Int} (A : ir a la ha) (h0 : 0 ≤ la) : (a.toNatClampNeg : Int) = a.toInt ∧ ¬ a < 0 := by
  obtain ⟨j, h1, h2, h3⟩ := ir_nI A h0
  have hc : a.toNatClampNeg = j := by rw [h2]; exact nI_clamp h1
  refine ⟨by omega, fun h => ?_⟩
  have := Int32.lt_iff_toInt_lt.mp h
  rw [Int32.toInt_zero] at this
  omega
section WCP
variable {p : Program} {l : Launch} {e : Env} {R : Room} {s : State} {m : MethodId} {args : Array Value} {below : List Frame} {meth : Method} {c : Code} {H : Heap} {locs : List Loc} {cells slots : Nat} {Q : State → Prop}
variable {cc : ByteArray} {pc : Nat} {ls : Array Slot} {rest : List Value} {D : va_G} {cl : List vw_C} {A : Nat → Prop} {a : Nat} {tys : List (ClassId × FieldType)} {G : Nat → Option wt_E} {H0 : Heap}
/-- System.arraycopy of ints from one row of a world to another (or the same) -/
theorem wt_copyi (hexec : p.tables.exec = Jvm.exec) (hb : c.code = cc) (hml : c.maxLocals = ls.size) {own : String} {index : Nat} (hown : s.vm.findClass own = some m.cls) (hlink : (Cond.methodLink own index arraycopyName).before args s = true) (hnat : (Cond.native arraycopyName).before args s = true) (hstat : (Cond.static arraycopyName).before args s = true) (hini : (Cond.initialized "java/lang/System").before args s = true)
    (hK : va_K D cl tys s) (hW : wt_P D cl G H) (hS : va_S A H0 H locs) (t0 t1 : Nat) {a0 : Nat} {c0 c1 : ClassId} {n0 n1 : Nat} {P0 P1 : Nat → Value → Prop} (ha0 : G a0 = some (.inr (c0, n0, P0))) (ha1 : G a = some (.inr (c1, n1, P1))) (hA : A a) (ht0 : tys[t0]? = some (c0, .int)) (ht1 : tys[t1]? = some (c1, .int))
    {sp dp n : Int32} (h1 : ¬ sp < 0) (h2 : ¬ dp < 0) (h3 : ¬ n < 0) (h4 : sp.toNatClampNeg + n.toNatClampNeg ≤ n0) (h5 : dp.toNatClampNeg + n.toNatClampNeg ≤ n1) (hint : ∀ (j : Nat) (v : Value), P0 j v → ∃ x : Int32, v = .int x) (hmv : ∀ (i j : Nat) (v : Value), P0 i v → P1 j v)
    (hframes : 1 ≤ R.frames) (hlocals : (rest.map fun v => v.category).sum + (nativeFrameWords "java/lang/System" "arraycopy" 5 + 11) ≤ R.locals) (hdg : decode cc pc = .ok (.invokestatic index, 3))
    (kk : ∀ (H1 : Heap) (locs1 : List Loc), wt_P D cl G H1 → va_S A H0 H1 locs1 → (∀ q : Nat, q ≠ a → H1[q]? = H[q]?) → W p l e R s m args below meth c H1 locs1 cells slots Q (F0 m (pc + 3) ls rest)) : W p l e R s m args below meth c H locs cells slots Q (F0 m pc ls (.int n :: .int dp :: .ref a :: .int sp :: .ref a0 :: rest)) := by
  have num : ∀ z : Int32, ¬ z < 0 → z.toInt = (z.toNatClampNeg : Int) := by
    intro z hz
    obtain ⟨j, hj, rfl⟩ := nI_of hz
    rw [nI_toInt hj, nI_clamp hj]
  obtain ⟨f, qf, pf⟩ := hW a0 _ ha0
  obtain ⟨g, qg, pg⟩ := hW a _ ha1
  have pf : ∀ j : Nat, j < n0 → P0 j (f j) := pf
  have pg : ∀ j : Nat, j < n1 → P1 j (g j) := pg
  intro T hT X
  obtain ⟨-, kA, hkA, cmA, hkkA⟩ := (hK.2 t0 _ ht0).1 n0 f
  obtain ⟨-, kB, hkB, cmB, hkkB⟩ := (hK.2 t1 _ ht1).1 n1 g
  obtain ⟨vm', X', step⟩ := X.arraycopy hexec hown hlink hnat hstat hini (src := a0) (dst := a) (cs := arrV c0 n0 f) (cd := arrV c1 n1 g) (srcPos := sp) (destPos := dp) (n := n) (by rw [hT]; exact qf) (by rw [hT]; exact qg)
    (fun _ h => by cases h) (fun _ h => by cases h) (fun h => by cases h) (fun h => by cases h) hkA hkB hkkA hkkB (by simp [refKind]) h1 h2 h3
    (by rw [num sp h1, num n h3, arrV_size]; omega) (by rw [num dp h2, num n h3, arrV_size]; omega)
    (fun vm₁ _ i hi => by
      have e : (arrV c0 n0 f).slots.getD (sp.toNatClampNeg + i) .null = f (sp.toNatClampNeg + i) := by
        rw [Array.getD_eq_getD_getElem?, arrV_read _ _ (by omega)]
        rfl
      obtain ⟨x, hx⟩ := hint _ _ (pf (sp.toNatClampNeg + i) (by omega))
      rw [e, hx]
      exact ⟨rfl, trivial⟩)
    (g := F0 m pc ls (.int n :: .int dp :: .ref a :: .int sp :: .ref a0 :: rest)) rfl (by rw [hml]) (rest := rest) rfl (by rw [hb]; exact hdg) hframes (by show 2 * 0 + _ + _ ≤ _; omega)
  have e1 : copied (arrV c0 n0 f) (arrV c1 n1 g) sp dp n = arrV c1 n1 (va_cpy f g sp.toNatClampNeg dp.toNatClampNeg n.toNatClampNeg) := va_copied (fun z : Value => z) c0 c1 f g h4
  rw [e1] at X' step
  generalize hnew : arrV c1 n1 (va_cpy f g sp.toNatClampNeg dp.toNatClampNeg n.toNatClampNeg) = new at X' step
  have hlt : a < H.size := (Array.getElem?_eq_some_iff.mp qg).1
  have hheap : ((T.setVm vm').setCell a new).heap = H.setIfInBounds a new := by rw [← hT]; rfl
  have oq : ∀ q : Nat, q ≠ a → (H.setIfInBounds a new)[q]? = H[q]? := fun q hq => by simp [Array.getElem?_setIfInBounds, Ne.symm hq]
  have hat : (H.setIfInBounds a new)[a]? = some new := by simp [Array.getElem?_setIfInBounds, hlt]
  have hW1 : wt_P D cl G (H.setIfInBounds a new) := by
    refine hW.same ha1 ⟨va_cpy f g sp.toNatClampNeg dp.toNatClampNeg n.toNatClampNeg, by rw [hat, hnew], fun j hj => ?_⟩ oq
    have hj : j < n1 := hj
    show P1 j (va_cpy f g sp.toNatClampNeg dp.toNatClampNeg n.toNatClampNeg j)
    unfold va_cpy
    by_cases hj2 : dp.toNatClampNeg ≤ j ∧ j < dp.toNatClampNeg + n.toNatClampNeg
    · rw [if_pos hj2]
      exact hmv _ _ _ (pf _ (by omega))
    · rw [if_neg hj2]; exact pg j hj
  obtain ⟨t, a1, b1⟩ := kk _ _ hW1 ⟨by simp; exact hS.1, fun q g1 g2 => by
      rw [oq q (fun e => g2 (by rw [e]; exact hA))]
      exact hS.2.1 q g1 g2, fun q hq => by
      rcases List.mem_append.mp hq with h | h
      · exact hS.2.2 q h
      · obtain ⟨z, -, hz⟩ := List.mem_map.mp h
        rw [← hz]
        exact hA⟩ oq _ hheap X'
  exact ⟨t, step t a1, b1⟩
end WCP
theorem cP20_int {N : c_N} (j : Nat) (v : Value) (h : cP20 N j v) : ∃ x : Int32, v = .int x := by
  obtain ⟨x, e, -⟩ := h
  exact ⟨x, e⟩
theorem cP20_mv {N : c_N} (i j : Nat) (v : Value) (h : cP20 N i v) : cP20 N j v := h
/-- a field's value in this heap, kept for a second load -/
def wt_pin (D : va_G) (cl : List vw_C) (a ci k : Nat) (v : Value) (H : Heap) : Prop := ∃ (r : vw_C) (V : Nat → Value), cl[ci]? = some r ∧ t_OB a (D.1 ci) r.2.2 (D.2 ci) H V ∧ V k = v
section WPN
variable {p : Program} {l : Launch} {e : Env} {R : Room} {s : State} {m : MethodId} {args : Array Value} {below : List Frame} {meth : Method} {c : Code} {H : Heap} {locs : List Loc} {cells slots : Nat} {Q : State → Prop}
variable {cc : ByteArray} {pc : Nat} {ls : Array Slot} {rest : List Value} {D : va_G} {cl : List vw_C} {A : Nat → Prop} {a : Nat} {tys : List (ClassId × FieldType)} {G : Nat → Option wt_E} {H0 : Heap}
theorem wt_getp (hexec : p.tables.exec = Jvm.exec) (hb : c.code = cc) {own C : String} {T : u_T} {N ci index : Nat} {Ts : List Cond} (hts : ∀ w ∈ Ts, w.before args s = true) (hin : ∀ w ∈ u_ws C T N, w ∈ Ts) (hown : s.vm.findClass own = some m.cls) (hK : va_K D cl tys s) (hW : wt_P D cl G H) {P : Nat → Value → Prop} (hq : G a = some (.inl (ci, P))) (hc : cl[ci]? = some (C, T, N)) (k : Nat) (hk : k < N) (hlink : (Cond.fieldLink own index (T k).1 (T k).2.1 (T k).2.2.1).before args s = true ∨ ∃ host, (Cond.fieldLinkNest own index (T k).1 (T k).2.1 (T k).2.2.1 host).before args s = true) (hdg : decode cc pc = .ok (.getfield index, 3))
    (kk : ∀ v : Value, P k v → wt_pin D cl a ci k v H → W p l e R s m args below meth c H locs cells slots Q (F0 m (pc + 3) ls (v :: rest))) : W p l e R s m args below meth c H locs cells slots Q (F0 m pc ls (.ref a :: rest)) := by
  obtain ⟨r, V, h1, hO, hp⟩ := hW a _ hq
  have hkk := kk (V k)
  have hpin : wt_pin D cl a ci k (V k) H := ⟨r, V, h1, hO, rfl⟩
  obtain ⟨cell, q1, q2, q3, q4⟩ := hO
  have hr : r = (C, T, N) := Option.some.inj (h1.symm.trans hc)
  subst hr
  obtain ⟨hS, hfc, kC, hkC, hkind⟩ := hK.1 ci _ hc
  obtain ⟨cf, kf, fi, f, hi, hsl⟩ := hS k hk
  rcases hlink with hlink | ⟨host, hlink⟩
  · refine W.getf hexec hb hown hlink hi (u_facts hfc hkC (u_lays hts hin hk) hi).1 q1 (by rw [q3]; exact fun h => by cases h) (v := V k) ?_ rfl rfl hdg (hkk (hp k hk) hpin)
    rw [hsl, q4 k hk]
  · refine va_Wgetf hexec hb hown hlink hi (u_facts hfc hkC (u_lays hts hin hk) hi).1 q1 (by rw [q3]; exact fun h => by cases h) (v := V k) ?_ rfl rfl hdg (hkk (hp k hk) hpin)
    rw [hsl, q4 k hk]
theorem wt_rel (hexec : p.tables.exec = Jvm.exec) (hb : c.code = cc) {own C : String} {T : u_T} {N ci index : Nat} {Ts : List Cond} (hts : ∀ w ∈ Ts, w.before args s = true) (hin : ∀ w ∈ u_ws C T N, w ∈ Ts) (hown : s.vm.findClass own = some m.cls) (hK : va_K D cl tys s) {v : Value} {k : Nat} (hpin : wt_pin D cl a ci k v H) (hc : cl[ci]? = some (C, T, N)) (hk : k < N) (hlink : (Cond.fieldLink own index (T k).1 (T k).2.1 (T k).2.2.1).before args s = true ∨ ∃ host, (Cond.fieldLinkNest own index (T k).1 (T k).2.1 (T k).2.2.1 host).before args s = true) (hdg : decode cc pc = .ok (.getfield index, 3))
    (kk : W p l e R s m args below meth c H locs cells slots Q (F0 m (pc + 3) ls (v :: rest))) : W p l e R s m args below meth c H locs cells slots Q (F0 m pc ls (.ref a :: rest)) := by
  obtain ⟨r, V, h1, ⟨cell, q1, q2, q3, q4⟩, hv⟩ := hpin
  have hr : r = (C, T, N) := Option.some.inj (h1.symm.trans hc)
  subst hr
  obtain ⟨hS, hfc, kC, hkC, hkind⟩ := hK.1 ci _ hc
  obtain ⟨cf, kf, fi, f, hi, hsl⟩ := hS k hk
  rcases hlink with hlink | ⟨host, hlink⟩
  · refine W.getf hexec hb hown hlink hi (u_facts hfc hkC (u_lays hts hin hk) hi).1 q1 (by rw [q3]; exact fun h => by cases h) (v := v) ?_ rfl rfl hdg kk
    rw [hsl, q4 k hk, hv]
  · refine va_Wgetf hexec hb hown hlink hi (u_facts hfc hkC (u_lays hts hin hk) hi).1 q1 (by rw [q3]; exact fun h => by cases h) (v := v) ?_ rfl rfl hdg kk
    rw [hsl, q4 k hk, hv]
end WPN
theorem wt_pin.kept {D : va_G} {cl : List vw_C} {a ci k : Nat} {v : Value} {H H1 : Heap} (h : wt_pin D cl a ci k v H) (hq : H1[a]? = H[a]?) : wt_pin D cl a ci k v H1 := by
  obtain ⟨r, V, h1, h2, h3⟩ := h
  exact ⟨r, V, h1, h2.kept hq, h3⟩
theorem wt_pin.lt {D : va_G} {cl : List vw_C} {a ci k : Nat} {v : Value} {H : Heap} (h : wt_pin D cl a ci k v H) : a < H.size := by
  obtain ⟨r, V, h1, ⟨cell, q1, -⟩, h3⟩ := h
  exact (Array.getElem?_eq_some_iff.mp q1).1
theorem ne_kind {N : c_N} {a b t u : Nat} (ha : N.2.2.1 a = some t) (hb : N.2.2.1 b = some u) (h : t ≠ u) : a ≠ b := by
  intro e
  rw [e, hb] at ha
  exact h (Option.some.inj ha).symm
section WPP
variable {p : Program} {l : Launch} {e : Env} {R : Room} {s : State} {m : MethodId} {args : Array Value} {below : List Frame} {meth : Method} {c : Code} {H : Heap} {locs : List Loc} {cells slots : Nat} {Q : State → Prop}
variable {cc : ByteArray} {pc : Nat} {ls : Array Slot} {rest : List Value} {D : va_G} {cl : List vw_C} {A : Nat → Prop} {a : Nat} {tys : List (ClassId × FieldType)} {G : Nat → Option wt_E} {H0 : Heap}
/-- a store into a field, with what it leaves of pins; oq: the other cells; o2: the object's other fields; np: the field itself -/
theorem wt_putp (hexec : p.tables.exec = Jvm.exec) (hb : c.code = cc) {own C : String} {T : u_T} {N ci index : Nat} {Ts : List Cond} (hts : ∀ w ∈ Ts, w.before args s = true) (hin : ∀ w ∈ u_ws C T N, w ∈ Ts) (ty0 : Nat → FieldType) (hty : ∀ k, k < N → parseFieldDescriptor (T k).2.2.1 = some (ty0 k)) (hnm : ∀ a, a < N → ∀ b, b < N → a ≠ b → (T a).2.1 ≠ (T b).2.1) (hown : s.vm.findClass own = some m.cls) (hK : va_K D cl tys s) (hW : wt_P D cl G H) (hS0 : va_S A H0 H locs) {P : Nat → Value → Prop} (hq : G a = some (.inl (ci, P))) (hA : A a) (hc : cl[ci]? = some (C, T, N)) (k : Nat) (hk : k < N) (hlink : (Cond.fieldLink own index (T k).1 (T k).2.1 (T k).2.2.1).before args s = true ∨ ∃ host, (Cond.fieldLinkNest own index (T k).1 (T k).2.1 (T k).2.2.1 host).before args s = true) (hfin : (T k).2.2.2 = false) {v : Value} (hn : narrow (ty0 k) v = v) (hfit : fits (ty0 k) v = true) (hv : P k v)
    (hdg : decode cc pc = .ok (.putfield index, 3)) (kk : ∀ (H1 : Heap) (locs1 : List Loc), wt_P D cl G H1 → va_S A H0 H1 locs1 → (∀ q : Nat, q ≠ a → H1[q]? = H[q]?) → (∀ (j : Nat) (w : Value), j ≠ k → j < N → wt_pin D cl a ci j w H → wt_pin D cl a ci j w H1) → wt_pin D cl a ci k v H1 → W p l e R s m args below meth c H1 locs1 cells slots Q (F0 m (pc + 3) ls rest)) : W p l e R s m args below meth c H locs cells slots Q (F0 m pc ls (v :: .ref a :: rest)) := by
  obtain ⟨r, V, h1, ⟨cell, q1, q2, q3, q4⟩, hp⟩ := hW a _ hq
  have hr : r = (C, T, N) := Option.some.inj (h1.symm.trans hc)
  subst hr
  have hap := va_apart (own := own) hts hin ty0 hty hnm hK hc
  obtain ⟨hS, hfc, kC, hkC, hkind⟩ := hK.1 ci _ hc
  obtain ⟨cf, kf, fi, f, hi, hsl⟩ := hS k hk
  have hlay := hts _ (hin _ (u_in_lay hk))
  unfold u_lay at hlay
  rw [if_neg (by rw [hfin]; decide)] at hlay
  have hst := (u_facts hfc hkC (u_lays hts hin hk) hi).1
  have h6 := u_store hfc hkC hkind hlay hi (hty k hk) hn hfit
  have fin : ∀ H' : Heap, H'[a]? = some (cell.setSlot f.slot v) → H'.size = H.size → (∀ q : Nat, q ≠ a → H'[q]? = H[q]?) → W p l e R s m args below meth c H' (locs ++ [⟨a, f.slot⟩]) cells slots Q (F0 m (pc + 3) ls rest) := by
    intro H' e1 e2 e3
    rw [hsl] at e1
    have hO : t_OB a (D.1 ci) N (D.2 ci) H' (updV V k v) := ⟨_, e1, q2, q3, t_set q4 hap hk v⟩
    refine kk H' _ ((hW.up (wt_stored (own := own) hts hin ty0 hty hnm hK hc hk q2 q3 q4 hp e1) e3).keepF hq hv) (hS0.put e2 e3 hA) e3 (fun j w hj hjN hpin => ?_) ⟨_, _, hc, hO, if_pos rfl⟩
    obtain ⟨r2, V2, g1, ⟨cell2, s1, s2, s3, s4⟩, g3⟩ := hpin
    have hr2 : r2 = (C, T, N) := Option.some.inj (g1.symm.trans hc)
    subst hr2
    cases q1.symm.trans s1
    refine ⟨_, _, hc, hO, ?_⟩
    show updV V k v j = w
    unfold updV
    rw [if_neg hj, ← g3]
    exact Option.some.inj ((q4 j hjN).symm.trans (s4 j hjN))
  rcases hlink with hlink | ⟨host, hlink⟩
  · exact W.putK hexec hb (f := f) ⟨hown, hlink, ⟨_, _, _, hi⟩, hst⟩ (by rw [q2]; exact h6) q1 q3 (by rw [hsl]; exact k2_hasslot (q4 k hk)) rfl rfl hdg fin
  · exact va_WputK hexec hb (f := f) hown hlink hi hst (by rw [q2]; exact h6) q1 q3 (by rw [hsl]; exact k2_hasslot (q4 k hk)) rfl rfl hdg fin
theorem wt_iastp (hexec : p.tables.exec = Jvm.exec) (hb : c.code = cc) (hK : va_K D cl tys s) (hW : wt_P D cl G H) (hS : va_S A H0 H locs) (t0 : Nat) {cA : ClassId} {n : Nat} {P : Nat → Value → Prop} (hq : G a = some (.inr (cA, n, P))) (hA : A a) (ht : tys[t0]? = some (cA, .int)) {i x : Int32} (hin : vp_in i n) (hv : P i.toNatClampNeg (.int x)) (hdg : decode cc pc = .ok (.iastore, 1))
    (kk : ∀ (H1 : Heap) (locs1 : List Loc), wt_P D cl G H1 → va_S A H0 H1 locs1 → (∀ q : Nat, q ≠ a → H1[q]? = H[q]?) → W p l e R s m args below meth c H1 locs1 cells slots Q (F0 m (pc + 1) ls rest)) : W p l e R s m args below meth c H locs cells slots Q (F0 m pc ls (.int x :: .int i :: .ref a :: rest)) := by
  obtain ⟨f, q1, q2⟩ := hW a _ hq
  refine W.iast hexec hb q1 ((hK.2 t0 _ ht).1 n f) (fun q => by cases q) (by show ¬ (i < 0 ∨ (arrV _ _ _).slots.size ≤ _); rw [arrV_size]; exact hin) rfl rfl hdg fun H1 e z oq => ?_
  exact kk H1 _ ((hW.up (wt_astored q2 e) oq).keepA hq hv) (hS.put z oq hA) oq
theorem wt_zastp (hexec : p.tables.exec = Jvm.exec) (hb : c.code = cc) (hK : va_K D cl tys s) (hW : wt_P D cl G H) (hS : va_S A H0 H locs) (t0 : Nat) {cA : ClassId} {n : Nat} {P : Nat → Value → Prop} (hq : G a = some (.inr (cA, n, P))) (hA : A a) (ht : tys[t0]? = some (cA, .boolean)) {i x : Int32} (hin : vp_in i n) (hv : P i.toNatClampNeg (narrow .boolean (.int x))) (hdg : decode cc pc = .ok (.bastore, 1))
    (kk : ∀ (H1 : Heap) (locs1 : List Loc), wt_P D cl G H1 → va_S A H0 H1 locs1 → (∀ q : Nat, q ≠ a → H1[q]? = H[q]?) → W p l e R s m args below meth c H1 locs1 cells slots Q (F0 m (pc + 1) ls rest)) : W p l e R s m args below meth c H locs cells slots Q (F0 m pc ls (.int x :: .int i :: .ref a :: rest)) := by
  obtain ⟨f, q1, q2⟩ := hW a _ hq
  refine W.zast hexec hb q1 ((hK.2 t0 _ ht).1 n f) (fun q => by cases q) (by show ¬ (i < 0 ∨ (arrV _ _ _).slots.size ≤ _); rw [arrV_size]; exact hin) rfl rfl hdg fun H1 e z oq => ?_
  exact kk H1 _ ((hW.up (wt_astored q2 e) oq).keepA hq hv) (hS.put z oq hA) oq
end WPP
theorem va_S.up {A B : Nat → Prop} {H0 H : Heap} {locs : List Loc} (h : va_S A H0 H locs) (hAB : ∀ q, A q → B q) : va_S B H0 H locs := ⟨h.1, fun q h1 h2 => h.2.1 q h1 (fun z => h2 (hAB q z)), fun q hq => hAB _ (h.2.2 q hq)⟩
theorem cpin {N : c_N} {H : Heap} (hW : cW N H) {a ci : Nat} {P : Nat → Value → Prop} (hq : cG N a = some (.inl (ci, P))) {q : vw_C} (hc : vwCl[ci]? = some q) (k : Nat) (hk : k < q.2.2) : ∃ v : Value, P k v ∧ wt_pin N.1 vwCl a ci k v H := by
  obtain ⟨r, V, h1, h2, h3⟩ := hW a _ hq
  have hr : r = q := Option.some.inj (h1.symm.trans hc)
  subst hr
  exact ⟨V k, h3 k hk, r, V, h1, h2, rfl⟩
theorem cpin_P {N : c_N} {H : Heap} (hW : cW N H) {a ci : Nat} {P : Nat → Value → Prop} (hq : cG N a = some (.inl (ci, P))) {q : vw_C} (hc : vwCl[ci]? = some q) {k : Nat} (hk : k < q.2.2) {v : Value} (h : wt_pin N.1 vwCl a ci k v H) : P k v := by
  obtain ⟨r, V, h1, ⟨cell, q1, q2, q3, q4⟩, h3⟩ := hW a _ hq
  obtain ⟨r', V', g1, ⟨cell', s1, s2, s3, s4⟩, g3⟩ := h
  have hr : r = q := Option.some.inj (h1.symm.trans hc)
  have hr' : r' = q := Option.some.inj (g1.symm.trans hc)
  subst hr; subst hr'
  cases q1.symm.trans s1
  have := Option.some.inj ((q4 k hk).symm.trans (s4 k hk))
  rw [← g3, ← this]
  exact h3 k hk
theorem gi_r {lo hi : Int} {x : Int32} (h : gi lo hi (.int x)) : ir x lo hi := by
  obtain ⟨y, e, r⟩ := h
  cases e
  exact r
