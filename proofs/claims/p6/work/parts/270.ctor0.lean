/-! CONSTRUCTORS: the world grows -/
theorem gr_mono {N : c_N} {K : Nat → Option Nat} {X : Nat → Nat → Int32} (hk : ∀ q t : Nat, N.2.2.1 q = some t → K q = some t) {t : Nat} {v : Value} (h : gr N t v) : gr (N.1, N.2.1, K, X) t v := by
  obtain ⟨q, h1, h2⟩ := h
  exact ⟨q, h1, hk q t h2⟩
theorem cm1 {N : c_N} {K : Nat → Option Nat} {X : Nat → Nat → Int32} (hk : ∀ q t : Nat, N.2.2.1 q = some t → K q = some t) (k : Nat) (v : Value) (h : cP1 N k v) : cP1 (N.1, N.2.1, K, X) k v := by
  match k, h with
  | 0, h => exact gr_mono hk h
  | 1, h => exact gr_mono hk h
  | 2, h => exact h
  | k + 3, h => exact h
theorem cm2 {N : c_N} {K : Nat → Option Nat} {X : Nat → Nat → Int32} (hk : ∀ q t : Nat, N.2.2.1 q = some t → K q = some t) (k : Nat) (v : Value) (h : cP2 N k v) : cP2 (N.1, N.2.1, K, X) k v := by
  match k, h with
  | 0, h => exact gr_mono hk h
  | 1, h => exact gr_mono hk h
  | 2, h => exact gr_mono hk h
  | 3, h => exact gr_mono hk h
  | k + 4, h => exact h
theorem cm3 {N : c_N} {K : Nat → Option Nat} {X : Nat → Nat → Int32} (hk : ∀ q t : Nat, N.2.2.1 q = some t → K q = some t) (k : Nat) (v : Value) (h : cP3 N k v) : cP3 (N.1, N.2.1, K, X) k v := by
  match k, h with
  | 0, h => exact gr_mono hk h
  | k + 1, h => exact h
theorem cm5 {N : c_N} {K : Nat → Option Nat} {X : Nat → Nat → Int32} (hk : ∀ q t : Nat, N.2.2.1 q = some t → K q = some t) (k : Nat) (v : Value) (h : cP5 N k v) : cP5 (N.1, N.2.1, K, X) k v := by
  match k, h with
  | 0, h => exact gr_mono hk h
  | 1, h => exact gr_mono hk h
  | k + 2, h => exact h
theorem cm6 {N : c_N} {K : Nat → Option Nat} {X : Nat → Nat → Int32} (hk : ∀ q t : Nat, N.2.2.1 q = some t → K q = some t) (k : Nat) (v : Value) (h : cP6 N k v) : cP6 (N.1, N.2.1, K, X) k v := by
  match k, h with
  | 0, h => exact gr_mono hk h
  | 1, h => exact gr_mono hk h
  | 2, h => exact gr_mono hk h
  | 3, h => exact h
  | k + 4, h => exact h
theorem cm7 {N : c_N} {K : Nat → Option Nat} {X : Nat → Nat → Int32} (hk : ∀ q t : Nat, N.2.2.1 q = some t → K q = some t) (k : Nat) (v : Value) (h : cP7 N k v) : cP7 (N.1, N.2.1, K, X) k v := by
  match k, h with
  | 0, h => exact gr_mono hk h
  | k + 1, h => exact gr_mono hk h
theorem cm9 {N : c_N} {K : Nat → Option Nat} {X : Nat → Nat → Int32} (hk : ∀ q t : Nat, N.2.2.1 q = some t → K q = some t) (k : Nat) (v : Value) (h : cP9 N k v) : cP9 (N.1, N.2.1, K, X) k v := by
  match k, h with
  | 0, h => exact gr_mono hk h
  | 1, h => exact h
  | 2, h => exact h
  | 3, h => exact h
  | 4, h => exact gr_mono hk h
  | 5, h => exact gr_mono hk h
  | 6, h => exact gr_mono hk h
  | 7, h => exact h
  | 8, h => exact h
  | 9, h => exact h
  | 10, h => exact h
  | k + 11, h => exact h
theorem cm10 {N : c_N} {K : Nat → Option Nat} {X : Nat → Nat → Int32} (hk : ∀ q t : Nat, N.2.2.1 q = some t → K q = some t) (k : Nat) (v : Value) (h : cP10 N k v) : cP10 (N.1, N.2.1, K, X) k v := by
  match k, h with
  | 0, h => exact gr_mono hk h
  | 1, h => exact gr_mono hk h
  | 2, h => exact gr_mono hk h
  | 3, h => exact gr_mono hk h
  | 4, h => exact gr_mono hk h
  | 5, h => exact gr_mono hk h
  | 6, h => exact gr_mono hk h
  | 7, h => exact gr_mono hk h
  | 8, h => exact gr_mono hk h
  | 9, h => exact gr_mono hk h
  | 10, h => exact gr_mono hk h
  | 11, h => exact gr_mono hk h
  | 12, h => exact gr_mono hk h
  | k + 13, h => exact h
theorem cm11 {N : c_N} {K : Nat → Option Nat} {X : Nat → Nat → Int32} (hk : ∀ q t : Nat, N.2.2.1 q = some t → K q = some t) (k : Nat) (v : Value) (h : cP11 N k v) : cP11 (N.1, N.2.1, K, X) k v := by
  match k, h with
  | 0, h => exact gr_mono hk h
  | 1, h => exact gr_mono hk h
  | 2, h => exact h
  | 3, h => exact h
  | 4, h => exact gr_mono hk h
  | 5, h => exact gr_mono hk h
  | 6, h => exact gr_mono hk h
  | 7, h => exact h
  | 8, h => exact gr_mono hk h
  | 9, h => exact gr_mono hk h
  | 10, h => exact gr_mono hk h
  | 11, h => exact gr_mono hk h
  | 12, h => exact gr_mono hk h
  | 13, h => exact h
  | 14, h => exact gr_mono hk h
  | 15, h => exact h
  | 16, h => exact h
  | 17, h => exact h
  | 18, h => exact h
  | 19, h => exact h
  | 20, h => exact h
  | 21, h => exact h
  | 22, h => exact h
  | 23, h => exact gr_mono hk h
  | 24, h => exact gr_mono hk h
  | 25, h => exact gr_mono hk h
  | 26, h => exact h
  | 27, h => exact gr_mono hk h
  | 28, h => exact gr_mono hk h
  | 29, h => exact h
  | 30, h => exact h
  | 31, h => exact h
  | 32, h => exact h
  | 33, h => exact h
  | 34, h => exact h
  | 35, h => exact h
  | 36, h => exact h
  | 37, h => exact h
  | 38, h => exact h
  | 39, h => exact h
  | 40, h => exact h
  | 41, h => exact h
  | 42, h => exact h
  | 43, h => exact gr_mono hk h
  | 44, h => exact gr_mono hk h
  | 45, h => exact gr_mono hk h
  | 46, h => exact gr_mono hk h
  | 47, h => exact gr_mono hk h
  | 48, h => exact h
  | 49, h => exact h
  | 50, h => exact h
  | 51, h => exact h
  | 52, h => exact h
  | 53, h => exact h
  | 54, h => exact gr_mono hk h
  | 55, h => exact h
  | k + 56, h => exact gr_mono hk h
theorem cK_mono {N : c_N} {K : Nat → Option Nat} {X : Nat → Nat → Int32} (hk : ∀ q t : Nat, N.2.2.1 q = some t → K q = some t) {b : Nat} (hX : X b = N.2.2.2 b) (t : Nat) : wt_le (cK N b t) (cK (N.1, N.2.1, K, X) b t) := by
  have h27 : wt_le (.inr (N.2.1 0, 6, cP27 N b)) (.inr (N.2.1 0, 6, cP27 (N.1, N.2.1, K, X) b)) := by
    refine ⟨rfl, rfl, fun j v _ h => ?_⟩
    show v = .int (X b j)
    rw [hX]; exact h
  unfold cK
  split <;> first
    | exact h27
    | exact wt_le_rfl _
    | exact ⟨rfl, fun k v h => cm1 hk k v h⟩
    | exact ⟨rfl, fun k v h => cm2 hk k v h⟩
    | exact ⟨rfl, fun k v h => cm3 hk k v h⟩
    | exact ⟨rfl, fun k v h => cm5 hk k v h⟩
    | exact ⟨rfl, fun k v h => cm6 hk k v h⟩
    | exact ⟨rfl, fun k v h => cm7 hk k v h⟩
    | exact ⟨rfl, fun k v h => cm9 hk k v h⟩
    | exact ⟨rfl, fun k v h => cm10 hk k v h⟩
    | exact ⟨rfl, fun k v h => cm11 hk k v h⟩
    | exact ⟨rfl, rfl, fun j v _ h => gr_mono hk h⟩
abbrev iU : Type := (Nat → Option Nat) × (Nat → Nat → Int32)
abbrev nN (N : c_N) (u : iU) : c_N := (N.1, N.2.1, u.1, u.2)
def aU (u : iU) (a t : Nat) : iU := (fun q => if q = a then some t else u.1 q, u.2)
def aX (u : iU) (a t : Nat) (f : Nat → Int32) : iU := (fun q => if q = a then some t else u.1 q, fun q => if q = a then f else u.2 q)
theorem aU_self {u : iU} {a t : Nat} : (aU u a t).1 a = some t := if_pos rfl
theorem aX_self {u : iU} {a t : Nat} {f : Nat → Int32} : (aX u a t f).1 a = some t := if_pos rfl
theorem aU_ne {u : iU} {a t b : Nat} (h : b ≠ a) : (aU u a t).1 b = u.1 b := if_neg h
theorem aU_old {u : iU} {a t b k : Nat} (hn : u.1 a = none) (h : u.1 b = some k) : (aU u a t).1 b = some k := by
  rw [aU_ne]; exact h
  intro e; rw [e, hn] at h; cases h
theorem aX_old {u : iU} {a t b k : Nat} {f : Nat → Int32} (hn : u.1 a = none) (h : u.1 b = some k) : (aX u a t f).1 b = some k := by
  have : (aX u a t f).1 b = u.1 b := if_neg (by intro e; rw [e, hn] at h; cases h)
  rw [this]; exact h
theorem cW_add {N : c_N} {u : iU} {H : Heap} {a t : Nat} {E : wt_E} (hW : cW (nN N u) H) (hn : u.1 a = none) (ha : wt_at N.1 vwCl a E H) (hE : wt_le E (cK (nN N (aU u a t)) a t)) : cW (nN N (aU u a t)) H := by
  intro b E' hb
  have hb : ((aU u a t).1 b).map (cK (nN N (aU u a t)) b) = some E' := hb
  by_cases hba : b = a
  · subst hba
    rw [aU_self] at hb
    rw [← Option.some.inj hb]
    exact ha.mono hE
  · rw [aU_ne hba] at hb
    cases ht : u.1 b with
    | none => rw [ht] at hb; cases hb
    | some t' =>
      rw [ht] at hb
      rw [← Option.some.inj hb]
      have h0 : cG (nN N u) b = some (cK (nN N u) b t') := by unfold cG; show (u.1 b).map _ = _; rw [ht]; rfl
      exact (hW b _ h0).mono (cK_mono (N := nN N u) (K := (aU u a t).1) (X := u.2) (fun q t h => aU_old hn h) rfl t')
theorem cW_addX {N : c_N} {u : iU} {H : Heap} {a t : Nat} {f : Nat → Int32} {E : wt_E} (hW : cW (nN N u) H) (hn : u.1 a = none) (ha : wt_at N.1 vwCl a E H) (hE : wt_le E (cK (nN N (aX u a t f)) a t)) : cW (nN N (aX u a t f)) H := by
  intro b E' hb
  have hb : ((aX u a t f).1 b).map (cK (nN N (aX u a t f)) b) = some E' := hb
  by_cases hba : b = a
  · subst hba
    rw [aX_self] at hb
    rw [← Option.some.inj hb]
    exact ha.mono hE
  · have hne : (aX u a t f).1 b = u.1 b := if_neg hba
    rw [hne] at hb
    cases ht : u.1 b with
    | none => rw [ht] at hb; cases hb
    | some t' =>
      rw [ht] at hb
      rw [← Option.some.inj hb]
      have h0 : cG (nN N u) b = some (cK (nN N u) b t') := by unfold cG; show (u.1 b).map _ = _; rw [ht]; rfl
      exact (hW b _ h0).mono (cK_mono (N := nN N u) (K := (aX u a t f).1) (X := (aX u a t f).2) (fun q t h => aX_old hn h) (if_neg hba) t')
theorem cW_none {N : c_N} {u : iU} {H : Heap} {a : Nat} (hW : cW (nN N u) H) (h : H.size ≤ a) : u.1 a = none := by
  cases ht : u.1 a with
  | none => rfl
  | some t =>
    have := hW_lt (N := nN N u) hW ht
    omega
theorem cW_kept {N : c_N} {u : iU} {H H1 : Heap} (hW : cW (nN N u) H) (hq : ∀ a t : Nat, u.1 a = some t → H1[a]? = H[a]?) : cW (nN N u) H1 := by
  intro b E hb
  have hb' : (u.1 b).map (cK (nN N u) b) = some E := hb
  cases ht : u.1 b with
  | none => rw [ht] at hb'; cases hb'
  | some t => exact (hW b E hb).kept (hq b t ht)
section WIR
variable {p : Program} {l : Launch} {e : Env} {R : Room} {s : State} {m : MethodId} {args : Array Value} {below : List Frame} {meth : Method} {c : Code} {H : Heap} {locs : List Loc} {cells slots : Nat} {Q : State → Prop}
variable {cc : ByteArray} {pc : Nat} {ls : Array Slot} {rest : List Value} {D : va_G} {cl : List vw_C} {A : Nat → Prop} {a : Nat} {tys : List (ClassId × FieldType)} {H0 : Heap}
theorem wi_get (hexec : p.tables.exec = Jvm.exec) (hb : c.code = cc) {own C : String} {T : u_T} {N ci index : Nat} {Ts : List Cond} (hts : ∀ w ∈ Ts, w.before args s = true) (hin : ∀ w ∈ u_ws C T N, w ∈ Ts) (hown : s.vm.findClass own = some m.cls) (hK : va_K D cl tys s) {P : Nat → Value → Prop} (hT : wt_at D cl a (.inl (ci, P)) H) (hc : cl[ci]? = some (C, T, N)) (k : Nat) (hk : k < N) (hlink : (Cond.fieldLink own index (T k).1 (T k).2.1 (T k).2.2.1) ∈ Ts) {v : Value} (hv : ∀ w : Value, P k w → w = v) (hdg : decode cc pc = .ok (.getfield index, 3))
    (kk : W p l e R s m args below meth c H locs cells slots Q (F0 m (pc + 3) ls (v :: rest))) : W p l e R s m args below meth c H locs cells slots Q (F0 m pc ls (.ref a :: rest)) := by
  obtain ⟨r, V, h1, ⟨cell, q1, q2, q3, q4⟩, hp⟩ := hT
  have hr : r = (C, T, N) := Option.some.inj (h1.symm.trans hc)
  subst hr
  obtain ⟨hS, hfc, kC, hkC, hkind⟩ := hK.1 ci _ hc
  obtain ⟨cf, kf, fi, f, hi, hsl⟩ := hS k hk
  refine W.getf hexec hb hown (hts _ hlink) hi (u_facts hfc hkC (u_lays hts hin hk) hi).1 q1 (by rw [q3]; exact fun h => by cases h) (v := v) ?_ rfl rfl hdg kk
  rw [hsl, q4 k hk, hv _ (hp k hk)]
theorem wi_put (hexec : p.tables.exec = Jvm.exec) (hb : c.code = cc) {own C : String} {T : u_T} {N ci index : Nat} {Ts : List Cond} (hts : ∀ w ∈ Ts, w.before args s = true) (hin : ∀ w ∈ u_ws C T N, w ∈ Ts) (ty0 : Nat → FieldType) (hty : ∀ k, k < N → parseFieldDescriptor (T k).2.2.1 = some (ty0 k)) (hnm : ∀ a, a < N → ∀ b, b < N → a ≠ b → (T a).2.1 ≠ (T b).2.1) (hown : s.vm.findClass own = some m.cls) (hin2 : meth.name = "<init>") (hK : va_K D cl tys s) {P : Nat → Value → Prop} (hT : wt_at D cl a (.inl (ci, P)) H) (hS0 : va_S A H0 H locs) (hA : A a) (hc : cl[ci]? = some (C, T, N)) (k : Nat) (hk : k < N) (hlink : (Cond.fieldLink own index (T k).1 (T k).2.1 (T k).2.2.1) ∈ Ts) (hdecl : (T k).1 = own) {v : Value} (hn : narrow (ty0 k) v = v) (hfit : fits (ty0 k) v = true)
    (hdg : decode cc pc = .ok (.putfield index, 3)) (kk : ∀ (H1 : Heap) (locs1 : List Loc), wt_at D cl a (.inl (ci, wt_fu P k v)) H1 → (∀ q : Nat, q ≠ a → H1[q]? = H[q]?) → H1.size = H.size → va_S A H0 H1 locs1 → W p l e R s m args below meth c H1 locs1 cells slots Q (F0 m (pc + 3) ls rest)) : W p l e R s m args below meth c H locs cells slots Q (F0 m pc ls (v :: .ref a :: rest)) := by
  obtain ⟨r, V, h1, ⟨cell, q1, q2, q3, q4⟩, hp⟩ := hT
  have hr : r = (C, T, N) := Option.some.inj (h1.symm.trans hc)
  subst hr
  have hap := va_apart (own := own) hts hin ty0 hty hnm hK hc
  have hKn := hK.1 ci _ hc
  obtain ⟨hS, hfc, kC, hkC, hkind⟩ := hK.1 ci _ hc
  obtain ⟨cf, kf, fi, f, hi, hsl⟩ := hS k hk
  have hlay := hts _ (hin _ (u_in_lay hk))
  have hst := (u_facts hfc hkC (u_lays hts hin hk) hi).1
  by_cases hfin : (T k).2.2.2 = true
  · unfold u_lay at hlay
    rw [if_pos hfin] at hlay
    have hcf : m.cls = cf := by
      obtain ⟨_, _, c', _, _, _, -, -, hf', -, -, -, hown2, -⟩ := Cond.laysFinal_spec hlay
      have e1 : c' = cf := by have := hi.symm.trans hf'; simp at this; exact this.1.symm
      rw [hdecl] at hown2
      rw [← e1]; exact Option.some.inj (hown.symm.trans hown2)
    have h6 := u_fits hfc hkC hkind (Or.inr hlay) hi (hty k hk) hn hfit
    refine W.putFinK hexec hb hown (hts _ hlink) hi hst hcf hin2 (by rw [q2]; exact h6) q1 q3 (by rw [hsl]; exact k2_hasslot (q4 k hk)) rfl rfl hdg fun H' e1 e2 e3 => ?_
    rw [hsl] at e1 ⊢
    exact kk H' _ (wt_stored (own := own) hts hin ty0 hty hnm hK hc hk q2 q3 q4 hp e1) e3 e2 (hS0.put e2 e3 hA)
  · unfold u_lay at hlay
    rw [if_neg hfin] at hlay
    have h6 := u_store hfc hkC hkind hlay hi (hty k hk) hn hfit
    refine W.putK hexec hb (f := f) ⟨hown, hts _ hlink, ⟨_, _, _, hi⟩, hst⟩ (by rw [q2]; exact h6) q1 q3 (by rw [hsl]; exact k2_hasslot (q4 k hk)) rfl rfl hdg fun H' e1 e2 e3 => ?_
    rw [hsl] at e1 ⊢
    exact kk H' _ (wt_stored (own := own) hts hin ty0 hty hnm hK hc hk q2 q3 q4 hp e1) e3 e2 (hS0.put e2 e3 hA)
theorem wi_new (hexec : p.tables.exec = Jvm.exec) (hb : c.code = cc) {own C : String} {T : u_T} {N ci index : Nat} {Ts : List Cond} (hts : ∀ w ∈ Ts, w.before args s = true) (hin : ∀ w ∈ u_ws C T N, w ∈ Ts) (ty : Nat → FieldType) (hty : ∀ k, k < N → parseFieldDescriptor (T k).2.2.1 = some (ty k)) (hown : s.vm.findClass own = some m.cls) (hcl : (Cond.classLink own index C) ∈ Ts) (hinst : (Cond.instantiable C N) ∈ Ts) (hini : (Cond.initialized C) ∈ Ts)
    (hK : va_K D cl tys s) (hS : va_S A H0 H locs) (hc : cl[ci]? = some (C, T, N)) (hcells : cells + 1 ≤ R.cells) (hslots : slots + N ≤ R.slots) (hdg : decode cc pc = .ok (.new index, 3))
    (kk : ∀ (q : Nat) (H1 : Heap), q = H.size → H1.size = q + 1 → (∀ x : Nat, x < q → H1[x]? = H[x]?) → wt_at D cl q (.inl (ci, fun k v => v = defaultValue (ty k))) H1 → va_S A H0 H1 locs → W p l e R s m args below meth c H1 locs (cells + 1) (slots + N) Q (F0 m (pc + 3) ls (.ref q :: rest))) : W p l e R s m args below meth c H locs cells slots Q (F0 m pc ls rest) := by
  have hKn := hK.1 ci _ hc
  refine W.newcK hexec hb hown (hts _ hcl) (hts _ hinst) (hts _ hini) rfl hdg hcells hslots hKn.2.1 rfl fun H1 kC hkC e1 z1 o1 => ?_
  exact kk H.size H1 rfl z1 o1 ⟨_, _, hc, u_born ty hts hin hKn hkC e1 hty, fun _ _ => rfl⟩ ⟨Nat.le_trans hS.1 (by omega), fun x h1 h2 => (o1 x (Nat.lt_of_lt_of_le h1 hS.1)).trans (hS.2.1 x h1 h2), hS.2.2⟩
theorem wi_newa (hexec : p.tables.exec = Jvm.exec) (hb : c.code = cc) {atype : ArrayType} (harr : (Cond.arrayClass (newarray.typeOf atype)).before args s = true) (hK : va_K D cl tys s) (hS : va_S A H0 H locs) (t0 : Nat) {cA : ClassId} (ht : tys[t0]? = some (cA, newarray.typeOf atype)) (hra : va_RA s cA (newarray.typeOf atype) → s.vm.findClass ("[" ++ (newarray.typeOf atype).toString) = some cA) {n : Int32} {N : Nat} (hn : ¬ n < 0) (hN : n.toNatClampNeg = N) (hbytes : N * componentBytes (newarray.typeOf atype) ≤ 536870912) (hcells : cells + 1 ≤ R.cells) (hslots : slots + N ≤ R.slots) (hdg : decode cc pc = .ok (.newarray atype, 2))
    (kk : ∀ (q : Nat) (H1 : Heap), q = H.size → H1.size = q + 1 → (∀ x : Nat, x < q → H1[x]? = H[x]?) → wt_at D cl q (.inr (cA, N, fun _ v => v = defaultValue (newarray.typeOf atype))) H1 → va_S A H0 H1 locs → W p l e R s m args below meth c H1 locs (cells + 1) (slots + N) Q (F0 m (pc + 2) ls (.ref q :: rest))) : W p l e R s m args below meth c H locs cells slots Q (F0 m pc ls (.int n :: rest)) := by
  refine va_newaK hexec hb harr rfl hdg rfl hn hN hbytes hcells hslots rfl fun H1 cA' e1 z1 o1 hAr hf => ?_
  have he : cA' = cA := Option.some.inj (hf.symm.trans (hra (hK.2 t0 _ ht).2))
  subst he
  exact kk H.size H1 rfl z1 o1 ⟨_, e1, fun _ _ => rfl⟩ ⟨Nat.le_trans hS.1 (by omega), fun x h1 h2 => (o1 x (Nat.lt_of_lt_of_le h1 hS.1)).trans (hS.2.1 x h1 h2), hS.2.2⟩
theorem wi_anew (hexec : p.tables.exec = Jvm.exec) (hb : c.code = cc) {own C : String} {index : Nat} {Ts : List Cond} (hts : ∀ w ∈ Ts, w.before args s = true) (hown : s.vm.findClass own = some m.cls) (hclink : (Cond.classLink own index C) ∈ Ts) (hover : va_AO C s) (hK : va_K D cl tys s) (hS : va_S A H0 H locs) (t0 : Nat) {cA : ClassId} (ht : tys[t0]? = some (cA, .object C)) {n : Int32} {N : Nat} (hn : ¬ n < 0) (hN : n.toNatClampNeg = N) (hbytes : N * 4 ≤ 536870912) (hcells : cells + 1 ≤ R.cells) (hslots : slots + N ≤ R.slots) (hdg : decode cc pc = .ok (.anewarray index, 3))
    (kk : ∀ (q : Nat) (H1 : Heap), q = H.size → H1.size = q + 1 → (∀ x : Nat, x < q → H1[x]? = H[x]?) → wt_at D cl q (.inr (cA, N, fun _ _ => True)) H1 → va_S A H0 H1 locs → W p l e R s m args below meth c H1 locs (cells + 1) (slots + N) Q (F0 m (pc + 3) ls (.ref q :: rest))) : W p l e R s m args below meth c H locs cells slots Q (F0 m pc ls (.int n :: rest)) := by
  subst hN
  refine W.anew hexec hb hown (hts _ hclink) (va_AO.use hover) rfl hdg rfl hn hbytes hcells hslots fun cA' kA comp f1 f2 f3 f4 => ?_
  obtain ⟨kA', comp', g1, g2, g3, g4⟩ := (hK.2 t0 _ ht).2
  have he : cA' = cA := Option.some.inj (f1.symm.trans g4)
  subst he
  generalize hH1 : H.push ({ cls := cA', slots := Array.replicate n.toNatClampNeg .null, vm := .none } : Cell) = H1
  have z1 : H1.size = H.size + 1 := by rw [← hH1, Array.size_push]
  have e1 : H1[H.size]? = some (arrV cA' n.toNatClampNeg (fun _ => .null)) := by rw [← hH1, Array.getElem?_push_size, ← arrV_new]
  have o1 : ∀ q : Nat, q < H.size → H1[q]? = H[q]? := fun q hq => by rw [← hH1, Array.getElem?_push, if_neg (Nat.ne_of_lt hq)]
  exact kk H.size H1 rfl z1 o1 ⟨_, e1, fun _ _ => trivial⟩ ⟨Nat.le_trans hS.1 (by omega), fun x h1 h2 => (o1 x (Nat.lt_of_lt_of_le h1 hS.1)).trans (hS.2.1 x h1 h2), hS.2.2⟩
theorem wi_aast (hexec : p.tables.exec = Jvm.exec) (hb : c.code = cc) (hK : va_K D cl tys s) (hS : va_S A H0 H locs) (t0 ci : Nat) {cA : ClassId} {r : vw_C} {n v : Nat} {PA : Nat → Value → Prop} {PV : Nat → Value → Prop} (ha : wt_at D cl a (.inr (cA, n, PA)) H) (hA : A a) (ht : tys[t0]? = some (cA, .object r.1)) (hv : wt_at D cl v (.inl (ci, PV)) H) (hc : cl[ci]? = some r) {i : Int32} (hin : vp_in i n) (hdg : decode cc pc = .ok (.aastore, 1))
    (kk : ∀ (H1 : Heap) (locs1 : List Loc), wt_at D cl a (.inr (cA, n, wt_fu PA i.toNatClampNeg (.ref v))) H1 → (∀ q : Nat, q ≠ a → H1[q]? = H[q]?) → H1.size = H.size → va_S A H0 H1 locs1 → W p l e R s m args below meth c H1 locs1 cells slots Q (F0 m (pc + 1) ls rest)) : W p l e R s m args below meth c H locs cells slots Q (F0 m pc ls (.ref v :: .int i :: .ref a :: rest)) := by
  have hlt : i.toNatClampNeg < n := Nat.not_le.mp fun q => hin (Or.inr q)
  have h0 : ¬ i < 0 := fun q => hin (Or.inl q)
  obtain ⟨f, qa, pa⟩ := ha
  obtain ⟨r', V, hr', ⟨cellV, g1, g2, g3, -⟩, -⟩ := hv
  have hcls := (hK.1 ci r hc).2
  obtain ⟨kA, comp, k1, k2, k3, -⟩ := (hK.2 t0 _ ht).2
  have hcomp : comp = D.1 ci := Option.some.inj (k3.symm.trans hcls.1)
  subst hcomp
  obtain ⟨kC, hkC, -⟩ := hcls.2
  refine W.aast hexec hb qa (fun q h => by cases h) (fun h => by cases h) k1 k2 rfl hkC ⟨h0, by show _ < (arrV _ _ _).slots.size; rw [arrV_size]; exact hlt⟩ g1 (fun q h => by rw [g3] at h; cases h) (by rw [g2]; exact hkC) (by rw [g2]; exact va_assign hcls) rfl rfl hdg fun H1 e z oq => ?_
  refine kk H1 _ ⟨updV f i.toNatClampNeg (.ref v), by rw [e, arrV_store], fun j hj => ?_⟩ oq z (hS.put z oq hA)
  show wt_fu PA _ _ j (updV f _ _ j)
  unfold wt_fu updV
  by_cases h : j = i.toNatClampNeg
  · rw [if_pos h, if_pos h]
  · rw [if_neg h, if_neg h]; exact pa j hj
end WIR
def cF (cA : ClassId) (f : String) (g : Nat → Int32) (A : Nat → Prop) (U : State) (H : Heap) : Prop := ∃ (t : Nat) (cell : Cell), va_Z "ThinCoats" f "[I" (.ref t) A U H ∧ H[t]? = some cell ∧ cell.cls = cA ∧ cell.vm ≠ .unknown ∧ (∀ k, cell.vm ≠ .statics k) ∧ cell.slots.size = 6 ∧ (∀ j : Nat, j < 6 → cell.slots[j]? = some (.int (g j))) ∧ ¬ A t
theorem cF.moved {cA : ClassId} {f : String} {g : Nat → Int32} {A : Nat → Prop} {u U : State} {H : Heap} (hvm : u.vm.Alike U.vm) (h : cF cA f g A u H) : cF cA f g A U H := by
  obtain ⟨t, cell, h1, h2⟩ := h
  exact ⟨t, cell, h1.moved hvm, h2⟩
theorem cF.kept {cA : ClassId} {f : String} {g : Nat → Int32} {A : Nat → Prop} {U : State} {H H1 : Heap} (h : cF cA f g A U H) (hq : ∀ a : Nat, a < H.size → ¬ A a → H1[a]? = H[a]?) : cF cA f g A U H1 := by
  obtain ⟨t, cell, h1, h2, h3, h4, h5, h6, h7, h8⟩ := h
  exact ⟨t, cell, h1.kept hq, by rw [hq t (Array.getElem?_eq_some_iff.mp h2).1 h8]; exact h2, h3, h4, h5, h6, h7, h8⟩
def cTF (cA : ClassId) (A : Nat → Prop) (U : State) (H : Heap) : Prop := cT A U H ∧ cF cA "FIRST_U" fsU A U H ∧ cF cA "FIRST_V" fsV A U H
theorem cTF.moved {cA : ClassId} {A : Nat → Prop} {u U : State} {H : Heap} (hvm : u.vm.Alike U.vm) (h : cTF cA A u H) : cTF cA A U H := ⟨h.1.moved hvm, h.2.1.moved hvm, h.2.2.moved hvm⟩
theorem cTF.kept {cA : ClassId} {A : Nat → Prop} {U : State} {H H1 : Heap} (h : cTF cA A U H) (hq : ∀ a : Nat, a < H.size → ¬ A a → H1[a]? = H[a]?) : cTF cA A U H1 := ⟨h.1.kept hq, h.2.1.kept hq, h.2.2.kept hq⟩
section WCL
variable {p : Program} {l : Launch} {e : Env} {R : Room} {s : State} {m : MethodId} {args : Array Value} {below : List Frame} {meth : Method} {c : Code} {H : Heap} {locs : List Loc} {cells slots : Nat} {Q : State → Prop}
variable {cc : ByteArray} {pc : Nat} {ls : Array Slot} {rest : List Value} {D : va_G} {cl : List vw_C} {A : Nat → Prop} {a : Nat} {tys : List (ClassId × FieldType)} {H0 : Heap}
theorem wi_clone (hexec : p.tables.exec = Jvm.exec) (hb : c.code = cc) (hml : c.maxLocals = ls.size) {own ad : String} {index : Nat} (hown : s.vm.findClass own = some m.cls)
    (hlink : (Cond.methodLink own index ⟨ad, "clone", "()Ljava/lang/Object;"⟩).before args s = true) (hsame : (Cond.sameMethod ad "java/lang/Object" "clone" "()Ljava/lang/Object;").before args s = true)
    (hnat : (Cond.native ⟨"java/lang/Object", "clone", "()Ljava/lang/Object;"⟩).before args s = true) (hinst : (Cond.instanceMethod ⟨"java/lang/Object", "clone", "()Ljava/lang/Object;"⟩).before args s = true)
    (hsel : (Cond.selects ad ⟨ad, "clone", "()Ljava/lang/Object;"⟩ ⟨"java/lang/Object", "clone", "()Ljava/lang/Object;"⟩).before args s = true) (hcl : va_Nw (.castable ad "java/lang/Cloneable") s)
    (hK : va_K D cl tys s) (hS : va_S A H0 H locs) (t0 : Nat) {cA : ClassId} (ht : tys[t0]? = some (cA, .int)) (hnm : s.vm.findClass ad = some cA) {cell : Cell} (hcell : H[a]? = some cell) (hcls : cell.cls = cA) (hun : cell.vm ≠ .unknown) (hst : ∀ k, cell.vm ≠ .statics k) {n : Nat} (hsz : cell.slots.size = n) {g : Nat → Int32} (hel : ∀ j : Nat, j < n → cell.slots[j]? = some (.int (g j)))
    (hframes : 1 ≤ R.frames) (hlocals : (rest.map fun v => v.category).sum + 14 ≤ R.locals) (hcells : cells + 1 ≤ R.cells) (hslots : slots + n ≤ R.slots) (hdg : decode cc pc = .ok (.invokevirtual index, 3))
    (kk : ∀ (q : Nat) (H1 : Heap), q = H.size → H1.size = q + 1 → (∀ x : Nat, x < q → H1[x]? = H[x]?) → wt_at D cl q (.inr (cA, n, fun j v => v = .int (g j))) H1 → va_S A H0 H1 locs →
      W p l e R s m args below meth c H1 locs (cells + 1) (slots + n) Q (F0 m (pc + 3) ls (.ref q :: rest))) : W p l e R s m args below meth c H locs cells slots Q (F0 m pc ls (.ref a :: rest)) := by
  have hcellE : ({ cls := cell.cls, slots := cell.slots } : Cell) = arrV cA n (fun j => .int (g j)) := by
    have h1 : cell.slots = (arrV cA n (fun j => Value.int (g j))).slots := by
      apply Array.ext_getElem?
      intro i
      by_cases hi : i < n
      · rw [hel i hi, arrV_read _ _ hi]
      · rw [Array.getElem?_eq_none (by omega), Array.getElem?_eq_none (by rw [arrV_size]; omega)]
    rw [hcls, h1]; rfl
  obtain ⟨c0, t0', f1, f2, f3⟩ := Cond.castable_spec (va_Nw.use (A := args) rfl hcl)
  cases hnm.symm.trans f1
  intro T hT X
  obtain ⟨-, kA, hkA, comp, hkind⟩ := State.isArrayOf_alike X.warmed.alike ((hK.2 t0 _ ht).1 0 (fun _ => .null))
  obtain ⟨-, kS, hkS, compS, hkindS⟩ := (hK.2 t0 _ ht).1 0 (fun _ => .null)
  obtain ⟨vm', X', st⟩ := X.cloneArray hexec hown hlink hsame hnat hinst hsel (a := a) (cell := cell) (by rw [hT]; exact hcell) (fun k h => absurd h (hst k)) hun (by rw [hcls]; exact hnm) f2 (by rw [hcls]; exact f3)
    (fun i v hv => by
      rw [hcls]
      have hk' : T.vm.classes[cA]? = some kA := hkA
      have hi : i < n := by rw [← hsz]; exact (Array.getElem?_eq_some_iff.mp hv).1
      rw [hel i hi] at hv
      cases hv
      simp [State.fitsSlot, State.slotType?, hk', hkind, fits])
    (g := F0 m pc ls (.ref a :: rest)) rfl (by rw [hml]) rfl (by rw [hb]; exact hdg) hframes (by show 2 * 0 + _ + 14 ≤ _; omega) hcells (by rw [hsz]; exact hslots) (hloader := by rw [hcls]; exact Vm.clonesLoader_of_array hkS hkindS)
  rw [hcellE, hsz] at X'
  generalize hH1 : H.push (arrV cA n (fun j => Value.int (g j))) = H1
  have z1 : H1.size = H.size + 1 := by rw [← hH1, Array.size_push]
  have e1 : H1[H.size]? = some (arrV cA n (fun j => Value.int (g j))) := by rw [← hH1, Array.getElem?_push_size]
  have o1 : ∀ q : Nat, q < H.size → H1[q]? = H[q]? := fun q hq => by rw [← hH1, Array.getElem?_push, if_neg (Nat.ne_of_lt hq)]
  obtain ⟨t, b1, b2⟩ := kk H.size H1 rfl z1 o1 ⟨_, e1, fun _ _ => rfl⟩ ⟨Nat.le_trans hS.1 (by omega), fun y h1 h2 => (o1 y (Nat.lt_of_lt_of_le h1 hS.1)).trans (hS.2.1 y h1 h2), hS.2.2⟩
    ((T.setVm vm').pushCell (arrV cA n (fun j => Value.int (g j)))) (by rw [← hH1, ← hT]; rfl) X'
  refine ⟨t, st t ?_, b2⟩
  rw [hcellE, hT]
  exact b1
theorem wi_cast (hexec : p.tables.exec = Jvm.exec) (hb : c.code = cc) {own nm : String} {index : Nat} (hown : s.vm.findClass own = some m.cls) (hlink : (Cond.classLink own index nm).before args s = true) {cA : ClassId} {n : Nat} {P : Nat → Value → Prop} (ha : wt_at D cl a (.inr (cA, n, P)) H) (hnm : s.vm.findClass nm = some cA) (hdg : decode cc pc = .ok (.checkcast index, 3))
    (k : W p l e R s m args below meth c H locs cells slots Q (F0 m (pc + 3) ls (.ref a :: rest))) : W p l e R s m args below meth c H locs cells slots Q (F0 m pc ls (.ref a :: rest)) := by
  obtain ⟨f, q1, -⟩ := ha
  intro T hT X
  obtain ⟨vm', X', st⟩ := X.checkcastYes hexec hown hlink (by rw [hT]; exact q1) rfl hnm (va_asg _ _) (g := F0 m pc ls (.ref a :: rest)) rfl rfl (by rw [hb]; exact hdg)
  obtain ⟨t, a1, b1⟩ := k (T.setVm vm') hT X'
  exact ⟨t, st t a1, b1⟩
end WCL
/-! what a constructor asks and tells -/
def cAO (U : State) : Prop := va_AO "ThinCoats$Layers" U ∧ va_AO "ThinCoats$Matrix" U ∧ va_AO "ThinCoats$Ladder" U ∧ va_Nw (.castable "[I" "java/lang/Cloneable") U
def cIp (N : c_N) (n00 n0 h0 ci : Nat) (P : Nat → Value → Prop) (U : State) : Prop := va_K N.1 vwCl (ctys N) U ∧ cW N U.heap ∧ cTF (N.2.1 0) (fun q => n00 ≤ q) U U.heap ∧ (∀ w ∈ lw_n, va_Nw w U) ∧ cAO U ∧ wt_at N.1 vwCl h0 (.inl (ci, P)) U.heap ∧ N.2.2.1 h0 = none ∧ U.heap.size = n0
abbrev pl (t : Nat) : Prop := t ≠ 27 ∧ t ≠ 28 ∧ t ≠ 11 ∧ t < 40
def iX (pq : Nat → Prop) (N : c_N) (n0 h0 : Nat) (u : iU) : Prop := (∀ q : Nat, q < n0 → q ≠ h0 → u.1 q = N.2.2.1 q ∧ u.2 q = N.2.2.2 q) ∧ ∀ q t : Nat, n0 ≤ q → u.1 q = some t → pq t
abbrev iA (n0 h0 : Nat) : Nat → Prop := fun q => q = h0 ∨ n0 ≤ q
abbrev cMI (l : Launch) (y : MethodName) (b : ByteArray) (n : Nat) (rm : Room) (h0 ci : Nat) (P : Nat → Value → Prop) (N : c_N) (n00 n0 mc ms : Nat) (pq : Nat → Prop) (B2 : iU → Prop) : Prop := Met l y (wc_ws y b n none) rm (va_Pc [.ref h0] (cIp N n00 n0 h0 ci P)) (va_Qv (fun u : iU => iX pq N n0 h0 u ∧ u.1 h0 = some ci ∧ B2 u) (fun u t => cW (nN N u) t.heap) (iA n0 h0)) mc ms (iA n0 h0)
theorem cAO.moved {u U : State} (hvm : u.vm.Alike U.vm) (hw : u.WarmedH U.vm) (h : cAO u) : cAO U := ⟨h.1.moved hvm, h.2.1.moved hvm, h.2.2.1.moved hvm, va_Nw.warmC hw h.2.2.2⟩
/-- the state of a constructor's own walk: what stood before stands, what is new is plain -/
def iR (pq : Nat → Prop) (N : c_N) (n0 h0 : Nat) (u : iU) : Prop := (∀ q : Nat, q < n0 → u.1 q = N.2.2.1 q ∧ u.2 q = N.2.2.2 q) ∧ ∀ q t : Nat, n0 ≤ q → u.1 q = some t → pq t
theorem iR_0 {pq : Nat → Prop} {N : c_N} {n0 h0 : Nat} {H : Heap} (hW : cW N H) (hs : H.size = n0) : iR pq N n0 h0 (N.2.2.1, N.2.2.2) :=
  ⟨fun _ _ => ⟨rfl, rfl⟩, fun q t hq h => by have := hW_lt hW h; omega⟩
theorem iR_add {pq : Nat → Prop} {N : c_N} {n0 h0 a t : Nat} {u : iU} (h : iR pq N n0 h0 u) (ha : n0 ≤ a) (ht : pq t) : iR pq N n0 h0 (aU u a t) := by
  refine ⟨fun q hq => ?_, fun q t' hq hk => ?_⟩
  · rw [aU_ne (by omega)]; exact h.1 q hq
  · by_cases e : q = a
    · subst e; rw [aU_self] at hk; cases hk; exact ht
    · rw [aU_ne e] at hk; exact h.2 q t' hq hk
theorem iR_addX {pq : Nat → Prop} {N : c_N} {n0 h0 a t : Nat} {f : Nat → Int32} {u : iU} (h : iR pq N n0 h0 u) (ha : n0 ≤ a) (ht : pq t) : iR pq N n0 h0 (aX u a t f) := by
  refine ⟨fun q hq => ?_, fun q t' hq hk => ?_⟩
  · have h1 : (aX u a t f).1 q = u.1 q := if_neg (by omega)
    have h2 : (aX u a t f).2 q = u.2 q := if_neg (by omega)
    rw [h1, h2]; exact h.1 q hq
  · by_cases e : q = a
    · subst e; rw [aX_self] at hk; cases hk; exact ht
    · have h1 : (aX u a t f).1 q = u.1 q := if_neg e
      rw [h1] at hk; exact h.2 q t' hq hk
theorem iR_call {pq pp : Nat → Prop} {N : c_N} {n0 n1 h0 qn ci : Nat} {u u2 : iU} (h : iR pq N n0 h0 u) (hx : iX pp (nN N u) n1 qn u2) (hpp : ∀ t, pp t → pq t) (hq : u2.1 qn = some ci) (hp : pq ci) (h1 : n0 ≤ qn) (h2 : qn < n1) : iR pq N n0 h0 u2 := by
  refine ⟨fun q hq' => ?_, fun q t hq' hk => ?_⟩
  · have := hx.1 q (by omega) (by omega)
    exact ⟨this.1.trans (h.1 q hq').1, this.2.trans (h.1 q hq').2⟩
  · by_cases e : q = qn
    · subst e; rw [hq] at hk; cases hk; exact hp
    · by_cases h3 : q < n1
      · have := (hx.1 q h3 e).1
        rw [this] at hk
        exact h.2 q t hq' hk
      · exact hpp t (hx.2 q t (by omega) hk)
theorem iX_k {pp : Nat → Prop} {N : c_N} {n1 qn : Nat} {u u2 : iU} {H : Heap} (hx : iX pp (nN N u) n1 qn u2) (hW : cW (nN N u) H) (hn : u.1 qn = none) (hs : H.size ≤ n1) {a t : Nat} (ka : u.1 a = some t) : u2.1 a = some t := by
  have h1 := hW_lt (N := nN N u) hW ka
  rw [(hx.1 a (by omega) (by intro e; rw [e, hn] at ka; cases ka)).1]
  exact ka
theorem iR_end {pq : Nat → Prop} {N : c_N} {n0 h0 ci : Nat} {u : iU} (h : iR pq N n0 h0 u) (hh : h0 < n0) : iX pq N n0 h0 (aU u h0 ci) ∧ (aU u h0 ci).1 h0 = some ci := by
  refine ⟨⟨fun q hq hne => ?_, fun q t hq hk => ?_⟩, aU_self⟩
  · rw [aU_ne hne]; exact h.1 q hq
  · rw [aU_ne (by omega)] at hk; exact h.2 q t hq hk
theorem cI_pre {N : c_N} {u : iU} {s : State} {H : Heap} {locs : List Loc} {n00 n0 h0 h1 ci : Nat} {P : Nat → Value → Prop} (hK : va_K N.1 vwCl (ctys N) s) (hW : cW (nN N u) H) (hT : cTF (N.2.1 0) (fun q => n00 ≤ q) s s.heap) (hnn : ∀ w ∈ lw_n, va_Nw w s) (hAO : cAO s) (hS : va_S (iA n0 h0) s.heap H locs) (h00 : n00 ≤ h0 ∧ n00 ≤ n0) (hn : wt_at N.1 vwCl h1 (.inl (ci, P)) H) (hno : u.1 h1 = none) : PreS s H (va_Pc [.ref h1] (cIp (nN N u) n00 H.size h1 ci P)) [.ref h1] := by
  refine ⟨?_, fun U hU hw => ⟨rfl, va_K.moved hw.alike hK, by rw [hU]; exact hW, ?_, lw_n_warm hw hnn, hAO.moved hw.alike hw, by rw [hU]; exact hn, hno, by rw [hU]⟩⟩
  · intro a U g mk q
    obtain ⟨q0, q1, q2, q3, q4, q5, q6⟩ := q
    exact ⟨q0, va_K.moved (u := U) (U := U.calling g mk a) (Vm.Alike.refl U.vm) q1, q2, cTF.moved (u := U) (U := U.calling g mk a) (Vm.Alike.refl U.vm) q3, lw_n_same (s := U) (U := U.calling g mk a) rfl q4, q5, q6⟩
  · rw [hU]
    exact (hT.kept (fun a ha hna => hS.2.1 a ha (fun h => hna (by rcases h with h | h <;> omega)))).moved hw.alike

theorem wt_at.obj {D : va_G} {cl : List vw_C} {a ci : Nat} {P P' : Nat → Value → Prop} {H : Heap} {r : vw_C} (h : wt_at D cl a (.inl (ci, P)) H) (hc : cl[ci]? = some r) (hle : ∀ (k : Nat) (v : Value), k < r.2.2 → P k v → P' k v) : wt_at D cl a (.inl (ci, P')) H := by
  obtain ⟨r', V, h1, h2, h3⟩ := h
  have e : r' = r := Option.some.inj (h1.symm.trans hc)
  subst e
  exact ⟨r', V, h1, h2, fun k hk => hle k _ hk (h3 k hk)⟩
section WQ2
variable {p : Program} {l : Launch} {e : Env} {R : Room} {s : State} {m : MethodId} {args : Array Value} {below : List Frame} {meth : Method} {c : Code} {H : Heap} {locs : List Loc} {cells slots : Nat} {Q : State → Prop} {g : JFrame}
theorem wq_all2 (h : ∀ WW : Heap → List Loc → Nat → Nat → JFrame → Prop, (∀ H' locs' x y g', W p l e R s m args below meth c H' locs' x y Q g' → WW H' locs' x y g') → (∀ H' locs' x y g', WW H' locs' x y g' → W p l e R s m args below meth c H' locs' x y Q g') → W p l e R s m args below meth c H locs cells slots Q g) : W p l e R s m args below meth c H locs cells slots Q g :=
  h _ (fun _ _ _ _ _ h => h) (fun _ _ _ _ _ h => h)
end WQ2
theorem wt_fill {D : va_G} {cl : List vw_C} {a n q : Nat} {cA : ClassId} {N : c_N} {t : Nat} {i k : Nat} {H : Heap} (h : wt_at D cl a (.inr (cA, n, wt_fu (fun j w => j < i → gr N t w) k (.ref q))) H) (hk : k = i) (hq : N.2.2.1 q = some t) : wt_at D cl a (.inr (cA, n, fun j w => j < i + 1 → gr N t w)) H := by
  refine h.mono ⟨rfl, rfl, fun j w _ hw hlt => ?_⟩
  have hw : (if j = k then w = .ref q else (j < i → gr N t w)) := hw
  by_cases e : j = k
  · rw [if_pos e] at hw; exact ⟨q, hw, hq⟩
  · rw [if_neg e] at hw; exact hw (by omega)
theorem wt_lift {pp : Nat → Prop} {D : va_G} {cl : List vw_C} {a n n1 qn : Nat} {cA : ClassId} {N : c_N} {u u2 : iU} {t i : Nat} {H H' : Heap} (h : wt_at D cl a (.inr (cA, n, fun j w => j < i → gr (nN N u) t w)) H) (hx : iX pp (nN N u) n1 qn u2) (hW : cW (nN N u) H') (hn : u.1 qn = none) (hs : H'.size ≤ n1) : wt_at D cl a (.inr (cA, n, fun j w => j < i → gr (nN N u2) t w)) H :=
  h.mono ⟨rfl, rfl, fun j w _ hw hlt => gr_mono (N := nN N u) (K := u2.1) (X := u2.2) (fun q t h => iX_k hx hW hn hs h) (hw hlt)⟩
section WIL
variable {p : Program} {l : Launch} {e : Env} {R : Room} {s : State} {m : MethodId} {args : Array Value} {below : List Frame} {meth : Method} {c : Code} {H : Heap} {locs : List Loc} {cells slots : Nat} {Q : State → Prop}
variable {cc : ByteArray} {pc : Nat} {ls : Array Slot} {rest : List Value} {D : va_G} {cl : List vw_C} {a : Nat} {tys : List (ClassId × FieldType)}
theorem wi_alen (hexec : p.tables.exec = Jvm.exec) (hb : c.code = cc) (hK : va_K D cl tys s) {cA : ClassId} {n : Nat} {P : Nat → Value → Prop} (ha : wt_at D cl a (.inr (cA, n, P)) H) (t0 : Nat) {ty : FieldType} (ht : tys[t0]? = some (cA, ty)) {v : Int32} (hv : Int32.ofNat n = v) (hdg : decode cc pc = .ok (.arraylength, 1))
    (kk : W p l e R s m args below meth c H locs cells slots Q (F0 m (pc + 1) ls (.int v :: rest))) : W p l e R s m args below meth c H locs cells slots Q (F0 m pc ls (.ref a :: rest)) := by
  refine wt_alen (G := fun b => if b = a then some (.inr (cA, n, P)) else none) hexec hb hK (fun b E hE => ?_) t0 (if_pos rfl) ht hv hdg kk
  by_cases hba : b = a
  · subst hba
    have hE : some (Sum.inr (cA, n, P)) = some E := (if_pos rfl).symm.trans hE
    cases hE
    exact ha
  · have hE : none = some E := (if_neg hba).symm.trans hE
    cases hE
end WIL

abbrev p5 (t : Nat) : Prop := t = 27 ∨ t = 28
abbrev p10 (t : Nat) : Prop := t ≠ 11 ∧ t < 40
theorem pq_pl_p10 {t : Nat} (h : pl t) : p10 t := ⟨h.2.2.1, h.2.2.2⟩
theorem pq_p5_p10 {t : Nat} (h : p5 t) : p10 t := by rcases h with h | h <;> subst h <;> decide
def m5 (n0 : Nat) (u : iU) : Prop := ∃ rU rV : Nat, n0 ≤ rU ∧ n0 ≤ rV ∧ u.1 rU = some 27 ∧ u.1 rV = some 28 ∧ (∀ q : Nat, n0 ≤ q → u.1 q = some 27 → q = rU) ∧ (∀ q : Nat, n0 ≤ q → u.1 q = some 28 → q = rV) ∧ u.2 rU = fsU ∧ u.2 rV = fsV
def pM (u : iU) : Prop := ∀ q t : Nat, u.1 q = some t → pl t
def uM (rU rV : Nat) (u : iU) : Prop := u.1 rU = some 27 ∧ u.1 rV = some 28 ∧ (∀ q t : Nat, u.1 q = some t → (t = 27 → q = rU) ∧ (t = 28 → q = rV) ∧ t ≠ 11 ∧ t < 40) ∧ u.2 rU = fsU ∧ u.2 rV = fsV
theorem pM_add {u : iU} {a t : Nat} (h : pM u) (ht : pl t) : pM (aU u a t) := by
  intro q t' hq
  by_cases e : q = a
  · subst e; rw [aU_self] at hq; cases hq; exact ht
  · rw [aU_ne e] at hq; exact h q t' hq
theorem pM_call {N : c_N} {n1 qn ci : Nat} {u u2 : iU} (h : pM u) (hx : iX pl (nN N u) n1 qn u2) (hq : u2.1 qn = some ci) (hp : pl ci) : pM u2 := by
  intro q t hk
  by_cases e : q = qn
  · subst e; rw [hq] at hk; cases hk; exact hp
  · by_cases h3 : q < n1
    · rw [(hx.1 q h3 e).1] at hk; exact h q t hk
    · exact hx.2 q t (by omega) hk
theorem uM_media {N : c_N} {n1 qn : Nat} {u u2 : iU} (h : pM u) (hx : iX p5 (nN N u) n1 qn u2) (hq : u2.1 qn = some 5) (hlt : qn < n1) (hm : m5 n1 u2) : ∃ rU rV : Nat, uM rU rV u2 := by
  obtain ⟨rU, rV, g1, g2, k1, k2, o1, o2, x1, x2⟩ := hm
  refine ⟨rU, rV, k1, k2, fun q t hk => ?_, x1, x2⟩
  by_cases e : q = qn
  · subst e; rw [hq] at hk; cases hk
    exact ⟨fun z => by omega, fun z => by omega, by omega, by omega⟩
  · by_cases h3 : q < n1
    · have hk' : u.1 q = some t := by rw [← (hx.1 q h3 e).1]; exact hk
      have := h q t hk'
      exact ⟨fun z => absurd z this.1, fun z => absurd z this.2.1, this.2.2⟩
    · refine ⟨fun z => ?_, fun z => ?_, ?_⟩
      · subst z; exact o1 q (by omega) hk
      · subst z; exact o2 q (by omega) hk
      · exact pq_p5_p10 (hx.2 q t (by omega) hk)
theorem uM_add {u : iU} {a t rU rV : Nat} (h : uM rU rV u) (hn : u.1 a = none) (ht : pl t) : uM rU rV (aU u a t) := by
  obtain ⟨k1, k2, o, x1, x2⟩ := h
  refine ⟨aU_old hn k1, aU_old hn k2, fun q t' hq => ?_, x1, x2⟩
  by_cases e : q = a
  · subst e; rw [aU_self] at hq; cases hq
    exact ⟨fun z => absurd z ht.1, fun z => absurd z ht.2.1, ht.2.2⟩
  · rw [aU_ne e] at hq; exact o q t' hq
theorem uM_call {N : c_N} {n1 qn ci rU rV : Nat} {u u2 : iU} {H : Heap} (h : uM rU rV u) (hx : iX pl (nN N u) n1 qn u2) (hq : u2.1 qn = some ci) (hp : pl ci) (hW : cW (nN N u) H) (hn : u.1 qn = none) (hs : H.size ≤ n1) : uM rU rV u2 := by
  obtain ⟨k1, k2, o, x1, x2⟩ := h
  have l1 := hW_lt (N := nN N u) hW k1
  have l2 := hW_lt (N := nN N u) hW k2
  have n1' : rU ≠ qn := by intro e; rw [e, hn] at k1; cases k1
  have n2' : rV ≠ qn := by intro e; rw [e, hn] at k2; cases k2
  refine ⟨iX_k hx hW hn hs k1, iX_k hx hW hn hs k2, fun q t hk => ?_, (hx.1 rU (by omega) n1').2.trans x1, (hx.1 rV (by omega) n2').2.trans x2⟩
  by_cases e : q = qn
  · subst e; rw [hq] at hk; cases hk
    exact ⟨fun z => absurd z hp.1, fun z => absurd z hp.2.1, hp.2.2⟩
  · by_cases h3 : q < n1
    · rw [(hx.1 q h3 e).1] at hk; exact o q t hk
    · have := hx.2 q t (by omega) hk
      exact ⟨fun z => absurd z this.1, fun z => absurd z this.2.1, this.2.2⟩
theorem m5_mk {u : iU} {n0 a b : Nat} {h0 : Nat} (ha : n0 ≤ a) (hb : n0 ≤ b) (hh : h0 < n0) (hne : a ≠ b) (hu : ∀ q : Nat, n0 ≤ q → u.1 q = none) : m5 n0 (aU (aX (aX u a 27 fsU) b 28 fsV) h0 5) := by
  have hk : ∀ q : Nat, n0 ≤ q → (aU (aX (aX u a 27 fsU) b 28 fsV) h0 5).1 q = if q = b then some 28 else if q = a then some 27 else none := by
    intro q hq
    rw [aU_ne (by omega)]
    show (if q = b then some 28 else if q = a then some 27 else u.1 q) = _
    rw [hu q hq]
  refine ⟨a, b, ha, hb, ?_, ?_, fun q hq h => ?_, fun q hq h => ?_, ?_, ?_⟩
  · rw [hk a ha, if_neg hne, if_pos rfl]
  · rw [hk b hb, if_pos rfl]
  · rw [hk q hq] at h
    by_cases e : q = b
    · rw [if_pos e] at h; cases h
    · rw [if_neg e] at h
      by_cases e2 : q = a
      · exact e2
      · rw [if_neg e2] at h; cases h
  · rw [hk q hq] at h
    by_cases e : q = b
    · exact e
    · rw [if_neg e] at h
      by_cases e2 : q = a
      · rw [if_pos e2] at h; cases h
      · rw [if_neg e2] at h; cases h
  · show (if a = b then fsV else if a = a then fsU else u.2 a) = fsU
    rw [if_neg hne, if_pos rfl]
  · show (if b = b then fsV else if b = a then fsU else u.2 b) = fsV
    rw [if_pos rfl]
theorem aX_val {u : iU} {a t : Nat} {f : Nat → Int32} (j : Nat) {v : Value} (h : v = .int (f j)) : v = .int ((aX u a t f).2 a j) := by
  rw [h]
  have e : (aX u a t f).2 a = f := if_pos rfl
  rw [e]
