/-! the rows of the past -/
def pH (n : Int) (fM : Nat → Value) (j : Nat) : Prop := ∃ m : Int32, ((j / 24 : Nat) : Int) < n ∧ fM (j / 24) = .int m ∧ ((j % 24 : Nat) : Int) < m.toInt
def kG (fM : Nat → Value) (k : Int) (j : Nat) : Prop := ((j : Int) < k ∧ pH 10 fM (j + 24)) ∨ (k ≤ (j : Int) ∧ pH 10 fM j)
def mR (N : c_N) (aM : Nat) (fM : Nat → Value) (k : Int) (H : Heap) : Prop := ∃ f : Nat → Value, H[aM]? = some (arrV (N.2.1 0) 10 f) ∧ ∀ q : Nat, q < 10 → f q = if (q : Int) < k then fM (q + 1) else fM q
def QX (N : c_N) (p k : Int) (H : Heap) : Prop := aP N 48 10 (fun f => gP N 46 47 240 (fun j => pH p f j ∨ (24 * p ≤ (j : Int) ∧ (j : Int) < 24 * p + k)) H) H
theorem QX.fr {N : c_N} {p k : Int} {H H1 : Heap} (h : QX N p k H) {a u : Nat} (ka : N.2.2.1 a = some u) (oq : ∀ q : Nat, q ≠ a → H1[q]? = H[q]?) (hu : u ∉ [46, 47, 48]) : QX N p k H1 := by
  intro b f kb hf
  have h48 : 48 ≠ u := fun e => hu (by rw [← e]; decide)
  refine gP.put (h b f kb (by rw [← oq b (ne_kind kb ka h48)]; exact hf)) ka oq (fun e => hu (by rw [← e]; decide)) (fun e => hu (by rw [← e]; decide))
theorem QX.same {N : c_N} {p k : Int} {H H1 : Heap} (h : QX N p k H) {S : List Nat} (hW : cW N H) (oq : ∀ q : Nat, q < H.size → ¬ cE N S q → H1[q]? = H[q]?) (hS : ∀ t ∈ [46, 47, 48], t ∉ S) : QX N p k H1 := by
  intro b f kb hf
  exact (h b f kb (by rw [← oq b (hW_lt hW kb) (cE_not kb (hS 48 (by decide)))]; exact hf)).same hW oq (hS 46 (by decide)) (hS 47 (by decide))
theorem mR.fr {N : c_N} {aM : Nat} {fM : Nat → Value} {k : Int} {H H1 : Heap} (h : mR N aM fM k H) (kM : N.2.2.1 aM = some 48) {a u : Nat} (ka : N.2.2.1 a = some u) (oq : ∀ q : Nat, q ≠ a → H1[q]? = H[q]?) (hu : u ∉ [48]) : mR N aM fM k H1 := by
  obtain ⟨f, h1, h2⟩ := h
  exact ⟨f, by rw [oq aM (ne_kind kM ka (fun e => hu (by rw [← e]; decide)))]; exact h1, h2⟩
theorem QP_X {N : c_N} {o : Nat} {H : Heap} {n : Int32} (h : QP N o H) (hn : pI N o 13 n H) : QX N n.toInt 0 H := by
  obtain ⟨m, h1, h2⟩ := h
  cases pin_inj (by decide) h1 hn
  intro b f kb hf
  refine (h2 b f kb hf).sub (fun j hj hg => ?_)
  rcases hg with hg | hg
  · exact hg
  · omega
theorem QX_P {N : c_N} {o : Nat} {H : Heap} {n : Int32} {p k : Int} (h : QX N p k H) (hn : pI N o 13 n H) (hp : n.toInt ≤ p) : QP N o H := by
  refine ⟨n, hn, fun b f kb hf => (h b f kb hf).sub (fun j hj hg => Or.inl ?_)⟩
  obtain ⟨m, h1, h2, h3⟩ := hg
  exact ⟨m, by omega, h2, h3⟩
theorem gP.ins2 {N : c_N} {tA tU len : Nat} {G : Nat → Prop} {H : Heap} (h : gP N tA tU len G H) (hO : mOK N) (hA40 : 40 ≤ tA) (hU40 : 40 ≤ tU) {aA aU i i' : Nat} {x y : Int32} {P : Prop} (kA : N.2.2.1 aA = some tA) (kU : N.2.2.1 aU = some tU) (hA : wt_ap (N.2.1 0) len aA i (.int x) H) (hU : wt_ap (N.2.1 0) len aU i' (.int y) H) (ei : i' = i) (hz : P → x.toInt ≠ 0 ∨ y.toInt ≠ 0) : gP N tA tU len (fun j => G j ∨ (j = i ∧ P)) H := by
  by_cases hP : P
  · exact (h.ins hO hA40 hU40 kA kU hA hU ei (hz hP)).sub (fun j _ hg => hg.imp id (fun q => q.1))
  · exact h.sub (fun j _ hg => hg.resolve_right (fun q => hP q.2))
theorem kG_step {fM : Nat → Value} {k k1 : Int} {j i i' : Nat} (hi : (i : Int) = k) (hi' : i' = i) (hk : k1 = k + 1) (h : kG fM k1 j) : ((kG fM k j ∧ j ≠ i) ∧ j ≠ i') ∨ (j = i ∧ pH 10 fM (i + 24)) := by
  subst hi'
  by_cases hj : j = i'
  · subst hj
    rcases h with h | h
    · exact Or.inr ⟨rfl, h.2⟩
    · omega
  · refine Or.inl ⟨⟨?_, hj⟩, hj⟩
    rcases h with h | h
    · exact Or.inl ⟨by omega, h.2⟩
    · exact Or.inr ⟨by omega, h.2⟩
theorem mR.step {N : c_N} {aM a : Nat} {fM : Nat → Value} {k : Int} {H H1 : Heap} (h : mR N aM fM k H) (hO : mOK N) (kM : N.2.2.1 aM = some 48) (ka : N.2.2.1 a = some 48) {i i1 : Nat} {x : Int32} (ap : wt_ap (N.2.1 0) 10 a i1 (.int x) H) (hat : ∀ f : Nat → Value, H[a]? = some (arrV (N.2.1 0) 10 f) → H1[a]? = some (arrV (N.2.1 0) 10 (updV f i (.int x)))) (hi : (i : Int) = k) (hi1 : i1 = i + 1) (h10 : i1 < 10) : mR N aM fM (k + 1) H1 := by
  have e := hO.1 a aM 48 (by decide) ka kM
  subst e
  obtain ⟨f, h1, h2⟩ := h
  obtain ⟨g, g1, g2⟩ := ap
  refine ⟨_, hat f h1, fun q hq => ?_⟩
  have hx : f i1 = .int x := by rw [arrV_inj (Option.some.inj (h1.symm.trans g1)) h10]; exact g2
  by_cases hqi : q = i
  · subst hqi
    have e1 : updV f q (.int x) q = .int x := if_pos rfl
    rw [e1, if_pos (by omega), ← hi1, ← hx, h2 i1 h10, if_neg (by omega)]
  · have e1 : updV f i (.int x) q = f q := if_neg hqi
    rw [e1, h2 q hq]
    by_cases hqk : (q : Int) < k
    · rw [if_pos hqk, if_pos (by omega)]
    · rw [if_neg hqk, if_neg (by omega)]
theorem QP_shift {N : c_N} {o aM : Nat} {fM : Nat → Value} {H : Heap} {n : Int32} {k : Int} (hO : mOK N) (hM : mR N aM fM k H) (kM : N.2.2.1 aM = some 48) (hg : gP N 46 47 240 (kG fM 216) H) (hn : pI N o 13 n H) (h9 : n.toInt = 9) (hk : 9 ≤ k) : QP N o H := by
  refine ⟨n, hn, fun b f kb hf => hg.sub (fun j hj h => ?_)⟩
  obtain ⟨m, q1, q2, q3⟩ := h
  have e := hO.1 b aM 48 (by decide) kb kM
  subst e
  obtain ⟨f', h1, h2⟩ := hM
  have hq : j / 24 < 10 := by omega
  have e2 := arrV_inj (Option.some.inj (hf.symm.trans h1)) hq
  rw [e2, h2 _ hq, if_pos (by omega)] at q2
  refine Or.inl ⟨by omega, m, ?_, ?_, ?_⟩
  · have : (j + 24) / 24 = j / 24 + 1 := by omega
    rw [this]; omega
  · have : (j + 24) / 24 = j / 24 + 1 := by omega
    rw [this]; exact q2
  · have : (j + 24) % 24 = j % 24 := by omega
    rw [this]; exact q3
theorem kG_0 {N : c_N} {o : Nat} {H : Heap} {n : Int32} {aM : Nat} {fM : Nat → Value} {k : Int} (hk : k = 0) (h : QP N o H) (hn : pI N o 13 n H) (h10 : n.toInt = 10) (kM : N.2.2.1 aM = some 48) (hf : H[aM]? = some (arrV (N.2.1 0) 10 fM)) : gP N 46 47 240 (fun j => kG fM k j) H := by
  subst hk
  obtain ⟨m, h1, h2⟩ := h
  cases pin_inj (by decide) h1 hn
  refine (h2 aM fM kM hf).sub (fun j hj hg => ?_)
  rcases hg with hg | hg
  · omega
  · obtain ⟨x, q1, q2, q3⟩ := hg.2
    exact ⟨x, by omega, q2, q3⟩
theorem mR_0 {N : c_N} {H : Heap} {aM : Nat} {fM : Nat → Value} (hf : H[aM]? = some (arrV (N.2.1 0) 10 fM)) : mR N aM fM 0 H := ⟨fM, hf, fun q _ => by rw [if_neg (by omega)]⟩
/-- a layer goes into the past's last row -/
theorem QX.st {N : c_N} {p k : Int} {H H1 H2 : Heap} (h : QX N p k H) (hO : mOK N) {aA aU i i' : Nat} {x y : Int32} {f g : Nat → Value} (kA : N.2.2.1 aA = some 46) (kU : N.2.2.1 aU = some 47) (hf : H[aA]? = some (arrV (N.2.1 0) 240 f)) (hA : ∀ f : Nat → Value, H[aA]? = some (arrV (N.2.1 0) 240 f) → H1[aA]? = some (arrV (N.2.1 0) 240 (updV f i (.int x)))) (o1 : ∀ q : Nat, q ≠ aA → H1[q]? = H[q]?) (hg : H1[aU]? = some (arrV (N.2.1 0) 240 g)) (hU : ∀ f : Nat → Value, H1[aU]? = some (arrV (N.2.1 0) 240 f) → H2[aU]? = some (arrV (N.2.1 0) 240 (updV f i' (.int y)))) (o2 : ∀ q : Nat, q ≠ aU → H2[q]? = H1[q]?) (ei : i' = i) (hi : (i : Int) = 24 * p + k) (hk : 0 ≤ k) (hz : x.toInt ≠ 0 ∨ y.toInt ≠ 0) : QX N p (k + 1) H2 := by
  intro b fM kb hb
  have n1 : b ≠ aU := ne_kind kb kU (by decide)
  have n2 : b ≠ aA := ne_kind kb kA (by decide)
  have h0 := h b fM kb (by rw [← o1 b n2, ← o2 b n1]; exact hb)
  have h1 := h0.stA hO (by decide) (by decide) kA hf (hA f hf) o1
  have h2 := h1.stU hO (by decide) (by decide) kU hg (hU g hg) o2
  have hAp : wt_ap (N.2.1 0) 240 aA i (.int x) H2 := (ap_of (hA f hf)).kept (o2 aA (ne_kind kA kU (by decide)))
  refine (h2.ins hO (by decide) (by decide) kA kU hAp (ap_of (hU g hg)) ei hz).sub (fun j hj hG => ?_)
  by_cases hji : j = i
  · exact Or.inr hji
  · refine Or.inl ⟨⟨?_, hji⟩, by rw [ei]; exact hji⟩
    rcases hG with hG | hG
    · exact Or.inl hG
    · exact Or.inr ⟨hG.1, by omega⟩
theorem QX.many {N : c_N} {p k : Int} {H H1 : Heap} (h : QX N p k H) (hO : mOK N) {a i : Nat} {x : Int32} {f : Nat → Value} (ka : N.2.2.1 a = some 48) (hf : H[a]? = some (arrV (N.2.1 0) 10 f)) (hat : ∀ f : Nat → Value, H[a]? = some (arrV (N.2.1 0) 10 f) → H1[a]? = some (arrV (N.2.1 0) 10 (updV f i (.int x)))) (oq : ∀ q : Nat, q ≠ a → H1[q]? = H[q]?) (hi : (i : Int) = p) (h10 : i < 10) (hx : x.toInt ≤ k) : QX N (p + 1) 0 H1 := by
  intro b g kb hb
  have e := hO.1 b a 48 (by decide) kb ka
  subst e
  have h0 := (h b f kb hf).put ka oq (by decide) (by decide)
  refine h0.sub (fun j hj hG => ?_)
  rcases hG with ⟨m, q1, q2, q3⟩ | hG
  · have hq : j / 24 < 10 := by omega
    have e2 := arrV_inj (Option.some.inj (hb.symm.trans (hat f hf))) hq
    rw [e2] at q2
    by_cases hji : j / 24 = i
    · right
      have e3 : updV f i (.int x) (j / 24) = .int x := if_pos hji
      rw [e3] at q2
      cases q2
      omega
    · left
      have e3 : updV f i (.int x) (j / 24) = f (j / 24) := if_neg hji
      rw [e3] at q2
      exact ⟨m, by omega, q2, q3⟩
  · omega
theorem QX_row {N : c_N} {p k : Int} {H : Heap} (h : QX N p k H) {a i : Nat} {x : Int32} (ka : N.2.2.1 a = some 48) (ap : wt_ap (N.2.1 0) 10 a i (.int x) H) {lo hi : Int} (hx : ir x lo hi) (h24 : hi ≤ 24) (hi : (i : Int) < p) : gP N 46 47 240 (fun j => 24 * (i : Int) ≤ (j : Int) ∧ (j : Int) < 24 * (i : Int) + x.toInt) H := by
  obtain ⟨f, h1, h2⟩ := ap
  refine (h a f ka h1).sub (fun j hj hG => Or.inl ⟨x, ?_, ?_, ?_⟩)
  · omega
  · have : j / 24 = i := by omega
    rw [this]; exact h2
  · omega
theorem QR_0 {N : c_N} {o : Nat} {H : Heap} {n : Int32} (hn : pI N o 26 n H) (h0 : n.toInt ≤ 0) : QR N o H := ⟨n, hn, fun _ _ _ _ _ _ _ _ j _ hj => by have hj : (j : Int) < n.toInt := hj; omega⟩
def mS (a b : Int32) : Int := if b = 0 then 201 - a.toInt else 0
theorem mS_lt {a b : Int32} {lo hi : Int} (A : ir a lo hi) (h : 0 ≤ lo) : mS a b < 202 := by
  unfold mS
  by_cases hb : b = 0
  · rw [if_pos hb]; have := A.1; omega
  · rw [if_neg hb]; omega
theorem mS_step {a b a' x y : Int32} {n : Nat} (hb : b = 0) (h : a.toInt ≤ a'.toInt) (hd : a'.toInt < x.toInt ∨ ¬ y = 0) (rx : ir x 0 200) (ra : ir a' 0 200) (mu : mS a b < ((n + 1 : Nat) : Int)) : mS x y < (n : Int) := by
  unfold mS at *
  rw [if_pos hb] at mu
  by_cases hy : y = 0
  · rw [if_pos hy]
    rcases hd with hd | hd
    · omega
    · exact absurd hy hd
  · rw [if_neg hy]
    have := ra.2
    omega
theorem ineg_ne {a x : Int32} (e : x = -a) (h : ¬ a = 0) : ¬ x = 0 := by
  intro h0
  rw [h0] at e
  exact h (by rw [← Int32.neg_neg (a := a), ← e]; rfl)
theorem l2i_t {x : Int32} {a : Int64} (e : x = a.toInt32) {lo hi : Int} (A : lr a lo hi) (h1 : -2147483648 ≤ lo) (h2 : hi ≤ 2147483647) : x.toInt = a.toInt := by
  rw [e, Int64.toInt_toInt32, bm32 (by omega) (by omega)]
theorem mR.to {N : c_N} {aM : Nat} {fM : Nat → Value} {k k' : Int} {H : Heap} (h : mR N aM fM k H) (e : k' = k) : mR N aM fM k' H := by rw [e]; exact h
theorem QX.to {N : c_N} {p k k' : Int} {H : Heap} (h : QX N p k H) (e : k' = k) : QX N p k' H := by rw [e]; exact h
theorem gP_none {N : c_N} {tA tU len : Nat} {H : Heap} : gP N tA tU len (fun j => (j : Int) < 0) H := fun _ _ _ _ _ _ _ _ j _ h => by have h : (j : Int) < 0 := h; omega
