/-! INDEX: what the class's index() makes of the rows of indices -/
def gI (p q : Int32) : Int32 := Int32.ofNat (Int.gcd p.toInt q.toInt)
abbrev nX (N : c_N) (X : Nat → Nat → Int32) : c_N := (N.1, N.2.1, N.2.2.1, X)
def uX (X : Nat → Nat → Int32) (a j : Nat) (v : Int32) : Nat → Nat → Int32 := fun b i => if b = a ∧ i = j then v else X b i
def ixp (N : c_N) (aU aV : Nat) (p1 p2 p3 r : Int32) (X : Nat → Nat → Int32) : Prop :=
  (p2 * N.2.2.2 aV p1.toNatClampNeg = p3 * N.2.2.2 aU p1.toNatClampNeg → r = 0 ∧ X = N.2.2.2) ∧ (¬ p2 * N.2.2.2 aV p1.toNatClampNeg = p3 * N.2.2.2 aU p1.toNatClampNeg → r = 1 ∧ X = uX (uX N.2.2.2 aU p1.toNatClampNeg (p2 / gI p2 p3)) aV p1.toNatClampNeg (p3 / gI p2 p3))
theorem wt_le_rfl (E : wt_E) : wt_le E E := by
  cases E with
  | inl o => exact ⟨rfl, fun _ _ h => h⟩
  | inr o => exact ⟨rfl, rfl, fun _ _ _ h => h⟩
theorem cK_nX {N : c_N} {X : Nat → Nat → Int32} {b : Nat} (hX : X b = N.2.2.2 b) (t : Nat) : wt_le (cK N b t) (cK (nX N X) b t) := by
  have h27 : wt_le (.inr (N.2.1 0, 6, cP27 N b)) (.inr (N.2.1 0, 6, cP27 (nX N X) b)) := by
    refine ⟨rfl, rfl, fun j v _ h => ?_⟩
    show v = .int (X b j)
    rw [hX]; exact h
  unfold cK
  split <;> first | exact h27 | exact wt_le_rfl _
theorem cW_ix {N : c_N} {H : Heap} {a j : Nat} {x : Int32} (hW : wt_P N.1 vwCl (wt_up (cG N) a (.inr (N.2.1 0, 6, wt_fu (cP27 N a) j (.int x)))) H) (ka : N.2.2.1 a = some 27 ∨ N.2.2.1 a = some 28) : cW (nX N (uX N.2.2.2 a j x)) H := by
  refine hW.mono (fun b E' hb => ?_)
  have hb : (N.2.2.1 b).map (cK (nX N (uX N.2.2.2 a j x)) b) = some E' := hb
  by_cases hba : b = a
  · subst hba
    refine ⟨_, wt_up_eq, ?_⟩
    have hE : E' = .inr (N.2.1 0, 6, cP27 (nX N (uX N.2.2.2 b j x)) b) := by
      rcases ka with ka | ka <;> rw [ka] at hb <;> exact (Option.some.inj hb).symm
    rw [hE]
    refine ⟨rfl, rfl, fun i v _ h => ?_⟩
    have h : (if i = j then v = .int x else v = .int (N.2.2.2 b i)) := h
    show v = .int (if b = b ∧ i = j then x else N.2.2.2 b i)
    by_cases hi : i = j
    · rw [if_pos hi] at h; rw [if_pos ⟨rfl, hi⟩]; exact h
    · rw [if_neg hi] at h; rw [if_neg (fun z => hi z.2)]; exact h
  · rw [wt_up_ne hba]
    cases ht : N.2.2.1 b with
    | none => rw [ht] at hb; cases hb
    | some t =>
      rw [ht] at hb
      refine ⟨cK N b t, by unfold cG; rw [ht]; rfl, ?_⟩
      rw [← Option.some.inj hb]
      exact cK_nX (funext fun i => if_neg (fun z => hba z.1)) t
theorem gI_r {p q : Int32} (P : ir p 1 9) (Q : ir q 1 9) : (gI p q).toInt = (Int.gcd p.toInt q.toInt : Nat) ∧ ir (gI p q) 1 9 := by
  have h1 : 0 < Int.gcd p.toInt q.toInt := Int.gcd_pos_of_ne_zero_left _ (by omega)
  have h2 : Int.gcd p.toInt q.toInt ≤ 9 := Nat.le_trans (Nat.le_of_dvd (by omega) (Nat.gcd_dvd_left _ _)) (show p.toInt.natAbs ≤ 9 by omega)
  have h3 : (gI p q).toInt = (Int.gcd p.toInt q.toInt : Nat) := nI_toInt (by omega)
  exact ⟨h3, by constructor <;> omega⟩
theorem gI_by {p q : Int32} {d : Int64} {pl ql : Int64} (ep : pl = p.toInt64) (eq : ql = q.toInt64) (hd : d.toInt = ((Int.gcd pl.toInt ql.toInt : Nat) : Int)) (P : ir p 1 9) (Q : ir q 1 9) : d.toInt32 = gI p q ∧ lr d 1 9 := by
  rw [ep, eq, Int32.toInt_toInt64, Int32.toInt_toInt64] at hd
  have hg := gI_r P Q
  have hl : lr d 1 9 := by constructor <;> omega
  refine ⟨Int32.toInt_inj.mp ?_, hl⟩
  rw [Int64.toInt_toInt32, bm32 (by omega) (by omega)]
  omega
theorem gI_one {p q : Int32} {d : Int64} {pl ql : Int64} (ep : pl = p.toInt64) (eq : ql = q.toInt64) (hd : d.toInt = ((Int.gcd pl.toInt ql.toInt : Nat) : Int)) (P : ir p 1 9) (Q : ir q 1 9) (h1 : d.toInt ≤ 1) : (1 : Int32) = gI p q := by
  have h := gI_by ep eq hd P Q
  have hg := gI_r P Q
  rw [ep, eq, Int32.toInt_toInt64, Int32.toInt_toInt64] at hd
  refine Int32.toInt_inj.mp ?_
  rw [show (1 : Int32).toInt = 1 from rfl]
  omega
theorem gcd_step {a b r : Int64} {la ha lb hb : Int} (A : lr a la ha) (B : lr b lb hb) (h : r.toInt = a.toInt.tmod b.toInt) : Int.gcd b.toInt r.toInt = Int.gcd a.toInt b.toInt := by
  show Nat.gcd b.toInt.natAbs r.toInt.natAbs = Nat.gcd a.toInt.natAbs b.toInt.natAbs
  rw [h, Int.natAbs_tmod]
  exact (Nat.gcd_comm _ _).trans ((Nat.gcd_rec _ _).symm.trans (Nat.gcd_comm _ _))
theorem gcd_end {a b : Int64} {p q : Int} (h : Int.gcd a.toInt b.toInt = Int.gcd p q) (hb : b.toInt = 0) (ha : 0 ≤ a.toInt) : a.toInt = ((Int.gcd p q : Nat) : Int) := by
  rw [← h, hb, Int.gcd_zero_right]
  omega
theorem l_rem_lt {x a b : Int64} (e : x = a - a / b * b) (hb : ¬ b = 0) {la ha lb hb' : Int} (A : lr a la ha) (B : lr b lb hb') (h0 : 0 ≤ la) (h1 : 0 ≤ lb) : x.toInt < b.toInt := by
  have h := l_rem e hb
  have hb0 : b.toInt ≠ 0 := fun h => hb (Int64.toInt_inj.mp (by rw [h]; rfl))
  have h4 : a.toInt.tmod b.toInt < b.toInt := Int.tmod_lt_of_pos _ (by omega)
  omega
def ixq (N : c_N) (aU aV : Nat) (p1 p2 p3 r : Int32) (X : Nat → Nat → Int32) : Prop :=
  ((ir p1 0 5 ∧ ir p2 1 9 ∧ ir p3 1 9) → ixp N aU aV p1 p2 p3 r X) ∧ (¬ (ir p1 0 5 ∧ ir p2 1 9 ∧ ir p3 1 9) → r = 0 ∧ X = N.2.2.2)
theorem ixp_01 {N : c_N} {aU aV : Nat} {p1 p2 p3 r : Int32} {X : Nat → Nat → Int32} (h : ixp N aU aV p1 p2 p3 r X) : ir r 0 1 := by
  by_cases hc : p2 * N.2.2.2 aV p1.toNatClampNeg = p3 * N.2.2.2 aU p1.toNatClampNeg
  · rw [(h.1 hc).1]; decide
  · rw [(h.2 hc).1]; decide
section CXI
variable {p : Program} {l : Launch} {e : Env} {R : Room} {s : State} {m : MethodId} {args : Array Value} {below : List Frame} {meth : Method} {c : Code} {H : Heap} {locs : List Loc} {cells slots : Nat} {Q : State → Prop}
variable {pc : Nat} {ls : Array Slot} {rest st0 : List Value} {a : Array Value} {H0 : Heap} {N : c_N} {S S' : List Nat}
theorem cx_i {post : Int32 → (Nat → Nat → Int32) → Prop} (hr : va_Run p l e R s m args below meth c H locs cells slots 0 0 (F0 m pc ls st0) rest (va_Qi post (fun X t => cW (nX N X) t.heap) (cE N S') a) (cE N S')) (hS : va_S (cE N S) H0 H locs) (hsub : ∀ t ∈ S', t ∈ S)
    (kk : ∀ (r : Int32) (X : Nat → Nat → Int32) (H1 : Heap) (locs1 : List Loc), post r X → cW (nX N X) H1 → va_S (cE N S) H0 H1 locs1 → W p l e R s m args below meth c H1 locs1 cells slots Q (F0 m (pc + 3) ls (.int r :: rest))) : W p l e R s m args below meth c H locs cells slots Q (F0 m pc ls st0) :=
  va_calli hr hS (fun q _ h => cE_sub hsub q h) (fun q h => cE_sub hsub q h) (fun r X _ H1 locs1 ht _ hp hB _ _ hS1 => kk r X H1 locs1 hp (by rw [← ht]; exact hB) hS1)
end CXI
