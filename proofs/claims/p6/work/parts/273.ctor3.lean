/-! THE REFERENCE'S CONSTRUCTOR -/
theorem cW_ixm {N : c_N} {H : Heap} {a j : Nat} {x : Int32} (hW : wt_P N.1 vwCl (wt_up (cG N) a (.inr (N.2.1 0, 6, wt_fu (cP27 N a) j (.int x)))) H) (ka : N.2.2.1 a = some 40 ∨ N.2.2.1 a = some 41) : cW (nX N (uX N.2.2.2 a j x)) H := by
  refine hW.mono (fun b E' hb => ?_)
  have hb : (N.2.2.1 b).map (cK (nX N (uX N.2.2.2 a j x)) b) = some E' := hb
  by_cases hba : b = a
  · subst hba
    refine ⟨_, wt_up_eq, ?_⟩
    have hE : E' = .inr (N.2.1 0, 6, cP27 (nX N (uX N.2.2.2 b j x)) b) := by
      rcases ka with ka | ka <;> rw [ka] at hb <;> exact (Option.some.inj hb).symm
    rw [hE]
    refine ⟨rfl, rfl, fun i v _ h => ?_⟩
    have h : (if i = j then v = .int x else v = .int (N.2.2.2 b i)) := h
    show v = .int (if b = b ∧ i = j then x else N.2.2.2 b i)
    by_cases hi : i = j
    · rw [if_pos hi] at h; rw [if_pos ⟨rfl, hi⟩]; exact h
    · rw [if_neg hi] at h; rw [if_neg (fun z => hi z.2)]; exact h
  · rw [wt_up_ne hba]
    cases ht : N.2.2.1 b with
    | none => rw [ht] at hb; cases hb
    | some t =>
      rw [ht] at hb
      refine ⟨cK N b t, by unfold cG; rw [ht]; rfl, ?_⟩
      rw [← Option.some.inj hb]
      exact cK_nX (funext fun i => if_neg (fun z => hba z.1)) t
set_option maxHeartbeats 4000000 in
set_option maxRecDepth 100000 in
theorem m_X11_tells (l : Launch) (N : c_N) (h0 : Nat) (k0 : N.2.2.1 h0 = some 11) (p1 : Int32) (rp1 : ir p1 0 5) (p2 p3 : Int32) (bU bV : Nat) (kU : N.2.2.1 bU = some 40) (kV : N.2.2.1 bV = some 41) (uq : ∀ a b t : Nat, 40 ≤ t → N.2.2.1 a = some t → N.2.2.1 b = some t → a = b) : Met l yX11_tells (wc_ws yX11_tells cX11_tells 4 none) { frames := 0, cells := 0, slots := 0, locals := 0 } (va_Pc [.ref h0, .int p1, .int p2, .int p3] (cSp N cT0)) (va_Qv (fun X : Nat → Nat → Int32 => X = uX (uX N.2.2.2 bU p1.toNatClampNeg p2) bV p1.toNatClampNeg p3) (fun X t => cW (nX N X) t.heap) (cE N [40, 41])) 0 0 (cE N [40, 41]) := by
  refine Met.ofW (cc := cX11_tells) (maxL := 4) (ret := none) (by decide) rfl ?_
  intro p e s m args below meth c s₁ B hml hv
  obtain ⟨rfl, ⟨hK, hW, hT, hnn⟩, hB⟩ := hv
  have hx := B.exec
  have hb := B.bytes
  have hr := B.returns
  have hts : ∀ w ∈ lw_g, w.before _ s = true := fun w h => atoms_spec (ws := wc_ws yX11_tells cX11_tells 4 none) B.pre w (List.mem_cons_of_mem _ h)
  have hown : s.vm.findClass RX11 = some m.cls := findClass_of_methodNamed B.named
  have hlocks := B.notSynchronized
  have hS : va_S (cE N [40, 41]) s.heap s.heap [] := va_S.rf
  have hl := lv_entry ([.ref h0, .int p1, .int p2, .int p3]) (n := 4) (Nat.le_of_ble_eq_true rfl)
  rw [lg_entry_eq]
  generalize (lg_sl ([.ref h0, .int p1, .int p2, .int p3]) ++ List.replicate (4 - (lg_sl ([.ref h0, .int p1, .int p2, .int p3])).length) Slot.unset).toArray = ls at hl ⊢
  have hl : lv_has ls 4 [(0, .ref h0), (1, .int p1), (2, .int p2), (3, .int p3)] := hl
  refine lv_aload_n hx hb dX11_tells_0 rfl (lv_at hl 0 rfl) ?_
  refine wt_get hx hb hts cfX11 hown hK hW (cg11 k0) rfl 0 (by decide) q872 dX11_tells_1 (fun v hv => ?_)
  obtain ⟨x1, rfl, k1⟩ : gr N 40 v := hv
  refine lv_iload_n hx hb dX11_tells_4 rfl (lv_at hl 1 rfl) ?_
  refine lv_iload_n hx hb dX11_tells_5 rfl (lv_at hl 2 rfl) ?_
  refine wt_iastU hx hb hK hW hS 0 (cg40 k1) (ce k1 (by decide)) rfl (ir_in rp1 (by decide) (by decide)) dX11_tells_6 (fun H locs hW hS => ?_)
  have hW := cW_ixm hW (Or.inl k1)
  have q1 : x1 = bU := uq _ _ 40 (by decide) k1 kU
  refine lv_aload_n hx hb dX11_tells_7 rfl (lv_at hl 0 rfl) ?_
  refine wt_get hx hb hts cfX11 hown hK hW (cg11 k0) rfl 1 (by decide) q873 dX11_tells_8 (fun v hv => ?_)
  obtain ⟨x8, rfl, k8⟩ : gr N 41 v := hv
  refine lv_iload_n hx hb dX11_tells_11 rfl (lv_at hl 1 rfl) ?_
  refine lv_iload_n hx hb dX11_tells_12 rfl (lv_at hl 3 rfl) ?_
  refine wt_iastU hx hb hK hW hS 0 (cg41 k8) (ce k8 (by decide)) rfl (ir_in rp1 (by decide) (by decide)) dX11_tells_13 (fun H locs hW hS => ?_)
  have hW := cW_ixm hW (Or.inr k8)
  have q8 : x8 = bV := uq _ _ 41 (by decide) k8 kV
  exact W.vret hx hb hr (fun t ht _ => ⟨⟨uX (uX N.2.2.2 x1 p1.toNatClampNeg p2) x8 p1.toNatClampNeg p3, rfl, by rw [q1, q8], cW_at (N := nX N (uX (uX N.2.2.2 x1 p1.toNatClampNeg p2) x8 p1.toNatClampNeg p3)) ht hW⟩, hS.F ht⟩) hS.2.2 dX11_tells_14
theorem wt_at.pin {D : va_G} {cl : List vw_C} {a ci : Nat} {P : Nat → Value → Prop} {H : Heap} {r : vw_C} (h : wt_at D cl a (.inl (ci, P)) H) (hc : cl[ci]? = some r) (k : Nat) (hk : k < r.2.2) {v : Value} (hv : ∀ w : Value, P k w → w = v) : wt_pin D cl a ci k v H := by
  obtain ⟨r', V, h1, h2, h3⟩ := h
  have e : r' = r := Option.some.inj (h1.symm.trans hc)
  subst e
  exact ⟨r', V, h1, h2, hv _ (h3 k hk)⟩
theorem mI_new {N : c_N} {o : Nat} {H : Heap} (h7 : pI N o 7 0 H) (h13 : pI N o 13 0 H) (h26 : pI N o 26 0 H) (h29 : pI N o 29 0 H) (h31 : pI N o 31 0 H) (h34 : pL N o 34 0 H) (h35 : pL N o 35 0 H) (h36 : pL N o 36 0 H) (h37 : pL N o 37 0 H) (h38 : pI N o 38 0 H) : mI N o H := by
  have z : (0 : Int32).toInt = 0 := by decide
  refine ⟨⟨0, h7, ?_⟩, ⟨0, h13, ?_⟩, ⟨0, h26, ?_⟩, ⟨0, 0, 0, h26, h29, h31, Or.inl (by decide), ?_⟩, ⟨0, 0, 0, 0, 0, h34, h35, h36, h37, h38, fun h => absurd rfl h⟩⟩
  · intro aA aU fA fU k1 k2 g1 g2 j hj hg
    have hg : (j : Int) < (0 : Int32).toInt := hg
    rw [z] at hg
    exact absurd hg (by omega)
  · intro a f ka hf aA aU fA fU k1 k2 g1 g2 j hj hg
    obtain ⟨m, hm, -⟩ := hg
    rw [z] at hm
    exact absurd hm (by omega)
  · intro aA aU fA fU k1 k2 g1 g2 j hj hg
    have hg : (j : Int) < (0 : Int32).toInt := hg
    rw [z] at hg
    exact absurd hg (by omega)
  · intro a f ka hf j hj hg
    rw [z] at hg
    exact absurd hg (by omega)
theorem mI_call {N : c_N} {o : Nat} {S : List Nat} {H H1 : Heap} (h : mI N o H) (hW : cW N H) (ko : N.2.2.1 o = some 11) (hk : ∀ q : Nat, q < H.size → ¬ cE N S q → H1[q]? = H[q]?) (h11 : 11 ∉ S) (hT : ∀ t ∈ mT, t ∉ S) : mI N o H1 :=
  mI.fr H H1 (fun _ _ _ hp => hp.kept (hk o hp.lt (cE_not ko h11))) (fun a t ht ka => hk a (hW_lt hW ka) (cE_not ka (hT t ht))) h
def iQ (n00 T : Nat) (u : iU) : Prop := (∀ a t : Nat, u.1 a = some t → n00 ≤ a ∧ t < T) ∧ ∀ a b t : Nat, 40 ≤ t → u.1 a = some t → u.1 b = some t → a = b
theorem iQ_put {n00 T a t : Nat} {u u' : iU} (h : iQ n00 T u) (hu : ∀ q : Nat, u'.1 q = if q = a then some t else u.1 q) (ht : t = T ∨ t < 40) (h40 : 40 ≤ T) (ha : n00 ≤ a) : iQ n00 (T + 1) u' := by
  refine ⟨fun q t' hq => ?_, fun q r t' ht' hq hr => ?_⟩
  · rw [hu q] at hq
    by_cases e : q = a
    · rw [if_pos e] at hq; cases hq; exact ⟨by omega, by omega⟩
    · rw [if_neg e] at hq; have := h.1 q t' hq; exact ⟨this.1, by omega⟩
  · rw [hu q] at hq
    rw [hu r] at hr
    by_cases e : q = a
    · by_cases e2 : r = a
      · rw [e, e2]
      · rw [if_pos e] at hq
        rw [if_neg e2] at hr
        cases hq
        have := (h.1 r t hr).2
        omega
    · by_cases e2 : r = a
      · rw [if_neg e] at hq
        rw [if_pos e2] at hr
        cases hr
        have := (h.1 q t hq).2
        omega
      · rw [if_neg e] at hq
        rw [if_neg e2] at hr
        exact h.2 q r t' ht' hq hr
theorem tl_free {N : c_N} {u : iU} {n0 h0 a b : Nat} (hQ : ∀ x y t : Nat, 40 ≤ t → u.1 x = some t → u.1 y = some t → x = y) (ka : u.1 a = some 40) (kb : u.1 b = some 41) (ga : n0 ≤ a) (gb : n0 ≤ b) (q : Nat) (hq : cE (nN N u) [40, 41] q) : iA n0 h0 q := by
  obtain ⟨t, h1, h2⟩ := hq
  have h2 : u.1 q = some t := h2
  rcases List.mem_cons.mp h1 with h1 | h1
  · subst h1; exact Or.inr (by rw [hQ q a 40 (by decide) h2 ka]; exact ga)
  · rcases List.mem_cons.mp h1 with h1 | h1
    · subst h1; exact Or.inr (by rw [hQ q b 41 (by decide) h2 kb]; exact gb)
    · exact absurd h1 List.not_mem_nil
theorem cT1.narrow {f : String} {n : Nat} {g : Nat → Int32} {A B : Nat → Prop} {U : State} {H : Heap} (h : cT1 f n g A U H) (hAB : ∀ q, B q → A q) : cT1 f n g B U H := by
  obtain ⟨t, h1, h2⟩ := h
  exact ⟨t, h1.narrow hAB, h2.narrow hAB⟩
theorem cT.narrow {A B : Nat → Prop} {U : State} {H : Heap} (h : cT A U H) (hAB : ∀ q, B q → A q) : cT B U H := ⟨h.1.narrow hAB, h.2.1.narrow hAB, h.2.2.1.narrow hAB, h.2.2.2.narrow hAB⟩
theorem cS_preA {N : c_N} {A : Nat → Prop} {s : State} {H : Heap} {locs : List Loc} {As : List Value} {B : Heap → Prop} {b ci : Nat} {P : Nat → Value → Prop} {q : vw_C} {C : String} (hK : va_K N.1 vwCl (ctys N) s) (hW : cW N H) (hT : cT A s s.heap) (hnn : ∀ w ∈ lw_n, va_Nw w s) (hS : va_S A s.heap H locs) (hA : ∀ a t : Nat, N.2.2.1 a = some t → A a) (hq : cG N b = some (.inl (ci, P))) (hc : vwCl[ci]? = some q) (hC : q.1 = C) (hB : B H) : PreV s H C b (va_Pc (.ref b :: As) (cSp N B)) As :=
  ⟨cSp_blind N B _, by rw [← hC]; exact wt_recv hK hW hq hc, fun U hU hw => ⟨rfl, ⟨va_K.moved hw.alike hK, by rw [hU]; exact hW, by rw [hU]; exact ((hT.kept hS.2.1).moved hw.alike).narrow (fun a ⟨t, ht⟩ => hA a t ht), lw_n_warm hw hnn⟩, by rw [hU]; exact hB⟩⟩
theorem tl_all {X0 X1 X2 X3 X4 X5 X6 : Nat → Nat → Int32} {a b : Nat} (hne : a ≠ b) (e1 : X1 = uX (uX X0 a (0 : Int32).toNatClampNeg 1) b (0 : Int32).toNatClampNeg 1) (e2 : X2 = uX (uX X1 a (1 : Int32).toNatClampNeg 3) b (1 : Int32).toNatClampNeg 2) (e3 : X3 = uX (uX X2 a (2 : Int32).toNatClampNeg 2) b (2 : Int32).toNatClampNeg 1) (e4 : X4 = uX (uX X3 a (3 : Int32).toNatClampNeg 4) b (3 : Int32).toNatClampNeg 3) (e5 : X5 = uX (uX X4 a (4 : Int32).toNatClampNeg 5) b (4 : Int32).toNatClampNeg 2) (e6 : X6 = uX (uX X5 a (5 : Int32).toNatClampNeg 3) b (5 : Int32).toNatClampNeg 1) :
    (∀ j : Nat, j < 6 → X6 a j = fsU j ∧ X6 b j = fsV j) ∧ ∀ q : Nat, q ≠ a → q ≠ b → X6 q = X0 q := by
  have t0 : (0 : Int32).toNatClampNeg = 0 := by decide
  have t1 : (1 : Int32).toNatClampNeg = 1 := by decide
  have t2 : (2 : Int32).toNatClampNeg = 2 := by decide
  have t3 : (3 : Int32).toNatClampNeg = 3 := by decide
  have t4 : (4 : Int32).toNatClampNeg = 4 := by decide
  have t5 : (5 : Int32).toNatClampNeg = 5 := by decide
  rw [t0] at e1; rw [t1] at e2; rw [t2] at e3; rw [t3] at e4; rw [t4] at e5; rw [t5] at e6
  have hne' : ¬ b = a := fun z => hne z.symm
  have kA : ∀ (X : Nat → Nat → Int32) (i j : Nat) (v w : Int32), uX (uX X a i v) b i w a j = if j = i then v else X a j := by
    intro X i j v w
    unfold uX
    rw [if_neg (fun z => hne z.1)]
    by_cases h : j = i
    · rw [if_pos ⟨rfl, h⟩, if_pos h]
    · rw [if_neg (fun z => h z.2), if_neg h]
  have kB : ∀ (X : Nat → Nat → Int32) (i j : Nat) (v w : Int32), uX (uX X a i v) b i w b j = if j = i then w else X b j := by
    intro X i j v w
    unfold uX
    by_cases h : j = i
    · rw [if_pos ⟨rfl, h⟩, if_pos h]
    · rw [if_neg (fun z => h z.2), if_neg (fun z => hne' z.1), if_neg h]
  have kQ : ∀ (X : Nat → Nat → Int32) (i : Nat) (v w : Int32) (q : Nat), q ≠ a → q ≠ b → uX (uX X a i v) b i w q = X q := by
    intro X i v w q h1 h2
    funext j
    unfold uX
    rw [if_neg (fun z => h2 z.1), if_neg (fun z => h1 z.1)]
  refine ⟨fun j hj => ⟨?_, ?_⟩, fun q h1 h2 => ?_⟩
  · rw [e6, kA, e5, kA, e4, kA, e3, kA, e2, kA, e1, kA]
    match j, hj with
    | 0, _ => rfl
    | 1, _ => rfl
    | 2, _ => rfl
    | 3, _ => rfl
    | 4, _ => rfl
    | 5, _ => rfl
  · rw [e6, kB, e5, kB, e4, kB, e3, kB, e2, kB, e1, kB]
    match j, hj with
    | 0, _ => rfl
    | 1, _ => rfl
    | 2, _ => rfl
    | 3, _ => rfl
    | 4, _ => rfl
    | 5, _ => rfl
  · rw [e6, kQ _ _ _ _ q h1 h2, e5, kQ _ _ _ _ q h1 h2, e4, kQ _ _ _ _ q h1 h2, e3, kQ _ _ _ _ q h1 h2, e2, kQ _ _ _ _ q h1 h2, e1, kQ _ _ _ _ q h1 h2]
def m11 (N : c_N) (n0 h0 : Nat) (u : iU) : Prop := (∀ q : Nat, q < n0 → q ≠ h0 → u.1 q = N.2.2.1 q ∧ u.2 q = N.2.2.2 q) ∧ u.1 h0 = some 11 ∧ (∀ q t : Nat, n0 ≤ q → u.1 q = some t → 40 ≤ t) ∧ (∀ a b t : Nat, 40 ≤ t → u.1 a = some t → u.1 b = some t → a = b) ∧ ∃ bU bV : Nat, n0 ≤ bU ∧ n0 ≤ bV ∧ u.1 bU = some 40 ∧ u.1 bV = some 41 ∧ ∀ j : Nat, j < 6 → u.2 bU j = fsU j ∧ u.2 bV j = fsV j
abbrev p11 (t : Nat) : Prop := 40 ≤ t
set_option maxHeartbeats 4000000 in
set_option maxRecDepth 100000 in
theorem i_X11 (l : Launch) (N : c_N) (n00 n0 h0 : Nat) (h00 : n00 ≤ h0 ∧ n00 ≤ n0) (hN0 : ∀ q t : Nat, N.2.2.1 q = some t → n00 ≤ q ∧ t < 40) : Met l yX11_init (wc_ws yX11_init cX11_init 1 none) { frames := 1, cells := 23, slots := 1391, locals := 40 } (va_Pc [.ref h0] (cIp N n00 n0 h0 11 (fun k v => v = defaultValue (tyX11 k)))) (va_Qv (fun u : iU => m11 N n0 h0 u) (fun u t => cW (nN N u) t.heap ∧ mI (nN N u) h0 t.heap) (iA n0 h0)) 23 1391 (iA n0 h0) := by
  refine Met.ofW (cc := cX11_init) (maxL := 1) (ret := none) (by decide) rfl ?_
  intro p e s m args below meth c s₁ B hml hv
  obtain ⟨rfl, hK, hW0, hT, hnn, hAO, hO, hno, hsz⟩ := hv
  have hx := B.exec
  have hb := B.bytes
  have hr := B.returns
  have hts : ∀ w ∈ lw_g, w.before _ s = true := fun w h => atoms_spec (ws := wc_ws yX11_init cX11_init 1 none) B.pre w (List.mem_cons_of_mem _ h)
  have hown : s.vm.findClass RX11 = some m.cls := findClass_of_methodNamed B.named
  have hlocks := B.notSynchronized
  have hin : meth.name = "<init>" := (name_of_methodNamed B.named B.method).1
  have hS : va_S (iA n0 h0) s.heap s.heap [] := va_S.rf
  have hl := lv_entry ([.ref h0]) (n := 1) (Nat.le_of_ble_eq_true rfl)
  rw [lg_entry_eq]
  generalize (lg_sl ([.ref h0]) ++ List.replicate (1 - (lg_sl ([.ref h0])).length) Slot.unset).toArray = ls at hl ⊢
  have hl : lv_has ls 1 [(0, .ref h0)] := hl
  have hh0 : h0 < n0 := by have := hO.lt; omega
  have hge : n0 ≤ s.heap.size := by omega
  have hR : iR p11 N n0 h0 (N.2.2.1, N.2.2.2) := iR_0 hW0 hsz
  obtain ⟨u0, eu0⟩ : ∃ u : iU, u = (N.2.2.1, N.2.2.2) := ⟨_, rfl⟩
  rw [← eu0] at hR
  have hW : cW (nN N u0) s.heap := by rw [eu0]; exact hW0
  have hno : u0.1 h0 = none := by rw [eu0]; exact hno
  have hQ : iQ n00 40 u0 := by
    rw [eu0]
    exact ⟨fun a t h => hN0 a t h, fun a b t h h1 h2 => absurd (hN0 a t h1).2 (by omega)⟩
  refine wq_all2 ?_
  intro WW w1 w2
  refine lv_aload_n hx hb dX11_init_0 rfl (lv_at hl 0 rfl) ?_
  refine W.objInit hx hb hown (hts _ q867) (hts _ q25) (hts _ q26) rfl (by rw [hml]; exact hl.1) rfl dX11_init_1 (Nat.le_of_ble_eq_true rfl) (Nat.le_of_ble_eq_true rfl) ?_
  refine lv_aload_n hx hb dX11_init_4 rfl (lv_at hl 0 rfl) ?_
  refine lv_bipush (v := 6) hx hb dX11_init_5 (by decide) ?_
  refine wi_newa (atype := .int) (n := 6) (N := 6) hx hb (hts _ q52) hK hS 0 rfl (fun h => h) (by decide) (by decide) (Nat.le_of_ble_eq_true rfl) (Nat.le_of_ble_eq_true rfl) (Nat.le_of_ble_eq_true rfl) dX11_init_7 (fun a7 H eq hz o1 hN_a7 hS => ?_)
  have n_a7 := cW_none hW (Nat.le_of_eq eq.symm)
  have g_a7 : n0 ≤ a7 := by omega
  have l_a7_h0 : h0 < a7 := by have := hO.lt; omega
  have hW := cW_kept hW (fun b t hb => o1 b (by have := hW_lt (N := nN N u0) hW hb; omega))
  have hO := hO.kept (o1 h0 l_a7_h0)
  have hge : n0 ≤ H.size := by omega
  obtain ⟨u1, eu1⟩ : ∃ w : iU, w = aX u0 a7 40 (fun _ => 0) := ⟨_, rfl⟩
  have hW : cW (nN N u1) H := by rw [eu1]; exact cW_addX (f := (fun _ => 0)) hW n_a7 hN_a7 ⟨rfl, rfl, fun j v _ h => aX_val j h⟩
  have hR : iR p11 N n0 h0 u1 := by rw [eu1]; exact iR_addX hR g_a7 (by decide)
  have hno : u1.1 h0 = none := by rw [eu1]; exact (if_neg (by omega)).trans hno
  have k_a7 : u1.1 a7 = some 40 := by rw [eu1]; exact aX_self
  have hQ : iQ n00 41 u1 := iQ_put hQ (fun x => by rw [eu1]; rfl) (Or.inl rfl) (by decide) (by omega)
  refine wi_put (v := .ref a7) hx hb hts cfX11 tyX11 tyX11_ok nmX11 hown hin hK hO hS (Or.inl rfl) rfl 0 (by decide) q872 rfl rfl rfl dX11_init_9 (fun H locs hO oq hz hS => ?_)
  have hW := cW_kept hW (fun b t hb => oq b (by intro z; rw [z, hno] at hb; cases hb))
  have hge : n0 ≤ H.size := by omega
  refine lv_aload_n hx hb dX11_init_12 rfl (lv_at hl 0 rfl) ?_
  refine lv_bipush (v := 6) hx hb dX11_init_13 (by decide) ?_
  refine wi_newa (atype := .int) (n := 6) (N := 6) hx hb (hts _ q52) hK hS 0 rfl (fun h => h) (by decide) (by decide) (Nat.le_of_ble_eq_true rfl) (Nat.le_of_ble_eq_true rfl) (Nat.le_of_ble_eq_true rfl) dX11_init_15 (fun a15 H eq hz o1 hN_a15 hS => ?_)
  have n_a15 := cW_none hW (Nat.le_of_eq eq.symm)
  have g_a15 : n0 ≤ a15 := by omega
  have l_a15_h0 : h0 < a15 := by have := hO.lt; omega
  have hW := cW_kept hW (fun b t hb => o1 b (by have := hW_lt (N := nN N u1) hW hb; omega))
  have hO := hO.kept (o1 h0 l_a15_h0)
  have hge : n0 ≤ H.size := by omega
  obtain ⟨u2, eu2⟩ : ∃ w : iU, w = aX u1 a15 41 (fun _ => 0) := ⟨_, rfl⟩
  have hW : cW (nN N u2) H := by rw [eu2]; exact cW_addX (f := (fun _ => 0)) hW n_a15 hN_a15 ⟨rfl, rfl, fun j v _ h => aX_val j h⟩
  have hR : iR p11 N n0 h0 u2 := by rw [eu2]; exact iR_addX hR g_a15 (by decide)
  have k_a7 : u2.1 a7 = some 40 := by rw [eu2]; exact aX_old n_a15 k_a7
  have hno : u2.1 h0 = none := by rw [eu2]; exact (if_neg (by omega)).trans hno
  have k_a15 : u2.1 a15 = some 41 := by rw [eu2]; exact aX_self
  have hQ : iQ n00 42 u2 := iQ_put hQ (fun x => by rw [eu2]; rfl) (Or.inl rfl) (by decide) (by omega)
  refine wi_put (v := .ref a15) hx hb hts cfX11 tyX11 tyX11_ok nmX11 hown hin hK hO hS (Or.inl rfl) rfl 1 (by decide) q873 rfl rfl rfl dX11_init_17 (fun H locs hO oq hz hS => ?_)
  have hW := cW_kept hW (fun b t hb => oq b (by intro z; rw [z, hno] at hb; cases hb))
  have hge : n0 ≤ H.size := by omega
  refine lv_aload_n hx hb dX11_init_20 rfl (lv_at hl 0 rfl) ?_
  refine lv_iconst (v := 1) hx hb dX11_init_21 (by decide) ?_
  refine wi_put (v := .int (1 : Int32)) hx hb hts cfX11 tyX11 tyX11_ok nmX11 hown hin hK hO hS (Or.inl rfl) rfl 3 (by decide) q875 rfl rfl rfl dX11_init_22 (fun H locs hO oq hz hS => ?_)
  have hW := cW_kept hW (fun b t hb => oq b (by intro z; rw [z, hno] at hb; cases hb))
  have hge : n0 ≤ H.size := by omega
  refine lv_aload_n hx hb dX11_init_25 rfl (lv_at hl 0 rfl) ?_
  refine lv_bipush (v := 25) hx hb dX11_init_26 (by decide) ?_
  refine wi_newa (atype := .int) (n := 25) (N := 25) hx hb (hts _ q52) hK hS 0 rfl (fun h => h) (by decide) (by decide) (Nat.le_of_ble_eq_true rfl) (Nat.le_of_ble_eq_true rfl) (Nat.le_of_ble_eq_true rfl) dX11_init_28 (fun a28 H eq hz o1 hN_a28 hS => ?_)
  have n_a28 := cW_none hW (Nat.le_of_eq eq.symm)
  have g_a28 : n0 ≤ a28 := by omega
  have l_a28_h0 : h0 < a28 := by have := hO.lt; omega
  have hW := cW_kept hW (fun b t hb => o1 b (by have := hW_lt (N := nN N u2) hW hb; omega))
  have hO := hO.kept (o1 h0 l_a28_h0)
  have hge : n0 ≤ H.size := by omega
  obtain ⟨u3, eu3⟩ : ∃ w : iU, w = aU u2 a28 42 := ⟨_, rfl⟩
  have hW : cW (nN N u3) H := by rw [eu3]; exact cW_add hW n_a28 hN_a28 ⟨rfl, rfl, fun j v _ h => ⟨0, h, by decide⟩⟩
  have hR : iR p11 N n0 h0 u3 := by rw [eu3]; exact iR_add hR g_a28 (by decide)
  have k_a7 : u3.1 a7 = some 40 := by rw [eu3]; exact aU_old n_a28 k_a7
  have k_a15 : u3.1 a15 = some 41 := by rw [eu3]; exact aU_old n_a28 k_a15
  have hno : u3.1 h0 = none := by rw [eu3]; exact (if_neg (by omega)).trans hno
  have k_a28 : u3.1 a28 = some 42 := by rw [eu3]; exact aU_self
  have hQ : iQ n00 43 u3 := iQ_put hQ (fun x => by rw [eu3]; rfl) (Or.inl rfl) (by decide) (by omega)
  refine wi_put (v := .ref a28) hx hb hts cfX11 tyX11 tyX11_ok nmX11 hown hin hK hO hS (Or.inl rfl) rfl 4 (by decide) q876 rfl rfl rfl dX11_init_30 (fun H locs hO oq hz hS => ?_)
  have hW := cW_kept hW (fun b t hb => oq b (by intro z; rw [z, hno] at hb; cases hb))
  have hge : n0 ≤ H.size := by omega
  refine lv_aload_n hx hb dX11_init_33 rfl (lv_at hl 0 rfl) ?_
  refine lv_bipush (v := 25) hx hb dX11_init_34 (by decide) ?_
  refine wi_newa (atype := .int) (n := 25) (N := 25) hx hb (hts _ q52) hK hS 0 rfl (fun h => h) (by decide) (by decide) (Nat.le_of_ble_eq_true rfl) (Nat.le_of_ble_eq_true rfl) (Nat.le_of_ble_eq_true rfl) dX11_init_36 (fun a36 H eq hz o1 hN_a36 hS => ?_)
  have n_a36 := cW_none hW (Nat.le_of_eq eq.symm)
  have g_a36 : n0 ≤ a36 := by omega
  have l_a36_h0 : h0 < a36 := by have := hO.lt; omega
  have hW := cW_kept hW (fun b t hb => o1 b (by have := hW_lt (N := nN N u3) hW hb; omega))
  have hO := hO.kept (o1 h0 l_a36_h0)
  have hge : n0 ≤ H.size := by omega
  obtain ⟨u4, eu4⟩ : ∃ w : iU, w = aU u3 a36 43 := ⟨_, rfl⟩
  have hW : cW (nN N u4) H := by rw [eu4]; exact cW_add hW n_a36 hN_a36 ⟨rfl, rfl, fun j v _ h => ⟨0, h, by decide⟩⟩
  have hR : iR p11 N n0 h0 u4 := by rw [eu4]; exact iR_add hR g_a36 (by decide)
  have k_a7 : u4.1 a7 = some 40 := by rw [eu4]; exact aU_old n_a36 k_a7
  have k_a15 : u4.1 a15 = some 41 := by rw [eu4]; exact aU_old n_a36 k_a15
  have k_a28 : u4.1 a28 = some 42 := by rw [eu4]; exact aU_old n_a36 k_a28
  have hno : u4.1 h0 = none := by rw [eu4]; exact (if_neg (by omega)).trans hno
  have k_a36 : u4.1 a36 = some 43 := by rw [eu4]; exact aU_self
  have hQ : iQ n00 44 u4 := iQ_put hQ (fun x => by rw [eu4]; rfl) (Or.inl rfl) (by decide) (by omega)
  refine wi_put (v := .ref a36) hx hb hts cfX11 tyX11 tyX11_ok nmX11 hown hin hK hO hS (Or.inl rfl) rfl 5 (by decide) q877 rfl rfl rfl dX11_init_38 (fun H locs hO oq hz hS => ?_)
  have hW := cW_kept hW (fun b t hb => oq b (by intro z; rw [z, hno] at hb; cases hb))
  have hge : n0 ≤ H.size := by omega
  refine lv_aload_n hx hb dX11_init_41 rfl (lv_at hl 0 rfl) ?_
  refine lv_bipush (v := 25) hx hb dX11_init_42 (by decide) ?_
  refine wi_newa (atype := .int) (n := 25) (N := 25) hx hb (hts _ q52) hK hS 0 rfl (fun h => h) (by decide) (by decide) (Nat.le_of_ble_eq_true rfl) (Nat.le_of_ble_eq_true rfl) (Nat.le_of_ble_eq_true rfl) dX11_init_44 (fun a44 H eq hz o1 hN_a44 hS => ?_)
  have n_a44 := cW_none hW (Nat.le_of_eq eq.symm)
  have g_a44 : n0 ≤ a44 := by omega
  have l_a44_h0 : h0 < a44 := by have := hO.lt; omega
  have hW := cW_kept hW (fun b t hb => o1 b (by have := hW_lt (N := nN N u4) hW hb; omega))
  have hO := hO.kept (o1 h0 l_a44_h0)
  have hge : n0 ≤ H.size := by omega
  obtain ⟨u5, eu5⟩ : ∃ w : iU, w = aU u4 a44 44 := ⟨_, rfl⟩
  have hW : cW (nN N u5) H := by rw [eu5]; exact cW_add hW n_a44 hN_a44 ⟨rfl, rfl, fun j v _ h => ⟨0, h, by decide⟩⟩
  have hR : iR p11 N n0 h0 u5 := by rw [eu5]; exact iR_add hR g_a44 (by decide)
  have k_a7 : u5.1 a7 = some 40 := by rw [eu5]; exact aU_old n_a44 k_a7
  have k_a15 : u5.1 a15 = some 41 := by rw [eu5]; exact aU_old n_a44 k_a15
  have k_a28 : u5.1 a28 = some 42 := by rw [eu5]; exact aU_old n_a44 k_a28
  have k_a36 : u5.1 a36 = some 43 := by rw [eu5]; exact aU_old n_a44 k_a36
  have hno : u5.1 h0 = none := by rw [eu5]; exact (if_neg (by omega)).trans hno
  have k_a44 : u5.1 a44 = some 44 := by rw [eu5]; exact aU_self
  have hQ : iQ n00 45 u5 := iQ_put hQ (fun x => by rw [eu5]; rfl) (Or.inl rfl) (by decide) (by omega)
  refine wi_put (v := .ref a44) hx hb hts cfX11 tyX11 tyX11_ok nmX11 hown hin hK hO hS (Or.inl rfl) rfl 6 (by decide) q878 rfl rfl rfl dX11_init_46 (fun H locs hO oq hz hS => ?_)
  have hW := cW_kept hW (fun b t hb => oq b (by intro z; rw [z, hno] at hb; cases hb))
  have hge : n0 ≤ H.size := by omega
  refine lv_aload_n hx hb dX11_init_49 rfl (lv_at hl 0 rfl) ?_
  refine lv_sipush (v := 240) hx hb dX11_init_50 (by decide) ?_
  refine wi_newa (atype := .int) (n := 240) (N := 240) hx hb (hts _ q52) hK hS 0 rfl (fun h => h) (by decide) (by decide) (Nat.le_of_ble_eq_true rfl) (Nat.le_of_ble_eq_true rfl) (Nat.le_of_ble_eq_true rfl) dX11_init_53 (fun a53 H eq hz o1 hN_a53 hS => ?_)
  have n_a53 := cW_none hW (Nat.le_of_eq eq.symm)
  have g_a53 : n0 ≤ a53 := by omega
  have l_a53_h0 : h0 < a53 := by have := hO.lt; omega
  have hW := cW_kept hW (fun b t hb => o1 b (by have := hW_lt (N := nN N u5) hW hb; omega))
  have hO := hO.kept (o1 h0 l_a53_h0)
  have hge : n0 ≤ H.size := by omega
  obtain ⟨u6, eu6⟩ : ∃ w : iU, w = aU u5 a53 45 := ⟨_, rfl⟩
  have hW : cW (nN N u6) H := by rw [eu6]; exact cW_add hW n_a53 hN_a53 ⟨rfl, rfl, fun j v _ h => ⟨0, h, by decide⟩⟩
  have hR : iR p11 N n0 h0 u6 := by rw [eu6]; exact iR_add hR g_a53 (by decide)
  have k_a7 : u6.1 a7 = some 40 := by rw [eu6]; exact aU_old n_a53 k_a7
  have k_a15 : u6.1 a15 = some 41 := by rw [eu6]; exact aU_old n_a53 k_a15
  have k_a28 : u6.1 a28 = some 42 := by rw [eu6]; exact aU_old n_a53 k_a28
  have k_a36 : u6.1 a36 = some 43 := by rw [eu6]; exact aU_old n_a53 k_a36
  have k_a44 : u6.1 a44 = some 44 := by rw [eu6]; exact aU_old n_a53 k_a44
  have hno : u6.1 h0 = none := by rw [eu6]; exact (if_neg (by omega)).trans hno
  have k_a53 : u6.1 a53 = some 45 := by rw [eu6]; exact aU_self
  have hQ : iQ n00 46 u6 := iQ_put hQ (fun x => by rw [eu6]; rfl) (Or.inl rfl) (by decide) (by omega)
  refine wi_put (v := .ref a53) hx hb hts cfX11 tyX11 tyX11_ok nmX11 hown hin hK hO hS (Or.inl rfl) rfl 8 (by decide) q880 rfl rfl rfl dX11_init_55 (fun H locs hO oq hz hS => ?_)
  have hW := cW_kept hW (fun b t hb => oq b (by intro z; rw [z, hno] at hb; cases hb))
  have hge : n0 ≤ H.size := by omega
  refine lv_aload_n hx hb dX11_init_58 rfl (lv_at hl 0 rfl) ?_
  refine lv_sipush (v := 240) hx hb dX11_init_59 (by decide) ?_
  refine wi_newa (atype := .int) (n := 240) (N := 240) hx hb (hts _ q52) hK hS 0 rfl (fun h => h) (by decide) (by decide) (Nat.le_of_ble_eq_true rfl) (Nat.le_of_ble_eq_true rfl) (Nat.le_of_ble_eq_true rfl) dX11_init_62 (fun a62 H eq hz o1 hN_a62 hS => ?_)
  have n_a62 := cW_none hW (Nat.le_of_eq eq.symm)
  have g_a62 : n0 ≤ a62 := by omega
  have l_a62_h0 : h0 < a62 := by have := hO.lt; omega
  have hW := cW_kept hW (fun b t hb => o1 b (by have := hW_lt (N := nN N u6) hW hb; omega))
  have hO := hO.kept (o1 h0 l_a62_h0)
  have hge : n0 ≤ H.size := by omega
  obtain ⟨u7, eu7⟩ : ∃ w : iU, w = aU u6 a62 46 := ⟨_, rfl⟩
  have hW : cW (nN N u7) H := by rw [eu7]; exact cW_add hW n_a62 hN_a62 ⟨rfl, rfl, fun j v _ h => ⟨0, h, by decide⟩⟩
  have hR : iR p11 N n0 h0 u7 := by rw [eu7]; exact iR_add hR g_a62 (by decide)
  have k_a7 : u7.1 a7 = some 40 := by rw [eu7]; exact aU_old n_a62 k_a7
  have k_a15 : u7.1 a15 = some 41 := by rw [eu7]; exact aU_old n_a62 k_a15
  have k_a28 : u7.1 a28 = some 42 := by rw [eu7]; exact aU_old n_a62 k_a28
  have k_a36 : u7.1 a36 = some 43 := by rw [eu7]; exact aU_old n_a62 k_a36
  have k_a44 : u7.1 a44 = some 44 := by rw [eu7]; exact aU_old n_a62 k_a44
  have k_a53 : u7.1 a53 = some 45 := by rw [eu7]; exact aU_old n_a62 k_a53
  have hno : u7.1 h0 = none := by rw [eu7]; exact (if_neg (by omega)).trans hno
  have k_a62 : u7.1 a62 = some 46 := by rw [eu7]; exact aU_self
  have hQ : iQ n00 47 u7 := iQ_put hQ (fun x => by rw [eu7]; rfl) (Or.inl rfl) (by decide) (by omega)
  refine wi_put (v := .ref a62) hx hb hts cfX11 tyX11 tyX11_ok nmX11 hown hin hK hO hS (Or.inl rfl) rfl 9 (by decide) q881 rfl rfl rfl dX11_init_64 (fun H locs hO oq hz hS => ?_)
  have hW := cW_kept hW (fun b t hb => oq b (by intro z; rw [z, hno] at hb; cases hb))
  have hge : n0 ≤ H.size := by omega
  refine lv_aload_n hx hb dX11_init_67 rfl (lv_at hl 0 rfl) ?_
  refine lv_sipush (v := 240) hx hb dX11_init_68 (by decide) ?_
  refine wi_newa (atype := .int) (n := 240) (N := 240) hx hb (hts _ q52) hK hS 0 rfl (fun h => h) (by decide) (by decide) (Nat.le_of_ble_eq_true rfl) (Nat.le_of_ble_eq_true rfl) (Nat.le_of_ble_eq_true rfl) dX11_init_71 (fun a71 H eq hz o1 hN_a71 hS => ?_)
  have n_a71 := cW_none hW (Nat.le_of_eq eq.symm)
  have g_a71 : n0 ≤ a71 := by omega
  have l_a71_h0 : h0 < a71 := by have := hO.lt; omega
  have hW := cW_kept hW (fun b t hb => o1 b (by have := hW_lt (N := nN N u7) hW hb; omega))
  have hO := hO.kept (o1 h0 l_a71_h0)
  have hge : n0 ≤ H.size := by omega
  obtain ⟨u8, eu8⟩ : ∃ w : iU, w = aU u7 a71 47 := ⟨_, rfl⟩
  have hW : cW (nN N u8) H := by rw [eu8]; exact cW_add hW n_a71 hN_a71 ⟨rfl, rfl, fun j v _ h => ⟨0, h, by decide⟩⟩
  have hR : iR p11 N n0 h0 u8 := by rw [eu8]; exact iR_add hR g_a71 (by decide)
  have k_a7 : u8.1 a7 = some 40 := by rw [eu8]; exact aU_old n_a71 k_a7
  have k_a15 : u8.1 a15 = some 41 := by rw [eu8]; exact aU_old n_a71 k_a15
  have k_a28 : u8.1 a28 = some 42 := by rw [eu8]; exact aU_old n_a71 k_a28
  have k_a36 : u8.1 a36 = some 43 := by rw [eu8]; exact aU_old n_a71 k_a36
  have k_a44 : u8.1 a44 = some 44 := by rw [eu8]; exact aU_old n_a71 k_a44
  have k_a53 : u8.1 a53 = some 45 := by rw [eu8]; exact aU_old n_a71 k_a53
  have k_a62 : u8.1 a62 = some 46 := by rw [eu8]; exact aU_old n_a71 k_a62
  have hno : u8.1 h0 = none := by rw [eu8]; exact (if_neg (by omega)).trans hno
  have k_a71 : u8.1 a71 = some 47 := by rw [eu8]; exact aU_self
  have hQ : iQ n00 48 u8 := iQ_put hQ (fun x => by rw [eu8]; rfl) (Or.inl rfl) (by decide) (by omega)
  refine wi_put (v := .ref a71) hx hb hts cfX11 tyX11 tyX11_ok nmX11 hown hin hK hO hS (Or.inl rfl) rfl 10 (by decide) q882 rfl rfl rfl dX11_init_73 (fun H locs hO oq hz hS => ?_)
  have hW := cW_kept hW (fun b t hb => oq b (by intro z; rw [z, hno] at hb; cases hb))
  have hge : n0 ≤ H.size := by omega
  refine lv_aload_n hx hb dX11_init_76 rfl (lv_at hl 0 rfl) ?_
  refine lv_bipush (v := 10) hx hb dX11_init_77 (by decide) ?_
  refine wi_newa (atype := .int) (n := 10) (N := 10) hx hb (hts _ q52) hK hS 0 rfl (fun h => h) (by decide) (by decide) (Nat.le_of_ble_eq_true rfl) (Nat.le_of_ble_eq_true rfl) (Nat.le_of_ble_eq_true rfl) dX11_init_79 (fun a79 H eq hz o1 hN_a79 hS => ?_)
  have n_a79 := cW_none hW (Nat.le_of_eq eq.symm)
  have g_a79 : n0 ≤ a79 := by omega
  have l_a79_h0 : h0 < a79 := by have := hO.lt; omega
  have hW := cW_kept hW (fun b t hb => o1 b (by have := hW_lt (N := nN N u8) hW hb; omega))
  have hO := hO.kept (o1 h0 l_a79_h0)
  have hge : n0 ≤ H.size := by omega
  obtain ⟨u9, eu9⟩ : ∃ w : iU, w = aU u8 a79 48 := ⟨_, rfl⟩
  have hW : cW (nN N u9) H := by rw [eu9]; exact cW_add hW n_a79 hN_a79 ⟨rfl, rfl, fun j v _ h => ⟨0, h, by decide⟩⟩
  have hR : iR p11 N n0 h0 u9 := by rw [eu9]; exact iR_add hR g_a79 (by decide)
  have k_a7 : u9.1 a7 = some 40 := by rw [eu9]; exact aU_old n_a79 k_a7
  have k_a15 : u9.1 a15 = some 41 := by rw [eu9]; exact aU_old n_a79 k_a15
  have k_a28 : u9.1 a28 = some 42 := by rw [eu9]; exact aU_old n_a79 k_a28
  have k_a36 : u9.1 a36 = some 43 := by rw [eu9]; exact aU_old n_a79 k_a36
  have k_a44 : u9.1 a44 = some 44 := by rw [eu9]; exact aU_old n_a79 k_a44
  have k_a53 : u9.1 a53 = some 45 := by rw [eu9]; exact aU_old n_a79 k_a53
  have k_a62 : u9.1 a62 = some 46 := by rw [eu9]; exact aU_old n_a79 k_a62
  have k_a71 : u9.1 a71 = some 47 := by rw [eu9]; exact aU_old n_a79 k_a71
  have hno : u9.1 h0 = none := by rw [eu9]; exact (if_neg (by omega)).trans hno
  have k_a79 : u9.1 a79 = some 48 := by rw [eu9]; exact aU_self
  have hQ : iQ n00 49 u9 := iQ_put hQ (fun x => by rw [eu9]; rfl) (Or.inl rfl) (by decide) (by omega)
  refine wi_put (v := .ref a79) hx hb hts cfX11 tyX11 tyX11_ok nmX11 hown hin hK hO hS (Or.inl rfl) rfl 11 (by decide) q883 rfl rfl rfl dX11_init_81 (fun H locs hO oq hz hS => ?_)
  have hW := cW_kept hW (fun b t hb => oq b (by intro z; rw [z, hno] at hb; cases hb))
  have hge : n0 ≤ H.size := by omega
  refine lv_aload_n hx hb dX11_init_84 rfl (lv_at hl 0 rfl) ?_
  refine lv_bipush (v := 10) hx hb dX11_init_85 (by decide) ?_
  refine wi_newa (atype := .boolean) (n := 10) (N := 10) hx hb (hts _ q119) hK hS 2 rfl (fun h => h) (by decide) (by decide) (Nat.le_of_ble_eq_true rfl) (Nat.le_of_ble_eq_true rfl) (Nat.le_of_ble_eq_true rfl) dX11_init_87 (fun a87 H eq hz o1 hN_a87 hS => ?_)
  have n_a87 := cW_none hW (Nat.le_of_eq eq.symm)
  have g_a87 : n0 ≤ a87 := by omega
  have l_a87_h0 : h0 < a87 := by have := hO.lt; omega
  have hW := cW_kept hW (fun b t hb => o1 b (by have := hW_lt (N := nN N u9) hW hb; omega))
  have hO := hO.kept (o1 h0 l_a87_h0)
  have hge : n0 ≤ H.size := by omega
  obtain ⟨u10, eu10⟩ : ∃ w : iU, w = aU u9 a87 49 := ⟨_, rfl⟩
  have hW : cW (nN N u10) H := by rw [eu10]; exact cW_add hW n_a87 hN_a87 ⟨rfl, rfl, fun j v _ h => ⟨0, h, by decide⟩⟩
  have hR : iR p11 N n0 h0 u10 := by rw [eu10]; exact iR_add hR g_a87 (by decide)
  have k_a7 : u10.1 a7 = some 40 := by rw [eu10]; exact aU_old n_a87 k_a7
  have k_a15 : u10.1 a15 = some 41 := by rw [eu10]; exact aU_old n_a87 k_a15
  have k_a28 : u10.1 a28 = some 42 := by rw [eu10]; exact aU_old n_a87 k_a28
  have k_a36 : u10.1 a36 = some 43 := by rw [eu10]; exact aU_old n_a87 k_a36
  have k_a44 : u10.1 a44 = some 44 := by rw [eu10]; exact aU_old n_a87 k_a44
  have k_a53 : u10.1 a53 = some 45 := by rw [eu10]; exact aU_old n_a87 k_a53
  have k_a62 : u10.1 a62 = some 46 := by rw [eu10]; exact aU_old n_a87 k_a62
  have k_a71 : u10.1 a71 = some 47 := by rw [eu10]; exact aU_old n_a87 k_a71
  have k_a79 : u10.1 a79 = some 48 := by rw [eu10]; exact aU_old n_a87 k_a79
  have hno : u10.1 h0 = none := by rw [eu10]; exact (if_neg (by omega)).trans hno
  have k_a87 : u10.1 a87 = some 49 := by rw [eu10]; exact aU_self
  have hQ : iQ n00 50 u10 := iQ_put hQ (fun x => by rw [eu10]; rfl) (Or.inl rfl) (by decide) (by omega)
  refine wi_put (v := .ref a87) hx hb hts cfX11 tyX11 tyX11_ok nmX11 hown hin hK hO hS (Or.inl rfl) rfl 12 (by decide) q884 rfl rfl rfl dX11_init_89 (fun H locs hO oq hz hS => ?_)
  have hW := cW_kept hW (fun b t hb => oq b (by intro z; rw [z, hno] at hb; cases hb))
  have hge : n0 ≤ H.size := by omega
  refine lv_aload_n hx hb dX11_init_92 rfl (lv_at hl 0 rfl) ?_
  refine lv_sipush (v := 200) hx hb dX11_init_93 (by decide) ?_
  refine wi_newa (atype := .int) (n := 200) (N := 200) hx hb (hts _ q52) hK hS 0 rfl (fun h => h) (by decide) (by decide) (Nat.le_of_ble_eq_true rfl) (Nat.le_of_ble_eq_true rfl) (Nat.le_of_ble_eq_true rfl) dX11_init_96 (fun a96 H eq hz o1 hN_a96 hS => ?_)
  have n_a96 := cW_none hW (Nat.le_of_eq eq.symm)
  have g_a96 : n0 ≤ a96 := by omega
  have l_a96_h0 : h0 < a96 := by have := hO.lt; omega
  have hW := cW_kept hW (fun b t hb => o1 b (by have := hW_lt (N := nN N u10) hW hb; omega))
  have hO := hO.kept (o1 h0 l_a96_h0)
  have hge : n0 ≤ H.size := by omega
  obtain ⟨u11, eu11⟩ : ∃ w : iU, w = aU u10 a96 50 := ⟨_, rfl⟩
  have hW : cW (nN N u11) H := by rw [eu11]; exact cW_add hW n_a96 hN_a96 ⟨rfl, rfl, fun j v _ h => ⟨0, h, by decide⟩⟩
  have hR : iR p11 N n0 h0 u11 := by rw [eu11]; exact iR_add hR g_a96 (by decide)
  have k_a7 : u11.1 a7 = some 40 := by rw [eu11]; exact aU_old n_a96 k_a7
  have k_a15 : u11.1 a15 = some 41 := by rw [eu11]; exact aU_old n_a96 k_a15
  have k_a28 : u11.1 a28 = some 42 := by rw [eu11]; exact aU_old n_a96 k_a28
  have k_a36 : u11.1 a36 = some 43 := by rw [eu11]; exact aU_old n_a96 k_a36
  have k_a44 : u11.1 a44 = some 44 := by rw [eu11]; exact aU_old n_a96 k_a44
  have k_a53 : u11.1 a53 = some 45 := by rw [eu11]; exact aU_old n_a96 k_a53
  have k_a62 : u11.1 a62 = some 46 := by rw [eu11]; exact aU_old n_a96 k_a62
  have k_a71 : u11.1 a71 = some 47 := by rw [eu11]; exact aU_old n_a96 k_a71
  have k_a79 : u11.1 a79 = some 48 := by rw [eu11]; exact aU_old n_a96 k_a79
  have k_a87 : u11.1 a87 = some 49 := by rw [eu11]; exact aU_old n_a96 k_a87
  have hno : u11.1 h0 = none := by rw [eu11]; exact (if_neg (by omega)).trans hno
  have k_a96 : u11.1 a96 = some 50 := by rw [eu11]; exact aU_self
  have hQ : iQ n00 51 u11 := iQ_put hQ (fun x => by rw [eu11]; rfl) (Or.inl rfl) (by decide) (by omega)
  refine wi_put (v := .ref a96) hx hb hts cfX11 tyX11 tyX11_ok nmX11 hown hin hK hO hS (Or.inl rfl) rfl 14 (by decide) q886 rfl rfl rfl dX11_init_98 (fun H locs hO oq hz hS => ?_)
  have hW := cW_kept hW (fun b t hb => oq b (by intro z; rw [z, hno] at hb; cases hb))
  have hge : n0 ≤ H.size := by omega
  refine lv_aload_n hx hb dX11_init_101 rfl (lv_at hl 0 rfl) ?_
  refine lv_iconst (v := -1) hx hb dX11_init_102 (by decide) ?_
  refine wi_put (v := .int (-1 : Int32)) hx hb hts cfX11 tyX11 tyX11_ok nmX11 hown hin hK hO hS (Or.inl rfl) rfl 17 (by decide) q889 rfl rfl rfl dX11_init_103 (fun H locs hO oq hz hS => ?_)
  have hW := cW_kept hW (fun b t hb => oq b (by intro z; rw [z, hno] at hb; cases hb))
  have hge : n0 ≤ H.size := by omega
  refine lv_aload_n hx hb dX11_init_106 rfl (lv_at hl 0 rfl) ?_
  refine lv_bipush (v := 24) hx hb dX11_init_107 (by decide) ?_
  refine wi_newa (atype := .int) (n := 24) (N := 24) hx hb (hts _ q52) hK hS 0 rfl (fun h => h) (by decide) (by decide) (Nat.le_of_ble_eq_true rfl) (Nat.le_of_ble_eq_true rfl) (Nat.le_of_ble_eq_true rfl) dX11_init_109 (fun a109 H eq hz o1 hN_a109 hS => ?_)
  have n_a109 := cW_none hW (Nat.le_of_eq eq.symm)
  have g_a109 : n0 ≤ a109 := by omega
  have l_a109_h0 : h0 < a109 := by have := hO.lt; omega
  have hW := cW_kept hW (fun b t hb => o1 b (by have := hW_lt (N := nN N u11) hW hb; omega))
  have hO := hO.kept (o1 h0 l_a109_h0)
  have hge : n0 ≤ H.size := by omega
  obtain ⟨u12, eu12⟩ : ∃ w : iU, w = aU u11 a109 51 := ⟨_, rfl⟩
  have hW : cW (nN N u12) H := by rw [eu12]; exact cW_add hW n_a109 hN_a109 ⟨rfl, rfl, fun j v _ h => ⟨0, h, by decide⟩⟩
  have hR : iR p11 N n0 h0 u12 := by rw [eu12]; exact iR_add hR g_a109 (by decide)
  have k_a7 : u12.1 a7 = some 40 := by rw [eu12]; exact aU_old n_a109 k_a7
  have k_a15 : u12.1 a15 = some 41 := by rw [eu12]; exact aU_old n_a109 k_a15
  have k_a28 : u12.1 a28 = some 42 := by rw [eu12]; exact aU_old n_a109 k_a28
  have k_a36 : u12.1 a36 = some 43 := by rw [eu12]; exact aU_old n_a109 k_a36
  have k_a44 : u12.1 a44 = some 44 := by rw [eu12]; exact aU_old n_a109 k_a44
  have k_a53 : u12.1 a53 = some 45 := by rw [eu12]; exact aU_old n_a109 k_a53
  have k_a62 : u12.1 a62 = some 46 := by rw [eu12]; exact aU_old n_a109 k_a62
  have k_a71 : u12.1 a71 = some 47 := by rw [eu12]; exact aU_old n_a109 k_a71
  have k_a79 : u12.1 a79 = some 48 := by rw [eu12]; exact aU_old n_a109 k_a79
  have k_a87 : u12.1 a87 = some 49 := by rw [eu12]; exact aU_old n_a109 k_a87
  have k_a96 : u12.1 a96 = some 50 := by rw [eu12]; exact aU_old n_a109 k_a96
  have hno : u12.1 h0 = none := by rw [eu12]; exact (if_neg (by omega)).trans hno
  have k_a109 : u12.1 a109 = some 51 := by rw [eu12]; exact aU_self
  have hQ : iQ n00 52 u12 := iQ_put hQ (fun x => by rw [eu12]; rfl) (Or.inl rfl) (by decide) (by omega)
  refine wi_put (v := .ref a109) hx hb hts cfX11 tyX11 tyX11_ok nmX11 hown hin hK hO hS (Or.inl rfl) rfl 23 (by decide) q895 rfl rfl rfl dX11_init_111 (fun H locs hO oq hz hS => ?_)
  have hW := cW_kept hW (fun b t hb => oq b (by intro z; rw [z, hno] at hb; cases hb))
  have hge : n0 ≤ H.size := by omega
  refine lv_aload_n hx hb dX11_init_114 rfl (lv_at hl 0 rfl) ?_
  refine lv_bipush (v := 24) hx hb dX11_init_115 (by decide) ?_
  refine wi_newa (atype := .int) (n := 24) (N := 24) hx hb (hts _ q52) hK hS 0 rfl (fun h => h) (by decide) (by decide) (Nat.le_of_ble_eq_true rfl) (Nat.le_of_ble_eq_true rfl) (Nat.le_of_ble_eq_true rfl) dX11_init_117 (fun a117 H eq hz o1 hN_a117 hS => ?_)
  have n_a117 := cW_none hW (Nat.le_of_eq eq.symm)
  have g_a117 : n0 ≤ a117 := by omega
  have l_a117_h0 : h0 < a117 := by have := hO.lt; omega
  have hW := cW_kept hW (fun b t hb => o1 b (by have := hW_lt (N := nN N u12) hW hb; omega))
  have hO := hO.kept (o1 h0 l_a117_h0)
  have hge : n0 ≤ H.size := by omega
  obtain ⟨u13, eu13⟩ : ∃ w : iU, w = aU u12 a117 52 := ⟨_, rfl⟩
  have hW : cW (nN N u13) H := by rw [eu13]; exact cW_add hW n_a117 hN_a117 ⟨rfl, rfl, fun j v _ h => ⟨0, h, by decide⟩⟩
  have hR : iR p11 N n0 h0 u13 := by rw [eu13]; exact iR_add hR g_a117 (by decide)
  have k_a7 : u13.1 a7 = some 40 := by rw [eu13]; exact aU_old n_a117 k_a7
  have k_a15 : u13.1 a15 = some 41 := by rw [eu13]; exact aU_old n_a117 k_a15
  have k_a28 : u13.1 a28 = some 42 := by rw [eu13]; exact aU_old n_a117 k_a28
  have k_a36 : u13.1 a36 = some 43 := by rw [eu13]; exact aU_old n_a117 k_a36
  have k_a44 : u13.1 a44 = some 44 := by rw [eu13]; exact aU_old n_a117 k_a44
  have k_a53 : u13.1 a53 = some 45 := by rw [eu13]; exact aU_old n_a117 k_a53
  have k_a62 : u13.1 a62 = some 46 := by rw [eu13]; exact aU_old n_a117 k_a62
  have k_a71 : u13.1 a71 = some 47 := by rw [eu13]; exact aU_old n_a117 k_a71
  have k_a79 : u13.1 a79 = some 48 := by rw [eu13]; exact aU_old n_a117 k_a79
  have k_a87 : u13.1 a87 = some 49 := by rw [eu13]; exact aU_old n_a117 k_a87
  have k_a96 : u13.1 a96 = some 50 := by rw [eu13]; exact aU_old n_a117 k_a96
  have k_a109 : u13.1 a109 = some 51 := by rw [eu13]; exact aU_old n_a117 k_a109
  have hno : u13.1 h0 = none := by rw [eu13]; exact (if_neg (by omega)).trans hno
  have k_a117 : u13.1 a117 = some 52 := by rw [eu13]; exact aU_self
  have hQ : iQ n00 53 u13 := iQ_put hQ (fun x => by rw [eu13]; rfl) (Or.inl rfl) (by decide) (by omega)
  refine wi_put (v := .ref a117) hx hb hts cfX11 tyX11 tyX11_ok nmX11 hown hin hK hO hS (Or.inl rfl) rfl 24 (by decide) q896 rfl rfl rfl dX11_init_119 (fun H locs hO oq hz hS => ?_)
  have hW := cW_kept hW (fun b t hb => oq b (by intro z; rw [z, hno] at hb; cases hb))
  have hge : n0 ≤ H.size := by omega
  refine lv_aload_n hx hb dX11_init_122 rfl (lv_at hl 0 rfl) ?_
  refine lv_bipush (v := 24) hx hb dX11_init_123 (by decide) ?_
  refine wi_newa (atype := .int) (n := 24) (N := 24) hx hb (hts _ q52) hK hS 0 rfl (fun h => h) (by decide) (by decide) (Nat.le_of_ble_eq_true rfl) (Nat.le_of_ble_eq_true rfl) (Nat.le_of_ble_eq_true rfl) dX11_init_125 (fun a125 H eq hz o1 hN_a125 hS => ?_)
  have n_a125 := cW_none hW (Nat.le_of_eq eq.symm)
  have g_a125 : n0 ≤ a125 := by omega
  have l_a125_h0 : h0 < a125 := by have := hO.lt; omega
  have hW := cW_kept hW (fun b t hb => o1 b (by have := hW_lt (N := nN N u13) hW hb; omega))
  have hO := hO.kept (o1 h0 l_a125_h0)
  have hge : n0 ≤ H.size := by omega
  obtain ⟨u14, eu14⟩ : ∃ w : iU, w = aU u13 a125 53 := ⟨_, rfl⟩
  have hW : cW (nN N u14) H := by rw [eu14]; exact cW_add hW n_a125 hN_a125 ⟨rfl, rfl, fun j v _ h => ⟨0, h, by decide⟩⟩
  have hR : iR p11 N n0 h0 u14 := by rw [eu14]; exact iR_add hR g_a125 (by decide)
  have k_a7 : u14.1 a7 = some 40 := by rw [eu14]; exact aU_old n_a125 k_a7
  have k_a15 : u14.1 a15 = some 41 := by rw [eu14]; exact aU_old n_a125 k_a15
  have k_a28 : u14.1 a28 = some 42 := by rw [eu14]; exact aU_old n_a125 k_a28
  have k_a36 : u14.1 a36 = some 43 := by rw [eu14]; exact aU_old n_a125 k_a36
  have k_a44 : u14.1 a44 = some 44 := by rw [eu14]; exact aU_old n_a125 k_a44
  have k_a53 : u14.1 a53 = some 45 := by rw [eu14]; exact aU_old n_a125 k_a53
  have k_a62 : u14.1 a62 = some 46 := by rw [eu14]; exact aU_old n_a125 k_a62
  have k_a71 : u14.1 a71 = some 47 := by rw [eu14]; exact aU_old n_a125 k_a71
  have k_a79 : u14.1 a79 = some 48 := by rw [eu14]; exact aU_old n_a125 k_a79
  have k_a87 : u14.1 a87 = some 49 := by rw [eu14]; exact aU_old n_a125 k_a87
  have k_a96 : u14.1 a96 = some 50 := by rw [eu14]; exact aU_old n_a125 k_a96
  have k_a109 : u14.1 a109 = some 51 := by rw [eu14]; exact aU_old n_a125 k_a109
  have k_a117 : u14.1 a117 = some 52 := by rw [eu14]; exact aU_old n_a125 k_a117
  have hno : u14.1 h0 = none := by rw [eu14]; exact (if_neg (by omega)).trans hno
  have k_a125 : u14.1 a125 = some 53 := by rw [eu14]; exact aU_self
  have hQ : iQ n00 54 u14 := iQ_put hQ (fun x => by rw [eu14]; rfl) (Or.inl rfl) (by decide) (by omega)
  refine wi_put (v := .ref a125) hx hb hts cfX11 tyX11 tyX11_ok nmX11 hown hin hK hO hS (Or.inl rfl) rfl 25 (by decide) q897 rfl rfl rfl dX11_init_127 (fun H locs hO oq hz hS => ?_)
  have hW := cW_kept hW (fun b t hb => oq b (by intro z; rw [z, hno] at hb; cases hb))
  have hge : n0 ≤ H.size := by omega
  refine lv_aload_n hx hb dX11_init_130 rfl (lv_at hl 0 rfl) ?_
  refine lv_iconst (v := 4) hx hb dX11_init_131 (by decide) ?_
  refine wi_newa (atype := .int) (n := 4) (N := 4) hx hb (hts _ q52) hK hS 0 rfl (fun h => h) (by decide) (by decide) (Nat.le_of_ble_eq_true rfl) (Nat.le_of_ble_eq_true rfl) (Nat.le_of_ble_eq_true rfl) dX11_init_132 (fun a132 H eq hz o1 hN_a132 hS => ?_)
  have n_a132 := cW_none hW (Nat.le_of_eq eq.symm)
  have g_a132 : n0 ≤ a132 := by omega
  have l_a132_h0 : h0 < a132 := by have := hO.lt; omega
  have hW := cW_kept hW (fun b t hb => o1 b (by have := hW_lt (N := nN N u14) hW hb; omega))
  have hO := hO.kept (o1 h0 l_a132_h0)
  have hge : n0 ≤ H.size := by omega
  obtain ⟨u15, eu15⟩ : ∃ w : iU, w = aU u14 a132 54 := ⟨_, rfl⟩
  have hW : cW (nN N u15) H := by rw [eu15]; exact cW_add hW n_a132 hN_a132 ⟨rfl, rfl, fun j v _ h => ⟨0, h, by decide⟩⟩
  have hR : iR p11 N n0 h0 u15 := by rw [eu15]; exact iR_add hR g_a132 (by decide)
  have k_a7 : u15.1 a7 = some 40 := by rw [eu15]; exact aU_old n_a132 k_a7
  have k_a15 : u15.1 a15 = some 41 := by rw [eu15]; exact aU_old n_a132 k_a15
  have k_a28 : u15.1 a28 = some 42 := by rw [eu15]; exact aU_old n_a132 k_a28
  have k_a36 : u15.1 a36 = some 43 := by rw [eu15]; exact aU_old n_a132 k_a36
  have k_a44 : u15.1 a44 = some 44 := by rw [eu15]; exact aU_old n_a132 k_a44
  have k_a53 : u15.1 a53 = some 45 := by rw [eu15]; exact aU_old n_a132 k_a53
  have k_a62 : u15.1 a62 = some 46 := by rw [eu15]; exact aU_old n_a132 k_a62
  have k_a71 : u15.1 a71 = some 47 := by rw [eu15]; exact aU_old n_a132 k_a71
  have k_a79 : u15.1 a79 = some 48 := by rw [eu15]; exact aU_old n_a132 k_a79
  have k_a87 : u15.1 a87 = some 49 := by rw [eu15]; exact aU_old n_a132 k_a87
  have k_a96 : u15.1 a96 = some 50 := by rw [eu15]; exact aU_old n_a132 k_a96
  have k_a109 : u15.1 a109 = some 51 := by rw [eu15]; exact aU_old n_a132 k_a109
  have k_a117 : u15.1 a117 = some 52 := by rw [eu15]; exact aU_old n_a132 k_a117
  have k_a125 : u15.1 a125 = some 53 := by rw [eu15]; exact aU_old n_a132 k_a125
  have hno : u15.1 h0 = none := by rw [eu15]; exact (if_neg (by omega)).trans hno
  have k_a132 : u15.1 a132 = some 54 := by rw [eu15]; exact aU_self
  have hQ : iQ n00 55 u15 := iQ_put hQ (fun x => by rw [eu15]; rfl) (Or.inl rfl) (by decide) (by omega)
  refine wi_put (v := .ref a132) hx hb hts cfX11 tyX11 tyX11_ok nmX11 hown hin hK hO hS (Or.inl rfl) rfl 27 (by decide) q899 rfl rfl rfl dX11_init_134 (fun H locs hO oq hz hS => ?_)
  have hW := cW_kept hW (fun b t hb => oq b (by intro z; rw [z, hno] at hb; cases hb))
  have hge : n0 ≤ H.size := by omega
  refine lv_aload_n hx hb dX11_init_137 rfl (lv_at hl 0 rfl) ?_
  refine lv_iconst (v := 4) hx hb dX11_init_138 (by decide) ?_
  refine wi_newa (atype := .int) (n := 4) (N := 4) hx hb (hts _ q52) hK hS 0 rfl (fun h => h) (by decide) (by decide) (Nat.le_of_ble_eq_true rfl) (Nat.le_of_ble_eq_true rfl) (Nat.le_of_ble_eq_true rfl) dX11_init_139 (fun a139 H eq hz o1 hN_a139 hS => ?_)
  have n_a139 := cW_none hW (Nat.le_of_eq eq.symm)
  have g_a139 : n0 ≤ a139 := by omega
  have l_a139_h0 : h0 < a139 := by have := hO.lt; omega
  have hW := cW_kept hW (fun b t hb => o1 b (by have := hW_lt (N := nN N u15) hW hb; omega))
  have hO := hO.kept (o1 h0 l_a139_h0)
  have hge : n0 ≤ H.size := by omega
  obtain ⟨u16, eu16⟩ : ∃ w : iU, w = aU u15 a139 55 := ⟨_, rfl⟩
  have hW : cW (nN N u16) H := by rw [eu16]; exact cW_add hW n_a139 hN_a139 ⟨rfl, rfl, fun j v _ h => ⟨0, h, by decide⟩⟩
  have hR : iR p11 N n0 h0 u16 := by rw [eu16]; exact iR_add hR g_a139 (by decide)
  have k_a7 : u16.1 a7 = some 40 := by rw [eu16]; exact aU_old n_a139 k_a7
  have k_a15 : u16.1 a15 = some 41 := by rw [eu16]; exact aU_old n_a139 k_a15
  have k_a28 : u16.1 a28 = some 42 := by rw [eu16]; exact aU_old n_a139 k_a28
  have k_a36 : u16.1 a36 = some 43 := by rw [eu16]; exact aU_old n_a139 k_a36
  have k_a44 : u16.1 a44 = some 44 := by rw [eu16]; exact aU_old n_a139 k_a44
  have k_a53 : u16.1 a53 = some 45 := by rw [eu16]; exact aU_old n_a139 k_a53
  have k_a62 : u16.1 a62 = some 46 := by rw [eu16]; exact aU_old n_a139 k_a62
  have k_a71 : u16.1 a71 = some 47 := by rw [eu16]; exact aU_old n_a139 k_a71
  have k_a79 : u16.1 a79 = some 48 := by rw [eu16]; exact aU_old n_a139 k_a79
  have k_a87 : u16.1 a87 = some 49 := by rw [eu16]; exact aU_old n_a139 k_a87
  have k_a96 : u16.1 a96 = some 50 := by rw [eu16]; exact aU_old n_a139 k_a96
  have k_a109 : u16.1 a109 = some 51 := by rw [eu16]; exact aU_old n_a139 k_a109
  have k_a117 : u16.1 a117 = some 52 := by rw [eu16]; exact aU_old n_a139 k_a117
  have k_a125 : u16.1 a125 = some 53 := by rw [eu16]; exact aU_old n_a139 k_a125
  have k_a132 : u16.1 a132 = some 54 := by rw [eu16]; exact aU_old n_a139 k_a132
  have hno : u16.1 h0 = none := by rw [eu16]; exact (if_neg (by omega)).trans hno
  have k_a139 : u16.1 a139 = some 55 := by rw [eu16]; exact aU_self
  have hQ : iQ n00 56 u16 := iQ_put hQ (fun x => by rw [eu16]; rfl) (Or.inl rfl) (by decide) (by omega)
  refine wi_put (v := .ref a139) hx hb hts cfX11 tyX11 tyX11_ok nmX11 hown hin hK hO hS (Or.inl rfl) rfl 28 (by decide) q900 rfl rfl rfl dX11_init_141 (fun H locs hO oq hz hS => ?_)
  have hW := cW_kept hW (fun b t hb => oq b (by intro z; rw [z, hno] at hb; cases hb))
  have hge : n0 ≤ H.size := by omega
  refine lv_aload_n hx hb dX11_init_144 rfl (lv_at hl 0 rfl) ?_
  refine lv_bipush (v := 64) hx hb dX11_init_145 (by decide) ?_
  refine wi_newa (atype := .long) (n := 64) (N := 64) hx hb (hts _ q1044) hK hS 1 rfl (fun h => h) (by decide) (by decide) (Nat.le_of_ble_eq_true rfl) (Nat.le_of_ble_eq_true rfl) (Nat.le_of_ble_eq_true rfl) dX11_init_147 (fun a147 H eq hz o1 hN_a147 hS => ?_)
  have n_a147 := cW_none hW (Nat.le_of_eq eq.symm)
  have g_a147 : n0 ≤ a147 := by omega
  have l_a147_h0 : h0 < a147 := by have := hO.lt; omega
  have hW := cW_kept hW (fun b t hb => o1 b (by have := hW_lt (N := nN N u16) hW hb; omega))
  have hO := hO.kept (o1 h0 l_a147_h0)
  have hge : n0 ≤ H.size := by omega
  obtain ⟨u17, eu17⟩ : ∃ w : iU, w = aU u16 a147 56 := ⟨_, rfl⟩
  have hW : cW (nN N u17) H := by rw [eu17]; exact cW_add hW n_a147 hN_a147 ⟨rfl, rfl, fun j v _ h => ⟨0, h⟩⟩
  have hR : iR p11 N n0 h0 u17 := by rw [eu17]; exact iR_add hR g_a147 (by decide)
  have k_a7 : u17.1 a7 = some 40 := by rw [eu17]; exact aU_old n_a147 k_a7
  have k_a15 : u17.1 a15 = some 41 := by rw [eu17]; exact aU_old n_a147 k_a15
  have k_a28 : u17.1 a28 = some 42 := by rw [eu17]; exact aU_old n_a147 k_a28
  have k_a36 : u17.1 a36 = some 43 := by rw [eu17]; exact aU_old n_a147 k_a36
  have k_a44 : u17.1 a44 = some 44 := by rw [eu17]; exact aU_old n_a147 k_a44
  have k_a53 : u17.1 a53 = some 45 := by rw [eu17]; exact aU_old n_a147 k_a53
  have k_a62 : u17.1 a62 = some 46 := by rw [eu17]; exact aU_old n_a147 k_a62
  have k_a71 : u17.1 a71 = some 47 := by rw [eu17]; exact aU_old n_a147 k_a71
  have k_a79 : u17.1 a79 = some 48 := by rw [eu17]; exact aU_old n_a147 k_a79
  have k_a87 : u17.1 a87 = some 49 := by rw [eu17]; exact aU_old n_a147 k_a87
  have k_a96 : u17.1 a96 = some 50 := by rw [eu17]; exact aU_old n_a147 k_a96
  have k_a109 : u17.1 a109 = some 51 := by rw [eu17]; exact aU_old n_a147 k_a109
  have k_a117 : u17.1 a117 = some 52 := by rw [eu17]; exact aU_old n_a147 k_a117
  have k_a125 : u17.1 a125 = some 53 := by rw [eu17]; exact aU_old n_a147 k_a125
  have k_a132 : u17.1 a132 = some 54 := by rw [eu17]; exact aU_old n_a147 k_a132
  have k_a139 : u17.1 a139 = some 55 := by rw [eu17]; exact aU_old n_a147 k_a139
  have hno : u17.1 h0 = none := by rw [eu17]; exact (if_neg (by omega)).trans hno
  have k_a147 : u17.1 a147 = some 56 := by rw [eu17]; exact aU_self
  have hQ : iQ n00 57 u17 := iQ_put hQ (fun x => by rw [eu17]; rfl) (Or.inl rfl) (by decide) (by omega)
  refine wi_put (v := .ref a147) hx hb hts cfX11 tyX11 tyX11_ok nmX11 hown hin hK hO hS (Or.inl rfl) rfl 43 (by decide) q915 rfl rfl rfl dX11_init_149 (fun H locs hO oq hz hS => ?_)
  have hW := cW_kept hW (fun b t hb => oq b (by intro z; rw [z, hno] at hb; cases hb))
  have hge : n0 ≤ H.size := by omega
  refine lv_aload_n hx hb dX11_init_152 rfl (lv_at hl 0 rfl) ?_
  refine lv_iconst (v := 3) hx hb dX11_init_153 (by decide) ?_
  refine wi_newa (atype := .int) (n := 3) (N := 3) hx hb (hts _ q52) hK hS 0 rfl (fun h => h) (by decide) (by decide) (Nat.le_of_ble_eq_true rfl) (Nat.le_of_ble_eq_true rfl) (Nat.le_of_ble_eq_true rfl) dX11_init_154 (fun a154 H eq hz o1 hN_a154 hS => ?_)
  have n_a154 := cW_none hW (Nat.le_of_eq eq.symm)
  have g_a154 : n0 ≤ a154 := by omega
  have l_a154_h0 : h0 < a154 := by have := hO.lt; omega
  have hW := cW_kept hW (fun b t hb => o1 b (by have := hW_lt (N := nN N u17) hW hb; omega))
  have hO := hO.kept (o1 h0 l_a154_h0)
  have hge : n0 ≤ H.size := by omega
  obtain ⟨u18, eu18⟩ : ∃ w : iU, w = aU u17 a154 57 := ⟨_, rfl⟩
  have hW : cW (nN N u18) H := by rw [eu18]; exact cW_add hW n_a154 hN_a154 ⟨rfl, rfl, fun j v _ h => ⟨0, h, by decide⟩⟩
  have hR : iR p11 N n0 h0 u18 := by rw [eu18]; exact iR_add hR g_a154 (by decide)
  have k_a7 : u18.1 a7 = some 40 := by rw [eu18]; exact aU_old n_a154 k_a7
  have k_a15 : u18.1 a15 = some 41 := by rw [eu18]; exact aU_old n_a154 k_a15
  have k_a28 : u18.1 a28 = some 42 := by rw [eu18]; exact aU_old n_a154 k_a28
  have k_a36 : u18.1 a36 = some 43 := by rw [eu18]; exact aU_old n_a154 k_a36
  have k_a44 : u18.1 a44 = some 44 := by rw [eu18]; exact aU_old n_a154 k_a44
  have k_a53 : u18.1 a53 = some 45 := by rw [eu18]; exact aU_old n_a154 k_a53
  have k_a62 : u18.1 a62 = some 46 := by rw [eu18]; exact aU_old n_a154 k_a62
  have k_a71 : u18.1 a71 = some 47 := by rw [eu18]; exact aU_old n_a154 k_a71
  have k_a79 : u18.1 a79 = some 48 := by rw [eu18]; exact aU_old n_a154 k_a79
  have k_a87 : u18.1 a87 = some 49 := by rw [eu18]; exact aU_old n_a154 k_a87
  have k_a96 : u18.1 a96 = some 50 := by rw [eu18]; exact aU_old n_a154 k_a96
  have k_a109 : u18.1 a109 = some 51 := by rw [eu18]; exact aU_old n_a154 k_a109
  have k_a117 : u18.1 a117 = some 52 := by rw [eu18]; exact aU_old n_a154 k_a117
  have k_a125 : u18.1 a125 = some 53 := by rw [eu18]; exact aU_old n_a154 k_a125
  have k_a132 : u18.1 a132 = some 54 := by rw [eu18]; exact aU_old n_a154 k_a132
  have k_a139 : u18.1 a139 = some 55 := by rw [eu18]; exact aU_old n_a154 k_a139
  have k_a147 : u18.1 a147 = some 56 := by rw [eu18]; exact aU_old n_a154 k_a147
  have hno : u18.1 h0 = none := by rw [eu18]; exact (if_neg (by omega)).trans hno
  have k_a154 : u18.1 a154 = some 57 := by rw [eu18]; exact aU_self
  have hQ : iQ n00 58 u18 := iQ_put hQ (fun x => by rw [eu18]; rfl) (Or.inl rfl) (by decide) (by omega)
  refine wi_put (v := .ref a154) hx hb hts cfX11 tyX11 tyX11_ok nmX11 hown hin hK hO hS (Or.inl rfl) rfl 44 (by decide) q916 rfl rfl rfl dX11_init_156 (fun H locs hO oq hz hS => ?_)
  have hW := cW_kept hW (fun b t hb => oq b (by intro z; rw [z, hno] at hb; cases hb))
  have hge : n0 ≤ H.size := by omega
  refine lv_aload_n hx hb dX11_init_159 rfl (lv_at hl 0 rfl) ?_
  refine lv_iconst (v := 3) hx hb dX11_init_160 (by decide) ?_
  refine wi_newa (atype := .int) (n := 3) (N := 3) hx hb (hts _ q52) hK hS 0 rfl (fun h => h) (by decide) (by decide) (Nat.le_of_ble_eq_true rfl) (Nat.le_of_ble_eq_true rfl) (Nat.le_of_ble_eq_true rfl) dX11_init_161 (fun a161 H eq hz o1 hN_a161 hS => ?_)
  have n_a161 := cW_none hW (Nat.le_of_eq eq.symm)
  have g_a161 : n0 ≤ a161 := by omega
  have l_a161_h0 : h0 < a161 := by have := hO.lt; omega
  have hW := cW_kept hW (fun b t hb => o1 b (by have := hW_lt (N := nN N u18) hW hb; omega))
  have hO := hO.kept (o1 h0 l_a161_h0)
  have hge : n0 ≤ H.size := by omega
  obtain ⟨u19, eu19⟩ : ∃ w : iU, w = aU u18 a161 58 := ⟨_, rfl⟩
  have hW : cW (nN N u19) H := by rw [eu19]; exact cW_add hW n_a161 hN_a161 ⟨rfl, rfl, fun j v _ h => ⟨0, h, by decide⟩⟩
  have hR : iR p11 N n0 h0 u19 := by rw [eu19]; exact iR_add hR g_a161 (by decide)
  have k_a7 : u19.1 a7 = some 40 := by rw [eu19]; exact aU_old n_a161 k_a7
  have k_a15 : u19.1 a15 = some 41 := by rw [eu19]; exact aU_old n_a161 k_a15
  have k_a28 : u19.1 a28 = some 42 := by rw [eu19]; exact aU_old n_a161 k_a28
  have k_a36 : u19.1 a36 = some 43 := by rw [eu19]; exact aU_old n_a161 k_a36
  have k_a44 : u19.1 a44 = some 44 := by rw [eu19]; exact aU_old n_a161 k_a44
  have k_a53 : u19.1 a53 = some 45 := by rw [eu19]; exact aU_old n_a161 k_a53
  have k_a62 : u19.1 a62 = some 46 := by rw [eu19]; exact aU_old n_a161 k_a62
  have k_a71 : u19.1 a71 = some 47 := by rw [eu19]; exact aU_old n_a161 k_a71
  have k_a79 : u19.1 a79 = some 48 := by rw [eu19]; exact aU_old n_a161 k_a79
  have k_a87 : u19.1 a87 = some 49 := by rw [eu19]; exact aU_old n_a161 k_a87
  have k_a96 : u19.1 a96 = some 50 := by rw [eu19]; exact aU_old n_a161 k_a96
  have k_a109 : u19.1 a109 = some 51 := by rw [eu19]; exact aU_old n_a161 k_a109
  have k_a117 : u19.1 a117 = some 52 := by rw [eu19]; exact aU_old n_a161 k_a117
  have k_a125 : u19.1 a125 = some 53 := by rw [eu19]; exact aU_old n_a161 k_a125
  have k_a132 : u19.1 a132 = some 54 := by rw [eu19]; exact aU_old n_a161 k_a132
  have k_a139 : u19.1 a139 = some 55 := by rw [eu19]; exact aU_old n_a161 k_a139
  have k_a147 : u19.1 a147 = some 56 := by rw [eu19]; exact aU_old n_a161 k_a147
  have k_a154 : u19.1 a154 = some 57 := by rw [eu19]; exact aU_old n_a161 k_a154
  have hno : u19.1 h0 = none := by rw [eu19]; exact (if_neg (by omega)).trans hno
  have k_a161 : u19.1 a161 = some 58 := by rw [eu19]; exact aU_self
  have hQ : iQ n00 59 u19 := iQ_put hQ (fun x => by rw [eu19]; rfl) (Or.inl rfl) (by decide) (by omega)
  refine wi_put (v := .ref a161) hx hb hts cfX11 tyX11 tyX11_ok nmX11 hown hin hK hO hS (Or.inl rfl) rfl 45 (by decide) q917 rfl rfl rfl dX11_init_163 (fun H locs hO oq hz hS => ?_)
  have hW := cW_kept hW (fun b t hb => oq b (by intro z; rw [z, hno] at hb; cases hb))
  have hge : n0 ≤ H.size := by omega
  refine lv_aload_n hx hb dX11_init_166 rfl (lv_at hl 0 rfl) ?_
  refine lv_iconst (v := 3) hx hb dX11_init_167 (by decide) ?_
  refine wi_newa (atype := .int) (n := 3) (N := 3) hx hb (hts _ q52) hK hS 0 rfl (fun h => h) (by decide) (by decide) (Nat.le_of_ble_eq_true rfl) (Nat.le_of_ble_eq_true rfl) (Nat.le_of_ble_eq_true rfl) dX11_init_168 (fun a168 H eq hz o1 hN_a168 hS => ?_)
  have n_a168 := cW_none hW (Nat.le_of_eq eq.symm)
  have g_a168 : n0 ≤ a168 := by omega
  have l_a168_h0 : h0 < a168 := by have := hO.lt; omega
  have hW := cW_kept hW (fun b t hb => o1 b (by have := hW_lt (N := nN N u19) hW hb; omega))
  have hO := hO.kept (o1 h0 l_a168_h0)
  have hge : n0 ≤ H.size := by omega
  obtain ⟨u20, eu20⟩ : ∃ w : iU, w = aU u19 a168 59 := ⟨_, rfl⟩
  have hW : cW (nN N u20) H := by rw [eu20]; exact cW_add hW n_a168 hN_a168 ⟨rfl, rfl, fun j v _ h => ⟨0, h, by decide⟩⟩
  have hR : iR p11 N n0 h0 u20 := by rw [eu20]; exact iR_add hR g_a168 (by decide)
  have k_a7 : u20.1 a7 = some 40 := by rw [eu20]; exact aU_old n_a168 k_a7
  have k_a15 : u20.1 a15 = some 41 := by rw [eu20]; exact aU_old n_a168 k_a15
  have k_a28 : u20.1 a28 = some 42 := by rw [eu20]; exact aU_old n_a168 k_a28
  have k_a36 : u20.1 a36 = some 43 := by rw [eu20]; exact aU_old n_a168 k_a36
  have k_a44 : u20.1 a44 = some 44 := by rw [eu20]; exact aU_old n_a168 k_a44
  have k_a53 : u20.1 a53 = some 45 := by rw [eu20]; exact aU_old n_a168 k_a53
  have k_a62 : u20.1 a62 = some 46 := by rw [eu20]; exact aU_old n_a168 k_a62
  have k_a71 : u20.1 a71 = some 47 := by rw [eu20]; exact aU_old n_a168 k_a71
  have k_a79 : u20.1 a79 = some 48 := by rw [eu20]; exact aU_old n_a168 k_a79
  have k_a87 : u20.1 a87 = some 49 := by rw [eu20]; exact aU_old n_a168 k_a87
  have k_a96 : u20.1 a96 = some 50 := by rw [eu20]; exact aU_old n_a168 k_a96
  have k_a109 : u20.1 a109 = some 51 := by rw [eu20]; exact aU_old n_a168 k_a109
  have k_a117 : u20.1 a117 = some 52 := by rw [eu20]; exact aU_old n_a168 k_a117
  have k_a125 : u20.1 a125 = some 53 := by rw [eu20]; exact aU_old n_a168 k_a125
  have k_a132 : u20.1 a132 = some 54 := by rw [eu20]; exact aU_old n_a168 k_a132
  have k_a139 : u20.1 a139 = some 55 := by rw [eu20]; exact aU_old n_a168 k_a139
  have k_a147 : u20.1 a147 = some 56 := by rw [eu20]; exact aU_old n_a168 k_a147
  have k_a154 : u20.1 a154 = some 57 := by rw [eu20]; exact aU_old n_a168 k_a154
  have k_a161 : u20.1 a161 = some 58 := by rw [eu20]; exact aU_old n_a168 k_a161
  have hno : u20.1 h0 = none := by rw [eu20]; exact (if_neg (by omega)).trans hno
  have k_a168 : u20.1 a168 = some 59 := by rw [eu20]; exact aU_self
  have hQ : iQ n00 60 u20 := iQ_put hQ (fun x => by rw [eu20]; rfl) (Or.inl rfl) (by decide) (by omega)
  refine wi_put (v := .ref a168) hx hb hts cfX11 tyX11 tyX11_ok nmX11 hown hin hK hO hS (Or.inl rfl) rfl 46 (by decide) q918 rfl rfl rfl dX11_init_170 (fun H locs hO oq hz hS => ?_)
  have hW := cW_kept hW (fun b t hb => oq b (by intro z; rw [z, hno] at hb; cases hb))
  have hge : n0 ≤ H.size := by omega
  refine lv_aload_n hx hb dX11_init_173 rfl (lv_at hl 0 rfl) ?_
  refine lv_iconst (v := 3) hx hb dX11_init_174 (by decide) ?_
  refine wi_newa (atype := .int) (n := 3) (N := 3) hx hb (hts _ q52) hK hS 0 rfl (fun h => h) (by decide) (by decide) (Nat.le_of_ble_eq_true rfl) (Nat.le_of_ble_eq_true rfl) (Nat.le_of_ble_eq_true rfl) dX11_init_175 (fun a175 H eq hz o1 hN_a175 hS => ?_)
  have n_a175 := cW_none hW (Nat.le_of_eq eq.symm)
  have g_a175 : n0 ≤ a175 := by omega
  have l_a175_h0 : h0 < a175 := by have := hO.lt; omega
  have hW := cW_kept hW (fun b t hb => o1 b (by have := hW_lt (N := nN N u20) hW hb; omega))
  have hO := hO.kept (o1 h0 l_a175_h0)
  have hge : n0 ≤ H.size := by omega
  obtain ⟨u21, eu21⟩ : ∃ w : iU, w = aU u20 a175 60 := ⟨_, rfl⟩
  have hW : cW (nN N u21) H := by rw [eu21]; exact cW_add hW n_a175 hN_a175 ⟨rfl, rfl, fun j v _ h => ⟨0, h, by decide⟩⟩
  have hR : iR p11 N n0 h0 u21 := by rw [eu21]; exact iR_add hR g_a175 (by decide)
  have k_a7 : u21.1 a7 = some 40 := by rw [eu21]; exact aU_old n_a175 k_a7
  have k_a15 : u21.1 a15 = some 41 := by rw [eu21]; exact aU_old n_a175 k_a15
  have k_a28 : u21.1 a28 = some 42 := by rw [eu21]; exact aU_old n_a175 k_a28
  have k_a36 : u21.1 a36 = some 43 := by rw [eu21]; exact aU_old n_a175 k_a36
  have k_a44 : u21.1 a44 = some 44 := by rw [eu21]; exact aU_old n_a175 k_a44
  have k_a53 : u21.1 a53 = some 45 := by rw [eu21]; exact aU_old n_a175 k_a53
  have k_a62 : u21.1 a62 = some 46 := by rw [eu21]; exact aU_old n_a175 k_a62
  have k_a71 : u21.1 a71 = some 47 := by rw [eu21]; exact aU_old n_a175 k_a71
  have k_a79 : u21.1 a79 = some 48 := by rw [eu21]; exact aU_old n_a175 k_a79
  have k_a87 : u21.1 a87 = some 49 := by rw [eu21]; exact aU_old n_a175 k_a87
  have k_a96 : u21.1 a96 = some 50 := by rw [eu21]; exact aU_old n_a175 k_a96
  have k_a109 : u21.1 a109 = some 51 := by rw [eu21]; exact aU_old n_a175 k_a109
  have k_a117 : u21.1 a117 = some 52 := by rw [eu21]; exact aU_old n_a175 k_a117
  have k_a125 : u21.1 a125 = some 53 := by rw [eu21]; exact aU_old n_a175 k_a125
  have k_a132 : u21.1 a132 = some 54 := by rw [eu21]; exact aU_old n_a175 k_a132
  have k_a139 : u21.1 a139 = some 55 := by rw [eu21]; exact aU_old n_a175 k_a139
  have k_a147 : u21.1 a147 = some 56 := by rw [eu21]; exact aU_old n_a175 k_a147
  have k_a154 : u21.1 a154 = some 57 := by rw [eu21]; exact aU_old n_a175 k_a154
  have k_a161 : u21.1 a161 = some 58 := by rw [eu21]; exact aU_old n_a175 k_a161
  have k_a168 : u21.1 a168 = some 59 := by rw [eu21]; exact aU_old n_a175 k_a168
  have hno : u21.1 h0 = none := by rw [eu21]; exact (if_neg (by omega)).trans hno
  have k_a175 : u21.1 a175 = some 60 := by rw [eu21]; exact aU_self
  have hQ : iQ n00 61 u21 := iQ_put hQ (fun x => by rw [eu21]; rfl) (Or.inl rfl) (by decide) (by omega)
  refine wi_put (v := .ref a175) hx hb hts cfX11 tyX11 tyX11_ok nmX11 hown hin hK hO hS (Or.inl rfl) rfl 47 (by decide) q919 rfl rfl rfl dX11_init_177 (fun H locs hO oq hz hS => ?_)
  have hW := cW_kept hW (fun b t hb => oq b (by intro z; rw [z, hno] at hb; cases hb))
  have hge : n0 ≤ H.size := by omega
  refine lv_aload_n hx hb dX11_init_180 rfl (lv_at hl 0 rfl) ?_
  refine lv_sipush (v := 200) hx hb dX11_init_181 (by decide) ?_
  refine wi_newa (atype := .int) (n := 200) (N := 200) hx hb (hts _ q52) hK hS 0 rfl (fun h => h) (by decide) (by decide) (Nat.le_of_ble_eq_true rfl) (Nat.le_of_ble_eq_true rfl) (Nat.le_of_ble_eq_true rfl) dX11_init_184 (fun a184 H eq hz o1 hN_a184 hS => ?_)
  have n_a184 := cW_none hW (Nat.le_of_eq eq.symm)
  have g_a184 : n0 ≤ a184 := by omega
  have l_a184_h0 : h0 < a184 := by have := hO.lt; omega
  have hW := cW_kept hW (fun b t hb => o1 b (by have := hW_lt (N := nN N u21) hW hb; omega))
  have hO := hO.kept (o1 h0 l_a184_h0)
  have hge : n0 ≤ H.size := by omega
  obtain ⟨u22, eu22⟩ : ∃ w : iU, w = aU u21 a184 61 := ⟨_, rfl⟩
  have hW : cW (nN N u22) H := by rw [eu22]; exact cW_add hW n_a184 hN_a184 ⟨rfl, rfl, fun j v _ h => ⟨0, h⟩⟩
  have hR : iR p11 N n0 h0 u22 := by rw [eu22]; exact iR_add hR g_a184 (by decide)
  have k_a7 : u22.1 a7 = some 40 := by rw [eu22]; exact aU_old n_a184 k_a7
  have k_a15 : u22.1 a15 = some 41 := by rw [eu22]; exact aU_old n_a184 k_a15
  have k_a28 : u22.1 a28 = some 42 := by rw [eu22]; exact aU_old n_a184 k_a28
  have k_a36 : u22.1 a36 = some 43 := by rw [eu22]; exact aU_old n_a184 k_a36
  have k_a44 : u22.1 a44 = some 44 := by rw [eu22]; exact aU_old n_a184 k_a44
  have k_a53 : u22.1 a53 = some 45 := by rw [eu22]; exact aU_old n_a184 k_a53
  have k_a62 : u22.1 a62 = some 46 := by rw [eu22]; exact aU_old n_a184 k_a62
  have k_a71 : u22.1 a71 = some 47 := by rw [eu22]; exact aU_old n_a184 k_a71
  have k_a79 : u22.1 a79 = some 48 := by rw [eu22]; exact aU_old n_a184 k_a79
  have k_a87 : u22.1 a87 = some 49 := by rw [eu22]; exact aU_old n_a184 k_a87
  have k_a96 : u22.1 a96 = some 50 := by rw [eu22]; exact aU_old n_a184 k_a96
  have k_a109 : u22.1 a109 = some 51 := by rw [eu22]; exact aU_old n_a184 k_a109
  have k_a117 : u22.1 a117 = some 52 := by rw [eu22]; exact aU_old n_a184 k_a117
  have k_a125 : u22.1 a125 = some 53 := by rw [eu22]; exact aU_old n_a184 k_a125
  have k_a132 : u22.1 a132 = some 54 := by rw [eu22]; exact aU_old n_a184 k_a132
  have k_a139 : u22.1 a139 = some 55 := by rw [eu22]; exact aU_old n_a184 k_a139
  have k_a147 : u22.1 a147 = some 56 := by rw [eu22]; exact aU_old n_a184 k_a147
  have k_a154 : u22.1 a154 = some 57 := by rw [eu22]; exact aU_old n_a184 k_a154
  have k_a161 : u22.1 a161 = some 58 := by rw [eu22]; exact aU_old n_a184 k_a161
  have k_a168 : u22.1 a168 = some 59 := by rw [eu22]; exact aU_old n_a184 k_a168
  have k_a175 : u22.1 a175 = some 60 := by rw [eu22]; exact aU_old n_a184 k_a175
  have hno : u22.1 h0 = none := by rw [eu22]; exact (if_neg (by omega)).trans hno
  have k_a184 : u22.1 a184 = some 61 := by rw [eu22]; exact aU_self
  have hQ : iQ n00 62 u22 := iQ_put hQ (fun x => by rw [eu22]; rfl) (Or.inl rfl) (by decide) (by omega)
  refine wi_put (v := .ref a184) hx hb hts cfX11 tyX11 tyX11_ok nmX11 hown hin hK hO hS (Or.inl rfl) rfl 54 (by decide) q926 rfl rfl rfl dX11_init_186 (fun H locs hO oq hz hS => ?_)
  have hW := cW_kept hW (fun b t hb => oq b (by intro z; rw [z, hno] at hb; cases hb))
  have hge : n0 ≤ H.size := by omega
  refine lv_aload_n hx hb dX11_init_189 rfl (lv_at hl 0 rfl) ?_
  refine lv_bipush (v := 8) hx hb dX11_init_190 (by decide) ?_
  refine wi_newa (atype := .long) (n := 8) (N := 8) hx hb (hts _ q1044) hK hS 1 rfl (fun h => h) (by decide) (by decide) (Nat.le_of_ble_eq_true rfl) (Nat.le_of_ble_eq_true rfl) (Nat.le_of_ble_eq_true rfl) dX11_init_192 (fun a192 H eq hz o1 hN_a192 hS => ?_)
  have n_a192 := cW_none hW (Nat.le_of_eq eq.symm)
  have g_a192 : n0 ≤ a192 := by omega
  have l_a192_h0 : h0 < a192 := by have := hO.lt; omega
  have hW := cW_kept hW (fun b t hb => o1 b (by have := hW_lt (N := nN N u22) hW hb; omega))
  have hO := hO.kept (o1 h0 l_a192_h0)
  have hge : n0 ≤ H.size := by omega
  obtain ⟨u23, eu23⟩ : ∃ w : iU, w = aU u22 a192 62 := ⟨_, rfl⟩
  have hW : cW (nN N u23) H := by rw [eu23]; exact cW_add hW n_a192 hN_a192 ⟨rfl, rfl, fun j v _ h => ⟨0, h⟩⟩
  have hR : iR p11 N n0 h0 u23 := by rw [eu23]; exact iR_add hR g_a192 (by decide)
  have k_a7 : u23.1 a7 = some 40 := by rw [eu23]; exact aU_old n_a192 k_a7
  have k_a15 : u23.1 a15 = some 41 := by rw [eu23]; exact aU_old n_a192 k_a15
  have k_a28 : u23.1 a28 = some 42 := by rw [eu23]; exact aU_old n_a192 k_a28
  have k_a36 : u23.1 a36 = some 43 := by rw [eu23]; exact aU_old n_a192 k_a36
  have k_a44 : u23.1 a44 = some 44 := by rw [eu23]; exact aU_old n_a192 k_a44
  have k_a53 : u23.1 a53 = some 45 := by rw [eu23]; exact aU_old n_a192 k_a53
  have k_a62 : u23.1 a62 = some 46 := by rw [eu23]; exact aU_old n_a192 k_a62
  have k_a71 : u23.1 a71 = some 47 := by rw [eu23]; exact aU_old n_a192 k_a71
  have k_a79 : u23.1 a79 = some 48 := by rw [eu23]; exact aU_old n_a192 k_a79
  have k_a87 : u23.1 a87 = some 49 := by rw [eu23]; exact aU_old n_a192 k_a87
  have k_a96 : u23.1 a96 = some 50 := by rw [eu23]; exact aU_old n_a192 k_a96
  have k_a109 : u23.1 a109 = some 51 := by rw [eu23]; exact aU_old n_a192 k_a109
  have k_a117 : u23.1 a117 = some 52 := by rw [eu23]; exact aU_old n_a192 k_a117
  have k_a125 : u23.1 a125 = some 53 := by rw [eu23]; exact aU_old n_a192 k_a125
  have k_a132 : u23.1 a132 = some 54 := by rw [eu23]; exact aU_old n_a192 k_a132
  have k_a139 : u23.1 a139 = some 55 := by rw [eu23]; exact aU_old n_a192 k_a139
  have k_a147 : u23.1 a147 = some 56 := by rw [eu23]; exact aU_old n_a192 k_a147
  have k_a154 : u23.1 a154 = some 57 := by rw [eu23]; exact aU_old n_a192 k_a154
  have k_a161 : u23.1 a161 = some 58 := by rw [eu23]; exact aU_old n_a192 k_a161
  have k_a168 : u23.1 a168 = some 59 := by rw [eu23]; exact aU_old n_a192 k_a168
  have k_a175 : u23.1 a175 = some 60 := by rw [eu23]; exact aU_old n_a192 k_a175
  have k_a184 : u23.1 a184 = some 61 := by rw [eu23]; exact aU_old n_a192 k_a184
  have hno : u23.1 h0 = none := by rw [eu23]; exact (if_neg (by omega)).trans hno
  have k_a192 : u23.1 a192 = some 62 := by rw [eu23]; exact aU_self
  have hQ : iQ n00 63 u23 := iQ_put hQ (fun x => by rw [eu23]; rfl) (Or.inl rfl) (by decide) (by omega)
  refine wi_put (v := .ref a192) hx hb hts cfX11 tyX11 tyX11_ok nmX11 hown hin hK hO hS (Or.inl rfl) rfl 56 (by decide) q928 rfl rfl rfl dX11_init_194 (fun H locs hO oq hz hS => ?_)
  have hW := cW_kept hW (fun b t hb => oq b (by intro z; rw [z, hno] at hb; cases hb))
  have hge : n0 ≤ H.size := by omega
  refine lv_aload_n hx hb dX11_init_197 rfl (lv_at hl 0 rfl) ?_
  refine lv_iconst (v := 0) hx hb dX11_init_198 (by decide) ?_
  refine lv_iconst (v := 1) hx hb dX11_init_199 (by decide) ?_
  refine lv_iconst (v := 1) hx hb dX11_init_200 (by decide) ?_
  have hP7 : wt_pin N.1 vwCl h0 11 7 (.int 0) H := hO.pin rfl 7 (by decide) (fun w h => h)
  have hP13 : wt_pin N.1 vwCl h0 11 13 (.int 0) H := hO.pin rfl 13 (by decide) (fun w h => h)
  have hP26 : wt_pin N.1 vwCl h0 11 26 (.int 0) H := hO.pin rfl 26 (by decide) (fun w h => h)
  have hP29 : wt_pin N.1 vwCl h0 11 29 (.int 0) H := hO.pin rfl 29 (by decide) (fun w h => h)
  have hP31 : wt_pin N.1 vwCl h0 11 31 (.int 0) H := hO.pin rfl 31 (by decide) (fun w h => h)
  have hP34 : wt_pin N.1 vwCl h0 11 34 (.long 0) H := hO.pin rfl 34 (by decide) (fun w h => h)
  have hP35 : wt_pin N.1 vwCl h0 11 35 (.long 0) H := hO.pin rfl 35 (by decide) (fun w h => h)
  have hP36 : wt_pin N.1 vwCl h0 11 36 (.long 0) H := hO.pin rfl 36 (by decide) (fun w h => h)
  have hP37 : wt_pin N.1 vwCl h0 11 37 (.long 0) H := hO.pin rfl 37 (by decide) (fun w h => h)
  have hP38 : wt_pin N.1 vwCl h0 11 38 (.int 0) H := hO.pin rfl 38 (by decide) (fun w h => h)
  have hO : wt_at N.1 vwCl h0 (.inl (11, cP11 (nN N (aU u23 h0 11)))) H := hO.obj (P' := cP11 (nN N (aU u23 h0 11))) rfl (fun k v hk h => by
      match k, hk with
      | 0, _ => have h : v = .ref a7 := h; exact ⟨a7, h, aU_old hno k_a7⟩
      | 1, _ => have h : v = .ref a15 := h; exact ⟨a15, h, aU_old hno k_a15⟩
      | 2, _ => have h : v = .int 0 := h; exact ⟨0, h, by decide⟩
      | 3, _ => have h : v = .int (1 : Int32) := h; exact ⟨(1 : Int32), h, by decide⟩
      | 4, _ => have h : v = .ref a28 := h; exact ⟨a28, h, aU_old hno k_a28⟩
      | 5, _ => have h : v = .ref a36 := h; exact ⟨a36, h, aU_old hno k_a36⟩
      | 6, _ => have h : v = .ref a44 := h; exact ⟨a44, h, aU_old hno k_a44⟩
      | 7, _ => have h : v = .int 0 := h; exact ⟨0, h, by decide⟩
      | 8, _ => have h : v = .ref a53 := h; exact ⟨a53, h, aU_old hno k_a53⟩
      | 9, _ => have h : v = .ref a62 := h; exact ⟨a62, h, aU_old hno k_a62⟩
      | 10, _ => have h : v = .ref a71 := h; exact ⟨a71, h, aU_old hno k_a71⟩
      | 11, _ => have h : v = .ref a79 := h; exact ⟨a79, h, aU_old hno k_a79⟩
      | 12, _ => have h : v = .ref a87 := h; exact ⟨a87, h, aU_old hno k_a87⟩
      | 13, _ => have h : v = .int 0 := h; exact ⟨0, h, by decide⟩
      | 14, _ => have h : v = .ref a96 := h; exact ⟨a96, h, aU_old hno k_a96⟩
      | 15, _ => have h : v = .int 0 := h; exact ⟨0, h, by decide⟩
      | 16, _ => have h : v = .int 0 := h; exact ⟨0, h⟩
      | 17, _ => have h : v = .int (-1 : Int32) := h; exact ⟨(-1 : Int32), h⟩
      | 18, _ => have h : v = .int 0 := h; exact ⟨0, h, by decide⟩
      | 19, _ => have h : v = .int 0 := h; exact ⟨0, h⟩
      | 20, _ => have h : v = .int 0 := h; exact ⟨0, h⟩
      | 21, _ => have h : v = .int 0 := h; exact ⟨0, h, by decide⟩
      | 22, _ => have h : v = .int 0 := h; exact ⟨0, h⟩
      | 23, _ => have h : v = .ref a109 := h; exact ⟨a109, h, aU_old hno k_a109⟩
      | 24, _ => have h : v = .ref a117 := h; exact ⟨a117, h, aU_old hno k_a117⟩
      | 25, _ => have h : v = .ref a125 := h; exact ⟨a125, h, aU_old hno k_a125⟩
      | 26, _ => have h : v = .int 0 := h; exact ⟨0, h, by decide⟩
      | 27, _ => have h : v = .ref a132 := h; exact ⟨a132, h, aU_old hno k_a132⟩
      | 28, _ => have h : v = .ref a139 := h; exact ⟨a139, h, aU_old hno k_a139⟩
      | 29, _ => have h : v = .int 0 := h; exact ⟨0, h, by decide⟩
      | 30, _ => have h : v = .int 0 := h; exact ⟨0, h, by decide⟩
      | 31, _ => have h : v = .int 0 := h; exact ⟨0, h, by decide⟩
      | 32, _ => have h : v = .long 0 := h; exact ⟨0, h⟩
      | 33, _ => have h : v = .long 0 := h; exact ⟨0, h⟩
      | 34, _ => have h : v = .long 0 := h; exact ⟨0, h⟩
      | 35, _ => have h : v = .long 0 := h; exact ⟨0, h⟩
      | 36, _ => have h : v = .long 0 := h; exact ⟨0, h⟩
      | 37, _ => have h : v = .long 0 := h; exact ⟨0, h⟩
      | 38, _ => have h : v = .int 0 := h; exact ⟨0, h, by decide⟩
      | 39, _ => have h : v = .long 0 := h; exact ⟨0, h⟩
      | 40, _ => have h : v = .long 0 := h; exact ⟨0, h⟩
      | 41, _ => have h : v = .long 0 := h; exact ⟨0, h⟩
      | 42, _ => have h : v = .long 0 := h; exact ⟨0, h⟩
      | 43, _ => have h : v = .ref a147 := h; exact ⟨a147, h, aU_old hno k_a147⟩
      | 44, _ => have h : v = .ref a154 := h; exact ⟨a154, h, aU_old hno k_a154⟩
      | 45, _ => have h : v = .ref a161 := h; exact ⟨a161, h, aU_old hno k_a161⟩
      | 46, _ => have h : v = .ref a168 := h; exact ⟨a168, h, aU_old hno k_a168⟩
      | 47, _ => have h : v = .ref a175 := h; exact ⟨a175, h, aU_old hno k_a175⟩
      | 48, _ => have h : v = .int 0 := h; exact ⟨0, h, by decide⟩
      | 49, _ => have h : v = .int 0 := h; exact ⟨0, h⟩
      | 50, _ => have h : v = .int 0 := h; exact ⟨0, h⟩
      | 51, _ => have h : v = .int 0 := h; exact ⟨0, h⟩
      | 52, _ => have h : v = .long 0 := h; exact ⟨0, h⟩
      | 53, _ => have h : v = .long 0 := h; exact ⟨0, h⟩
      | 54, _ => have h : v = .ref a184 := h; exact ⟨a184, h, aU_old hno k_a184⟩
      | 55, _ => have h : v = .int 0 := h; exact ⟨0, h, by decide⟩
      | 56, _ => have h : v = .ref a192 := h; exact ⟨a192, h, aU_old hno k_a192⟩
      | k + 57, hk => exact absurd hk (by show ¬ _ < 57; omega))
  have hW := cW_add (t := 11) hW hno hO (wt_le_rfl _)
  obtain ⟨y0, ey0⟩ : ∃ w : iU, w = aU u23 h0 11 := ⟨_, rfl⟩
  rw [← ey0] at hW
  have hI : mI (nN N y0) h0 H := mI_new (N := nN N y0) hP7 hP13 hP26 hP29 hP31 hP34 hP35 hP36 hP37 hP38
  have hQ : iQ n00 64 y0 := iQ_put hQ (fun x => by rw [ey0]; rfl) (Or.inr (by decide)) (by decide) (by omega)
  have k_h0 : y0.1 h0 = some 11 := by rw [ey0]; exact aU_self
  have k_a7 : y0.1 a7 = some 40 := by rw [ey0]; exact aU_old hno k_a7
  have k_a15 : y0.1 a15 = some 41 := by rw [ey0]; exact aU_old hno k_a15
  have hU1 : ∀ q : Nat, q < n0 → q ≠ h0 → y0.1 q = N.2.2.1 q ∧ y0.2 q = N.2.2.2 q := fun q h1 h2 => by rw [ey0]; exact (iR_end (ci := 11) hR hh0).1.1 q h1 h2
  have hU2 : ∀ q t : Nat, n0 ≤ q → y0.1 q = some t → 40 ≤ t := fun q t h1 h2 => by rw [ey0] at h2; exact (iR_end (ci := 11) hR hh0).1.2 q t h1 h2
  have hne : a7 ≠ a15 := by intro z; rw [z, k_a15] at k_a7; exact absurd (Option.some.inj k_a7) (by decide)
  refine va_callv (wt_runV (As := [.int 0, .int 1, .int 1]) (rest := []) ⟨hx, hb, hml, hown, hts⟩ (m_X11_tells l (nN N y0) h0 k_h0 0 (by decide) 1 1 a7 a15 k_a7 k_a15 hQ.2) wm_X11_tells q868 ⟨rfl, rfl⟩ ⟨Nat.le_of_ble_eq_true rfl, Nat.le_of_ble_eq_true rfl⟩ (cS_preA (N := nN N y0) (A := fun x => n00 ≤ x) hK hW hT.1 hnn (hS.up (fun z hz9 => by show n00 ≤ z; rcases hz9 with hz9 | hz9 <;> omega)) (fun a t h => (hQ.1 a t h).1) (cg11 k_h0) rfl rfl trivial) rfl hl.1 rfl (Nat.le_of_ble_eq_true rfl) dX11_init_201 ⟨Nat.le_of_ble_eq_true rfl, Nat.le_of_ble_eq_true rfl⟩) hS (fun x _ h9 => tl_free hQ.2 k_a7 k_a15 g_a7 g_a15 x h9) (fun x h9 => tl_free hQ.2 k_a7 k_a15 g_a7 g_a15 x h9) (fun X1 t H1 locs ht hvm hp1 hB hz hk hS => ?_)
  have hI : mI (nN N y0) h0 H1 := mI_call hI hW k_h0 hk (by decide) (by decide)
  obtain ⟨y1, ey1⟩ : ∃ w : iU, w = (y0.1, X1) := ⟨_, rfl⟩
  have hW : cW (nN N y1) H1 := by rw [ey1, ← ht]; exact hB
  have hI : mI (nN N y1) h0 H1 := by rw [ey1]; exact hI
  have hQ : iQ n00 64 y1 := by rw [ey1]; exact hQ
  have k_h0 : y1.1 h0 = some 11 := by rw [ey1]; exact k_h0
  have k_a7 : y1.1 a7 = some 40 := by rw [ey1]; exact k_a7
  have k_a15 : y1.1 a15 = some 41 := by rw [ey1]; exact k_a15
  have hp1 : X1 = uX (uX y0.2 a7 (0 : Int32).toNatClampNeg 1) a15 (0 : Int32).toNatClampNeg 1 := hp1
  clear hB ht
  obtain ⟨H, eH⟩ : ∃ X : Heap, X = H1 := ⟨_, rfl⟩
  rw [← eH] at hW hI hS ⊢
  clear eH
  refine lv_aload_n hx hb dX11_init_204 rfl (lv_at hl 0 rfl) ?_
  refine lv_iconst (v := 1) hx hb dX11_init_205 (by decide) ?_
  refine lv_iconst (v := 3) hx hb dX11_init_206 (by decide) ?_
  refine lv_iconst (v := 2) hx hb dX11_init_207 (by decide) ?_
  refine va_callv (wt_runV (As := [.int 1, .int 3, .int 2]) (rest := []) ⟨hx, hb, hml, hown, hts⟩ (m_X11_tells l (nN N y1) h0 k_h0 1 (by decide) 3 2 a7 a15 k_a7 k_a15 hQ.2) wm_X11_tells q868 ⟨rfl, rfl⟩ ⟨Nat.le_of_ble_eq_true rfl, Nat.le_of_ble_eq_true rfl⟩ (cS_preA (N := nN N y1) (A := fun x => n00 ≤ x) hK hW hT.1 hnn (hS.up (fun z hz9 => by show n00 ≤ z; rcases hz9 with hz9 | hz9 <;> omega)) (fun a t h => (hQ.1 a t h).1) (cg11 k_h0) rfl rfl trivial) rfl hl.1 rfl (Nat.le_of_ble_eq_true rfl) dX11_init_208 ⟨Nat.le_of_ble_eq_true rfl, Nat.le_of_ble_eq_true rfl⟩) hS (fun x _ h9 => tl_free hQ.2 k_a7 k_a15 g_a7 g_a15 x h9) (fun x h9 => tl_free hQ.2 k_a7 k_a15 g_a7 g_a15 x h9) (fun X2 t H1 locs ht hvm hp2 hB hz hk hS => ?_)
  have hI : mI (nN N y1) h0 H1 := mI_call hI hW k_h0 hk (by decide) (by decide)
  obtain ⟨y2, ey2⟩ : ∃ w : iU, w = (y0.1, X2) := ⟨_, rfl⟩
  have hW : cW (nN N y2) H1 := by rw [ey2, ← ht]; rw [ey1] at hB; exact hB
  have hI : mI (nN N y2) h0 H1 := by rw [ey2]; rw [ey1] at hI; exact hI
  have hQ : iQ n00 64 y2 := by rw [ey2]; rw [ey1] at hQ; exact hQ
  have k_h0 : y2.1 h0 = some 11 := by rw [ey2]; rw [ey1] at k_h0; exact k_h0
  have k_a7 : y2.1 a7 = some 40 := by rw [ey2]; rw [ey1] at k_a7; exact k_a7
  have k_a15 : y2.1 a15 = some 41 := by rw [ey2]; rw [ey1] at k_a15; exact k_a15
  have hp2 : X2 = uX (uX y1.2 a7 (1 : Int32).toNatClampNeg 3) a15 (1 : Int32).toNatClampNeg 2 := hp2
  rw [ey1] at hp2
  clear hB ht
  obtain ⟨H, eH⟩ : ∃ X : Heap, X = H1 := ⟨_, rfl⟩
  rw [← eH] at hW hI hS ⊢
  clear eH
  refine lv_aload_n hx hb dX11_init_211 rfl (lv_at hl 0 rfl) ?_
  refine lv_iconst (v := 2) hx hb dX11_init_212 (by decide) ?_
  refine lv_iconst (v := 2) hx hb dX11_init_213 (by decide) ?_
  refine lv_iconst (v := 1) hx hb dX11_init_214 (by decide) ?_
  refine va_callv (wt_runV (As := [.int 2, .int 2, .int 1]) (rest := []) ⟨hx, hb, hml, hown, hts⟩ (m_X11_tells l (nN N y2) h0 k_h0 2 (by decide) 2 1 a7 a15 k_a7 k_a15 hQ.2) wm_X11_tells q868 ⟨rfl, rfl⟩ ⟨Nat.le_of_ble_eq_true rfl, Nat.le_of_ble_eq_true rfl⟩ (cS_preA (N := nN N y2) (A := fun x => n00 ≤ x) hK hW hT.1 hnn (hS.up (fun z hz9 => by show n00 ≤ z; rcases hz9 with hz9 | hz9 <;> omega)) (fun a t h => (hQ.1 a t h).1) (cg11 k_h0) rfl rfl trivial) rfl hl.1 rfl (Nat.le_of_ble_eq_true rfl) dX11_init_215 ⟨Nat.le_of_ble_eq_true rfl, Nat.le_of_ble_eq_true rfl⟩) hS (fun x _ h9 => tl_free hQ.2 k_a7 k_a15 g_a7 g_a15 x h9) (fun x h9 => tl_free hQ.2 k_a7 k_a15 g_a7 g_a15 x h9) (fun X3 t H1 locs ht hvm hp3 hB hz hk hS => ?_)
  have hI : mI (nN N y2) h0 H1 := mI_call hI hW k_h0 hk (by decide) (by decide)
  obtain ⟨y3, ey3⟩ : ∃ w : iU, w = (y0.1, X3) := ⟨_, rfl⟩
  have hW : cW (nN N y3) H1 := by rw [ey3, ← ht]; rw [ey2] at hB; exact hB
  have hI : mI (nN N y3) h0 H1 := by rw [ey3]; rw [ey2] at hI; exact hI
  have hQ : iQ n00 64 y3 := by rw [ey3]; rw [ey2] at hQ; exact hQ
  have k_h0 : y3.1 h0 = some 11 := by rw [ey3]; rw [ey2] at k_h0; exact k_h0
  have k_a7 : y3.1 a7 = some 40 := by rw [ey3]; rw [ey2] at k_a7; exact k_a7
  have k_a15 : y3.1 a15 = some 41 := by rw [ey3]; rw [ey2] at k_a15; exact k_a15
  have hp3 : X3 = uX (uX y2.2 a7 (2 : Int32).toNatClampNeg 2) a15 (2 : Int32).toNatClampNeg 1 := hp3
  rw [ey2] at hp3
  clear hB ht
  obtain ⟨H, eH⟩ : ∃ X : Heap, X = H1 := ⟨_, rfl⟩
  rw [← eH] at hW hI hS ⊢
  clear eH
  refine lv_aload_n hx hb dX11_init_218 rfl (lv_at hl 0 rfl) ?_
  refine lv_iconst (v := 3) hx hb dX11_init_219 (by decide) ?_
  refine lv_iconst (v := 4) hx hb dX11_init_220 (by decide) ?_
  refine lv_iconst (v := 3) hx hb dX11_init_221 (by decide) ?_
  refine va_callv (wt_runV (As := [.int 3, .int 4, .int 3]) (rest := []) ⟨hx, hb, hml, hown, hts⟩ (m_X11_tells l (nN N y3) h0 k_h0 3 (by decide) 4 3 a7 a15 k_a7 k_a15 hQ.2) wm_X11_tells q868 ⟨rfl, rfl⟩ ⟨Nat.le_of_ble_eq_true rfl, Nat.le_of_ble_eq_true rfl⟩ (cS_preA (N := nN N y3) (A := fun x => n00 ≤ x) hK hW hT.1 hnn (hS.up (fun z hz9 => by show n00 ≤ z; rcases hz9 with hz9 | hz9 <;> omega)) (fun a t h => (hQ.1 a t h).1) (cg11 k_h0) rfl rfl trivial) rfl hl.1 rfl (Nat.le_of_ble_eq_true rfl) dX11_init_222 ⟨Nat.le_of_ble_eq_true rfl, Nat.le_of_ble_eq_true rfl⟩) hS (fun x _ h9 => tl_free hQ.2 k_a7 k_a15 g_a7 g_a15 x h9) (fun x h9 => tl_free hQ.2 k_a7 k_a15 g_a7 g_a15 x h9) (fun X4 t H1 locs ht hvm hp4 hB hz hk hS => ?_)
  have hI : mI (nN N y3) h0 H1 := mI_call hI hW k_h0 hk (by decide) (by decide)
  obtain ⟨y4, ey4⟩ : ∃ w : iU, w = (y0.1, X4) := ⟨_, rfl⟩
  have hW : cW (nN N y4) H1 := by rw [ey4, ← ht]; rw [ey3] at hB; exact hB
  have hI : mI (nN N y4) h0 H1 := by rw [ey4]; rw [ey3] at hI; exact hI
  have hQ : iQ n00 64 y4 := by rw [ey4]; rw [ey3] at hQ; exact hQ
  have k_h0 : y4.1 h0 = some 11 := by rw [ey4]; rw [ey3] at k_h0; exact k_h0
  have k_a7 : y4.1 a7 = some 40 := by rw [ey4]; rw [ey3] at k_a7; exact k_a7
  have k_a15 : y4.1 a15 = some 41 := by rw [ey4]; rw [ey3] at k_a15; exact k_a15
  have hp4 : X4 = uX (uX y3.2 a7 (3 : Int32).toNatClampNeg 4) a15 (3 : Int32).toNatClampNeg 3 := hp4
  rw [ey3] at hp4
  clear hB ht
  obtain ⟨H, eH⟩ : ∃ X : Heap, X = H1 := ⟨_, rfl⟩
  rw [← eH] at hW hI hS ⊢
  clear eH
  refine lv_aload_n hx hb dX11_init_225 rfl (lv_at hl 0 rfl) ?_
  refine lv_iconst (v := 4) hx hb dX11_init_226 (by decide) ?_
  refine lv_iconst (v := 5) hx hb dX11_init_227 (by decide) ?_
  refine lv_iconst (v := 2) hx hb dX11_init_228 (by decide) ?_
  refine va_callv (wt_runV (As := [.int 4, .int 5, .int 2]) (rest := []) ⟨hx, hb, hml, hown, hts⟩ (m_X11_tells l (nN N y4) h0 k_h0 4 (by decide) 5 2 a7 a15 k_a7 k_a15 hQ.2) wm_X11_tells q868 ⟨rfl, rfl⟩ ⟨Nat.le_of_ble_eq_true rfl, Nat.le_of_ble_eq_true rfl⟩ (cS_preA (N := nN N y4) (A := fun x => n00 ≤ x) hK hW hT.1 hnn (hS.up (fun z hz9 => by show n00 ≤ z; rcases hz9 with hz9 | hz9 <;> omega)) (fun a t h => (hQ.1 a t h).1) (cg11 k_h0) rfl rfl trivial) rfl hl.1 rfl (Nat.le_of_ble_eq_true rfl) dX11_init_229 ⟨Nat.le_of_ble_eq_true rfl, Nat.le_of_ble_eq_true rfl⟩) hS (fun x _ h9 => tl_free hQ.2 k_a7 k_a15 g_a7 g_a15 x h9) (fun x h9 => tl_free hQ.2 k_a7 k_a15 g_a7 g_a15 x h9) (fun X5 t H1 locs ht hvm hp5 hB hz hk hS => ?_)
  have hI : mI (nN N y4) h0 H1 := mI_call hI hW k_h0 hk (by decide) (by decide)
  obtain ⟨y5, ey5⟩ : ∃ w : iU, w = (y0.1, X5) := ⟨_, rfl⟩
  have hW : cW (nN N y5) H1 := by rw [ey5, ← ht]; rw [ey4] at hB; exact hB
  have hI : mI (nN N y5) h0 H1 := by rw [ey5]; rw [ey4] at hI; exact hI
  have hQ : iQ n00 64 y5 := by rw [ey5]; rw [ey4] at hQ; exact hQ
  have k_h0 : y5.1 h0 = some 11 := by rw [ey5]; rw [ey4] at k_h0; exact k_h0
  have k_a7 : y5.1 a7 = some 40 := by rw [ey5]; rw [ey4] at k_a7; exact k_a7
  have k_a15 : y5.1 a15 = some 41 := by rw [ey5]; rw [ey4] at k_a15; exact k_a15
  have hp5 : X5 = uX (uX y4.2 a7 (4 : Int32).toNatClampNeg 5) a15 (4 : Int32).toNatClampNeg 2 := hp5
  rw [ey4] at hp5
  clear hB ht
  obtain ⟨H, eH⟩ : ∃ X : Heap, X = H1 := ⟨_, rfl⟩
  rw [← eH] at hW hI hS ⊢
  clear eH
  refine lv_aload_n hx hb dX11_init_232 rfl (lv_at hl 0 rfl) ?_
  refine lv_iconst (v := 5) hx hb dX11_init_233 (by decide) ?_
  refine lv_iconst (v := 3) hx hb dX11_init_234 (by decide) ?_
  refine lv_iconst (v := 1) hx hb dX11_init_235 (by decide) ?_
  refine va_callv (wt_runV (As := [.int 5, .int 3, .int 1]) (rest := []) ⟨hx, hb, hml, hown, hts⟩ (m_X11_tells l (nN N y5) h0 k_h0 5 (by decide) 3 1 a7 a15 k_a7 k_a15 hQ.2) wm_X11_tells q868 ⟨rfl, rfl⟩ ⟨Nat.le_of_ble_eq_true rfl, Nat.le_of_ble_eq_true rfl⟩ (cS_preA (N := nN N y5) (A := fun x => n00 ≤ x) hK hW hT.1 hnn (hS.up (fun z hz9 => by show n00 ≤ z; rcases hz9 with hz9 | hz9 <;> omega)) (fun a t h => (hQ.1 a t h).1) (cg11 k_h0) rfl rfl trivial) rfl hl.1 rfl (Nat.le_of_ble_eq_true rfl) dX11_init_236 ⟨Nat.le_of_ble_eq_true rfl, Nat.le_of_ble_eq_true rfl⟩) hS (fun x _ h9 => tl_free hQ.2 k_a7 k_a15 g_a7 g_a15 x h9) (fun x h9 => tl_free hQ.2 k_a7 k_a15 g_a7 g_a15 x h9) (fun X6 t H1 locs ht hvm hp6 hB hz hk hS => ?_)
  have hI : mI (nN N y5) h0 H1 := mI_call hI hW k_h0 hk (by decide) (by decide)
  obtain ⟨y6, ey6⟩ : ∃ w : iU, w = (y0.1, X6) := ⟨_, rfl⟩
  have hW : cW (nN N y6) H1 := by rw [ey6, ← ht]; rw [ey5] at hB; exact hB
  have hI : mI (nN N y6) h0 H1 := by rw [ey6]; rw [ey5] at hI; exact hI
  have hQ : iQ n00 64 y6 := by rw [ey6]; rw [ey5] at hQ; exact hQ
  have k_h0 : y6.1 h0 = some 11 := by rw [ey6]; rw [ey5] at k_h0; exact k_h0
  have k_a7 : y6.1 a7 = some 40 := by rw [ey6]; rw [ey5] at k_a7; exact k_a7
  have k_a15 : y6.1 a15 = some 41 := by rw [ey6]; rw [ey5] at k_a15; exact k_a15
  have hp6 : X6 = uX (uX y5.2 a7 (5 : Int32).toNatClampNeg 3) a15 (5 : Int32).toNatClampNeg 1 := hp6
  rw [ey5] at hp6
  clear hB ht
  obtain ⟨H, eH⟩ : ∃ X : Heap, X = H1 := ⟨_, rfl⟩
  rw [← eH] at hW hI hS ⊢
  clear eH
  have hal := tl_all hne hp1 hp2 hp3 hp4 hp5 hp6
  refine W.widen (k := 23) (n := 1391) (Nat.le_of_ble_eq_true rfl) (Nat.le_of_ble_eq_true rfl) ?_
  have hm : m11 N n0 h0 y6 := by
    rw [ey6]
    rw [ey6] at hQ
    refine ⟨fun q h1 h2 => ⟨(hU1 q h1 h2).1, (hal.2 q (by omega) (by omega)).trans (hU1 q h1 h2).2⟩, by rw [ey6] at k_h0; exact k_h0, hU2, hQ.2, a7, a15, g_a7, g_a15, by rw [ey6] at k_a7; exact k_a7, by rw [ey6] at k_a15; exact k_a15, hal.1⟩
  exact W.vret hx hb hr (fun t ht _ => ⟨⟨y6, rfl, hm, cW_at (N := nN N y6) ht hW, mI_at (N := nN N y6) ht hI⟩, hS.F ht⟩) hS.2.2 dX11_init_239
