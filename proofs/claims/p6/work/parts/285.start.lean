/-! THE CLAIM OUT OF ONE WALK OF THE LAW'S BODY. Your part is whole_start (and what it stands on); all else here is the same for every law, but numbers. -/
def R_law : String := "ThinCoatsLaw"
def lw_P (b : Addr) (xs : List Int32) (args : Array Value) (s : State) : Prop := args = #[.ref b] ∧ s.IntsAt b xs ∧ xs.length ≤ 3072 ∧ (Jvm.Cond.and given_1 narrow_1).before args s = true
/-- what a walk over the start with the record d0 says of its end, said of the start itself -/
theorem lw_closed {s t : State} {o : Outcome} {d0 : Drawn} {L : List Loc} {k n : Nat} (hd0 : s.drawn.sameBut d0 lw_cs) (hv : ∃ v, o = .returned v) (hW : (s.setDrawn d0).WarmedH t.vm) (hs : (s.setDrawn d0).sameButNew ({ t with vm := s.vm } : State) L k n) : State.butDraws s t lw_cs (fun t1 => Framed s o t1 L k n) := by
  have h2 : t.drawn = d0 := congrArg State.drawn hs.1
  refine ⟨⟨hv, hW, State.sameButNew.setDrawn hs s.drawn⟩, ?_, by decide⟩
  rw [h2]
  exact hd0
def lw_Q (_ : Array Value) (s : State) (o : Outcome) (t : State) : Prop := o = .returned (some (.int 1)) ∧ State.butDraws s t lw_cs (fun t1 => Framed s o t1 [] 600000 7302250)
def lw_Z (below : List Frame) (a : Array Value) (s : State) : State → Prop := fun t => ∃ o, t.status = .running ∧ Ended t below o ∧ lw_Q a s o t
/-- the law's own end, with 1 on the stack, nothing written that was there before, its room as the claim has it; d0: the record of draws at this point (at the entry s.drawn: begin with 'refine W.base ?_' and 'have hd0 := Drawn.sameBut.refl s.drawn lw_cs') -/
theorem lw_ret {p : Program} {l : Launch} {e : Env} {s : State} {m : MethodId} {below : List Frame} {meth : Method} {c : Code} {b : Nat} {d0 : Drawn} (hd0 : s.drawn.sameBut d0 lw_cs) (hx : p.tables.exec = Jvm.exec) (hb : c.code = code) (hr : meth.sig.returnType = ret) (hlocks : meth.locks = false) {pc : Nat} {H : Heap} {ls : Array Slot} (hdg : decode code pc = .ok (.ireturn, 1)) : W p l e room_1 (s.setDrawn d0) m #[Value.ref b] below meth c H [] 600000 7302250 (lw_Z below #[Value.ref b] s) (F0 m pc ls [.int 1]) := by
  intro T hT X
  obtain ⟨fs, hret, hrun, hended, hW, hframe⟩ := X.leave (v := some (.int 1)) (hlocks := hlocks) (fun h => by rw [hr] at h; cases h)
  have hmeth' : T.vm.method? m = some meth := X.method'
  refine ⟨T.setFrames fs, ?_, .returned (some (.int 1)), hrun, hended, rfl, lw_closed hd0 ⟨_, rfl⟩ hW hframe⟩
  jvm_step X.here [X.here.top, hx, hb, hdg, hmeth', hr, ret, narrow_b1]
  (try refine ⟨rfl, ?_⟩); (try refine ⟨rfl, ?_⟩)
  first | (intro acts; rw [hret _ acts rfl rfl rfl]) | rw [hret _ _ rfl rfl rfl]
  exact Steps.refl _
/-- what holds at the law's entry: the machine, the code, the tables' words (any of lw_tbl by 'hts w (by decide +kernel)'), the script of L ints xs at the cell b, what the Statement gives of the start (any of its parts by flat_of_before) -/
def lw_At (p : Program) (s : State) (m : MethodId) (meth : Method) (c : Code) (b L : Nat) (xs : Nat → Int32) : Prop :=
  p.tables.exec = Jvm.exec ∧ c.code = code ∧ meth.sig.returnType = ret ∧ c.maxLocals = 4 ∧ s.vm.findClass R_law = some m.cls ∧ (∀ w ∈ lw_tbl, w.before #[Value.ref b] s = true) ∧ va_X b L xs s s.heap ∧ b < s.heap.size ∧ meth.locks = false ∧ (Jvm.Cond.and given_1 narrow_1).before #[Value.ref b] s = true
/-! THE START: what the tables and the Statement say of it -/
theorem l_arr {s : State} {args : Array Value} {ty : FieldType} (h : (Cond.arrayClass ty).before args s = true) : ∃ cA : ClassId, ArrOfT s cA ty ∧ s.vm.findClass ("[" ++ ty.toString) = some cA := by
  obtain ⟨c, k, comp, h1, h2, h3⟩ := Cond.arrayClass_spec h
  exact ⟨c, fun n z => ⟨(fun k h => by cases h), k, h2, comp, h3⟩, h1⟩
theorem l_arrO {s : State} {args : Array Value} {C : String} (h : (Cond.arrayOver (.object C)).before args s = true) : ∃ cA : ClassId, ArrOfT s cA (.object C) ∧ va_RA s cA (.object C) := by
  obtain ⟨comp, c, k, h1, h2, h3, h4, h5⟩ := Cond.arrayOver_spec h
  exact ⟨c, fun n z => ⟨(fun k h => by cases h), k, h3, comp, h4⟩, k, comp, h3, h4, h1, h5⟩
theorem l_tab {s : State} {args : Array Value} {f : String} {n : Nat} {g : Nat → Int32} {A : Nat → Prop} (hn : n < 2 ^ 31) (hl : (Cond.laysStatic "ThinCoats" f "[I").before args s = true) (hini : (Cond.initialized "ThinCoats").before args s = true) (harr : (Cond.arrayOf (.static "ThinCoats" f "[I") .int).before args s = true) (hlen : (Cond.eq (.length (.static "ThinCoats" f "[I")) (.int (Int32.ofNat n))).before args s = true) (hel : ∀ j : Nat, j < n → (Cond.eq (.elem (.static "ThinCoats" f "[I") (.int (Int32.ofNat j))) (.int (g j))).before args s = true) (hA : ∀ a : Nat, a < s.heap.size → ¬ A a) : cT1 f n g A s s.heap := by
  obtain ⟨t, ht, hT⟩ := va_Tof (f := fun j => .int (g j)) (A := A) hn harr (va_eqt hlen) (fun j hj => va_eqt (hel j hj)) hA
  exact ⟨t, va_Zref hl hini ht hA, hT⟩
theorem l_len {s : State} {args : Array Value} {tm : Term} {v : Value} {b : Addr} {cell : Cell} (hv : (Term.length tm).eval args s none [] s = some v) (ht : tm.eval args s none [] s = some (.ref b)) (hc : s.heap[b]? = some cell) : cell.slots.size < 2 ^ 31 := by
  obtain ⟨b2, cell2, ht2, harr, -⟩ := Term.length_spec hv
  cases ht.symm.trans ht2
  obtain ⟨hcell, -, -, -⟩ := State.arrayAt?_spec harr
  cases hc.symm.trans hcell
  simp only [Term.eval, ht, harr, Option.bind_eq_bind, Option.bind_some] at hv
  by_cases hlt : cell.slots.size < 2147483648
  · exact hlt
  · simp [hlt] at hv
theorem l_tabF {s : State} {args : Array Value} {f : String} {g : Nat → Int32} {A : Nat → Prop} {cA : ClassId} (hl : (Cond.laysStatic "ThinCoats" f "[I").before args s = true) (hini : (Cond.initialized "ThinCoats").before args s = true) (harr : (Cond.arrayOf (.static "ThinCoats" f "[I") .int).before args s = true) (hlen : (Cond.eq (.length (.static "ThinCoats" f "[I")) (.int (Int32.ofNat 6))).before args s = true) (hel : ∀ j : Nat, j < 6 → (Cond.eq (.elem (.static "ThinCoats" f "[I") (.int (Int32.ofNat j))) (.int (g j))).before args s = true) (hex : (Cond.exactly (.static "ThinCoats" f "[I") "[I").before args s = true) (hc : s.vm.findClass "[I" = some cA) (hA : ∀ a : Nat, a < s.heap.size → ¬ A a) : cF cA f g A s s.heap := by
  obtain ⟨t, ht, cell, h1, h2, h3, h4, h5, h6, h7⟩ := va_Tof (f := fun j => .int (g j)) (A := A) (by decide) harr (va_eqt hlen) (fun j hj => va_eqt (hel j hj)) hA
  obtain ⟨a', c', cell', k', g1, g2, g3, g4, g5, g6, -⟩ := Cond.exactly_spec hex
  cases ht.symm.trans g1
  cases h1.symm.trans g3
  have h31 := l_len (va_eqt hlen) ht h1
  have hsz : cell.slots.size = 6 := by
    have e := congrArg Int32.toInt h5
    rw [show cell.slots.size.toInt32 = Int32.ofNat cell.slots.size from rfl, Int32.toInt_ofNat_small h31, Int32.toInt_ofNat_small (by decide)] at e
    omega
  exact ⟨t, cell, va_Zref hl hini ht hA, h1, by rw [g6]; exact Option.some.inj (g2.symm.trans hc), h3, (fun k e => by rw [e] at g5; cases g5), hsz, h6, h7⟩
set_option maxHeartbeats 4000000 in
set_option maxRecDepth 100000 in
theorem l_start {s : State} {b : Nat} (hts : ∀ w ∈ lw_tbl, w.before #[Value.ref b] s = true) (hgv : (Jvm.Cond.and given_1 narrow_1).before #[Value.ref b] s = true) : ∃ N : c_N, (∀ q : Nat, N.2.2.1 q = none) ∧ va_K N.1 vwCl (ctys N) s ∧ cTF (N.2.1 0) (fun q => s.heap.size ≤ q) s s.heap ∧ (∀ w ∈ lw_n, va_Nw w s) ∧ cAO s := by
  have hs := flat_of_before _ hgv
  have hg : ∀ w ∈ lw_g, w.before #[Value.ref b] s = true := fun w h => hts w (lw_g_tbl h)
  have hA : ∀ a : Nat, a < s.heap.size → ¬ (fun q : Nat => s.heap.size ≤ q) a := fun a h => Nat.not_le.mpr h
  obtain ⟨c0, d0, k0⟩ := u_known (C := RX0) (T := TX0) (N := 2) (n := 2) hg cfX0 (hg _ q253)
  obtain ⟨c1, d1, k1⟩ := u_known (C := RX1) (T := TX1) (N := 4) (n := 4) hg cfX1 (hg _ q97)
  obtain ⟨c2, d2, k2⟩ := u_known (C := RX2) (T := TX2) (N := 5) (n := 5) hg cfX2 (hg _ q267)
  obtain ⟨c3, d3, k3⟩ := u_known (C := RX3) (T := TX3) (N := 2) (n := 2) hg cfX3 (hg _ q34)
  obtain ⟨c4, d4, k4⟩ := u_known (C := RX4) (T := TX4) (N := 5) (n := 5) hg cfX4 (hg _ q181)
  obtain ⟨c5, d5, k5⟩ := u_known (C := RX5) (T := TX5) (N := 4) (n := 4) hg cfX5 (hg _ q121)
  obtain ⟨c6, d6, k6⟩ := u_known (C := RX6) (T := TX6) (N := 5) (n := 5) hg cfX6 (hg _ q157)
  obtain ⟨c7, d7, k7⟩ := u_known (C := RX7) (T := TX7) (N := 2) (n := 2) hg cfX7 (hg _ q231)
  obtain ⟨c8, d8, k8⟩ := u_known (C := RX8) (T := TX8) (N := 2) (n := 2) hg cfX8 (hg _ q165)
  obtain ⟨c9, d9, k9⟩ := u_known (C := RX9) (T := TX9) (N := 12) (n := 12) hg cfX9 (hg _ q28)
  obtain ⟨c10, d10, k10⟩ := u_known (C := RX10) (T := TX10) (N := 14) (n := 14) hg cfX10 (hg _ q20)
  obtain ⟨c11, d11, k11⟩ := u_known (C := RX11) (T := TX11) (N := 57) (n := 57) hg cfX11 (hg _ q863)
  obtain ⟨t0, a0, f0⟩ := l_arr (ty := .int) (hg _ q52)
  obtain ⟨t1, a1, f1⟩ := l_arr (ty := .long) (hg _ q1044)
  obtain ⟨t2, a2, f2⟩ := l_arr (ty := .boolean) (hg _ q119)
  obtain ⟨t3, a3, f3⟩ := l_arrO (C := "ThinCoats$Ladder") (hts _ q247)
  obtain ⟨t4, a4, f4⟩ := l_arrO (C := "ThinCoats$Layers") (hts _ q103)
  obtain ⟨t5, a5, f5⟩ := l_arrO (C := "ThinCoats$Matrix") (hts _ q163)
  have hnn : ∀ w ∈ lw_n, va_Nw w s := by
    intro w hw
    have h2 := (List.mem_filter.mp hw).2
    have h1 := hts w (List.mem_filter.mp hw).1
    cases w <;> first | (exact va_Nw.of rfl h1) | (cases h2)
  refine ⟨((fun k => match k with | 0 => c0 | 1 => c1 | 2 => c2 | 3 => c3 | 4 => c4 | 5 => c5 | 6 => c6 | 7 => c7 | 8 => c8 | 9 => c9 | 10 => c10 | _ => c11, fun k => match k with | 0 => d0 | 1 => d1 | 2 => d2 | 3 => d3 | 4 => d4 | 5 => d5 | 6 => d6 | 7 => d7 | 8 => d8 | 9 => d9 | 10 => d10 | _ => d11), (fun k => match k with | 0 => t0 | 1 => t1 | 2 => t2 | 3 => t3 | 4 => t4 | _ => t5), fun _ => none, fun _ _ => 0), fun _ => rfl, ⟨?_, ?_⟩, ⟨⟨?_, ?_, ?_, ?_⟩, ?_, ?_⟩, hnn, va_AO.of (hts _ q103), va_AO.of (hts _ q163), va_AO.of (hts _ q247), va_Nw.of rfl (hts _ q133)⟩
  · intro k q hq
    match k, hq with
    | 0, hq => cases hq; exact k0
    | 1, hq => cases hq; exact k1
    | 2, hq => cases hq; exact k2
    | 3, hq => cases hq; exact k3
    | 4, hq => cases hq; exact k4
    | 5, hq => cases hq; exact k5
    | 6, hq => cases hq; exact k6
    | 7, hq => cases hq; exact k7
    | 8, hq => cases hq; exact k8
    | 9, hq => cases hq; exact k9
    | 10, hq => cases hq; exact k10
    | 11, hq => cases hq; exact k11
    | k + 12, hq => cases hq
  · intro k q hq
    match k, hq with
    | 0, hq => cases hq; exact ⟨a0, f0⟩
    | 1, hq => cases hq; exact ⟨a1, f1⟩
    | 2, hq => cases hq; exact ⟨a2, f2⟩
    | 3, hq => cases hq; exact ⟨a3, f3⟩
    | 4, hq => cases hq; exact ⟨a4, f4⟩
    | 5, hq => cases hq; exact ⟨a5, f5⟩
    | k + 6, hq => cases hq
  · exact l_tab (f := "THICK_P") (n := 7) (g := tkP) (by decide) (hts _ q752) (hg _ q1) (hs _ (by decide +kernel)) (hs _ (by decide +kernel)) (fun j hj => by
      match j, hj with
      | 0, _ => exact hs _ (by decide +kernel)
      | 1, _ => exact hs _ (by decide +kernel)
      | 2, _ => exact hs _ (by decide +kernel)
      | 3, _ => exact hs _ (by decide +kernel)
      | 4, _ => exact hs _ (by decide +kernel)
      | 5, _ => exact hs _ (by decide +kernel)
      | 6, _ => exact hs _ (by decide +kernel)
      | j + 7, h => exact absurd h (by omega)) hA
  · exact l_tab (f := "THICK_Q") (n := 7) (g := tkQ) (by decide) (hts _ q754) (hg _ q1) (hs _ (by decide +kernel)) (hs _ (by decide +kernel)) (fun j hj => by
      match j, hj with
      | 0, _ => exact hs _ (by decide +kernel)
      | 1, _ => exact hs _ (by decide +kernel)
      | 2, _ => exact hs _ (by decide +kernel)
      | 3, _ => exact hs _ (by decide +kernel)
      | 4, _ => exact hs _ (by decide +kernel)
      | 5, _ => exact hs _ (by decide +kernel)
      | 6, _ => exact hs _ (by decide +kernel)
      | j + 7, h => exact absurd h (by omega)) hA
  · exact l_tab (f := "FIRST_U") (n := 6) (g := fsU) (by decide) (hts _ q127) (hg _ q1) (hs _ (by decide +kernel)) (hs _ (by decide +kernel)) (fun j hj => by
      match j, hj with
      | 0, _ => exact hs _ (by decide +kernel)
      | 1, _ => exact hs _ (by decide +kernel)
      | 2, _ => exact hs _ (by decide +kernel)
      | 3, _ => exact hs _ (by decide +kernel)
      | 4, _ => exact hs _ (by decide +kernel)
      | 5, _ => exact hs _ (by decide +kernel)
      | j + 6, h => exact absurd h (by omega)) hA
  · exact l_tab (f := "FIRST_V") (n := 6) (g := fsV) (by decide) (hts _ q136) (hg _ q1) (hs _ (by decide +kernel)) (hs _ (by decide +kernel)) (fun j hj => by
      match j, hj with
      | 0, _ => exact hs _ (by decide +kernel)
      | 1, _ => exact hs _ (by decide +kernel)
      | 2, _ => exact hs _ (by decide +kernel)
      | 3, _ => exact hs _ (by decide +kernel)
      | 4, _ => exact hs _ (by decide +kernel)
      | 5, _ => exact hs _ (by decide +kernel)
      | j + 6, h => exact absurd h (by omega)) hA
  · exact l_tabF (f := "FIRST_U") (g := fsU) (hts _ q127) (hg _ q1) (hs _ (by decide +kernel)) (hs _ (by decide +kernel)) (fun j hj => by
      match j, hj with
      | 0, _ => exact hs _ (by decide +kernel)
      | 1, _ => exact hs _ (by decide +kernel)
      | 2, _ => exact hs _ (by decide +kernel)
      | 3, _ => exact hs _ (by decide +kernel)
      | 4, _ => exact hs _ (by decide +kernel)
      | 5, _ => exact hs _ (by decide +kernel)
      | j + 6, h => exact absurd h (by omega)) (hs _ (by decide +kernel)) f0 hA
  · exact l_tabF (f := "FIRST_V") (g := fsV) (hts _ q136) (hg _ q1) (hs _ (by decide +kernel)) (hs _ (by decide +kernel)) (fun j hj => by
      match j, hj with
      | 0, _ => exact hs _ (by decide +kernel)
      | 1, _ => exact hs _ (by decide +kernel)
      | 2, _ => exact hs _ (by decide +kernel)
      | 3, _ => exact hs _ (by decide +kernel)
      | 4, _ => exact hs _ (by decide +kernel)
      | 5, _ => exact hs _ (by decide +kernel)
      | j + 6, h => exact absurd h (by omega)) (hs _ (by decide +kernel)) f0 hA
