/-! THE LAW: its rows -/
def lC (p : Program) (s : State) (m : MethodId) (c : Code) (N : c_N) (o1 o2 b L : Nat) (xs : Nat → Int32) : Prop :=
  p.tables.exec = Jvm.exec ∧ c.code = cL_law ∧ c.maxLocals = 4 ∧ s.vm.findClass RL = some m.cls ∧ (∀ w ∈ lw_g, w.before #[Value.ref b] s = true) ∧ va_X b L xs s s.heap ∧ b < s.heap.size ∧ va_K N.1 vwCl (ctys N) s ∧ cT (fun q => s.heap.size ≤ q) s s.heap ∧ (∀ w ∈ lw_n, va_Nw w s) ∧ (∀ a t : Nat, N.2.2.1 a = some t → s.heap.size ≤ a) ∧ N.2.2.1 o1 = some 10 ∧ N.2.2.1 o2 = some 11 ∧ mOK N
def lD (s : State) (N : c_N) (o2 : Nat) (H : Heap) (locs : List Loc) : Prop := cW N H ∧ mI N o2 H ∧ va_S (fun q => s.heap.size ≤ q) s.heap H locs
theorem l_in {i x k : Int32} {L : Nat} (e : x = i + k) (K : ir k 0 5) (hi : 0 ≤ i.toInt ∧ i.toInt + 6 ≤ (L : Int) ∧ L ≤ 3072) : vp_in x L := by
  have I : ir i 0 3072 := by constructor <;> omega
  have h := it_add e I K (by decide) (by decide)
  exact vp_in_iff.mpr ⟨by omega, by omega⟩
section LAW
variable {p : Program} {l : Launch} {e : Env} {s : State} {m : MethodId} {below : List Frame} {meth : Method} {c : Code} {H : Heap} {locs : List Loc} {cells slots : Nat} {Q : State → Prop} {b L : Nat} {xs : Nat → Int32} {N : c_N} {o1 o2 : Nat} {d0 : Drawn}
variable {y : MethodName} {bytes : ByteArray} {maxL n index pc : Nat} {r : FieldType} {rm : Room} {As rest st : List Value} {ls : Array Slot} {S F : List Nat}
theorem lk_i (hC : lC p s m c N o1 o2 b L xs) (hd0 : s.drawn.sameBut d0 lw_cs) (hD : lD s N o2 H locs) (hcs : cells ≤ 600000 ∧ slots ≤ 7302250) {post : Int32 → Prop} (hM : cMiD l y bytes maxL r rm (.ref o1 :: As) N S cT0 post) (cm : wc_VM RX10 y bytes maxL (some r) n) (hlk : Cond.methodLink RL index y ∈ lw_g) (hrm : rm.cells = 0 ∧ rm.slots = 0) (hR : rm.frames + 1 ≤ 2048 ∧ 8 + (maxL + 11) + rm.locals ≤ 84000) (hn : As.length = n) (hsize : ls.size = 4) (hstack : st = As.reverse ++ .ref o1 :: rest) (hrest : (rest.map fun v => v.category).sum ≤ 8) (hdg : decode cL_law pc = .ok (.invokevirtual index, 3)) (h11 : 11 ∉ S) (hT : ∀ t ∈ mT, t ∉ S)
    (kk : ∀ (r : Int32) (H1 : Heap) (locs1 : List Loc) (d1 : Drawn), lD s N o2 H1 locs1 → s.drawn.sameBut d1 lw_cs → W p l e room_1 (s.setDrawn d1) m #[Value.ref b] below meth c H1 locs1 cells slots Q (F0 m (pc + 3) ls (.int r :: rest))) : W p l e room_1 (s.setDrawn d0) m #[Value.ref b] below meth c H locs cells slots Q (F0 m pc ls st) := by
  obtain ⟨hx, hb, hml, hown, hts, hX, hbl, hK, hT0, hnn, hA, k10, k11, hO⟩ := hC
  obtain ⟨hW, hI, hS⟩ := hD
  have hE : ∀ q : Nat, cE N S q → s.heap.size ≤ q := fun q h => by obtain ⟨t, _, h2⟩ := h; exact hA q t h2
  refine va_calliD hd0 (wt_runV_D (As := As) (rest := rest) ⟨hx, hb, hml, hown, dr_words hts _⟩ hM cm hlk hrm hR (cS_preA (s := s.setDrawn d0) (A := fun q => s.heap.size ≤ q) hK hW hT0 (lw_n_same (s := s) rfl hnn) hS hA (cg10 k10) rfl rfl trivial) hn hsize hstack hrest hdg ⟨by show cells + 0 ≤ 600000; omega, by show slots + 0 ≤ 7302250; omega⟩) hS (fun q _ h => hE q h) hE (fun r u t H1 locs1 ht _ _ hB _ hk hS1 d1 hd1 => ?_)
  exact kk r H1 locs1 d1 ⟨by rw [← ht]; exact hB, mI_call hI hW k11 hk h11 hT, hS1⟩ hd1
theorem lk_l (hC : lC p s m c N o1 o2 b L xs) (hd0 : s.drawn.sameBut d0 lw_cs) (hD : lD s N o2 H locs) (hcs : cells ≤ 600000 ∧ slots ≤ 7302250) {post : Int64 → Prop} (hM : cMlD l y bytes maxL r rm (.ref o1 :: As) N S cT0 post) (cm : wc_VM RX10 y bytes maxL (some r) n) (hlk : Cond.methodLink RL index y ∈ lw_g) (hrm : rm.cells = 0 ∧ rm.slots = 0) (hR : rm.frames + 1 ≤ 2048 ∧ 8 + (maxL + 11) + rm.locals ≤ 84000) (hn : As.length = n) (hsize : ls.size = 4) (hstack : st = As.reverse ++ .ref o1 :: rest) (hrest : (rest.map fun v => v.category).sum ≤ 8) (hdg : decode cL_law pc = .ok (.invokevirtual index, 3)) (h11 : 11 ∉ S) (hT : ∀ t ∈ mT, t ∉ S)
    (kk : ∀ (r : Int64) (H1 : Heap) (locs1 : List Loc) (d1 : Drawn), lD s N o2 H1 locs1 → s.drawn.sameBut d1 lw_cs → W p l e room_1 (s.setDrawn d1) m #[Value.ref b] below meth c H1 locs1 cells slots Q (F0 m (pc + 3) ls (.long r :: rest))) : W p l e room_1 (s.setDrawn d0) m #[Value.ref b] below meth c H locs cells slots Q (F0 m pc ls st) := by
  obtain ⟨hx, hb, hml, hown, hts, hX, hbl, hK, hT0, hnn, hA, k10, k11, hO⟩ := hC
  obtain ⟨hW, hI, hS⟩ := hD
  have hE : ∀ q : Nat, cE N S q → s.heap.size ≤ q := fun q h => by obtain ⟨t, _, h2⟩ := h; exact hA q t h2
  refine va_calllD hd0 (wt_runV_D (As := As) (rest := rest) ⟨hx, hb, hml, hown, dr_words hts _⟩ hM cm hlk hrm hR (cS_preA (s := s.setDrawn d0) (A := fun q => s.heap.size ≤ q) hK hW hT0 (lw_n_same (s := s) rfl hnn) hS hA (cg10 k10) rfl rfl trivial) hn hsize hstack hrest hdg ⟨by show cells + 0 ≤ 600000; omega, by show slots + 0 ≤ 7302250; omega⟩) hS (fun q _ h => hE q h) hE (fun r u t H1 locs1 ht _ _ hB _ hk hS1 d1 hd1 => ?_)
  exact kk r H1 locs1 d1 ⟨by rw [← ht]; exact hB, mI_call hI hW k11 hk h11 hT, hS1⟩ hd1
theorem lm_i (hC : lC p s m c N o1 o2 b L xs) (hd0 : s.drawn.sameBut d0 lw_cs) (hD : lD s N o2 H locs) (hcs : cells ≤ 600000 ∧ slots ≤ 7302250) {post : Int32 → Prop} (hM : ∀ V : Nat → Value, cMi2D l y bytes maxL r rm (.ref o2 :: As) N S (fun H => mI N o2 H ∧ kp N o2 F V H) post (fun _ H => mI N o2 H ∧ kp N o2 F V H)) (cm : wc_VM RX11 y bytes maxL (some r) n) (hlk : Cond.methodLink RL index y ∈ lw_g) (hrm : rm.cells = 0 ∧ rm.slots = 0) (hR : rm.frames + 1 ≤ 2048 ∧ 8 + (maxL + 11) + rm.locals ≤ 84000) (hn : As.length = n) (hsize : ls.size = 4) (hstack : st = As.reverse ++ .ref o2 :: rest) (hrest : (rest.map fun v => v.category).sum ≤ 8) (hdg : decode cL_law pc = .ok (.invokevirtual index, 3))
    (kk : ∀ (r : Int32) (H1 : Heap) (locs1 : List Loc) (d1 : Drawn), lD s N o2 H1 locs1 → s.drawn.sameBut d1 lw_cs → W p l e room_1 (s.setDrawn d1) m #[Value.ref b] below meth c H1 locs1 cells slots Q (F0 m (pc + 3) ls (.int r :: rest))) : W p l e room_1 (s.setDrawn d0) m #[Value.ref b] below meth c H locs cells slots Q (F0 m pc ls st) := by
  obtain ⟨hx, hb, hml, hown, hts, hX, hbl, hK, hT0, hnn, hA, k10, k11, hO⟩ := hC
  obtain ⟨hW, hI, hS⟩ := hD
  have hE : ∀ q : Nat, cE N S q → s.heap.size ≤ q := fun q h => by obtain ⟨t, _, h2⟩ := h; exact hA q t h2
  obtain ⟨V, hV⟩ := kp_all hW k11
  refine va_calliD hd0 (wt_runV_D (As := As) (rest := rest) ⟨hx, hb, hml, hown, dr_words hts _⟩ (hM V) cm hlk hrm hR (cS_preA (s := s.setDrawn d0) (A := fun q => s.heap.size ≤ q) (B := fun H => mI N o2 H ∧ kp N o2 F V H) hK hW hT0 (lw_n_same (s := s) rfl hnn) hS hA (cg11 k11) rfl rfl ⟨hI, kp_of hV⟩) hn hsize hstack hrest hdg ⟨by show cells + 0 ≤ 600000; omega, by show slots + 0 ≤ 7302250; omega⟩) hS (fun q _ h => hE q h) hE (fun r u t H1 locs1 ht _ _ hB _ hk hS1 d1 hd1 => ?_)
  exact kk r H1 locs1 d1 ⟨by rw [← ht]; exact hB.1, by rw [← ht]; exact hB.2.1, hS1⟩ hd1
theorem lm_l (hC : lC p s m c N o1 o2 b L xs) (hd0 : s.drawn.sameBut d0 lw_cs) (hD : lD s N o2 H locs) (hcs : cells ≤ 600000 ∧ slots ≤ 7302250) {post : Int64 → Prop} (hM : ∀ V : Nat → Value, cMl2D l y bytes maxL r rm (.ref o2 :: As) N S (fun H => mI N o2 H ∧ kp N o2 F V H) post (fun _ H => mI N o2 H ∧ kp N o2 F V H)) (cm : wc_VM RX11 y bytes maxL (some r) n) (hlk : Cond.methodLink RL index y ∈ lw_g) (hrm : rm.cells = 0 ∧ rm.slots = 0) (hR : rm.frames + 1 ≤ 2048 ∧ 8 + (maxL + 11) + rm.locals ≤ 84000) (hn : As.length = n) (hsize : ls.size = 4) (hstack : st = As.reverse ++ .ref o2 :: rest) (hrest : (rest.map fun v => v.category).sum ≤ 8) (hdg : decode cL_law pc = .ok (.invokevirtual index, 3))
    (kk : ∀ (r : Int64) (H1 : Heap) (locs1 : List Loc) (d1 : Drawn), lD s N o2 H1 locs1 → s.drawn.sameBut d1 lw_cs → W p l e room_1 (s.setDrawn d1) m #[Value.ref b] below meth c H1 locs1 cells slots Q (F0 m (pc + 3) ls (.long r :: rest))) : W p l e room_1 (s.setDrawn d0) m #[Value.ref b] below meth c H locs cells slots Q (F0 m pc ls st) := by
  obtain ⟨hx, hb, hml, hown, hts, hX, hbl, hK, hT0, hnn, hA, k10, k11, hO⟩ := hC
  obtain ⟨hW, hI, hS⟩ := hD
  have hE : ∀ q : Nat, cE N S q → s.heap.size ≤ q := fun q h => by obtain ⟨t, _, h2⟩ := h; exact hA q t h2
  obtain ⟨V, hV⟩ := kp_all hW k11
  refine va_calllD hd0 (wt_runV_D (As := As) (rest := rest) ⟨hx, hb, hml, hown, dr_words hts _⟩ (hM V) cm hlk hrm hR (cS_preA (s := s.setDrawn d0) (A := fun q => s.heap.size ≤ q) (B := fun H => mI N o2 H ∧ kp N o2 F V H) hK hW hT0 (lw_n_same (s := s) rfl hnn) hS hA (cg11 k11) rfl rfl ⟨hI, kp_of hV⟩) hn hsize hstack hrest hdg ⟨by show cells + 0 ≤ 600000; omega, by show slots + 0 ≤ 7302250; omega⟩) hS (fun q _ h => hE q h) hE (fun r u t H1 locs1 ht _ _ hB _ hk hS1 d1 hd1 => ?_)
  exact kk r H1 locs1 d1 ⟨by rw [← ht]; exact hB.1, by rw [← ht]; exact hB.2.1, hS1⟩ hd1
theorem lk_x (hC : lC p s m c N o1 o2 b L xs) (hd0 : s.drawn.sameBut d0 lw_cs) (hD : lD s N o2 H locs) (hcs : cells ≤ 600000 ∧ slots ≤ 7302250) {aU aV : Nat} (kU : N.2.2.1 aU = some 27) (kV : N.2.2.1 aV = some 28) (uq : ∀ a b t : Nat, 27 ≤ t → t ≤ 28 → N.2.2.1 a = some t → N.2.2.1 b = some t → a = b) (hX9 : ∀ j : Nat, j < 6 → ir (N.2.2.2 aU j) 1 9 ∧ ir (N.2.2.2 aV j) 1 9) {p1 p2 p3 : Int32} (hlk : Cond.methodLink RL index yX10_index ∈ lw_g) (hsize : ls.size = 4) (hrest : (rest.map fun v => v.category).sum ≤ 8) (hdg : decode cL_law pc = .ok (.invokevirtual index, 3))
    (kk : ∀ (r : Int32) (X : Nat → Nat → Int32) (H1 : Heap) (locs1 : List Loc) (d1 : Drawn), ixq N aU aV p1 p2 p3 r X → lD s (nX N X) o2 H1 locs1 → s.drawn.sameBut d1 lw_cs → W p l e room_1 (s.setDrawn d1) m #[Value.ref b] below meth c H1 locs1 cells slots Q (F0 m (pc + 3) ls (.int r :: rest))) : W p l e room_1 (s.setDrawn d0) m #[Value.ref b] below meth c H locs cells slots Q (F0 m pc ls (.int p3 :: .int p2 :: .int p1 :: .ref o1 :: rest)) := by
  obtain ⟨hx, hb, hml, hown, hts, hX, hbl, hK, hT0, hnn, hA, k10, k11, hO⟩ := hC
  obtain ⟨hW, hI, hS⟩ := hD
  have hE : ∀ q : Nat, cE N [27, 28] q → s.heap.size ≤ q := fun q h => by obtain ⟨t, _, h2⟩ := h; exact hA q t h2
  refine va_calliD hd0 (wt_runV_D (As := [.int p1, .int p2, .int p3]) (rest := rest) ⟨hx, hb, hml, hown, dr_words hts _⟩ (MetD.of_met (m_X10_index l N o1 k10 p1 p2 p3 aU aV kU kV uq hX9)) wm_X10_index hlk ⟨rfl, rfl⟩ ⟨Nat.le_of_ble_eq_true rfl, Nat.le_of_ble_eq_true rfl⟩ (cS_preA (s := s.setDrawn d0) (A := fun q => s.heap.size ≤ q) hK hW hT0 (lw_n_same (s := s) rfl hnn) hS hA (cg10 k10) rfl rfl trivial) rfl hsize rfl hrest hdg ⟨by show cells + 0 ≤ 600000; omega, by show slots + 0 ≤ 7302250; omega⟩) hS (fun q _ h => hE q h) hE (fun r X t H1 locs1 ht _ hp hB _ hk hS1 d1 hd1 => ?_)
  exact kk r X H1 locs1 d1 hp ⟨by rw [← ht]; exact hB, mI_call (N := N) hI hW k11 hk (by decide) (by decide), hS1⟩ hd1
theorem lm_x (hC : lC p s m c N o1 o2 b L xs) (hd0 : s.drawn.sameBut d0 lw_cs) (hD : lD s N o2 H locs) (hcs : cells ≤ 600000 ∧ slots ≤ 7302250) {bU bV : Nat} (kU : N.2.2.1 bU = some 40) (kV : N.2.2.1 bV = some 41) {p1 p2 p3 : Int32} (hlk : Cond.methodLink RL index yX11_index ∈ lw_g) (hsize : ls.size = 4) (hrest : (rest.map fun v => v.category).sum ≤ 8) (hdg : decode cL_law pc = .ok (.invokevirtual index, 3))
    (kk : ∀ (r : Int32) (X : Nat → Nat → Int32) (H1 : Heap) (locs1 : List Loc) (d1 : Drawn), ixr N bU bV p1 p2 p3 r X → lD s (nX N X) o2 H1 locs1 → s.drawn.sameBut d1 lw_cs → W p l e room_1 (s.setDrawn d1) m #[Value.ref b] below meth c H1 locs1 cells slots Q (F0 m (pc + 3) ls (.int r :: rest))) : W p l e room_1 (s.setDrawn d0) m #[Value.ref b] below meth c H locs cells slots Q (F0 m pc ls (.int p3 :: .int p2 :: .int p1 :: .ref o2 :: rest)) := by
  obtain ⟨hx, hb, hml, hown, hts, hX, hbl, hK, hT0, hnn, hA, k10, k11, hO⟩ := hC
  obtain ⟨hW, hI, hS⟩ := hD
  have hE : ∀ q : Nat, cE N [40, 41] q → s.heap.size ≤ q := fun q h => by obtain ⟨t, _, h2⟩ := h; exact hA q t h2
  refine va_calliD hd0 (wt_runV_D (As := [.int p1, .int p2, .int p3]) (rest := rest) ⟨hx, hb, hml, hown, dr_words hts _⟩ (MetD.of_met (m_X11_index l N o2 k11 hO p1 p2 p3 bU bV kU kV)) wm_X11_index hlk ⟨rfl, rfl⟩ ⟨Nat.le_of_ble_eq_true rfl, Nat.le_of_ble_eq_true rfl⟩ (cS_preA (s := s.setDrawn d0) (A := fun q => s.heap.size ≤ q) hK hW hT0 (lw_n_same (s := s) rfl hnn) hS hA (cg11 k11) rfl rfl trivial) rfl hsize rfl hrest hdg ⟨by show cells + 0 ≤ 600000; omega, by show slots + 0 ≤ 7302250; omega⟩) hS (fun q _ h => hE q h) hE (fun r X t H1 locs1 ht _ hp hB _ hk hS1 d1 hd1 => ?_)
  exact kk r X H1 locs1 d1 hp ⟨by rw [← ht]; exact hB, mI_call (N := N) hI hW k11 hk (by decide) (by decide), hS1⟩ hd1
end LAW
/-! what both index() make of the rows -/
def ixB (a b x y : Nat) : Bool := ((a == 0 || b == 0 || x == 0 || y == 0 || Nat.gcd x y != 1) : Bool) || ((a * y == b * x) == (x == a / Nat.gcd a b && y == b / Nat.gcd a b))
def ixC (a b : Nat) : Bool := (a == 0 || b == 0) || (Nat.ble 1 (a / Nat.gcd a b) && (Nat.ble (a / Nat.gcd a b) 9 && (Nat.ble 1 (b / Nat.gcd a b) && (Nat.ble (b / Nat.gcd a b) 9 && Nat.gcd (a / Nat.gcd a b) (b / Nat.gcd a b) == 1))))
theorem ix_all : ∀ a b x y : Fin 10, ixB a.val b.val x.val y.val = true := by decide +kernel
theorem ix_alc : ∀ a b : Fin 10, ixC a.val b.val = true := by decide +kernel
theorem ix_key (a : Nat) (ha : a < 10) (b : Nat) (hb : b < 10) (x : Nat) (hx : x < 10) (y : Nat) (hy : y < 10) (ha1 : 1 ≤ a) (hb1 : 1 ≤ b) (hx1 : 1 ≤ x) (hy1 : 1 ≤ y) (hg : Nat.gcd x y = 1) : a * y = b * x ↔ (x = a / Nat.gcd a b ∧ y = b / Nat.gcd a b) := by
  have h : ixB a b x y = true := ix_all ⟨a, ha⟩ ⟨b, hb⟩ ⟨x, hx⟩ ⟨y, hy⟩
  unfold ixB at h
  rw [Bool.or_eq_true] at h
  rcases h with h | h
  · exfalso
    simp only [Bool.or_eq_true, beq_iff_eq, bne_iff_ne, ne_eq] at h
    omega
  · rw [beq_iff_eq] at h
    constructor
    · intro e
      rw [beq_iff_eq.mpr e] at h
      have h := h.symm
      rw [Bool.and_eq_true, beq_iff_eq, beq_iff_eq] at h
      exact h
    · intro e
      rw [beq_iff_eq.mpr e.1, beq_iff_eq.mpr e.2] at h
      exact beq_iff_eq.mp h
theorem ix_red (a : Nat) (ha : a < 10) (b : Nat) (hb : b < 10) (ha1 : 1 ≤ a) (hb1 : 1 ≤ b) : (1 ≤ a / Nat.gcd a b ∧ a / Nat.gcd a b ≤ 9) ∧ (1 ≤ b / Nat.gcd a b ∧ b / Nat.gcd a b ≤ 9) ∧ Nat.gcd (a / Nat.gcd a b) (b / Nat.gcd a b) = 1 := by
  have h : ixC a b = true := ix_alc ⟨a, ha⟩ ⟨b, hb⟩
  unfold ixC at h
  rw [Bool.or_eq_true] at h
  rcases h with h | h
  · exfalso
    simp only [Bool.or_eq_true, beq_iff_eq] at h
    omega
  · simp only [Bool.and_eq_true, beq_iff_eq] at h
    exact ⟨⟨Nat.le_of_ble_eq_true h.1, Nat.le_of_ble_eq_true h.2.1⟩, ⟨Nat.le_of_ble_eq_true h.2.2.1, Nat.le_of_ble_eq_true h.2.2.2.1⟩, h.2.2.2.2⟩
theorem ix_nat {x : Int32} (h : ir x 1 9) : ∃ a : Nat, x.toInt = (a : Int) ∧ a < 10 ∧ 1 ≤ a := ⟨x.toInt.toNat, by omega, by omega, by omega⟩
theorem ix_div {p q : Int32} (P : ir p 1 9) (Q : ir q 1 9) {a b : Nat} (ha : p.toInt = (a : Int)) (hb : q.toInt = (b : Int)) : (p / gI p q).toInt = ((a / Nat.gcd a b : Nat) : Int) ∧ (q / gI p q).toInt = ((b / Nat.gcd a b : Nat) : Int) := by
  have hG := gI_r P Q
  have hg : (gI p q).toInt = ((Nat.gcd a b : Nat) : Int) := by rw [hG.1, ha, hb]; rfl
  have dp := it_div (x := p / gI p q) rfl P hG.2 (by decide) (by decide)
  have dq := it_div (x := q / gI p q) rfl Q hG.2 (by decide) (by decide)
  rw [ha, hg, ← Int.ofNat_tdiv] at dp
  rw [hb, hg, ← Int.ofNat_tdiv] at dq
  exact ⟨dp, dq⟩
theorem ix_iff {p q u v : Int32} (P : ir p 1 9) (Q : ir q 1 9) (U : ir u 1 9) (V : ir v 1 9) (hg : Int.gcd u.toInt v.toInt = 1) : p * v = q * u ↔ (u = p / gI p q ∧ v = q / gI p q) := by
  obtain ⟨a, ha, ha1, ha2⟩ := ix_nat P
  obtain ⟨b, hb, hb1, hb2⟩ := ix_nat Q
  obtain ⟨x, hx, hx1, hx2⟩ := ix_nat U
  obtain ⟨y, hy, hy1, hy2⟩ := ix_nat V
  have hxy : Nat.gcd x y = 1 := by rw [hx, hy] at hg; exact hg
  have key := ix_key a ha1 b hb1 x hx1 y hy1 ha2 hb2 hx2 hy2 hxy
  have hd := ix_div P Q ha hb
  have mp := (it_mul (x := p * v) rfl P V (by decide) (by decide) (by decide)).1
  have mq := (it_mul (x := q * u) rfl Q U (by decide) (by decide) (by decide)).1
  rw [ha, hy, ← Int.natCast_mul] at mp
  rw [hb, hx, ← Int.natCast_mul] at mq
  constructor
  · intro h
    have h1 : (p * v).toInt = (q * u).toInt := by rw [h]
    rw [mp, mq] at h1
    have h2 := key.mp (Int.ofNat_inj.mp h1)
    exact ⟨Int32.toInt_inj.mp (by rw [hx, hd.1, ← h2.1]), Int32.toInt_inj.mp (by rw [hy, hd.2, ← h2.2])⟩
  · intro h
    have h1 : x = a / Nat.gcd a b := by
      have e := congrArg Int32.toInt h.1
      rw [hx, hd.1] at e
      exact Int.ofNat_inj.mp e
    have h2 : y = b / Nat.gcd a b := by
      have e := congrArg Int32.toInt h.2
      rw [hy, hd.2] at e
      exact Int.ofNat_inj.mp e
    exact Int32.toInt_inj.mp (by rw [mp, mq, key.mpr ⟨h1, h2⟩])
theorem ix_new {p q : Int32} (P : ir p 1 9) (Q : ir q 1 9) : ir (p / gI p q) 1 9 ∧ ir (q / gI p q) 1 9 ∧ Int.gcd (p / gI p q).toInt (q / gI p q).toInt = 1 := by
  obtain ⟨a, ha, ha1, ha2⟩ := ix_nat P
  obtain ⟨b, hb, hb1, hb2⟩ := ix_nat Q
  have hd := ix_div P Q ha hb
  have key := ix_red a ha1 b hb1 ha2 hb2
  refine ⟨?_, ?_, ?_⟩
  · rw [ir, hd.1]; constructor <;> omega
  · rw [ir, hd.2]; constructor <;> omega
  · rw [hd.1, hd.2]; exact key.2.2
def LV (X : Nat → Nat → Int32) (aU aV bU bV : Nat) : Prop := ∀ j : Nat, j < 6 → X aU j = X bU j ∧ X aV j = X bV j ∧ ir (X aU j) 1 9 ∧ ir (X aV j) 1 9 ∧ Int.gcd (X aU j).toInt (X aV j).toInt = 1
theorem ix_uX {X : Nat → Nat → Int32} {a a2 j i : Nat} {v : Int32} (h : a2 ≠ a) : uX X a j v a2 i = X a2 i := if_neg (fun z => h z.1)
theorem ix_uXs {X : Nat → Nat → Int32} {a j : Nat} {v : Int32} : uX X a j v a j = v := if_pos ⟨rfl, rfl⟩
theorem ix_uXo {X : Nat → Nat → Int32} {a j i : Nat} {v : Int32} (h : i ≠ j) : uX X a j v a i = X a i := if_neg (fun z => h z.2)
theorem ix_same {N : c_N} {aU aV bU bV : Nat} {p1 p2 p3 r r2 : Int32} {X X2 : Nat → Nat → Int32} (hV : LV N.2.2.2 aU aV bU bV) (n1 : aU ≠ aV) (n2 : aU ≠ bU) (n3 : aU ≠ bV) (n4 : aV ≠ bU) (n5 : aV ≠ bV) (n6 : bU ≠ bV) (h1 : ixq N aU aV p1 p2 p3 r X) (h2 : ixr (nX N X) bU bV p1 p2 p3 r2 X2) : r = r2 ∧ LV X2 aU aV bU bV := by
  have h2 : ((ir p1 0 5 ∧ ir p2 1 9 ∧ ir p3 1 9) → ((X bU p1.toNatClampNeg = p2 / gI p2 p3 ∧ X bV p1.toNatClampNeg = p3 / gI p2 p3) → r2 = 0 ∧ X2 = X) ∧ (¬ (X bU p1.toNatClampNeg = p2 / gI p2 p3 ∧ X bV p1.toNatClampNeg = p3 / gI p2 p3) → r2 = 1 ∧ X2 = uX (uX X bU p1.toNatClampNeg (p2 / gI p2 p3)) bV p1.toNatClampNeg (p3 / gI p2 p3))) ∧ (¬ (ir p1 0 5 ∧ ir p2 1 9 ∧ ir p3 1 9) → r2 = 0 ∧ X2 = X) := h2
  by_cases hr : ir p1 0 5 ∧ ir p2 1 9 ∧ ir p3 1 9
  · obtain ⟨P1, P2, P3⟩ := hr
    have hj : p1.toNatClampNeg < 6 := by have h9 := (ir_clamp P1 (by decide)).1; omega
    have g1 : (p2 * N.2.2.2 aV p1.toNatClampNeg = p3 * N.2.2.2 aU p1.toNatClampNeg → r = 0 ∧ X = N.2.2.2) ∧ (¬ p2 * N.2.2.2 aV p1.toNatClampNeg = p3 * N.2.2.2 aU p1.toNatClampNeg → r = 1 ∧ X = uX (uX N.2.2.2 aU p1.toNatClampNeg (p2 / gI p2 p3)) aV p1.toNatClampNeg (p3 / gI p2 p3)) := h1.1 ⟨P1, P2, P3⟩
    have g2 := h2.1 ⟨P1, P2, P3⟩
    generalize p1.toNatClampNeg = j at hj g1 g2
    obtain ⟨v1, v2, v3, v4, v5⟩ := hV j hj
    have hif := ix_iff P2 P3 v3 v4 v5
    by_cases hc : p2 * N.2.2.2 aV j = p3 * N.2.2.2 aU j
    · have g3 : r = 0 ∧ X = N.2.2.2 := g1.1 hc
      obtain ⟨e1, e2⟩ := g3
      have h3 := hif.mp hc
      obtain ⟨e3, e4⟩ := g2.1 ⟨by rw [e2, ← v1]; exact h3.1, by rw [e2, ← v2]; exact h3.2⟩
      exact ⟨by rw [e1, e3], by rw [e4, e2]; exact hV⟩
    · have g3 : r = 1 ∧ X = uX (uX N.2.2.2 aU j (p2 / gI p2 p3)) aV j (p3 / gI p2 p3) := g1.2 hc
      obtain ⟨e1, e2⟩ := g3
      have b1 : ∀ i : Nat, X bU i = N.2.2.2 bU i := fun i => by rw [e2, ix_uX (fun z => n4 z.symm), ix_uX (fun z => n2 z.symm)]
      have b2 : ∀ i : Nat, X bV i = N.2.2.2 bV i := fun i => by rw [e2, ix_uX (fun z => n5 z.symm), ix_uX (fun z => n3 z.symm)]
      obtain ⟨e3, e4⟩ := g2.2 (fun h => hc (hif.mpr ⟨by rw [v1, ← b1]; exact h.1, by rw [v2, ← b2]; exact h.2⟩))
      refine ⟨by rw [e1, e3], fun i hi => ?_⟩
      have c1 : X2 aU i = uX N.2.2.2 aU j (p2 / gI p2 p3) aU i := by rw [e4, ix_uX n3, ix_uX n2, e2, ix_uX n1]
      have c2 : X2 aV i = uX (uX N.2.2.2 aU j (p2 / gI p2 p3)) aV j (p3 / gI p2 p3) aV i := by rw [e4, ix_uX n5, ix_uX n4, e2]
      have c3 : X2 bU i = uX X bU j (p2 / gI p2 p3) bU i := by rw [e4, ix_uX n6]
      have c4 : X2 bV i = uX (uX X bU j (p2 / gI p2 p3)) bV j (p3 / gI p2 p3) bV i := by rw [e4]
      rw [c1, c2, c3, c4]
      by_cases hij : i = j
      · subst hij
        rw [ix_uXs, ix_uXs, ix_uXs, ix_uXs]
        exact ⟨rfl, rfl, ix_new P2 P3⟩
      · rw [ix_uXo hij, ix_uXo hij, ix_uXo hij, ix_uXo hij, ix_uX (fun z => n1 z.symm), ix_uX (fun z => n6 z.symm), b1, b2]
        exact hV i hi
  · obtain ⟨e1, e2⟩ := h1.2 hr
    obtain ⟨e3, e4⟩ := h2.2 hr
    exact ⟨by rw [e1, e3], by rw [e4, e2]; exact hV⟩
