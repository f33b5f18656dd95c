/-! THE CLASS'S WORLD: every cell of it has a kind (a number); N = (class numbers and slots, array classes, the kind of each address, what the rows of indices hold) -/
abbrev c_N : Type := va_G × (Nat → ClassId) × (Nat → Option Nat) × (Nat → Nat → Int32)
def gi (lo hi : Int) (v : Value) : Prop := ∃ x : Int32, v = .int x ∧ ir x lo hi
def ga (v : Value) : Prop := ∃ x : Int32, v = .int x
def gl (v : Value) : Prop := ∃ x : Int64, v = .long x
def gr (N : c_N) (t : Nat) (v : Value) : Prop := ∃ q : Nat, v = .ref q ∧ N.2.2.1 q = some t
theorem gi_mk {lo hi : Int} {x : Int32} (h : ir x lo hi) : gi lo hi (.int x) := ⟨x, rfl, h⟩
theorem ga_mk {x : Int32} : ga (.int x) := ⟨x, rfl⟩
theorem gl_mk {x : Int64} : gl (.long x) := ⟨x, rfl⟩
def cP0 (_ : c_N) : Nat → Value → Prop := fun _ v => gl v
def cP1 (N : c_N) : Nat → Value → Prop := fun k v => match k with
  | 0 => gr N 29 v
  | 1 => gr N 30 v
  | 2 => gi 0 9 v
  | _ => gi 0 10 v
def cP2 (N : c_N) : Nat → Value → Prop := fun k v => match k with
  | 0 => gr N 32 v
  | 1 => gr N 33 v
  | 2 => gr N 4 v
  | 3 => gr N 8 v
  | _ => gi 0 24 v
def cP3 (N : c_N) : Nat → Value → Prop := fun k v => match k with
  | 0 => gr N 20 v
  | _ => gi 0 24 v
def cP4 (_ : c_N) : Nat → Value → Prop := fun k v => match k with
  | 0 => gl v
  | 1 => gl v
  | 2 => gl v
  | 3 => gl v
  | _ => gi 0 1 v
def cP5 (N : c_N) : Nat → Value → Prop := fun k v => match k with
  | 0 => gr N 27 v
  | 1 => gr N 28 v
  | _ => gi 0 5 v
def cP6 (N : c_N) : Nat → Value → Prop := fun k v => match k with
  | 0 => gr N 34 v
  | 1 => gr N 8 v
  | 2 => gr N 24 v
  | 3 => gi 0 42 v
  | _ => ga v
def cP7 (N : c_N) : Nat → Value → Prop := fun k v => match k with
  | 0 => gr N 35 v
  | _ => gr N 25 v
def cP8 (_ : c_N) : Nat → Value → Prop := fun _ v => gl v
def cP9 (N : c_N) : Nat → Value → Prop := fun k v => match k with
  | 0 => gr N 21 v
  | 1 => gi 0 200 v
  | 2 => ga v
  | 3 => ga v
  | 4 => gr N 3 v
  | 5 => gr N 22 v
  | 6 => gr N 23 v
  | 7 => gi 0 4 v
  | 8 => ga v
  | 9 => gi 0 1000 v
  | 10 => ga v
  | _ => ga v
def cP10 (N : c_N) : Nat → Value → Prop := fun k v => match k with
  | 0 => gr N 9 v
  | 1 => gr N 3 v
  | 2 => gr N 1 v
  | 3 => gr N 5 v
  | 4 => gr N 6 v
  | 5 => gr N 7 v
  | 6 => gr N 31 v
  | 7 => gr N 4 v
  | 8 => gr N 8 v
  | 9 => gr N 0 v
  | 10 => gr N 0 v
  | 11 => gr N 0 v
  | 12 => gr N 26 v
  | _ => gi 0 96 v
def cP20 (_ : c_N) : Nat → Value → Prop := fun _ v => gi 0 383 v
def cP21 (_ : c_N) : Nat → Value → Prop := fun _ v => gi 0 255 v
def cP22 (_ : c_N) : Nat → Value → Prop := fun _ v => gi 0 9 v
def cP23 (_ : c_N) : Nat → Value → Prop := fun _ v => gi 0 24 v
def cP24 (_ : c_N) : Nat → Value → Prop := fun _ v => gi 0 41 v
def cP25 (_ : c_N) : Nat → Value → Prop := fun _ v => gi 0 41 v
def cP26 (_ : c_N) : Nat → Value → Prop := fun _ v => ga v
def cP27 (N : c_N) (a : Nat) : Nat → Value → Prop := fun j v => v = .int (N.2.2.2 a j)
def cP29 (N : c_N) : Nat → Value → Prop := fun _ v => gr N 3 v
def cP30 (_ : c_N) : Nat → Value → Prop := fun _ v => gi 0 1 v
def cP31 (N : c_N) : Nat → Value → Prop := fun _ v => gr N 2 v
def cP32 (N : c_N) : Nat → Value → Prop := fun _ v => gr N 4 v
def cP11 (N : c_N) : Nat → Value → Prop := fun k v => match k with
  | 0 => gr N 40 v
  | 1 => gr N 41 v
  | 2 => gi 0 5 v
  | 3 => gi 0 5 v
  | 4 => gr N 42 v
  | 5 => gr N 43 v
  | 6 => gr N 44 v
  | 7 => gi 0 24 v
  | 8 => gr N 45 v
  | 9 => gr N 46 v
  | 10 => gr N 47 v
  | 11 => gr N 48 v
  | 12 => gr N 49 v
  | 13 => gi 0 10 v
  | 14 => gr N 50 v
  | 15 => gi 0 200 v
  | 16 => ga v
  | 17 => ga v
  | 18 => gi 0 200 v
  | 19 => ga v
  | 20 => ga v
  | 21 => gi 0 100 v
  | 22 => ga v
  | 23 => gr N 51 v
  | 24 => gr N 52 v
  | 25 => gr N 53 v
  | 26 => gi 0 100000 v
  | 27 => gr N 54 v
  | 28 => gr N 55 v
  | 29 => gi 0 4 v
  | 30 => gi 0 200 v
  | 31 => gi (-1) 200 v
  | 32 => gl v
  | 33 => gl v
  | 34 => gl v
  | 35 => gl v
  | 36 => gl v
  | 37 => gl v
  | 38 => gi 0 1 v
  | 39 => gl v
  | 40 => gl v
  | 41 => gl v
  | 42 => gl v
  | 43 => gr N 56 v
  | 44 => gr N 57 v
  | 45 => gr N 58 v
  | 46 => gr N 59 v
  | 47 => gr N 60 v
  | 48 => gi 0 1 v
  | 49 => ga v
  | 50 => ga v
  | 51 => ga v
  | 52 => gl v
  | 53 => gl v
  | 54 => gr N 61 v
  | 55 => gi 0 200 v
  | _ => gr N 62 v
def cP42 (_ : c_N) : Nat → Value → Prop := fun _ v => gi 0 5 v
def cP43 (_ : c_N) : Nat → Value → Prop := fun _ v => gi 0 6 v
def cP44 (_ : c_N) : Nat → Value → Prop := fun _ v => gi 0 6 v
def cP45 (_ : c_N) : Nat → Value → Prop := fun _ v => gi 0 5 v
def cP46 (_ : c_N) : Nat → Value → Prop := fun _ v => gi 0 6 v
def cP47 (_ : c_N) : Nat → Value → Prop := fun _ v => gi 0 6 v
def cP48 (_ : c_N) : Nat → Value → Prop := fun _ v => gi 0 24 v
def cP49 (_ : c_N) : Nat → Value → Prop := fun _ v => gi 0 1 v
def cP50 (_ : c_N) : Nat → Value → Prop := fun _ v => gi 0 255 v
def cP51 (_ : c_N) : Nat → Value → Prop := fun _ v => gi 0 5 v
def cP52 (_ : c_N) : Nat → Value → Prop := fun _ v => gi 0 6 v
def cP53 (_ : c_N) : Nat → Value → Prop := fun _ v => gi 0 6 v
def cP54 (_ : c_N) : Nat → Value → Prop := fun _ v => gi 0 9 v
def cP55 (_ : c_N) : Nat → Value → Prop := fun _ v => gi 0 100000 v
def cP56 (_ : c_N) : Nat → Value → Prop := fun _ v => gl v
def cP57 (_ : c_N) : Nat → Value → Prop := fun _ v => gi 0 5 v
def cP58 (_ : c_N) : Nat → Value → Prop := fun _ v => gi 0 6 v
def cP59 (_ : c_N) : Nat → Value → Prop := fun _ v => gi 0 5 v
def cP60 (_ : c_N) : Nat → Value → Prop := fun _ v => gi 0 6 v
def cP61 (_ : c_N) : Nat → Value → Prop := fun _ v => ga v
def cP62 (_ : c_N) : Nat → Value → Prop := fun _ v => gl v
def cK (N : c_N) (a : Nat) (t : Nat) : wt_E := match t with
  | 0 => .inl (0, cP0 N)
  | 1 => .inl (1, cP1 N)
  | 2 => .inl (2, cP2 N)
  | 3 => .inl (3, cP3 N)
  | 4 => .inl (4, cP4 N)
  | 5 => .inl (5, cP5 N)
  | 6 => .inl (6, cP6 N)
  | 7 => .inl (7, cP7 N)
  | 8 => .inl (8, cP8 N)
  | 9 => .inl (9, cP9 N)
  | 10 => .inl (10, cP10 N)
  | 11 => .inl (11, cP11 N)
  | 20 => .inr (N.2.1 0, 24, cP20 N)
  | 21 => .inr (N.2.1 0, 200, cP21 N)
  | 22 => .inr (N.2.1 0, 4, cP22 N)
  | 23 => .inr (N.2.1 0, 4, cP23 N)
  | 24 => .inr (N.2.1 0, 42, cP24 N)
  | 25 => .inr (N.2.1 0, 3, cP25 N)
  | 26 => .inr (N.2.1 0, 96, cP26 N)
  | 27 => .inr (N.2.1 0, 6, cP27 N a)
  | 28 => .inr (N.2.1 0, 6, cP27 N a)
  | 29 => .inr (N.2.1 4, 10, cP29 N)
  | 30 => .inr (N.2.1 2, 10, cP30 N)
  | 31 => .inr (N.2.1 3, 4, cP31 N)
  | 32 => .inr (N.2.1 5, 24, cP32 N)
  | 33 => .inr (N.2.1 5, 25, cP32 N)
  | 34 => .inr (N.2.1 5, 168, cP32 N)
  | 35 => .inr (N.2.1 5, 16, cP32 N)
  | 40 => .inr (N.2.1 0, 6, cP27 N a)
  | 41 => .inr (N.2.1 0, 6, cP27 N a)
  | 42 => .inr (N.2.1 0, 25, cP42 N)
  | 43 => .inr (N.2.1 0, 25, cP43 N)
  | 44 => .inr (N.2.1 0, 25, cP44 N)
  | 45 => .inr (N.2.1 0, 240, cP45 N)
  | 46 => .inr (N.2.1 0, 240, cP46 N)
  | 47 => .inr (N.2.1 0, 240, cP47 N)
  | 48 => .inr (N.2.1 0, 10, cP48 N)
  | 49 => .inr (N.2.1 2, 10, cP49 N)
  | 50 => .inr (N.2.1 0, 200, cP50 N)
  | 51 => .inr (N.2.1 0, 24, cP51 N)
  | 52 => .inr (N.2.1 0, 24, cP52 N)
  | 53 => .inr (N.2.1 0, 24, cP53 N)
  | 54 => .inr (N.2.1 0, 4, cP54 N)
  | 55 => .inr (N.2.1 0, 4, cP55 N)
  | 56 => .inr (N.2.1 1, 64, cP56 N)
  | 57 => .inr (N.2.1 0, 3, cP57 N)
  | 58 => .inr (N.2.1 0, 3, cP58 N)
  | 59 => .inr (N.2.1 0, 3, cP59 N)
  | 60 => .inr (N.2.1 0, 3, cP60 N)
  | 61 => .inr (N.2.1 0, 200, cP61 N)
  | 62 => .inr (N.2.1 1, 8, cP62 N)
  | _ => .inl (0, cP0 N)
def cG (N : c_N) : Nat → Option wt_E := fun a => (N.2.2.1 a).map (cK N a)
theorem cg {N : c_N} {a t : Nat} (h : N.2.2.1 a = some t) {E : wt_E} (hE : cK N a t = E) : cG N a = some E := by
  unfold cG; rw [h, ← hE]; rfl
theorem cg0 {N : c_N} {a : Nat} (h : N.2.2.1 a = some 0) : cG N a = some (.inl (0, cP0 N)) := cg h rfl
theorem cg1 {N : c_N} {a : Nat} (h : N.2.2.1 a = some 1) : cG N a = some (.inl (1, cP1 N)) := cg h rfl
theorem cg2 {N : c_N} {a : Nat} (h : N.2.2.1 a = some 2) : cG N a = some (.inl (2, cP2 N)) := cg h rfl
theorem cg3 {N : c_N} {a : Nat} (h : N.2.2.1 a = some 3) : cG N a = some (.inl (3, cP3 N)) := cg h rfl
theorem cg4 {N : c_N} {a : Nat} (h : N.2.2.1 a = some 4) : cG N a = some (.inl (4, cP4 N)) := cg h rfl
theorem cg5 {N : c_N} {a : Nat} (h : N.2.2.1 a = some 5) : cG N a = some (.inl (5, cP5 N)) := cg h rfl
theorem cg6 {N : c_N} {a : Nat} (h : N.2.2.1 a = some 6) : cG N a = some (.inl (6, cP6 N)) := cg h rfl
theorem cg7 {N : c_N} {a : Nat} (h : N.2.2.1 a = some 7) : cG N a = some (.inl (7, cP7 N)) := cg h rfl
theorem cg8 {N : c_N} {a : Nat} (h : N.2.2.1 a = some 8) : cG N a = some (.inl (8, cP8 N)) := cg h rfl
theorem cg9 {N : c_N} {a : Nat} (h : N.2.2.1 a = some 9) : cG N a = some (.inl (9, cP9 N)) := cg h rfl
theorem cg10 {N : c_N} {a : Nat} (h : N.2.2.1 a = some 10) : cG N a = some (.inl (10, cP10 N)) := cg h rfl
theorem cg11 {N : c_N} {a : Nat} (h : N.2.2.1 a = some 11) : cG N a = some (.inl (11, cP11 N)) := cg h rfl
theorem cg40 {N : c_N} {a : Nat} (h : N.2.2.1 a = some 40) : cG N a = some (.inr (N.2.1 0, 6, cP27 N a)) := cg h rfl
theorem cg41 {N : c_N} {a : Nat} (h : N.2.2.1 a = some 41) : cG N a = some (.inr (N.2.1 0, 6, cP27 N a)) := cg h rfl
theorem cg42 {N : c_N} {a : Nat} (h : N.2.2.1 a = some 42) : cG N a = some (.inr (N.2.1 0, 25, cP42 N)) := cg h rfl
theorem cg43 {N : c_N} {a : Nat} (h : N.2.2.1 a = some 43) : cG N a = some (.inr (N.2.1 0, 25, cP43 N)) := cg h rfl
theorem cg44 {N : c_N} {a : Nat} (h : N.2.2.1 a = some 44) : cG N a = some (.inr (N.2.1 0, 25, cP44 N)) := cg h rfl
theorem cg45 {N : c_N} {a : Nat} (h : N.2.2.1 a = some 45) : cG N a = some (.inr (N.2.1 0, 240, cP45 N)) := cg h rfl
theorem cg46 {N : c_N} {a : Nat} (h : N.2.2.1 a = some 46) : cG N a = some (.inr (N.2.1 0, 240, cP46 N)) := cg h rfl
theorem cg47 {N : c_N} {a : Nat} (h : N.2.2.1 a = some 47) : cG N a = some (.inr (N.2.1 0, 240, cP47 N)) := cg h rfl
theorem cg48 {N : c_N} {a : Nat} (h : N.2.2.1 a = some 48) : cG N a = some (.inr (N.2.1 0, 10, cP48 N)) := cg h rfl
theorem cg49 {N : c_N} {a : Nat} (h : N.2.2.1 a = some 49) : cG N a = some (.inr (N.2.1 2, 10, cP49 N)) := cg h rfl
theorem cg50 {N : c_N} {a : Nat} (h : N.2.2.1 a = some 50) : cG N a = some (.inr (N.2.1 0, 200, cP50 N)) := cg h rfl
theorem cg51 {N : c_N} {a : Nat} (h : N.2.2.1 a = some 51) : cG N a = some (.inr (N.2.1 0, 24, cP51 N)) := cg h rfl
theorem cg52 {N : c_N} {a : Nat} (h : N.2.2.1 a = some 52) : cG N a = some (.inr (N.2.1 0, 24, cP52 N)) := cg h rfl
theorem cg53 {N : c_N} {a : Nat} (h : N.2.2.1 a = some 53) : cG N a = some (.inr (N.2.1 0, 24, cP53 N)) := cg h rfl
theorem cg54 {N : c_N} {a : Nat} (h : N.2.2.1 a = some 54) : cG N a = some (.inr (N.2.1 0, 4, cP54 N)) := cg h rfl
theorem cg55 {N : c_N} {a : Nat} (h : N.2.2.1 a = some 55) : cG N a = some (.inr (N.2.1 0, 4, cP55 N)) := cg h rfl
theorem cg56 {N : c_N} {a : Nat} (h : N.2.2.1 a = some 56) : cG N a = some (.inr (N.2.1 1, 64, cP56 N)) := cg h rfl
theorem cg57 {N : c_N} {a : Nat} (h : N.2.2.1 a = some 57) : cG N a = some (.inr (N.2.1 0, 3, cP57 N)) := cg h rfl
theorem cg58 {N : c_N} {a : Nat} (h : N.2.2.1 a = some 58) : cG N a = some (.inr (N.2.1 0, 3, cP58 N)) := cg h rfl
theorem cg59 {N : c_N} {a : Nat} (h : N.2.2.1 a = some 59) : cG N a = some (.inr (N.2.1 0, 3, cP59 N)) := cg h rfl
theorem cg60 {N : c_N} {a : Nat} (h : N.2.2.1 a = some 60) : cG N a = some (.inr (N.2.1 0, 3, cP60 N)) := cg h rfl
theorem cg61 {N : c_N} {a : Nat} (h : N.2.2.1 a = some 61) : cG N a = some (.inr (N.2.1 0, 200, cP61 N)) := cg h rfl
theorem cg62 {N : c_N} {a : Nat} (h : N.2.2.1 a = some 62) : cG N a = some (.inr (N.2.1 1, 8, cP62 N)) := cg h rfl
theorem cg20 {N : c_N} {a : Nat} (h : N.2.2.1 a = some 20) : cG N a = some (.inr (N.2.1 0, 24, cP20 N)) := cg h rfl
theorem cg21 {N : c_N} {a : Nat} (h : N.2.2.1 a = some 21) : cG N a = some (.inr (N.2.1 0, 200, cP21 N)) := cg h rfl
theorem cg22 {N : c_N} {a : Nat} (h : N.2.2.1 a = some 22) : cG N a = some (.inr (N.2.1 0, 4, cP22 N)) := cg h rfl
theorem cg23 {N : c_N} {a : Nat} (h : N.2.2.1 a = some 23) : cG N a = some (.inr (N.2.1 0, 4, cP23 N)) := cg h rfl
theorem cg24 {N : c_N} {a : Nat} (h : N.2.2.1 a = some 24) : cG N a = some (.inr (N.2.1 0, 42, cP24 N)) := cg h rfl
theorem cg25 {N : c_N} {a : Nat} (h : N.2.2.1 a = some 25) : cG N a = some (.inr (N.2.1 0, 3, cP25 N)) := cg h rfl
theorem cg26 {N : c_N} {a : Nat} (h : N.2.2.1 a = some 26) : cG N a = some (.inr (N.2.1 0, 96, cP26 N)) := cg h rfl
theorem cg27 {N : c_N} {a : Nat} (h : N.2.2.1 a = some 27) : cG N a = some (.inr (N.2.1 0, 6, cP27 N a)) := cg h rfl
theorem cg28 {N : c_N} {a : Nat} (h : N.2.2.1 a = some 28) : cG N a = some (.inr (N.2.1 0, 6, cP27 N a)) := cg h rfl
theorem cg29 {N : c_N} {a : Nat} (h : N.2.2.1 a = some 29) : cG N a = some (.inr (N.2.1 4, 10, cP29 N)) := cg h rfl
theorem cg30 {N : c_N} {a : Nat} (h : N.2.2.1 a = some 30) : cG N a = some (.inr (N.2.1 2, 10, cP30 N)) := cg h rfl
theorem cg31 {N : c_N} {a : Nat} (h : N.2.2.1 a = some 31) : cG N a = some (.inr (N.2.1 3, 4, cP31 N)) := cg h rfl
theorem cg32 {N : c_N} {a : Nat} (h : N.2.2.1 a = some 32) : cG N a = some (.inr (N.2.1 5, 24, cP32 N)) := cg h rfl
theorem cg33 {N : c_N} {a : Nat} (h : N.2.2.1 a = some 33) : cG N a = some (.inr (N.2.1 5, 25, cP32 N)) := cg h rfl
theorem cg34 {N : c_N} {a : Nat} (h : N.2.2.1 a = some 34) : cG N a = some (.inr (N.2.1 5, 168, cP32 N)) := cg h rfl
theorem cg35 {N : c_N} {a : Nat} (h : N.2.2.1 a = some 35) : cG N a = some (.inr (N.2.1 5, 16, cP32 N)) := cg h rfl
def cA (N : c_N) : Nat → Prop := fun q => ∃ t, N.2.2.1 q = some t
theorem ca {N : c_N} {a t : Nat} (h : N.2.2.1 a = some t) : cA N a := ⟨t, h⟩
abbrev cW (N : c_N) (H : Heap) : Prop := wt_P N.1 vwCl (cG N) H
abbrev ctys (N : c_N) : List (ClassId × FieldType) := [(N.2.1 0, .int), (N.2.1 1, .long), (N.2.1 2, .boolean), (N.2.1 3, .object "ThinCoats$Ladder"), (N.2.1 4, .object "ThinCoats$Layers"), (N.2.1 5, .object "ThinCoats$Matrix")]
def tkP (j : Nat) : Int32 := ([1, 1, 2, 1, 3, 2, 3] : List Int32).getD j 0
def tkQ (j : Nat) : Int32 := ([1, 2, 1, 3, 1, 3, 2] : List Int32).getD j 0
def fsU (j : Nat) : Int32 := ([1, 3, 2, 4, 5, 3] : List Int32).getD j 0
def fsV (j : Nat) : Int32 := ([1, 2, 1, 3, 2, 1] : List Int32).getD j 0
def cT1 (f : String) (n : Nat) (g : Nat → Int32) (A : Nat → Prop) (U : State) (H : Heap) : Prop := ∃ t : Nat, va_Z "ThinCoats" f "[I" (.ref t) A U H ∧ va_T .int t n (fun j => .int (g j)) A U H
def cT (A : Nat → Prop) (U : State) (H : Heap) : Prop := cT1 "THICK_P" 7 tkP A U H ∧ cT1 "THICK_Q" 7 tkQ A U H ∧ cT1 "FIRST_U" 6 fsU A U H ∧ cT1 "FIRST_V" 6 fsV A U H
theorem cT1.moved {f : String} {n : Nat} {g : Nat → Int32} {A : Nat → Prop} {u U : State} {H : Heap} (hvm : u.vm.Alike U.vm) (h : cT1 f n g A u H) : cT1 f n g A U H := by
  obtain ⟨t, h1, h2⟩ := h
  exact ⟨t, h1.moved hvm, h2.moved hvm⟩
theorem cT1.kept {f : String} {n : Nat} {g : Nat → Int32} {A : Nat → Prop} {U : State} {H H1 : Heap} (h : cT1 f n g A U H) (hq : ∀ a : Nat, a < H.size → ¬ A a → H1[a]? = H[a]?) : cT1 f n g A U H1 := by
  obtain ⟨t, h1, h2⟩ := h
  exact ⟨t, h1.kept hq, h2.kept hq⟩
theorem cT.moved {A : Nat → Prop} {u U : State} {H : Heap} (hvm : u.vm.Alike U.vm) (h : cT A u H) : cT A U H := ⟨h.1.moved hvm, h.2.1.moved hvm, h.2.2.1.moved hvm, h.2.2.2.moved hvm⟩
theorem cT.kept {A : Nat → Prop} {U : State} {H H1 : Heap} (h : cT A U H) (hq : ∀ a : Nat, a < H.size → ¬ A a → H1[a]? = H[a]?) : cT A U H1 := ⟨h.1.kept hq, h.2.1.kept hq, h.2.2.1.kept hq, h.2.2.2.kept hq⟩
def cS (N : c_N) (U : State) : Prop := va_K N.1 vwCl (ctys N) U ∧ cW N U.heap ∧ cT (cA N) U U.heap ∧ ∀ w ∈ lw_n, va_Nw w U
theorem cS_blind (N : c_N) (As : List Value) : FrameBlind (va_Pc As (cS N)) := by
  intro a U g mk q
  obtain ⟨q0, qK, qW, qT, qn⟩ := q
  exact ⟨q0, va_K.moved (u := U) (U := U.calling g mk a) (Vm.Alike.refl U.vm) qK, qW, cT.moved (u := U) (U := U.calling g mk a) (Vm.Alike.refl U.vm) qT, lw_n_same (s := U) (U := U.calling g mk a) rfl qn⟩
theorem cS_at {N : c_N} {s : State} {H : Heap} {locs : List Loc} (hK : va_K N.1 vwCl (ctys N) s) (hW : cW N H) (hT : cT (cA N) s s.heap) (hnn : ∀ w ∈ lw_n, va_Nw w s) (hS : va_S (cA N) s.heap H locs) (U : State) (hU : U.heap = H) (hw : s.WarmedH U.vm) : cS N U :=
  ⟨va_K.moved hw.alike hK, by rw [hU]; exact hW, by rw [hU]; exact (hT.kept hS.2.1).moved hw.alike, lw_n_warm hw hnn⟩
theorem pS_pre {s : State} {H : Heap} {As : List Value} : PreS s H (va_Pc As (fun _ => True)) As := ⟨fun _ _ _ _ q => q, fun _ _ _ => ⟨rfl, trivial⟩⟩
abbrev pMi (l : Launch) (y : MethodName) (b : ByteArray) (n : Nat) (r : FieldType) (rm : Room) (As : List Value) (post : Int32 → Prop) : Prop := Met l y (wc_ws y b n (some r)) rm (va_Pc As (fun _ => True)) (va_Qi (fun r (_ : Unit) => post r) (fun _ _ => True) (fun _ => False)) 0 0 (fun _ => False)
abbrev pMl (l : Launch) (y : MethodName) (b : ByteArray) (n : Nat) (r : FieldType) (rm : Room) (As : List Value) (post : Int64 → Prop) : Prop := Met l y (wc_ws y b n (some r)) rm (va_Pc As (fun _ => True)) (va_Ql (fun r (_ : Unit) => post r) (fun _ _ => True) (fun _ => False)) 0 0 (fun _ => False)
section CCC
variable {p : Program} {l : Launch} {e : Env} {R : Room} {s : State} {m : MethodId} {args : Array Value} {below : List Frame} {meth : Method} {c : Code} {H : Heap} {locs : List Loc} {cells slots : Nat} {Q : State → Prop}
variable {pc : Nat} {ls : Array Slot} {rest st0 : List Value} {a : Array Value} {H0 : Heap} {N : c_N} {g : JFrame}
theorem wq_all (h : ∀ WW : Heap → List Loc → JFrame → Prop, (∀ H' locs' g', W p l e R s m args below meth c H' locs' cells slots Q g' → WW H' locs' g') → (∀ H' locs' g', WW H' locs' g' → W p l e R s m args below meth c H' locs' cells slots Q g') → W p l e R s m args below meth c H locs cells slots Q g) : W p l e R s m args below meth c H locs cells slots Q g :=
  h _ (fun _ _ _ h => h) (fun _ _ _ h => h)
theorem pp_i {post : Int32 → Unit → Prop} (hr : va_Run p l e R s m args below meth c H locs cells slots 0 0 (F0 m pc ls st0) rest (va_Qi post (fun _ _ => True) (fun _ => False) a) (fun _ => False)) (hS : va_S (fun _ => False) H0 H locs)
    (kk : ∀ (r : Int32) (H1 : Heap) (locs1 : List Loc), post r () → va_S (fun _ => False) H0 H1 locs1 → W p l e R s m args below meth c H1 locs1 cells slots Q (F0 m (pc + 3) ls (.int r :: rest))) : W p l e R s m args below meth c H locs cells slots Q (F0 m pc ls st0) :=
  va_calli hr hS (fun _ _ h => h) (fun _ h => h) (fun r _ _ H1 locs1 _ _ hp _ _ _ hS1 => kk r H1 locs1 hp hS1)
theorem pp_l {post : Int64 → Unit → Prop} (hr : va_Run p l e R s m args below meth c H locs cells slots 0 0 (F0 m pc ls st0) rest (va_Ql post (fun _ _ => True) (fun _ => False) a) (fun _ => False)) (hS : va_S (fun _ => False) H0 H locs)
    (kk : ∀ (r : Int64) (H1 : Heap) (locs1 : List Loc), post r () → va_S (fun _ => False) H0 H1 locs1 → W p l e R s m args below meth c H1 locs1 cells slots Q (F0 m (pc + 3) ls (.long r :: rest))) : W p l e R s m args below meth c H locs cells slots Q (F0 m pc ls st0) :=
  va_calll hr hS (fun _ _ h => h) (fun _ h => h) (fun r _ _ H1 locs1 _ _ hp _ _ _ hS1 => kk r H1 locs1 hp hS1)
end CCC
theorem tkP_r {i : Int32} (h : vp_in i 7) : ir (tkP i.toNatClampNeg) 1 3 := by
  have hlt : i.toNatClampNeg < 7 := Nat.not_le.mp fun q => h (Or.inr q)
  have key : ∀ n : Nat, n < 7 → 1 ≤ (tkP n).toInt ∧ (tkP n).toInt ≤ 3 := by decide +kernel
  exact key _ hlt
theorem tkQ_r {i : Int32} (h : vp_in i 7) : ir (tkQ i.toNatClampNeg) 1 3 := by
  have hlt : i.toNatClampNeg < 7 := Nat.not_le.mp fun q => h (Or.inr q)
  have key : ∀ n : Nat, n < 7 → 1 ≤ (tkQ n).toInt ∧ (tkQ n).toInt ≤ 3 := by decide +kernel
  exact key _ hlt
theorem cW_at {N : c_N} {t : State} {H : Heap} (ht : t.heap = H) (hW : cW N H) : cW N t.heap := by rw [ht]; exact hW
