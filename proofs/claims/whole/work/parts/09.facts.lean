def PTs : List (Nat × Nat) := [(0, 15), (0, 21), (0, 25), (0, 36), (0, 40), (3, 9), (3, 15), (3, 19), (3, 22), (3, 25), (3, 28), (3, 31), (3, 35), (3, 38), (3, 41), (3, 45), (3, 48), (3, 51), (3, 54), (4, 9), (4, 15), (4, 18), (4, 22), (4, 25), (4, 28), (5, 9), (5, 15), (5, 18), (6, 9), (6, 15), (6, 19), (6, 22), (6, 25), (6, 28), (6, 31), (6, 34), (6, 37), (6, 41), (7, 7), (8, 9), (8, 15), (8, 18), (8, 21), (8, 24), (8, 28), (8, 32), (8, 35), (8, 38), (8, 41), (8, 45), (8, 48), (8, 51), (8, 54), (8, 57), (8, 60), (9, 11), (9, 17), (9, 21), (9, 25), (9, 28), (9, 34), (9, 38), (9, 57), (9, 60), (9, 74), (10, 13), (10, 17), (10, 24), (10, 31), (10, 38), (10, 44), (10, 51), (10, 55), (10, 205), (10, 260), (11, 7), (11, 13), (11, 16), (11, 19), (11, 22), (11, 25), (11, 28), (11, 31), (11, 35), (11, 38), (11, 41), (11, 44), (11, 47), (11, 50), (11, 53), (11, 57), (11, 60), (11, 63), (11, 66), (11, 70), (11, 73), (11, 76), (11, 79), (11, 82), (11, 85), (11, 88), (11, 94), (11, 122), (11, 128), (11, 135), (11, 146), (11, 153), (11, 156), (11, 259), (11, 281), (11, 295), (11, 298), (11, 321)]
def pok (c ix : Nat) : Bool := PTs.contains (c, ix)
def tyRef (t : FieldType) : Bool := match t with
  | .object _ => true
  | .array _ => true
  | _ => false
/-- a kind of objects -/
def KdP (ci : Nat) : Prop := ∃ (C : String) (T : u_T) (ty : Nat → FieldType), vwCl[ci]? = some (C, T, nf ci) ∧ (∀ w ∈ u_ws C T (nf ci), w ∈ gwl) ∧ (∀ k, k < nf ci → parseFieldDescriptor (T k).2.2.1 = some (ty k)) ∧ (∀ a, a < nf ci → ∀ b, b < nf ci → a ≠ b → (T a).2.1 ≠ (T b).2.1) ∧ (∀ j, j < nf ci → (ft ci j = 0 ∧ ty j = .int) ∨ (ft ci j = 1 ∧ ty j = .boolean) ∨ (ft ci j = 2 ∧ tyRef (ty j) = true)) ∧ Cond.instantiable C (nf ci) ∈ gwl ∧ Cond.initialized C ∈ gwl ∧ ownS ci = C
/-- a field's row, at a kind of objects -/
def FkP (c ix j b ci : Nat) : Prop := ∃ (C : String) (T : u_T), vwCl[ci]? = some (C, T, nf ci) ∧ j < nf ci ∧ ft ci j = ft b j ∧ (T j).2.2.2 = fin c ix ∧ ∃ ref : String, ((Cond.fieldLink (ownS c) ix ref (T j).2.1 (T j).2.2.1 ∈ gwl ∧ (pok c ix = true → (T j).2.2.2 = true → (T j).1 = ownS c)) ∨ (∃ host : String, Cond.fieldLinkNest (ownS c) ix ref (T j).2.1 (T j).2.2.1 host ∈ nwl ∧ (pok c ix = true → (T j).2.2.2 = false))) ∧ ((T j).1 = ref ∨ Cond.sameField ref (T j).1 (T j).2.1 (T j).2.2.1 ∈ gwl)
def FtP (r : Nat × Nat × Nat × Nat) : Prop := ∀ ci, kin r.2.2.2 ci = true → FkP r.1 r.2.1 r.2.2.1 r.2.2.2 ci
def stC (t : Nat) : String × String × String := [("FourLorries", "LEAST", "[I"), ("FourLorries", "GREATEST", "[I"), ("FourLorries$TextReader", "DIGITS", "[I"), ("FourLorries$TextReader", "LETTERS", "[C"), ("FourLorries$Outlook", "TWELVES", "[J")].getD t ("", "", "")
def StP (r : Nat × Nat × Nat) : Prop := r.2.2 < 5 ∧ (Cond.fieldLink (ownS r.1) r.2.1 (stC r.2.2).1 (stC r.2.2).2.1 (stC r.2.2).2.2 ∈ gwl ∨ ∃ host : String, Cond.fieldLinkNest (ownS r.1) r.2.1 (stC r.2.2).1 (stC r.2.2).2.1 (stC r.2.2).2.2 host ∈ nwl)
def LtP (r : Nat × Nat × Nat) : Prop := r.2.2 < 12 ∧ Cond.classLink (ownS r.1) r.2.1 (ownS r.2.2) ∈ gwl
def KtP (r : Nat × Nat × Value) : Prop := match r.2.2 with
  | .int x => Cond.constant (ownS r.1) r.2.1 x ∈ gwl
  | .long x => Cond.constantLong (ownS r.1) r.2.1 x ∈ gwl
  | _ => False
abbrev prm (d : String) (n : Nat) : Prop := (parseMethodDescriptor d).map (fun d => d.parameters.length) = some n
def DsP (c ix n ci k : Nat) : Prop := k < 999 → k < 221 ∧ ∃ x : MethodName, Cond.methodLink (ownS c) ix x ∈ gwl ∧ Cond.sameMethod x.cls RX4 x.name x.desc ∈ gwl ∧ Cond.selects (ownS ci) x (mY (mro k)) ∈ gwl ∧ Cond.instanceMethod (mY (mro k)) ∈ gwl ∧ Cond.instanceMethod ⟨RX4, x.name, x.desc⟩ ∈ gwl ∧ (∃ (b : ByteArray) (m : Nat) (r : Option FieldType), Cond.code ⟨RX4, x.name, x.desc⟩ b m r ∈ gwl) ∧ prm x.desc n
def MlP (r : Nat × Nat × Nat × Nat × Nat × Nat × Nat) : Prop := match r with
  | (c, ix, 0, n, a, _, _) => a < 221 ∧ Cond.methodLink (ownS c) ix (mY (mro a)) ∈ gwl ∧ Cond.instanceMethod (mY (mro a)) ∈ gwl ∧ Cond.selects (mY (mro a)).cls (mY (mro a)) (mY (mro a)) ∈ gwl ∧ prm (mY (mro a)).desc n ∧ mC (mro a) < 12
  | (c, ix, 2, n, a, _, _) => a < 221 ∧ Cond.methodLink (ownS c) ix (mY (mro a)) ∈ gwl ∧ Cond.static (mY (mro a)) ∈ gwl ∧ prm (mY (mro a)).desc n
  | (c, ix, 3, n, a, _, _) => a < 221 ∧ Cond.methodLink (ownS c) ix (mY (mro a)) ∈ gwl ∧ Cond.instanceMethod (mY (mro a)) ∈ gwl ∧ (mY (mro a)).name = "<init>" ∧ prm (mY (mro a)).desc n ∧ mR (mro a) = none
  | (c, ix, 4, n, a, _, _) => a < 221 ∧ (∃ host : String, Cond.methodLinkNest (ownS c) ix (mY (mro a)) host ∈ nwl) ∧ Cond.instanceMethod (mY (mro a)) ∈ gwl ∧ (mY (mro a)).name = "<init>" ∧ prm (mY (mro a)).desc n ∧ mR (mro a) = none
  | (c, ix, 5, n, a, b, d) => DsP c ix n 4 a ∧ DsP c ix n 2 b ∧ DsP c ix n 1 d
  | (c, ix, 6, n, a, _, _) => a < 221 ∧ Cond.methodLink (ownS c) ix (mY (mro a)) ∈ gwl ∧ Cond.sameMethod (mY (mro a)).cls (mY (mro a)).cls (mY (mro a)).name (mY (mro a)).desc ∈ gwl ∧ Cond.superclass (ownS c) (mY (mro a)).cls ∈ gwl ∧ Cond.instanceMethod (mY (mro a)) ∈ gwl ∧ (mY (mro a)).name ≠ "<init>" ∧ prm (mY (mro a)).desc n
  | (c, ix, 7, _, _, _, _) => Cond.methodLink (ownS c) ix objectInit ∈ gwl
  | (c, ix, 8, _, _, _, _) => Cond.methodLink (ownS c) ix arraycopyName ∈ gwl
  | (c, ix, 9, _, _, _, _) => Cond.methodLink (ownS c) ix ⟨"[I", "clone", "()Ljava/lang/Object;"⟩ ∈ gwl
  | (c, ix, 10, _, _, _, _) => Cond.methodLink (ownS c) ix Lib.Math.min.name ∈ gwl
  | _ => True
set_option maxRecDepth 20000 in
theorem kd0 : KdP 0 := ⟨RX0, TX0, tyX0, rfl, gm_ps [463, 465, 467, 469, 471] (by decide +kernel) (by decide +kernel), tyX0_ok, nmX0, (by decide +kernel), (gm 429 (by decide +kernel) rfl), (gm 82 (by decide +kernel) rfl), (by decide +kernel)⟩
set_option maxRecDepth 20000 in
theorem kd1 : KdP 1 := ⟨RX1, TX1, tyX1, rfl, gm_ps [688, 690, 692, 694, 696, 698] (by decide +kernel) (by decide +kernel), tyX1_ok, nmX1, (by decide +kernel), (gm 652 (by decide +kernel) rfl), (gm 87 (by decide +kernel) rfl), (by decide +kernel)⟩
set_option maxRecDepth 20000 in
theorem kd2 : KdP 2 := ⟨RX2, TX2, tyX2, rfl, gm_ps [704, 705, 706, 707, 708, 709] (by decide +kernel) (by decide +kernel), tyX2_ok, nmX2, (by decide +kernel), (gm 702 (by decide +kernel) rfl), (gm 86 (by decide +kernel) rfl), (by decide +kernel)⟩
set_option maxRecDepth 20000 in
theorem kd3 : KdP 3 := ⟨RX3, TX3, tyX3, rfl, gm_ps [162, 164, 166, 168, 170, 172, 174, 176, 178, 180, 182, 184, 186, 188] (by decide +kernel) (by decide +kernel), tyX3_ok, nmX3, (by decide +kernel), (gm 143 (by decide +kernel) rfl), (gm 75 (by decide +kernel) rfl), (by decide +kernel)⟩
set_option maxRecDepth 20000 in
theorem kd4 : KdP 4 := ⟨RX4, TX4, tyX4, rfl, gm_ps [713, 714, 715, 716, 717, 718] (by decide +kernel) (by decide +kernel), tyX4_ok, nmX4, (by decide +kernel), (gm 711 (by decide +kernel) rfl), (gm 85 (by decide +kernel) rfl), (by decide +kernel)⟩
set_option maxRecDepth 20000 in
theorem kd5 : KdP 5 := ⟨RX5, TX5, tyX5, rfl, gm_ps [316, 318, 320] (by decide +kernel) (by decide +kernel), tyX5_ok, nmX5, (by decide +kernel), (gm 304 (by decide +kernel) rfl), (gm 80 (by decide +kernel) rfl), (by decide +kernel)⟩
set_option maxRecDepth 20000 in
theorem kd6 : KdP 6 := ⟨RX6, TX6, tyX6, rfl, gm_ps [120, 122, 124, 126, 128, 130, 132, 134, 136, 138] (by decide +kernel) (by decide +kernel), tyX6_ok, nmX6, (by decide +kernel), (gm 100 (by decide +kernel) rfl), (gm 74 (by decide +kernel) rfl), (by decide +kernel)⟩
set_option maxRecDepth 20000 in
theorem kd7 : KdP 7 := ⟨RX7, TX7, tyX7, rfl, gm_ps [301] (by decide +kernel) (by decide +kernel), tyX7_ok, nmX7, (by decide +kernel), (gm 294 (by decide +kernel) rfl), (gm 79 (by decide +kernel) rfl), (by decide +kernel)⟩
set_option maxRecDepth 20000 in
theorem kd8 : KdP 8 := ⟨RX8, TX8, tyX8, rfl, gm_ps [227, 229, 231, 233, 235, 237, 239, 241, 243, 245, 247, 249, 251, 253, 255, 257] (by decide +kernel) (by decide +kernel), tyX8_ok, nmX8, (by decide +kernel), (gm 201 (by decide +kernel) rfl), (gm 77 (by decide +kernel) rfl), (by decide +kernel)⟩
set_option maxRecDepth 20000 in
theorem kd9 : KdP 9 := ⟨RX9, TX9, tyX9, rfl, gm_ps [276, 278, 280, 282, 284, 286, 288] (by decide +kernel) (by decide +kernel), tyX9_ok, nmX9, (by decide +kernel), (gm 193 (by decide +kernel) rfl), (gm 76 (by decide +kernel) rfl), (by decide +kernel)⟩
set_option maxRecDepth 20000 in
theorem kd10 : KdP 10 := ⟨RX10, TX10, tyX10, rfl, gm_ps [331, 333, 335, 337, 339, 341, 343, 345] (by decide +kernel) (by decide +kernel), tyX10_ok, nmX10, (by decide +kernel), (gm 90 (by decide +kernel) rfl), (gm 73 (by decide +kernel) rfl), (by decide +kernel)⟩
set_option maxRecDepth 20000 in
theorem kd11 : KdP 11 := ⟨RX11, TX11, tyX11, rfl, gm_ps [1049, 1051, 1053, 1055, 1057, 1059, 1061, 1063, 1065, 1067, 1069, 1071, 1073, 1075, 1077, 1079, 1081, 1083, 1085, 1087, 1089, 1091, 1093, 1095, 1097, 1099, 1101, 1103, 1105, 1107, 1109, 1111, 1113, 1115, 1117, 1119, 1121, 1123] (by decide +kernel) (by decide +kernel), tyX11_ok, nmX11, (by decide +kernel), (gm 1005 (by decide +kernel) rfl), (gm 81 (by decide +kernel) rfl), (by decide +kernel)⟩
theorem kds : ∀ ci, ci < 12 → KdP ci := by
  intro ci h
  match ci, h with
  | 0, _ => exact kd0
  | 1, _ => exact kd1
  | 2, _ => exact kd2
  | 3, _ => exact kd3
  | 4, _ => exact kd4
  | 5, _ => exact kd5
  | 6, _ => exact kd6
  | 7, _ => exact kd7
  | 8, _ => exact kd8
  | 9, _ => exact kd9
  | 10, _ => exact kd10
  | 11, _ => exact kd11
  | n + 12, h => exact absurd h (by omega)
theorem fk0_6 : FkP 0 9 5 6 6 := ⟨RX6, TX6, rfl, (by decide +kernel), (by decide +kernel), (by decide +kernel), "FourLorries$TextReader", Or.inr ⟨"FourLorries", nm 110 (by decide +kernel) rfl, (by decide +kernel)⟩, Or.inl (by decide +kernel)⟩
theorem ft0_ok : FtP (0, 9, 5, 6) := fun ci h => by
  rcases (show ci = 6 by unfold kin at h; simp at h; omega) with rfl
  · exact fk0_6
theorem fk1_0 : FkP 0 15 0 0 0 := ⟨RX0, TX0, rfl, (by decide +kernel), (by decide +kernel), (by decide +kernel), "FourLorries$Camp", Or.inl ⟨(gm 450 (by decide +kernel) rfl), (by decide +kernel)⟩, Or.inl (by decide +kernel)⟩
theorem ft1_ok : FtP (0, 15, 0, 0) := fun ci h => by
  rcases (show ci = 0 by unfold kin at h; simp at h; omega) with rfl
  · exact fk1_0
theorem fk2_6 : FkP 0 18 6 6 6 := ⟨RX6, TX6, rfl, (by decide +kernel), (by decide +kernel), (by decide +kernel), "FourLorries$TextReader", Or.inr ⟨"FourLorries", nm 112 (by decide +kernel) rfl, (by decide +kernel)⟩, Or.inl (by decide +kernel)⟩
theorem ft2_ok : FtP (0, 18, 6, 6) := fun ci h => by
  rcases (show ci = 6 by unfold kin at h; simp at h; omega) with rfl
  · exact fk2_6
theorem fk3_0 : FkP 0 21 1 0 0 := ⟨RX0, TX0, rfl, (by decide +kernel), (by decide +kernel), (by decide +kernel), "FourLorries$Camp", Or.inl ⟨(gm 453 (by decide +kernel) rfl), (by decide +kernel)⟩, Or.inl (by decide +kernel)⟩
theorem ft3_ok : FtP (0, 21, 1, 0) := fun ci h => by
  rcases (show ci = 0 by unfold kin at h; simp at h; omega) with rfl
  · exact fk3_0
theorem fk4_6 : FkP 0 22 7 6 6 := ⟨RX6, TX6, rfl, (by decide +kernel), (by decide +kernel), (by decide +kernel), "FourLorries$TextReader", Or.inr ⟨"FourLorries", nm 114 (by decide +kernel) rfl, (by decide +kernel)⟩, Or.inl (by decide +kernel)⟩
theorem ft4_ok : FtP (0, 22, 7, 6) := fun ci h => by
  rcases (show ci = 6 by unfold kin at h; simp at h; omega) with rfl
  · exact fk4_6
theorem fk5_0 : FkP 0 25 2 0 0 := ⟨RX0, TX0, rfl, (by decide +kernel), (by decide +kernel), (by decide +kernel), "FourLorries$Camp", Or.inl ⟨(gm 456 (by decide +kernel) rfl), (by decide +kernel)⟩, Or.inl (by decide +kernel)⟩
theorem ft5_ok : FtP (0, 25, 2, 0) := fun ci h => by
  rcases (show ci = 0 by unfold kin at h; simp at h; omega) with rfl
  · exact fk5_0
theorem fk6_6 : FkP 0 26 8 6 6 := ⟨RX6, TX6, rfl, (by decide +kernel), (by decide +kernel), (by decide +kernel), "FourLorries$TextReader", Or.inr ⟨"FourLorries", nm 116 (by decide +kernel) rfl, (by decide +kernel)⟩, Or.inl (by decide +kernel)⟩
theorem ft6_ok : FtP (0, 26, 8, 6) := fun ci h => by
  rcases (show ci = 6 by unfold kin at h; simp at h; omega) with rfl
  · exact fk6_6
theorem fk7_0 : FkP 0 36 3 0 0 := ⟨RX0, TX0, rfl, (by decide +kernel), (by decide +kernel), (by decide +kernel), "FourLorries$Camp", Or.inl ⟨(gm 459 (by decide +kernel) rfl), (by decide +kernel)⟩, Or.inl (by decide +kernel)⟩
theorem ft7_ok : FtP (0, 36, 3, 0) := fun ci h => by
  rcases (show ci = 0 by unfold kin at h; simp at h; omega) with rfl
  · exact fk7_0
theorem fk8_6 : FkP 0 37 9 6 6 := ⟨RX6, TX6, rfl, (by decide +kernel), (by decide +kernel), (by decide +kernel), "FourLorries$TextReader", Or.inr ⟨"FourLorries", nm 118 (by decide +kernel) rfl, (by decide +kernel)⟩, Or.inl (by decide +kernel)⟩
theorem ft8_ok : FtP (0, 37, 9, 6) := fun ci h => by
  rcases (show ci = 6 by unfold kin at h; simp at h; omega) with rfl
  · exact fk8_6
theorem fk9_0 : FkP 0 40 4 0 0 := ⟨RX0, TX0, rfl, (by decide +kernel), (by decide +kernel), (by decide +kernel), "FourLorries$Camp", Or.inl ⟨(gm 460 (by decide +kernel) rfl), (by decide +kernel)⟩, Or.inl (by decide +kernel)⟩
theorem ft9_ok : FtP (0, 40, 4, 0) := fun ci h => by
  rcases (show ci = 0 by unfold kin at h; simp at h; omega) with rfl
  · exact fk9_0
theorem fk10_1 : FkP 1 7 1 1 1 := ⟨RX1, TX1, rfl, (by decide +kernel), (by decide +kernel), (by decide +kernel), "FourLorries$Common", Or.inl ⟨(gm 666 (by decide +kernel) rfl), (by decide +kernel)⟩, Or.inr (gm 667 (by decide +kernel) rfl)⟩
theorem ft10_ok : FtP (1, 7, 1, 1) := fun ci h => by
  rcases (show ci = 1 by unfold kin at h; simp at h; omega) with rfl
  · exact fk10_1
theorem fk11_1 : FkP 1 13 2 1 1 := ⟨RX1, TX1, rfl, (by decide +kernel), (by decide +kernel), (by decide +kernel), "FourLorries$Common", Or.inl ⟨(gm 673 (by decide +kernel) rfl), (by decide +kernel)⟩, Or.inr (gm 674 (by decide +kernel) rfl)⟩
theorem ft11_ok : FtP (1, 13, 2, 1) := fun ci h => by
  rcases (show ci = 1 by unfold kin at h; simp at h; omega) with rfl
  · exact fk11_1
theorem fk12_2 : FkP 2 9 1 2 2 := ⟨RX2, TX2, rfl, (by decide +kernel), (by decide +kernel), (by decide +kernel), "FourLorries$Filed", Or.inl ⟨(gm 668 (by decide +kernel) rfl), (by decide +kernel)⟩, Or.inr (gm 669 (by decide +kernel) rfl)⟩
theorem fk12_1 : FkP 2 9 1 2 1 := ⟨RX1, TX1, rfl, (by decide +kernel), (by decide +kernel), (by decide +kernel), "FourLorries$Filed", Or.inl ⟨(gm 668 (by decide +kernel) rfl), (by decide +kernel)⟩, Or.inr (gm 669 (by decide +kernel) rfl)⟩
theorem ft12_ok : FtP (2, 9, 1, 2) := fun ci h => by
  rcases (show ci = 2 ∨ ci = 1 by unfold kin at h; simp at h; omega) with rfl | rfl
  · exact fk12_2
  · exact fk12_1
theorem fk13_2 : FkP 2 15 2 2 2 := ⟨RX2, TX2, rfl, (by decide +kernel), (by decide +kernel), (by decide +kernel), "FourLorries$Filed", Or.inl ⟨(gm 675 (by decide +kernel) rfl), (by decide +kernel)⟩, Or.inr (gm 676 (by decide +kernel) rfl)⟩
theorem fk13_1 : FkP 2 15 2 2 1 := ⟨RX1, TX1, rfl, (by decide +kernel), (by decide +kernel), (by decide +kernel), "FourLorries$Filed", Or.inl ⟨(gm 675 (by decide +kernel) rfl), (by decide +kernel)⟩, Or.inr (gm 676 (by decide +kernel) rfl)⟩
theorem ft13_ok : FtP (2, 15, 2, 2) := fun ci h => by
  rcases (show ci = 2 ∨ ci = 1 by unfold kin at h; simp at h; omega) with rfl | rfl
  · exact fk13_2
  · exact fk13_1
theorem fk14_3 : FkP 3 9 0 3 3 := ⟨RX3, TX3, rfl, (by decide +kernel), (by decide +kernel), (by decide +kernel), "FourLorries$Outlook", Or.inl ⟨(gm 148 (by decide +kernel) rfl), (by decide +kernel)⟩, Or.inl (by decide +kernel)⟩
theorem ft14_ok : FtP (3, 9, 0, 3) := fun ci h => by
  rcases (show ci = 3 by unfold kin at h; simp at h; omega) with rfl
  · exact fk14_3
theorem fk15_3 : FkP 3 15 1 3 3 := ⟨RX3, TX3, rfl, (by decide +kernel), (by decide +kernel), (by decide +kernel), "FourLorries$Outlook", Or.inl ⟨(gm 149 (by decide +kernel) rfl), (by decide +kernel)⟩, Or.inl (by decide +kernel)⟩
theorem ft15_ok : FtP (3, 15, 1, 3) := fun ci h => by
  rcases (show ci = 3 by unfold kin at h; simp at h; omega) with rfl
  · exact fk15_3
theorem fk16_3 : FkP 3 19 2 3 3 := ⟨RX3, TX3, rfl, (by decide +kernel), (by decide +kernel), (by decide +kernel), "FourLorries$Outlook", Or.inl ⟨(gm 150 (by decide +kernel) rfl), (by decide +kernel)⟩, Or.inl (by decide +kernel)⟩
theorem ft16_ok : FtP (3, 19, 2, 3) := fun ci h => by
  rcases (show ci = 3 by unfold kin at h; simp at h; omega) with rfl
  · exact fk16_3
theorem fk17_3 : FkP 3 22 3 3 3 := ⟨RX3, TX3, rfl, (by decide +kernel), (by decide +kernel), (by decide +kernel), "FourLorries$Outlook", Or.inl ⟨(gm 151 (by decide +kernel) rfl), (by decide +kernel)⟩, Or.inl (by decide +kernel)⟩
theorem ft17_ok : FtP (3, 22, 3, 3) := fun ci h => by
  rcases (show ci = 3 by unfold kin at h; simp at h; omega) with rfl
  · exact fk17_3
theorem fk18_3 : FkP 3 25 4 3 3 := ⟨RX3, TX3, rfl, (by decide +kernel), (by decide +kernel), (by decide +kernel), "FourLorries$Outlook", Or.inl ⟨(gm 152 (by decide +kernel) rfl), (by decide +kernel)⟩, Or.inl (by decide +kernel)⟩
theorem ft18_ok : FtP (3, 25, 4, 3) := fun ci h => by
  rcases (show ci = 3 by unfold kin at h; simp at h; omega) with rfl
  · exact fk18_3
theorem fk19_3 : FkP 3 28 5 3 3 := ⟨RX3, TX3, rfl, (by decide +kernel), (by decide +kernel), (by decide +kernel), "FourLorries$Outlook", Or.inl ⟨(gm 153 (by decide +kernel) rfl), (by decide +kernel)⟩, Or.inl (by decide +kernel)⟩
theorem ft19_ok : FtP (3, 28, 5, 3) := fun ci h => by
  rcases (show ci = 3 by unfold kin at h; simp at h; omega) with rfl
  · exact fk19_3
theorem fk20_3 : FkP 3 31 6 3 3 := ⟨RX3, TX3, rfl, (by decide +kernel), (by decide +kernel), (by decide +kernel), "FourLorries$Outlook", Or.inl ⟨(gm 154 (by decide +kernel) rfl), (by decide +kernel)⟩, Or.inl (by decide +kernel)⟩
theorem ft20_ok : FtP (3, 31, 6, 3) := fun ci h => by
  rcases (show ci = 3 by unfold kin at h; simp at h; omega) with rfl
  · exact fk20_3
theorem fk21_3 : FkP 3 35 7 3 3 := ⟨RX3, TX3, rfl, (by decide +kernel), (by decide +kernel), (by decide +kernel), "FourLorries$Outlook", Or.inl ⟨(gm 155 (by decide +kernel) rfl), (by decide +kernel)⟩, Or.inl (by decide +kernel)⟩
theorem ft21_ok : FtP (3, 35, 7, 3) := fun ci h => by
  rcases (show ci = 3 by unfold kin at h; simp at h; omega) with rfl
  · exact fk21_3
theorem fk22_3 : FkP 3 38 8 3 3 := ⟨RX3, TX3, rfl, (by decide +kernel), (by decide +kernel), (by decide +kernel), "FourLorries$Outlook", Or.inl ⟨(gm 156 (by decide +kernel) rfl), (by decide +kernel)⟩, Or.inl (by decide +kernel)⟩
theorem ft22_ok : FtP (3, 38, 8, 3) := fun ci h => by
  rcases (show ci = 3 by unfold kin at h; simp at h; omega) with rfl
  · exact fk22_3
theorem fk23_3 : FkP 3 41 9 3 3 := ⟨RX3, TX3, rfl, (by decide +kernel), (by decide +kernel), (by decide +kernel), "FourLorries$Outlook", Or.inl ⟨(gm 157 (by decide +kernel) rfl), (by decide +kernel)⟩, Or.inl (by decide +kernel)⟩
theorem ft23_ok : FtP (3, 41, 9, 3) := fun ci h => by
  rcases (show ci = 3 by unfold kin at h; simp at h; omega) with rfl
  · exact fk23_3
theorem fk24_3 : FkP 3 45 10 3 3 := ⟨RX3, TX3, rfl, (by decide +kernel), (by decide +kernel), (by decide +kernel), "FourLorries$Outlook", Or.inl ⟨(gm 158 (by decide +kernel) rfl), (by decide +kernel)⟩, Or.inl (by decide +kernel)⟩
theorem ft24_ok : FtP (3, 45, 10, 3) := fun ci h => by
  rcases (show ci = 3 by unfold kin at h; simp at h; omega) with rfl
  · exact fk24_3
theorem fk25_3 : FkP 3 48 11 3 3 := ⟨RX3, TX3, rfl, (by decide +kernel), (by decide +kernel), (by decide +kernel), "FourLorries$Outlook", Or.inl ⟨(gm 159 (by decide +kernel) rfl), (by decide +kernel)⟩, Or.inl (by decide +kernel)⟩
theorem ft25_ok : FtP (3, 48, 11, 3) := fun ci h => by
  rcases (show ci = 3 by unfold kin at h; simp at h; omega) with rfl
  · exact fk25_3
theorem fk26_3 : FkP 3 51 12 3 3 := ⟨RX3, TX3, rfl, (by decide +kernel), (by decide +kernel), (by decide +kernel), "FourLorries$Outlook", Or.inl ⟨(gm 160 (by decide +kernel) rfl), (by decide +kernel)⟩, Or.inl (by decide +kernel)⟩
theorem ft26_ok : FtP (3, 51, 12, 3) := fun ci h => by
  rcases (show ci = 3 by unfold kin at h; simp at h; omega) with rfl
  · exact fk26_3
theorem fk27_3 : FkP 3 54 13 3 3 := ⟨RX3, TX3, rfl, (by decide +kernel), (by decide +kernel), (by decide +kernel), "FourLorries$Outlook", Or.inl ⟨(gm 161 (by decide +kernel) rfl), (by decide +kernel)⟩, Or.inl (by decide +kernel)⟩
theorem ft27_ok : FtP (3, 54, 13, 3) := fun ci h => by
  rcases (show ci = 3 by unfold kin at h; simp at h; omega) with rfl
  · exact fk27_3
theorem fk28_0 : FkP 3 60 0 0 0 := ⟨RX0, TX0, rfl, (by decide +kernel), (by decide +kernel), (by decide +kernel), "FourLorries$Camp", Or.inr ⟨"FourLorries", nm 452 (by decide +kernel) rfl, (by decide +kernel)⟩, Or.inl (by decide +kernel)⟩
theorem ft28_ok : FtP (3, 60, 0, 0) := fun ci h => by
  rcases (show ci = 0 by unfold kin at h; simp at h; omega) with rfl
  · exact fk28_0
theorem fk29_0 : FkP 3 83 1 0 0 := ⟨RX0, TX0, rfl, (by decide +kernel), (by decide +kernel), (by decide +kernel), "FourLorries$Camp", Or.inr ⟨"FourLorries", nm 455 (by decide +kernel) rfl, (by decide +kernel)⟩, Or.inl (by decide +kernel)⟩
theorem ft29_ok : FtP (3, 83, 1, 0) := fun ci h => by
  rcases (show ci = 0 by unfold kin at h; simp at h; omega) with rfl
  · exact fk29_0
theorem fk30_0 : FkP 3 86 2 0 0 := ⟨RX0, TX0, rfl, (by decide +kernel), (by decide +kernel), (by decide +kernel), "FourLorries$Camp", Or.inr ⟨"FourLorries", nm 458 (by decide +kernel) rfl, (by decide +kernel)⟩, Or.inl (by decide +kernel)⟩
theorem ft30_ok : FtP (3, 86, 2, 0) := fun ci h => by
  rcases (show ci = 0 by unfold kin at h; simp at h; omega) with rfl
  · exact fk30_0
theorem fk31_0 : FkP 3 125 4 0 0 := ⟨RX0, TX0, rfl, (by decide +kernel), (by decide +kernel), (by decide +kernel), "FourLorries$Camp", Or.inr ⟨"FourLorries", nm 462 (by decide +kernel) rfl, (by decide +kernel)⟩, Or.inl (by decide +kernel)⟩
theorem ft31_ok : FtP (3, 125, 4, 0) := fun ci h => by
  rcases (show ci = 0 by unfold kin at h; simp at h; omega) with rfl
  · exact fk31_0
theorem fk32_4 : FkP 4 9 3 4 4 := ⟨RX4, TX4, rfl, (by decide +kernel), (by decide +kernel), (by decide +kernel), "FourLorries$Part", Or.inl ⟨(gm 678 (by decide +kernel) rfl), (by decide +kernel)⟩, Or.inl (by decide +kernel)⟩
theorem fk32_2 : FkP 4 9 3 4 2 := ⟨RX2, TX2, rfl, (by decide +kernel), (by decide +kernel), (by decide +kernel), "FourLorries$Part", Or.inl ⟨(gm 678 (by decide +kernel) rfl), (by decide +kernel)⟩, Or.inl (by decide +kernel)⟩
theorem fk32_1 : FkP 4 9 3 4 1 := ⟨RX1, TX1, rfl, (by decide +kernel), (by decide +kernel), (by decide +kernel), "FourLorries$Part", Or.inl ⟨(gm 678 (by decide +kernel) rfl), (by decide +kernel)⟩, Or.inl (by decide +kernel)⟩
theorem ft32_ok : FtP (4, 9, 3, 4) := fun ci h => by
  rcases (show ci = 4 ∨ ci = 2 ∨ ci = 1 by unfold kin at h; simp at h; omega) with rfl | rfl | rfl
  · exact fk32_4
  · exact fk32_2
  · exact fk32_1
theorem fk33_4 : FkP 4 15 4 4 4 := ⟨RX4, TX4, rfl, (by decide +kernel), (by decide +kernel), (by decide +kernel), "FourLorries$Part", Or.inl ⟨(gm 681 (by decide +kernel) rfl), (by decide +kernel)⟩, Or.inl (by decide +kernel)⟩
theorem fk33_2 : FkP 4 15 4 4 2 := ⟨RX2, TX2, rfl, (by decide +kernel), (by decide +kernel), (by decide +kernel), "FourLorries$Part", Or.inl ⟨(gm 681 (by decide +kernel) rfl), (by decide +kernel)⟩, Or.inl (by decide +kernel)⟩
theorem fk33_1 : FkP 4 15 4 4 1 := ⟨RX1, TX1, rfl, (by decide +kernel), (by decide +kernel), (by decide +kernel), "FourLorries$Part", Or.inl ⟨(gm 681 (by decide +kernel) rfl), (by decide +kernel)⟩, Or.inl (by decide +kernel)⟩
theorem ft33_ok : FtP (4, 15, 4, 4) := fun ci h => by
  rcases (show ci = 4 ∨ ci = 2 ∨ ci = 1 by unfold kin at h; simp at h; omega) with rfl | rfl | rfl
  · exact fk33_4
  · exact fk33_2
  · exact fk33_1
theorem fk34_4 : FkP 4 18 5 4 4 := ⟨RX4, TX4, rfl, (by decide +kernel), (by decide +kernel), (by decide +kernel), "FourLorries$Part", Or.inl ⟨(gm 684 (by decide +kernel) rfl), (by decide +kernel)⟩, Or.inl (by decide +kernel)⟩
theorem fk34_2 : FkP 4 18 5 4 2 := ⟨RX2, TX2, rfl, (by decide +kernel), (by decide +kernel), (by decide +kernel), "FourLorries$Part", Or.inl ⟨(gm 684 (by decide +kernel) rfl), (by decide +kernel)⟩, Or.inl (by decide +kernel)⟩
theorem fk34_1 : FkP 4 18 5 4 1 := ⟨RX1, TX1, rfl, (by decide +kernel), (by decide +kernel), (by decide +kernel), "FourLorries$Part", Or.inl ⟨(gm 684 (by decide +kernel) rfl), (by decide +kernel)⟩, Or.inl (by decide +kernel)⟩
theorem ft34_ok : FtP (4, 18, 5, 4) := fun ci h => by
  rcases (show ci = 4 ∨ ci = 2 ∨ ci = 1 by unfold kin at h; simp at h; omega) with rfl | rfl | rfl
  · exact fk34_4
  · exact fk34_2
  · exact fk34_1
theorem fk35_4 : FkP 4 22 0 4 4 := ⟨RX4, TX4, rfl, (by decide +kernel), (by decide +kernel), (by decide +kernel), "FourLorries$Part", Or.inl ⟨(gm 663 (by decide +kernel) rfl), (by decide +kernel)⟩, Or.inl (by decide +kernel)⟩
theorem fk35_2 : FkP 4 22 0 4 2 := ⟨RX2, TX2, rfl, (by decide +kernel), (by decide +kernel), (by decide +kernel), "FourLorries$Part", Or.inl ⟨(gm 663 (by decide +kernel) rfl), (by decide +kernel)⟩, Or.inl (by decide +kernel)⟩
theorem fk35_1 : FkP 4 22 0 4 1 := ⟨RX1, TX1, rfl, (by decide +kernel), (by decide +kernel), (by decide +kernel), "FourLorries$Part", Or.inl ⟨(gm 663 (by decide +kernel) rfl), (by decide +kernel)⟩, Or.inl (by decide +kernel)⟩
theorem ft35_ok : FtP (4, 22, 0, 4) := fun ci h => by
  rcases (show ci = 4 ∨ ci = 2 ∨ ci = 1 by unfold kin at h; simp at h; omega) with rfl | rfl | rfl
  · exact fk35_4
  · exact fk35_2
  · exact fk35_1
theorem fk36_4 : FkP 4 25 1 4 4 := ⟨RX4, TX4, rfl, (by decide +kernel), (by decide +kernel), (by decide +kernel), "FourLorries$Part", Or.inl ⟨(gm 665 (by decide +kernel) rfl), (by decide +kernel)⟩, Or.inl (by decide +kernel)⟩
theorem fk36_2 : FkP 4 25 1 4 2 := ⟨RX2, TX2, rfl, (by decide +kernel), (by decide +kernel), (by decide +kernel), "FourLorries$Part", Or.inl ⟨(gm 665 (by decide +kernel) rfl), (by decide +kernel)⟩, Or.inl (by decide +kernel)⟩
theorem fk36_1 : FkP 4 25 1 4 1 := ⟨RX1, TX1, rfl, (by decide +kernel), (by decide +kernel), (by decide +kernel), "FourLorries$Part", Or.inl ⟨(gm 665 (by decide +kernel) rfl), (by decide +kernel)⟩, Or.inl (by decide +kernel)⟩
theorem ft36_ok : FtP (4, 25, 1, 4) := fun ci h => by
  rcases (show ci = 4 ∨ ci = 2 ∨ ci = 1 by unfold kin at h; simp at h; omega) with rfl | rfl | rfl
  · exact fk36_4
  · exact fk36_2
  · exact fk36_1
theorem fk37_4 : FkP 4 28 2 4 4 := ⟨RX4, TX4, rfl, (by decide +kernel), (by decide +kernel), (by decide +kernel), "FourLorries$Part", Or.inl ⟨(gm 672 (by decide +kernel) rfl), (by decide +kernel)⟩, Or.inl (by decide +kernel)⟩
theorem fk37_2 : FkP 4 28 2 4 2 := ⟨RX2, TX2, rfl, (by decide +kernel), (by decide +kernel), (by decide +kernel), "FourLorries$Part", Or.inl ⟨(gm 672 (by decide +kernel) rfl), (by decide +kernel)⟩, Or.inl (by decide +kernel)⟩
theorem fk37_1 : FkP 4 28 2 4 1 := ⟨RX1, TX1, rfl, (by decide +kernel), (by decide +kernel), (by decide +kernel), "FourLorries$Part", Or.inl ⟨(gm 672 (by decide +kernel) rfl), (by decide +kernel)⟩, Or.inl (by decide +kernel)⟩
theorem ft37_ok : FtP (4, 28, 2, 4) := fun ci h => by
  rcases (show ci = 4 ∨ ci = 2 ∨ ci = 1 by unfold kin at h; simp at h; omega) with rfl | rfl | rfl
  · exact fk37_4
  · exact fk37_2
  · exact fk37_1
theorem fk38_5 : FkP 5 9 0 5 5 := ⟨RX5, TX5, rfl, (by decide +kernel), (by decide +kernel), (by decide +kernel), "FourLorries$Row", Or.inl ⟨(gm 309 (by decide +kernel) rfl), (by decide +kernel)⟩, Or.inl (by decide +kernel)⟩
theorem ft38_ok : FtP (5, 9, 0, 5) := fun ci h => by
  rcases (show ci = 5 by unfold kin at h; simp at h; omega) with rfl
  · exact fk38_5
theorem fk39_5 : FkP 5 15 1 5 5 := ⟨RX5, TX5, rfl, (by decide +kernel), (by decide +kernel), (by decide +kernel), "FourLorries$Row", Or.inl ⟨(gm 311 (by decide +kernel) rfl), (by decide +kernel)⟩, Or.inl (by decide +kernel)⟩
theorem ft39_ok : FtP (5, 15, 1, 5) := fun ci h => by
  rcases (show ci = 5 by unfold kin at h; simp at h; omega) with rfl
  · exact fk39_5
theorem fk40_5 : FkP 5 18 2 5 5 := ⟨RX5, TX5, rfl, (by decide +kernel), (by decide +kernel), (by decide +kernel), "FourLorries$Row", Or.inl ⟨(gm 312 (by decide +kernel) rfl), (by decide +kernel)⟩, Or.inl (by decide +kernel)⟩
theorem ft40_ok : FtP (5, 18, 2, 5) := fun ci h => by
  rcases (show ci = 5 by unfold kin at h; simp at h; omega) with rfl
  · exact fk40_5
theorem fk41_6 : FkP 6 9 0 6 6 := ⟨RX6, TX6, rfl, (by decide +kernel), (by decide +kernel), (by decide +kernel), "FourLorries$TextReader", Or.inl ⟨(gm 105 (by decide +kernel) rfl), (by decide +kernel)⟩, Or.inl (by decide +kernel)⟩
theorem ft41_ok : FtP (6, 9, 0, 6) := fun ci h => by
  rcases (show ci = 6 by unfold kin at h; simp at h; omega) with rfl
  · exact fk41_6
theorem fk42_6 : FkP 6 15 1 6 6 := ⟨RX6, TX6, rfl, (by decide +kernel), (by decide +kernel), (by decide +kernel), "FourLorries$TextReader", Or.inl ⟨(gm 106 (by decide +kernel) rfl), (by decide +kernel)⟩, Or.inl (by decide +kernel)⟩
theorem ft42_ok : FtP (6, 15, 1, 6) := fun ci h => by
  rcases (show ci = 6 by unfold kin at h; simp at h; omega) with rfl
  · exact fk42_6
theorem fk43_6 : FkP 6 19 2 6 6 := ⟨RX6, TX6, rfl, (by decide +kernel), (by decide +kernel), (by decide +kernel), "FourLorries$TextReader", Or.inl ⟨(gm 107 (by decide +kernel) rfl), (by decide +kernel)⟩, Or.inl (by decide +kernel)⟩
theorem ft43_ok : FtP (6, 19, 2, 6) := fun ci h => by
  rcases (show ci = 6 by unfold kin at h; simp at h; omega) with rfl
  · exact fk43_6
theorem fk44_6 : FkP 6 22 3 6 6 := ⟨RX6, TX6, rfl, (by decide +kernel), (by decide +kernel), (by decide +kernel), "FourLorries$TextReader", Or.inl ⟨(gm 108 (by decide +kernel) rfl), (by decide +kernel)⟩, Or.inl (by decide +kernel)⟩
theorem ft44_ok : FtP (6, 22, 3, 6) := fun ci h => by
  rcases (show ci = 6 by unfold kin at h; simp at h; omega) with rfl
  · exact fk44_6
theorem fk45_6 : FkP 6 25 4 6 6 := ⟨RX6, TX6, rfl, (by decide +kernel), (by decide +kernel), (by decide +kernel), "FourLorries$TextReader", Or.inl ⟨(gm 109 (by decide +kernel) rfl), (by decide +kernel)⟩, Or.inl (by decide +kernel)⟩
theorem ft45_ok : FtP (6, 25, 4, 6) := fun ci h => by
  rcases (show ci = 6 by unfold kin at h; simp at h; omega) with rfl
  · exact fk45_6
theorem fk46_6 : FkP 6 28 5 6 6 := ⟨RX6, TX6, rfl, (by decide +kernel), (by decide +kernel), (by decide +kernel), "FourLorries$TextReader", Or.inl ⟨(gm 111 (by decide +kernel) rfl), (by decide +kernel)⟩, Or.inl (by decide +kernel)⟩
theorem ft46_ok : FtP (6, 28, 5, 6) := fun ci h => by
  rcases (show ci = 6 by unfold kin at h; simp at h; omega) with rfl
  · exact fk46_6
theorem fk47_6 : FkP 6 31 6 6 6 := ⟨RX6, TX6, rfl, (by decide +kernel), (by decide +kernel), (by decide +kernel), "FourLorries$TextReader", Or.inl ⟨(gm 113 (by decide +kernel) rfl), (by decide +kernel)⟩, Or.inl (by decide +kernel)⟩
theorem ft47_ok : FtP (6, 31, 6, 6) := fun ci h => by
  rcases (show ci = 6 by unfold kin at h; simp at h; omega) with rfl
  · exact fk47_6
theorem fk48_6 : FkP 6 34 7 6 6 := ⟨RX6, TX6, rfl, (by decide +kernel), (by decide +kernel), (by decide +kernel), "FourLorries$TextReader", Or.inl ⟨(gm 115 (by decide +kernel) rfl), (by decide +kernel)⟩, Or.inl (by decide +kernel)⟩
theorem ft48_ok : FtP (6, 34, 7, 6) := fun ci h => by
  rcases (show ci = 6 by unfold kin at h; simp at h; omega) with rfl
  · exact fk48_6
theorem fk49_6 : FkP 6 37 8 6 6 := ⟨RX6, TX6, rfl, (by decide +kernel), (by decide +kernel), (by decide +kernel), "FourLorries$TextReader", Or.inl ⟨(gm 117 (by decide +kernel) rfl), (by decide +kernel)⟩, Or.inl (by decide +kernel)⟩
theorem ft49_ok : FtP (6, 37, 8, 6) := fun ci h => by
  rcases (show ci = 6 by unfold kin at h; simp at h; omega) with rfl
  · exact fk49_6
theorem fk50_6 : FkP 6 41 9 6 6 := ⟨RX6, TX6, rfl, (by decide +kernel), (by decide +kernel), (by decide +kernel), "FourLorries$TextReader", Or.inl ⟨(gm 119 (by decide +kernel) rfl), (by decide +kernel)⟩, Or.inl (by decide +kernel)⟩
theorem ft50_ok : FtP (6, 41, 9, 6) := fun ci h => by
  rcases (show ci = 6 by unfold kin at h; simp at h; omega) with rfl
  · exact fk50_6
theorem fk51_5 : FkP 6 89 2 5 5 := ⟨RX5, TX5, rfl, (by decide +kernel), (by decide +kernel), (by decide +kernel), "FourLorries$Row", Or.inr ⟨"FourLorries", nm 313 (by decide +kernel) rfl, (by decide +kernel)⟩, Or.inl (by decide +kernel)⟩
theorem ft51_ok : FtP (6, 89, 2, 5) := fun ci h => by
  rcases (show ci = 5 by unfold kin at h; simp at h; omega) with rfl
  · exact fk51_5
theorem fk52_7 : FkP 7 7 0 7 7 := ⟨RX7, TX7, rfl, (by decide +kernel), (by decide +kernel), (by decide +kernel), "FourLorries$Trace", Or.inl ⟨(gm 299 (by decide +kernel) rfl), (by decide +kernel)⟩, Or.inl (by decide +kernel)⟩
theorem ft52_ok : FtP (7, 7, 0, 7) := fun ci h => by
  rcases (show ci = 7 by unfold kin at h; simp at h; omega) with rfl
  · exact fk52_7
theorem fk53_8 : FkP 8 9 0 8 8 := ⟨RX8, TX8, rfl, (by decide +kernel), (by decide +kernel), (by decide +kernel), "FourLorries$Way", Or.inl ⟨(gm 206 (by decide +kernel) rfl), (by decide +kernel)⟩, Or.inl (by decide +kernel)⟩
theorem ft53_ok : FtP (8, 9, 0, 8) := fun ci h => by
  rcases (show ci = 8 by unfold kin at h; simp at h; omega) with rfl
  · exact fk53_8
theorem fk54_8 : FkP 8 15 1 8 8 := ⟨RX8, TX8, rfl, (by decide +kernel), (by decide +kernel), (by decide +kernel), "FourLorries$Way", Or.inl ⟨(gm 208 (by decide +kernel) rfl), (by decide +kernel)⟩, Or.inl (by decide +kernel)⟩
theorem ft54_ok : FtP (8, 15, 1, 8) := fun ci h => by
  rcases (show ci = 8 by unfold kin at h; simp at h; omega) with rfl
  · exact fk54_8
theorem fk55_8 : FkP 8 18 2 8 8 := ⟨RX8, TX8, rfl, (by decide +kernel), (by decide +kernel), (by decide +kernel), "FourLorries$Way", Or.inl ⟨(gm 210 (by decide +kernel) rfl), (by decide +kernel)⟩, Or.inl (by decide +kernel)⟩
theorem ft55_ok : FtP (8, 18, 2, 8) := fun ci h => by
  rcases (show ci = 8 by unfold kin at h; simp at h; omega) with rfl
  · exact fk55_8
theorem fk56_8 : FkP 8 21 3 8 8 := ⟨RX8, TX8, rfl, (by decide +kernel), (by decide +kernel), (by decide +kernel), "FourLorries$Way", Or.inl ⟨(gm 212 (by decide +kernel) rfl), (by decide +kernel)⟩, Or.inl (by decide +kernel)⟩
theorem ft56_ok : FtP (8, 21, 3, 8) := fun ci h => by
  rcases (show ci = 8 by unfold kin at h; simp at h; omega) with rfl
  · exact fk56_8
theorem fk57_8 : FkP 8 24 4 8 8 := ⟨RX8, TX8, rfl, (by decide +kernel), (by decide +kernel), (by decide +kernel), "FourLorries$Way", Or.inl ⟨(gm 214 (by decide +kernel) rfl), (by decide +kernel)⟩, Or.inl (by decide +kernel)⟩
theorem ft57_ok : FtP (8, 24, 4, 8) := fun ci h => by
  rcases (show ci = 8 by unfold kin at h; simp at h; omega) with rfl
  · exact fk57_8
theorem fk58_8 : FkP 8 28 5 8 8 := ⟨RX8, TX8, rfl, (by decide +kernel), (by decide +kernel), (by decide +kernel), "FourLorries$Way", Or.inl ⟨(gm 216 (by decide +kernel) rfl), (by decide +kernel)⟩, Or.inl (by decide +kernel)⟩
theorem ft58_ok : FtP (8, 28, 5, 8) := fun ci h => by
  rcases (show ci = 8 by unfold kin at h; simp at h; omega) with rfl
  · exact fk58_8
theorem fk59_8 : FkP 8 32 6 8 8 := ⟨RX8, TX8, rfl, (by decide +kernel), (by decide +kernel), (by decide +kernel), "FourLorries$Way", Or.inl ⟨(gm 217 (by decide +kernel) rfl), (by decide +kernel)⟩, Or.inl (by decide +kernel)⟩
theorem ft59_ok : FtP (8, 32, 6, 8) := fun ci h => by
  rcases (show ci = 8 by unfold kin at h; simp at h; omega) with rfl
  · exact fk59_8
theorem fk60_8 : FkP 8 35 7 8 8 := ⟨RX8, TX8, rfl, (by decide +kernel), (by decide +kernel), (by decide +kernel), "FourLorries$Way", Or.inl ⟨(gm 218 (by decide +kernel) rfl), (by decide +kernel)⟩, Or.inl (by decide +kernel)⟩
theorem ft60_ok : FtP (8, 35, 7, 8) := fun ci h => by
  rcases (show ci = 8 by unfold kin at h; simp at h; omega) with rfl
  · exact fk60_8
theorem fk61_8 : FkP 8 38 8 8 8 := ⟨RX8, TX8, rfl, (by decide +kernel), (by decide +kernel), (by decide +kernel), "FourLorries$Way", Or.inl ⟨(gm 219 (by decide +kernel) rfl), (by decide +kernel)⟩, Or.inl (by decide +kernel)⟩
theorem ft61_ok : FtP (8, 38, 8, 8) := fun ci h => by
  rcases (show ci = 8 by unfold kin at h; simp at h; omega) with rfl
  · exact fk61_8
theorem fk62_8 : FkP 8 41 9 8 8 := ⟨RX8, TX8, rfl, (by decide +kernel), (by decide +kernel), (by decide +kernel), "FourLorries$Way", Or.inl ⟨(gm 220 (by decide +kernel) rfl), (by decide +kernel)⟩, Or.inl (by decide +kernel)⟩
theorem ft62_ok : FtP (8, 41, 9, 8) := fun ci h => by
  rcases (show ci = 8 by unfold kin at h; simp at h; omega) with rfl
  · exact fk62_8
theorem fk63_8 : FkP 8 45 10 8 8 := ⟨RX8, TX8, rfl, (by decide +kernel), (by decide +kernel), (by decide +kernel), "FourLorries$Way", Or.inl ⟨(gm 221 (by decide +kernel) rfl), (by decide +kernel)⟩, Or.inl (by decide +kernel)⟩
theorem ft63_ok : FtP (8, 45, 10, 8) := fun ci h => by
  rcases (show ci = 8 by unfold kin at h; simp at h; omega) with rfl
  · exact fk63_8
theorem fk64_8 : FkP 8 48 11 8 8 := ⟨RX8, TX8, rfl, (by decide +kernel), (by decide +kernel), (by decide +kernel), "FourLorries$Way", Or.inl ⟨(gm 222 (by decide +kernel) rfl), (by decide +kernel)⟩, Or.inl (by decide +kernel)⟩
theorem ft64_ok : FtP (8, 48, 11, 8) := fun ci h => by
  rcases (show ci = 8 by unfold kin at h; simp at h; omega) with rfl
  · exact fk64_8
theorem fk65_8 : FkP 8 51 12 8 8 := ⟨RX8, TX8, rfl, (by decide +kernel), (by decide +kernel), (by decide +kernel), "FourLorries$Way", Or.inl ⟨(gm 223 (by decide +kernel) rfl), (by decide +kernel)⟩, Or.inl (by decide +kernel)⟩
theorem ft65_ok : FtP (8, 51, 12, 8) := fun ci h => by
  rcases (show ci = 8 by unfold kin at h; simp at h; omega) with rfl
  · exact fk65_8
theorem fk66_8 : FkP 8 54 13 8 8 := ⟨RX8, TX8, rfl, (by decide +kernel), (by decide +kernel), (by decide +kernel), "FourLorries$Way", Or.inl ⟨(gm 224 (by decide +kernel) rfl), (by decide +kernel)⟩, Or.inl (by decide +kernel)⟩
theorem ft66_ok : FtP (8, 54, 13, 8) := fun ci h => by
  rcases (show ci = 8 by unfold kin at h; simp at h; omega) with rfl
  · exact fk66_8
theorem fk67_8 : FkP 8 57 14 8 8 := ⟨RX8, TX8, rfl, (by decide +kernel), (by decide +kernel), (by decide +kernel), "FourLorries$Way", Or.inl ⟨(gm 225 (by decide +kernel) rfl), (by decide +kernel)⟩, Or.inl (by decide +kernel)⟩
theorem ft67_ok : FtP (8, 57, 14, 8) := fun ci h => by
  rcases (show ci = 8 by unfold kin at h; simp at h; omega) with rfl
  · exact fk67_8
theorem fk68_8 : FkP 8 60 15 8 8 := ⟨RX8, TX8, rfl, (by decide +kernel), (by decide +kernel), (by decide +kernel), "FourLorries$Way", Or.inl ⟨(gm 226 (by decide +kernel) rfl), (by decide +kernel)⟩, Or.inl (by decide +kernel)⟩
theorem ft68_ok : FtP (8, 60, 15, 8) := fun ci h => by
  rcases (show ci = 8 by unfold kin at h; simp at h; omega) with rfl
  · exact fk68_8
theorem fk69_4 : FkP 8 132 5 4 4 := ⟨RX4, TX4, rfl, (by decide +kernel), (by decide +kernel), (by decide +kernel), "FourLorries$Part", Or.inl ⟨(gm 686 (by decide +kernel) rfl), (by decide +kernel)⟩, Or.inl (by decide +kernel)⟩
theorem fk69_2 : FkP 8 132 5 4 2 := ⟨RX2, TX2, rfl, (by decide +kernel), (by decide +kernel), (by decide +kernel), "FourLorries$Part", Or.inl ⟨(gm 686 (by decide +kernel) rfl), (by decide +kernel)⟩, Or.inl (by decide +kernel)⟩
theorem fk69_1 : FkP 8 132 5 4 1 := ⟨RX1, TX1, rfl, (by decide +kernel), (by decide +kernel), (by decide +kernel), "FourLorries$Part", Or.inl ⟨(gm 686 (by decide +kernel) rfl), (by decide +kernel)⟩, Or.inl (by decide +kernel)⟩
theorem ft69_ok : FtP (8, 132, 5, 4) := fun ci h => by
  rcases (show ci = 4 ∨ ci = 2 ∨ ci = 1 by unfold kin at h; simp at h; omega) with rfl | rfl | rfl
  · exact fk69_4
  · exact fk69_2
  · exact fk69_1
theorem fk70_9 : FkP 9 11 0 9 9 := ⟨RX9, TX9, rfl, (by decide +kernel), (by decide +kernel), (by decide +kernel), "FourLorries$Yard", Or.inl ⟨(gm 264 (by decide +kernel) rfl), (by decide +kernel)⟩, Or.inl (by decide +kernel)⟩
theorem ft70_ok : FtP (9, 11, 0, 9) := fun ci h => by
  rcases (show ci = 9 by unfold kin at h; simp at h; omega) with rfl
  · exact fk70_9
theorem fk71_9 : FkP 9 17 1 9 9 := ⟨RX9, TX9, rfl, (by decide +kernel), (by decide +kernel), (by decide +kernel), "FourLorries$Yard", Or.inl ⟨(gm 266 (by decide +kernel) rfl), (by decide +kernel)⟩, Or.inl (by decide +kernel)⟩
theorem ft71_ok : FtP (9, 17, 1, 9) := fun ci h => by
  rcases (show ci = 9 by unfold kin at h; simp at h; omega) with rfl
  · exact fk71_9
theorem fk72_9 : FkP 9 21 2 9 9 := ⟨RX9, TX9, rfl, (by decide +kernel), (by decide +kernel), (by decide +kernel), "FourLorries$Yard", Or.inl ⟨(gm 268 (by decide +kernel) rfl), (by decide +kernel)⟩, Or.inl (by decide +kernel)⟩
theorem ft72_ok : FtP (9, 21, 2, 9) := fun ci h => by
  rcases (show ci = 9 by unfold kin at h; simp at h; omega) with rfl
  · exact fk72_9
theorem fk73_9 : FkP 9 25 3 9 9 := ⟨RX9, TX9, rfl, (by decide +kernel), (by decide +kernel), (by decide +kernel), "FourLorries$Yard", Or.inl ⟨(gm 270 (by decide +kernel) rfl), (by decide +kernel)⟩, Or.inl (by decide +kernel)⟩
theorem ft73_ok : FtP (9, 25, 3, 9) := fun ci h => by
  rcases (show ci = 9 by unfold kin at h; simp at h; omega) with rfl
  · exact fk73_9
theorem fk74_9 : FkP 9 28 4 9 9 := ⟨RX9, TX9, rfl, (by decide +kernel), (by decide +kernel), (by decide +kernel), "FourLorries$Yard", Or.inl ⟨(gm 272 (by decide +kernel) rfl), (by decide +kernel)⟩, Or.inl (by decide +kernel)⟩
theorem ft74_ok : FtP (9, 28, 4, 9) := fun ci h => by
  rcases (show ci = 9 by unfold kin at h; simp at h; omega) with rfl
  · exact fk74_9
theorem fk75_9 : FkP 9 34 5 9 9 := ⟨RX9, TX9, rfl, (by decide +kernel), (by decide +kernel), (by decide +kernel), "FourLorries$Yard", Or.inl ⟨(gm 274 (by decide +kernel) rfl), (by decide +kernel)⟩, Or.inl (by decide +kernel)⟩
theorem ft75_ok : FtP (9, 34, 5, 9) := fun ci h => by
  rcases (show ci = 9 by unfold kin at h; simp at h; omega) with rfl
  · exact fk75_9
theorem fk76_9 : FkP 9 38 6 9 9 := ⟨RX9, TX9, rfl, (by decide +kernel), (by decide +kernel), (by decide +kernel), "FourLorries$Yard", Or.inl ⟨(gm 275 (by decide +kernel) rfl), (by decide +kernel)⟩, Or.inl (by decide +kernel)⟩
theorem ft76_ok : FtP (9, 38, 6, 9) := fun ci h => by
  rcases (show ci = 9 by unfold kin at h; simp at h; omega) with rfl
  · exact fk76_9
theorem fk77_4 : FkP 9 57 4 4 4 := ⟨RX4, TX4, rfl, (by decide +kernel), (by decide +kernel), (by decide +kernel), "FourLorries$Part", Or.inl ⟨(gm 682 (by decide +kernel) rfl), (by decide +kernel)⟩, Or.inl (by decide +kernel)⟩
theorem fk77_2 : FkP 9 57 4 4 2 := ⟨RX2, TX2, rfl, (by decide +kernel), (by decide +kernel), (by decide +kernel), "FourLorries$Part", Or.inl ⟨(gm 682 (by decide +kernel) rfl), (by decide +kernel)⟩, Or.inl (by decide +kernel)⟩
theorem fk77_1 : FkP 9 57 4 4 1 := ⟨RX1, TX1, rfl, (by decide +kernel), (by decide +kernel), (by decide +kernel), "FourLorries$Part", Or.inl ⟨(gm 682 (by decide +kernel) rfl), (by decide +kernel)⟩, Or.inl (by decide +kernel)⟩
theorem ft77_ok : FtP (9, 57, 4, 4) := fun ci h => by
  rcases (show ci = 4 ∨ ci = 2 ∨ ci = 1 by unfold kin at h; simp at h; omega) with rfl | rfl | rfl
  · exact fk77_4
  · exact fk77_2
  · exact fk77_1
theorem fk78_4 : FkP 9 60 5 4 4 := ⟨RX4, TX4, rfl, (by decide +kernel), (by decide +kernel), (by decide +kernel), "FourLorries$Part", Or.inl ⟨(gm 685 (by decide +kernel) rfl), (by decide +kernel)⟩, Or.inl (by decide +kernel)⟩
theorem fk78_2 : FkP 9 60 5 4 2 := ⟨RX2, TX2, rfl, (by decide +kernel), (by decide +kernel), (by decide +kernel), "FourLorries$Part", Or.inl ⟨(gm 685 (by decide +kernel) rfl), (by decide +kernel)⟩, Or.inl (by decide +kernel)⟩
theorem fk78_1 : FkP 9 60 5 4 1 := ⟨RX1, TX1, rfl, (by decide +kernel), (by decide +kernel), (by decide +kernel), "FourLorries$Part", Or.inl ⟨(gm 685 (by decide +kernel) rfl), (by decide +kernel)⟩, Or.inl (by decide +kernel)⟩
theorem ft78_ok : FtP (9, 60, 5, 4) := fun ci h => by
  rcases (show ci = 4 ∨ ci = 2 ∨ ci = 1 by unfold kin at h; simp at h; omega) with rfl | rfl | rfl
  · exact fk78_4
  · exact fk78_2
  · exact fk78_1
theorem fk79_4 : FkP 9 71 0 4 4 := ⟨RX4, TX4, rfl, (by decide +kernel), (by decide +kernel), (by decide +kernel), "FourLorries$Part", Or.inl ⟨(gm 664 (by decide +kernel) rfl), (by decide +kernel)⟩, Or.inl (by decide +kernel)⟩
theorem fk79_2 : FkP 9 71 0 4 2 := ⟨RX2, TX2, rfl, (by decide +kernel), (by decide +kernel), (by decide +kernel), "FourLorries$Part", Or.inl ⟨(gm 664 (by decide +kernel) rfl), (by decide +kernel)⟩, Or.inl (by decide +kernel)⟩
theorem fk79_1 : FkP 9 71 0 4 1 := ⟨RX1, TX1, rfl, (by decide +kernel), (by decide +kernel), (by decide +kernel), "FourLorries$Part", Or.inl ⟨(gm 664 (by decide +kernel) rfl), (by decide +kernel)⟩, Or.inl (by decide +kernel)⟩
theorem ft79_ok : FtP (9, 71, 0, 4) := fun ci h => by
  rcases (show ci = 4 ∨ ci = 2 ∨ ci = 1 by unfold kin at h; simp at h; omega) with rfl | rfl | rfl
  · exact fk79_4
  · exact fk79_2
  · exact fk79_1
theorem fk80_4 : FkP 9 74 3 4 4 := ⟨RX4, TX4, rfl, (by decide +kernel), (by decide +kernel), (by decide +kernel), "FourLorries$Part", Or.inl ⟨(gm 679 (by decide +kernel) rfl), (by decide +kernel)⟩, Or.inl (by decide +kernel)⟩
theorem fk80_2 : FkP 9 74 3 4 2 := ⟨RX2, TX2, rfl, (by decide +kernel), (by decide +kernel), (by decide +kernel), "FourLorries$Part", Or.inl ⟨(gm 679 (by decide +kernel) rfl), (by decide +kernel)⟩, Or.inl (by decide +kernel)⟩
theorem fk80_1 : FkP 9 74 3 4 1 := ⟨RX1, TX1, rfl, (by decide +kernel), (by decide +kernel), (by decide +kernel), "FourLorries$Part", Or.inl ⟨(gm 679 (by decide +kernel) rfl), (by decide +kernel)⟩, Or.inl (by decide +kernel)⟩
theorem ft80_ok : FtP (9, 74, 3, 4) := fun ci h => by
  rcases (show ci = 4 ∨ ci = 2 ∨ ci = 1 by unfold kin at h; simp at h; omega) with rfl | rfl | rfl
  · exact fk80_4
  · exact fk80_2
  · exact fk80_1
theorem fk81_5 : FkP 9 85 2 5 5 := ⟨RX5, TX5, rfl, (by decide +kernel), (by decide +kernel), (by decide +kernel), "FourLorries$Row", Or.inr ⟨"FourLorries", nm 314 (by decide +kernel) rfl, (by decide +kernel)⟩, Or.inl (by decide +kernel)⟩
theorem ft81_ok : FtP (9, 85, 2, 5) := fun ci h => by
  rcases (show ci = 5 by unfold kin at h; simp at h; omega) with rfl
  · exact fk81_5
theorem fk82_4 : FkP 9 90 1 4 4 := ⟨RX4, TX4, rfl, (by decide +kernel), (by decide +kernel), (by decide +kernel), "FourLorries$Part", Or.inl ⟨(gm 670 (by decide +kernel) rfl), (by decide +kernel)⟩, Or.inl (by decide +kernel)⟩
theorem fk82_2 : FkP 9 90 1 4 2 := ⟨RX2, TX2, rfl, (by decide +kernel), (by decide +kernel), (by decide +kernel), "FourLorries$Part", Or.inl ⟨(gm 670 (by decide +kernel) rfl), (by decide +kernel)⟩, Or.inl (by decide +kernel)⟩
theorem fk82_1 : FkP 9 90 1 4 1 := ⟨RX1, TX1, rfl, (by decide +kernel), (by decide +kernel), (by decide +kernel), "FourLorries$Part", Or.inl ⟨(gm 670 (by decide +kernel) rfl), (by decide +kernel)⟩, Or.inl (by decide +kernel)⟩
theorem ft82_ok : FtP (9, 90, 1, 4) := fun ci h => by
  rcases (show ci = 4 ∨ ci = 2 ∨ ci = 1 by unfold kin at h; simp at h; omega) with rfl | rfl | rfl
  · exact fk82_4
  · exact fk82_2
  · exact fk82_1
theorem fk83_10 : FkP 10 13 0 10 10 := ⟨RX10, TX10, rfl, (by decide +kernel), (by decide +kernel), (by decide +kernel), "FourLorries", Or.inl ⟨(gm 323 (by decide +kernel) rfl), (by decide +kernel)⟩, Or.inl (by decide +kernel)⟩
theorem ft83_ok : FtP (10, 13, 0, 10) := fun ci h => by
  rcases (show ci = 10 by unfold kin at h; simp at h; omega) with rfl
  · exact fk83_10
theorem fk84_10 : FkP 10 17 1 10 10 := ⟨RX10, TX10, rfl, (by decide +kernel), (by decide +kernel), (by decide +kernel), "FourLorries", Or.inl ⟨(gm 324 (by decide +kernel) rfl), (by decide +kernel)⟩, Or.inl (by decide +kernel)⟩
theorem ft84_ok : FtP (10, 17, 1, 10) := fun ci h => by
  rcases (show ci = 10 by unfold kin at h; simp at h; omega) with rfl
  · exact fk84_10
theorem fk85_10 : FkP 10 24 2 10 10 := ⟨RX10, TX10, rfl, (by decide +kernel), (by decide +kernel), (by decide +kernel), "FourLorries", Or.inl ⟨(gm 325 (by decide +kernel) rfl), (by decide +kernel)⟩, Or.inl (by decide +kernel)⟩
theorem ft85_ok : FtP (10, 24, 2, 10) := fun ci h => by
  rcases (show ci = 10 by unfold kin at h; simp at h; omega) with rfl
  · exact fk85_10
theorem fk86_10 : FkP 10 31 3 10 10 := ⟨RX10, TX10, rfl, (by decide +kernel), (by decide +kernel), (by decide +kernel), "FourLorries", Or.inl ⟨(gm 326 (by decide +kernel) rfl), (by decide +kernel)⟩, Or.inl (by decide +kernel)⟩
theorem ft86_ok : FtP (10, 31, 3, 10) := fun ci h => by
  rcases (show ci = 10 by unfold kin at h; simp at h; omega) with rfl
  · exact fk86_10
theorem fk87_10 : FkP 10 38 4 10 10 := ⟨RX10, TX10, rfl, (by decide +kernel), (by decide +kernel), (by decide +kernel), "FourLorries", Or.inl ⟨(gm 327 (by decide +kernel) rfl), (by decide +kernel)⟩, Or.inl (by decide +kernel)⟩
theorem ft87_ok : FtP (10, 38, 4, 10) := fun ci h => by
  rcases (show ci = 10 by unfold kin at h; simp at h; omega) with rfl
  · exact fk87_10
theorem fk88_10 : FkP 10 44 5 10 10 := ⟨RX10, TX10, rfl, (by decide +kernel), (by decide +kernel), (by decide +kernel), "FourLorries", Or.inl ⟨(gm 328 (by decide +kernel) rfl), (by decide +kernel)⟩, Or.inl (by decide +kernel)⟩
theorem ft88_ok : FtP (10, 44, 5, 10) := fun ci h => by
  rcases (show ci = 10 by unfold kin at h; simp at h; omega) with rfl
  · exact fk88_10
theorem fk89_10 : FkP 10 51 6 10 10 := ⟨RX10, TX10, rfl, (by decide +kernel), (by decide +kernel), (by decide +kernel), "FourLorries", Or.inl ⟨(gm 329 (by decide +kernel) rfl), (by decide +kernel)⟩, Or.inl (by decide +kernel)⟩
theorem ft89_ok : FtP (10, 51, 6, 10) := fun ci h => by
  rcases (show ci = 10 by unfold kin at h; simp at h; omega) with rfl
  · exact fk89_10
theorem fk90_10 : FkP 10 55 7 10 10 := ⟨RX10, TX10, rfl, (by decide +kernel), (by decide +kernel), (by decide +kernel), "FourLorries", Or.inl ⟨(gm 330 (by decide +kernel) rfl), (by decide +kernel)⟩, Or.inl (by decide +kernel)⟩
theorem ft90_ok : FtP (10, 55, 7, 10) := fun ci h => by
  rcases (show ci = 10 by unfold kin at h; simp at h; omega) with rfl
  · exact fk90_10
theorem fk91_0 : FkP 10 74 0 0 0 := ⟨RX0, TX0, rfl, (by decide +kernel), (by decide +kernel), (by decide +kernel), "FourLorries$Camp", Or.inr ⟨"FourLorries", nm 451 (by decide +kernel) rfl, (by decide +kernel)⟩, Or.inl (by decide +kernel)⟩
theorem ft91_ok : FtP (10, 74, 0, 0) := fun ci h => by
  rcases (show ci = 0 by unfold kin at h; simp at h; omega) with rfl
  · exact fk91_0
theorem fk92_0 : FkP 10 77 4 0 0 := ⟨RX0, TX0, rfl, (by decide +kernel), (by decide +kernel), (by decide +kernel), "FourLorries$Camp", Or.inr ⟨"FourLorries", nm 461 (by decide +kernel) rfl, (by decide +kernel)⟩, Or.inl (by decide +kernel)⟩
theorem ft92_ok : FtP (10, 77, 4, 0) := fun ci h => by
  rcases (show ci = 0 by unfold kin at h; simp at h; omega) with rfl
  · exact fk92_0
theorem fk93_0 : FkP 10 81 1 0 0 := ⟨RX0, TX0, rfl, (by decide +kernel), (by decide +kernel), (by decide +kernel), "FourLorries$Camp", Or.inr ⟨"FourLorries", nm 454 (by decide +kernel) rfl, (by decide +kernel)⟩, Or.inl (by decide +kernel)⟩
theorem ft93_ok : FtP (10, 81, 1, 0) := fun ci h => by
  rcases (show ci = 0 by unfold kin at h; simp at h; omega) with rfl
  · exact fk93_0
theorem fk94_0 : FkP 10 84 2 0 0 := ⟨RX0, TX0, rfl, (by decide +kernel), (by decide +kernel), (by decide +kernel), "FourLorries$Camp", Or.inr ⟨"FourLorries", nm 457 (by decide +kernel) rfl, (by decide +kernel)⟩, Or.inl (by decide +kernel)⟩
theorem ft94_ok : FtP (10, 84, 2, 0) := fun ci h => by
  rcases (show ci = 0 by unfold kin at h; simp at h; omega) with rfl
  · exact fk94_0
theorem fk95_9 : FkP 10 160 0 9 9 := ⟨RX9, TX9, rfl, (by decide +kernel), (by decide +kernel), (by decide +kernel), "FourLorries$Yard", Or.inr ⟨"FourLorries", nm 265 (by decide +kernel) rfl, (by decide +kernel)⟩, Or.inl (by decide +kernel)⟩
theorem ft95_ok : FtP (10, 160, 0, 9) := fun ci h => by
  rcases (show ci = 9 by unfold kin at h; simp at h; omega) with rfl
  · exact fk95_9
theorem fk96_4 : FkP 10 169 1 4 4 := ⟨RX4, TX4, rfl, (by decide +kernel), (by decide +kernel), (by decide +kernel), "FourLorries$Part", Or.inl ⟨(gm 671 (by decide +kernel) rfl), (by decide +kernel)⟩, Or.inl (by decide +kernel)⟩
theorem fk96_2 : FkP 10 169 1 4 2 := ⟨RX2, TX2, rfl, (by decide +kernel), (by decide +kernel), (by decide +kernel), "FourLorries$Part", Or.inl ⟨(gm 671 (by decide +kernel) rfl), (by decide +kernel)⟩, Or.inl (by decide +kernel)⟩
theorem fk96_1 : FkP 10 169 1 4 1 := ⟨RX1, TX1, rfl, (by decide +kernel), (by decide +kernel), (by decide +kernel), "FourLorries$Part", Or.inl ⟨(gm 671 (by decide +kernel) rfl), (by decide +kernel)⟩, Or.inl (by decide +kernel)⟩
theorem ft96_ok : FtP (10, 169, 1, 4) := fun ci h => by
  rcases (show ci = 4 ∨ ci = 2 ∨ ci = 1 by unfold kin at h; simp at h; omega) with rfl | rfl | rfl
  · exact fk96_4
  · exact fk96_2
  · exact fk96_1
theorem fk97_4 : FkP 10 172 2 4 4 := ⟨RX4, TX4, rfl, (by decide +kernel), (by decide +kernel), (by decide +kernel), "FourLorries$Part", Or.inl ⟨(gm 677 (by decide +kernel) rfl), (by decide +kernel)⟩, Or.inl (by decide +kernel)⟩
theorem fk97_2 : FkP 10 172 2 4 2 := ⟨RX2, TX2, rfl, (by decide +kernel), (by decide +kernel), (by decide +kernel), "FourLorries$Part", Or.inl ⟨(gm 677 (by decide +kernel) rfl), (by decide +kernel)⟩, Or.inl (by decide +kernel)⟩
theorem fk97_1 : FkP 10 172 2 4 1 := ⟨RX1, TX1, rfl, (by decide +kernel), (by decide +kernel), (by decide +kernel), "FourLorries$Part", Or.inl ⟨(gm 677 (by decide +kernel) rfl), (by decide +kernel)⟩, Or.inl (by decide +kernel)⟩
theorem ft97_ok : FtP (10, 172, 2, 4) := fun ci h => by
  rcases (show ci = 4 ∨ ci = 2 ∨ ci = 1 by unfold kin at h; simp at h; omega) with rfl | rfl | rfl
  · exact fk97_4
  · exact fk97_2
  · exact fk97_1
theorem fk98_4 : FkP 10 175 3 4 4 := ⟨RX4, TX4, rfl, (by decide +kernel), (by decide +kernel), (by decide +kernel), "FourLorries$Part", Or.inl ⟨(gm 680 (by decide +kernel) rfl), (by decide +kernel)⟩, Or.inl (by decide +kernel)⟩
theorem fk98_2 : FkP 10 175 3 4 2 := ⟨RX2, TX2, rfl, (by decide +kernel), (by decide +kernel), (by decide +kernel), "FourLorries$Part", Or.inl ⟨(gm 680 (by decide +kernel) rfl), (by decide +kernel)⟩, Or.inl (by decide +kernel)⟩
theorem fk98_1 : FkP 10 175 3 4 1 := ⟨RX1, TX1, rfl, (by decide +kernel), (by decide +kernel), (by decide +kernel), "FourLorries$Part", Or.inl ⟨(gm 680 (by decide +kernel) rfl), (by decide +kernel)⟩, Or.inl (by decide +kernel)⟩
theorem ft98_ok : FtP (10, 175, 3, 4) := fun ci h => by
  rcases (show ci = 4 ∨ ci = 2 ∨ ci = 1 by unfold kin at h; simp at h; omega) with rfl | rfl | rfl
  · exact fk98_4
  · exact fk98_2
  · exact fk98_1
theorem fk99_4 : FkP 10 179 5 4 4 := ⟨RX4, TX4, rfl, (by decide +kernel), (by decide +kernel), (by decide +kernel), "FourLorries$Part", Or.inl ⟨(gm 687 (by decide +kernel) rfl), (by decide +kernel)⟩, Or.inl (by decide +kernel)⟩
theorem fk99_2 : FkP 10 179 5 4 2 := ⟨RX2, TX2, rfl, (by decide +kernel), (by decide +kernel), (by decide +kernel), "FourLorries$Part", Or.inl ⟨(gm 687 (by decide +kernel) rfl), (by decide +kernel)⟩, Or.inl (by decide +kernel)⟩
theorem fk99_1 : FkP 10 179 5 4 1 := ⟨RX1, TX1, rfl, (by decide +kernel), (by decide +kernel), (by decide +kernel), "FourLorries$Part", Or.inl ⟨(gm 687 (by decide +kernel) rfl), (by decide +kernel)⟩, Or.inl (by decide +kernel)⟩
theorem ft99_ok : FtP (10, 179, 5, 4) := fun ci h => by
  rcases (show ci = 4 ∨ ci = 2 ∨ ci = 1 by unfold kin at h; simp at h; omega) with rfl | rfl | rfl
  · exact fk99_4
  · exact fk99_2
  · exact fk99_1
theorem fk100_4 : FkP 10 182 4 4 4 := ⟨RX4, TX4, rfl, (by decide +kernel), (by decide +kernel), (by decide +kernel), "FourLorries$Part", Or.inl ⟨(gm 683 (by decide +kernel) rfl), (by decide +kernel)⟩, Or.inl (by decide +kernel)⟩
theorem fk100_2 : FkP 10 182 4 4 2 := ⟨RX2, TX2, rfl, (by decide +kernel), (by decide +kernel), (by decide +kernel), "FourLorries$Part", Or.inl ⟨(gm 683 (by decide +kernel) rfl), (by decide +kernel)⟩, Or.inl (by decide +kernel)⟩
theorem fk100_1 : FkP 10 182 4 4 1 := ⟨RX1, TX1, rfl, (by decide +kernel), (by decide +kernel), (by decide +kernel), "FourLorries$Part", Or.inl ⟨(gm 683 (by decide +kernel) rfl), (by decide +kernel)⟩, Or.inl (by decide +kernel)⟩
theorem ft100_ok : FtP (10, 182, 4, 4) := fun ci h => by
  rcases (show ci = 4 ∨ ci = 2 ∨ ci = 1 by unfold kin at h; simp at h; omega) with rfl | rfl | rfl
  · exact fk100_4
  · exact fk100_2
  · exact fk100_1
theorem fk101_9 : FkP 10 188 2 9 9 := ⟨RX9, TX9, rfl, (by decide +kernel), (by decide +kernel), (by decide +kernel), "FourLorries$Yard", Or.inr ⟨"FourLorries", nm 269 (by decide +kernel) rfl, (by decide +kernel)⟩, Or.inl (by decide +kernel)⟩
theorem ft101_ok : FtP (10, 188, 2, 9) := fun ci h => by
  rcases (show ci = 9 by unfold kin at h; simp at h; omega) with rfl
  · exact fk101_9
theorem fk102_9 : FkP 10 205 3 9 9 := ⟨RX9, TX9, rfl, (by decide +kernel), (by decide +kernel), (by decide +kernel), "FourLorries$Yard", Or.inr ⟨"FourLorries", nm 271 (by decide +kernel) rfl, (by decide +kernel)⟩, Or.inl (by decide +kernel)⟩
theorem ft102_ok : FtP (10, 205, 3, 9) := fun ci h => by
  rcases (show ci = 9 by unfold kin at h; simp at h; omega) with rfl
  · exact fk102_9
theorem fk103_9 : FkP 10 208 4 9 9 := ⟨RX9, TX9, rfl, (by decide +kernel), (by decide +kernel), (by decide +kernel), "FourLorries$Yard", Or.inr ⟨"FourLorries", nm 273 (by decide +kernel) rfl, (by decide +kernel)⟩, Or.inl (by decide +kernel)⟩
theorem ft103_ok : FtP (10, 208, 4, 9) := fun ci h => by
  rcases (show ci = 9 by unfold kin at h; simp at h; omega) with rfl
  · exact fk103_9
theorem fk104_8 : FkP 10 218 0 8 8 := ⟨RX8, TX8, rfl, (by decide +kernel), (by decide +kernel), (by decide +kernel), "FourLorries$Way", Or.inr ⟨"FourLorries", nm 207 (by decide +kernel) rfl, (by decide +kernel)⟩, Or.inl (by decide +kernel)⟩
theorem ft104_ok : FtP (10, 218, 0, 8) := fun ci h => by
  rcases (show ci = 8 by unfold kin at h; simp at h; omega) with rfl
  · exact fk104_8
theorem fk105_8 : FkP 10 223 1 8 8 := ⟨RX8, TX8, rfl, (by decide +kernel), (by decide +kernel), (by decide +kernel), "FourLorries$Way", Or.inr ⟨"FourLorries", nm 209 (by decide +kernel) rfl, (by decide +kernel)⟩, Or.inl (by decide +kernel)⟩
theorem ft105_ok : FtP (10, 223, 1, 8) := fun ci h => by
  rcases (show ci = 8 by unfold kin at h; simp at h; omega) with rfl
  · exact fk105_8
theorem fk106_8 : FkP 10 226 2 8 8 := ⟨RX8, TX8, rfl, (by decide +kernel), (by decide +kernel), (by decide +kernel), "FourLorries$Way", Or.inr ⟨"FourLorries", nm 211 (by decide +kernel) rfl, (by decide +kernel)⟩, Or.inl (by decide +kernel)⟩
theorem ft106_ok : FtP (10, 226, 2, 8) := fun ci h => by
  rcases (show ci = 8 by unfold kin at h; simp at h; omega) with rfl
  · exact fk106_8
theorem fk107_8 : FkP 10 227 3 8 8 := ⟨RX8, TX8, rfl, (by decide +kernel), (by decide +kernel), (by decide +kernel), "FourLorries$Way", Or.inr ⟨"FourLorries", nm 213 (by decide +kernel) rfl, (by decide +kernel)⟩, Or.inl (by decide +kernel)⟩
theorem ft107_ok : FtP (10, 227, 3, 8) := fun ci h => by
  rcases (show ci = 8 by unfold kin at h; simp at h; omega) with rfl
  · exact fk107_8
theorem fk108_8 : FkP 10 228 4 8 8 := ⟨RX8, TX8, rfl, (by decide +kernel), (by decide +kernel), (by decide +kernel), "FourLorries$Way", Or.inr ⟨"FourLorries", nm 215 (by decide +kernel) rfl, (by decide +kernel)⟩, Or.inl (by decide +kernel)⟩
theorem ft108_ok : FtP (10, 228, 4, 8) := fun ci h => by
  rcases (show ci = 8 by unfold kin at h; simp at h; omega) with rfl
  · exact fk108_8
theorem fk109_5 : FkP 10 260 0 5 5 := ⟨RX5, TX5, rfl, (by decide +kernel), (by decide +kernel), (by decide +kernel), "FourLorries$Row", Or.inr ⟨"FourLorries", nm 310 (by decide +kernel) rfl, (by decide +kernel)⟩, Or.inl (by decide +kernel)⟩
theorem ft109_ok : FtP (10, 260, 0, 5) := fun ci h => by
  rcases (show ci = 5 by unfold kin at h; simp at h; omega) with rfl
  · exact fk109_5
theorem fk110_5 : FkP 10 272 2 5 5 := ⟨RX5, TX5, rfl, (by decide +kernel), (by decide +kernel), (by decide +kernel), "FourLorries$Row", Or.inr ⟨"FourLorries", nm 315 (by decide +kernel) rfl, (by decide +kernel)⟩, Or.inl (by decide +kernel)⟩
theorem ft110_ok : FtP (10, 272, 2, 5) := fun ci h => by
  rcases (show ci = 5 by unfold kin at h; simp at h; omega) with rfl
  · exact fk110_5
theorem fk111_7 : FkP 10 292 0 7 7 := ⟨RX7, TX7, rfl, (by decide +kernel), (by decide +kernel), (by decide +kernel), "FourLorries$Trace", Or.inr ⟨"FourLorries", nm 300 (by decide +kernel) rfl, (by decide +kernel)⟩, Or.inl (by decide +kernel)⟩
theorem ft111_ok : FtP (10, 292, 0, 7) := fun ci h => by
  rcases (show ci = 7 by unfold kin at h; simp at h; omega) with rfl
  · exact fk111_7
theorem fk112_9 : FkP 10 295 1 9 9 := ⟨RX9, TX9, rfl, (by decide +kernel), (by decide +kernel), (by decide +kernel), "FourLorries$Yard", Or.inr ⟨"FourLorries", nm 267 (by decide +kernel) rfl, (by decide +kernel)⟩, Or.inl (by decide +kernel)⟩
theorem ft112_ok : FtP (10, 295, 1, 9) := fun ci h => by
  rcases (show ci = 9 by unfold kin at h; simp at h; omega) with rfl
  · exact fk112_9
theorem fk113_11 : FkP 11 7 2 11 11 := ⟨RX11, TX11, rfl, (by decide +kernel), (by decide +kernel), (by decide +kernel), "FourLorriesModel", Or.inl ⟨(gm 1013 (by decide +kernel) rfl), (by decide +kernel)⟩, Or.inl (by decide +kernel)⟩
theorem ft113_ok : FtP (11, 7, 2, 11) := fun ci h => by
  rcases (show ci = 11 by unfold kin at h; simp at h; omega) with rfl
  · exact fk113_11
theorem fk114_11 : FkP 11 13 3 11 11 := ⟨RX11, TX11, rfl, (by decide +kernel), (by decide +kernel), (by decide +kernel), "FourLorriesModel", Or.inl ⟨(gm 1014 (by decide +kernel) rfl), (by decide +kernel)⟩, Or.inl (by decide +kernel)⟩
theorem ft114_ok : FtP (11, 13, 3, 11) := fun ci h => by
  rcases (show ci = 11 by unfold kin at h; simp at h; omega) with rfl
  · exact fk114_11
theorem fk115_11 : FkP 11 16 4 11 11 := ⟨RX11, TX11, rfl, (by decide +kernel), (by decide +kernel), (by decide +kernel), "FourLorriesModel", Or.inl ⟨(gm 1015 (by decide +kernel) rfl), (by decide +kernel)⟩, Or.inl (by decide +kernel)⟩
theorem ft115_ok : FtP (11, 16, 4, 11) := fun ci h => by
  rcases (show ci = 11 by unfold kin at h; simp at h; omega) with rfl
  · exact fk115_11
theorem fk116_11 : FkP 11 19 5 11 11 := ⟨RX11, TX11, rfl, (by decide +kernel), (by decide +kernel), (by decide +kernel), "FourLorriesModel", Or.inl ⟨(gm 1016 (by decide +kernel) rfl), (by decide +kernel)⟩, Or.inl (by decide +kernel)⟩
theorem ft116_ok : FtP (11, 19, 5, 11) := fun ci h => by
  rcases (show ci = 11 by unfold kin at h; simp at h; omega) with rfl
  · exact fk116_11
theorem fk117_11 : FkP 11 22 6 11 11 := ⟨RX11, TX11, rfl, (by decide +kernel), (by decide +kernel), (by decide +kernel), "FourLorriesModel", Or.inl ⟨(gm 1017 (by decide +kernel) rfl), (by decide +kernel)⟩, Or.inl (by decide +kernel)⟩
theorem ft117_ok : FtP (11, 22, 6, 11) := fun ci h => by
  rcases (show ci = 11 by unfold kin at h; simp at h; omega) with rfl
  · exact fk117_11
theorem fk118_11 : FkP 11 25 12 11 11 := ⟨RX11, TX11, rfl, (by decide +kernel), (by decide +kernel), (by decide +kernel), "FourLorriesModel", Or.inl ⟨(gm 1023 (by decide +kernel) rfl), (by decide +kernel)⟩, Or.inl (by decide +kernel)⟩
theorem ft118_ok : FtP (11, 25, 12, 11) := fun ci h => by
  rcases (show ci = 11 by unfold kin at h; simp at h; omega) with rfl
  · exact fk118_11
theorem fk119_11 : FkP 11 28 13 11 11 := ⟨RX11, TX11, rfl, (by decide +kernel), (by decide +kernel), (by decide +kernel), "FourLorriesModel", Or.inl ⟨(gm 1024 (by decide +kernel) rfl), (by decide +kernel)⟩, Or.inl (by decide +kernel)⟩
theorem ft119_ok : FtP (11, 28, 13, 11) := fun ci h => by
  rcases (show ci = 11 by unfold kin at h; simp at h; omega) with rfl
  · exact fk119_11
theorem fk120_11 : FkP 11 31 14 11 11 := ⟨RX11, TX11, rfl, (by decide +kernel), (by decide +kernel), (by decide +kernel), "FourLorriesModel", Or.inl ⟨(gm 1025 (by decide +kernel) rfl), (by decide +kernel)⟩, Or.inl (by decide +kernel)⟩
theorem ft120_ok : FtP (11, 31, 14, 11) := fun ci h => by
  rcases (show ci = 11 by unfold kin at h; simp at h; omega) with rfl
  · exact fk120_11
theorem fk121_11 : FkP 11 35 15 11 11 := ⟨RX11, TX11, rfl, (by decide +kernel), (by decide +kernel), (by decide +kernel), "FourLorriesModel", Or.inl ⟨(gm 1026 (by decide +kernel) rfl), (by decide +kernel)⟩, Or.inl (by decide +kernel)⟩
theorem ft121_ok : FtP (11, 35, 15, 11) := fun ci h => by
  rcases (show ci = 11 by unfold kin at h; simp at h; omega) with rfl
  · exact fk121_11
theorem fk122_11 : FkP 11 38 16 11 11 := ⟨RX11, TX11, rfl, (by decide +kernel), (by decide +kernel), (by decide +kernel), "FourLorriesModel", Or.inl ⟨(gm 1027 (by decide +kernel) rfl), (by decide +kernel)⟩, Or.inl (by decide +kernel)⟩
theorem ft122_ok : FtP (11, 38, 16, 11) := fun ci h => by
  rcases (show ci = 11 by unfold kin at h; simp at h; omega) with rfl
  · exact fk122_11
theorem fk123_11 : FkP 11 41 17 11 11 := ⟨RX11, TX11, rfl, (by decide +kernel), (by decide +kernel), (by decide +kernel), "FourLorriesModel", Or.inl ⟨(gm 1028 (by decide +kernel) rfl), (by decide +kernel)⟩, Or.inl (by decide +kernel)⟩
theorem ft123_ok : FtP (11, 41, 17, 11) := fun ci h => by
  rcases (show ci = 11 by unfold kin at h; simp at h; omega) with rfl
  · exact fk123_11
theorem fk124_11 : FkP 11 44 19 11 11 := ⟨RX11, TX11, rfl, (by decide +kernel), (by decide +kernel), (by decide +kernel), "FourLorriesModel", Or.inl ⟨(gm 1030 (by decide +kernel) rfl), (by decide +kernel)⟩, Or.inl (by decide +kernel)⟩
theorem ft124_ok : FtP (11, 44, 19, 11) := fun ci h => by
  rcases (show ci = 11 by unfold kin at h; simp at h; omega) with rfl
  · exact fk124_11
theorem fk125_11 : FkP 11 47 20 11 11 := ⟨RX11, TX11, rfl, (by decide +kernel), (by decide +kernel), (by decide +kernel), "FourLorriesModel", Or.inl ⟨(gm 1031 (by decide +kernel) rfl), (by decide +kernel)⟩, Or.inl (by decide +kernel)⟩
theorem ft125_ok : FtP (11, 47, 20, 11) := fun ci h => by
  rcases (show ci = 11 by unfold kin at h; simp at h; omega) with rfl
  · exact fk125_11
theorem fk126_11 : FkP 11 50 21 11 11 := ⟨RX11, TX11, rfl, (by decide +kernel), (by decide +kernel), (by decide +kernel), "FourLorriesModel", Or.inl ⟨(gm 1032 (by decide +kernel) rfl), (by decide +kernel)⟩, Or.inl (by decide +kernel)⟩
theorem ft126_ok : FtP (11, 50, 21, 11) := fun ci h => by
  rcases (show ci = 11 by unfold kin at h; simp at h; omega) with rfl
  · exact fk126_11
theorem fk127_11 : FkP 11 53 22 11 11 := ⟨RX11, TX11, rfl, (by decide +kernel), (by decide +kernel), (by decide +kernel), "FourLorriesModel", Or.inl ⟨(gm 1033 (by decide +kernel) rfl), (by decide +kernel)⟩, Or.inl (by decide +kernel)⟩
theorem ft127_ok : FtP (11, 53, 22, 11) := fun ci h => by
  rcases (show ci = 11 by unfold kin at h; simp at h; omega) with rfl
  · exact fk127_11
theorem fk128_11 : FkP 11 57 23 11 11 := ⟨RX11, TX11, rfl, (by decide +kernel), (by decide +kernel), (by decide +kernel), "FourLorriesModel", Or.inl ⟨(gm 1034 (by decide +kernel) rfl), (by decide +kernel)⟩, Or.inl (by decide +kernel)⟩
theorem ft128_ok : FtP (11, 57, 23, 11) := fun ci h => by
  rcases (show ci = 11 by unfold kin at h; simp at h; omega) with rfl
  · exact fk128_11
theorem fk129_11 : FkP 11 60 24 11 11 := ⟨RX11, TX11, rfl, (by decide +kernel), (by decide +kernel), (by decide +kernel), "FourLorriesModel", Or.inl ⟨(gm 1035 (by decide +kernel) rfl), (by decide +kernel)⟩, Or.inl (by decide +kernel)⟩
theorem ft129_ok : FtP (11, 60, 24, 11) := fun ci h => by
  rcases (show ci = 11 by unfold kin at h; simp at h; omega) with rfl
  · exact fk129_11
theorem fk130_11 : FkP 11 63 25 11 11 := ⟨RX11, TX11, rfl, (by decide +kernel), (by decide +kernel), (by decide +kernel), "FourLorriesModel", Or.inl ⟨(gm 1036 (by decide +kernel) rfl), (by decide +kernel)⟩, Or.inl (by decide +kernel)⟩
theorem ft130_ok : FtP (11, 63, 25, 11) := fun ci h => by
  rcases (show ci = 11 by unfold kin at h; simp at h; omega) with rfl
  · exact fk130_11
theorem fk131_11 : FkP 11 66 27 11 11 := ⟨RX11, TX11, rfl, (by decide +kernel), (by decide +kernel), (by decide +kernel), "FourLorriesModel", Or.inl ⟨(gm 1038 (by decide +kernel) rfl), (by decide +kernel)⟩, Or.inl (by decide +kernel)⟩
theorem ft131_ok : FtP (11, 66, 27, 11) := fun ci h => by
  rcases (show ci = 11 by unfold kin at h; simp at h; omega) with rfl
  · exact fk131_11
theorem fk132_11 : FkP 11 70 28 11 11 := ⟨RX11, TX11, rfl, (by decide +kernel), (by decide +kernel), (by decide +kernel), "FourLorriesModel", Or.inl ⟨(gm 1039 (by decide +kernel) rfl), (by decide +kernel)⟩, Or.inl (by decide +kernel)⟩
theorem ft132_ok : FtP (11, 70, 28, 11) := fun ci h => by
  rcases (show ci = 11 by unfold kin at h; simp at h; omega) with rfl
  · exact fk132_11
theorem fk133_11 : FkP 11 73 30 11 11 := ⟨RX11, TX11, rfl, (by decide +kernel), (by decide +kernel), (by decide +kernel), "FourLorriesModel", Or.inl ⟨(gm 1041 (by decide +kernel) rfl), (by decide +kernel)⟩, Or.inl (by decide +kernel)⟩
theorem ft133_ok : FtP (11, 73, 30, 11) := fun ci h => by
  rcases (show ci = 11 by unfold kin at h; simp at h; omega) with rfl
  · exact fk133_11
theorem fk134_11 : FkP 11 76 33 11 11 := ⟨RX11, TX11, rfl, (by decide +kernel), (by decide +kernel), (by decide +kernel), "FourLorriesModel", Or.inl ⟨(gm 1044 (by decide +kernel) rfl), (by decide +kernel)⟩, Or.inl (by decide +kernel)⟩
theorem ft134_ok : FtP (11, 76, 33, 11) := fun ci h => by
  rcases (show ci = 11 by unfold kin at h; simp at h; omega) with rfl
  · exact fk134_11
theorem fk135_11 : FkP 11 79 34 11 11 := ⟨RX11, TX11, rfl, (by decide +kernel), (by decide +kernel), (by decide +kernel), "FourLorriesModel", Or.inl ⟨(gm 1045 (by decide +kernel) rfl), (by decide +kernel)⟩, Or.inl (by decide +kernel)⟩
theorem ft135_ok : FtP (11, 79, 34, 11) := fun ci h => by
  rcases (show ci = 11 by unfold kin at h; simp at h; omega) with rfl
  · exact fk135_11
theorem fk136_11 : FkP 11 82 35 11 11 := ⟨RX11, TX11, rfl, (by decide +kernel), (by decide +kernel), (by decide +kernel), "FourLorriesModel", Or.inl ⟨(gm 1046 (by decide +kernel) rfl), (by decide +kernel)⟩, Or.inl (by decide +kernel)⟩
theorem ft136_ok : FtP (11, 82, 35, 11) := fun ci h => by
  rcases (show ci = 11 by unfold kin at h; simp at h; omega) with rfl
  · exact fk136_11
theorem fk137_11 : FkP 11 85 36 11 11 := ⟨RX11, TX11, rfl, (by decide +kernel), (by decide +kernel), (by decide +kernel), "FourLorriesModel", Or.inl ⟨(gm 1047 (by decide +kernel) rfl), (by decide +kernel)⟩, Or.inl (by decide +kernel)⟩
theorem ft137_ok : FtP (11, 85, 36, 11) := fun ci h => by
  rcases (show ci = 11 by unfold kin at h; simp at h; omega) with rfl
  · exact fk137_11
theorem fk138_11 : FkP 11 88 26 11 11 := ⟨RX11, TX11, rfl, (by decide +kernel), (by decide +kernel), (by decide +kernel), "FourLorriesModel", Or.inl ⟨(gm 1037 (by decide +kernel) rfl), (by decide +kernel)⟩, Or.inl (by decide +kernel)⟩
theorem ft138_ok : FtP (11, 88, 26, 11) := fun ci h => by
  rcases (show ci = 11 by unfold kin at h; simp at h; omega) with rfl
  · exact fk138_11
theorem fk139_11 : FkP 11 94 0 11 11 := ⟨RX11, TX11, rfl, (by decide +kernel), (by decide +kernel), (by decide +kernel), "FourLorriesModel", Or.inl ⟨(gm 1011 (by decide +kernel) rfl), (by decide +kernel)⟩, Or.inl (by decide +kernel)⟩
theorem ft139_ok : FtP (11, 94, 0, 11) := fun ci h => by
  rcases (show ci = 11 by unfold kin at h; simp at h; omega) with rfl
  · exact fk139_11
theorem fk140_11 : FkP 11 122 1 11 11 := ⟨RX11, TX11, rfl, (by decide +kernel), (by decide +kernel), (by decide +kernel), "FourLorriesModel", Or.inl ⟨(gm 1012 (by decide +kernel) rfl), (by decide +kernel)⟩, Or.inl (by decide +kernel)⟩
theorem ft140_ok : FtP (11, 122, 1, 11) := fun ci h => by
  rcases (show ci = 11 by unfold kin at h; simp at h; omega) with rfl
  · exact fk140_11
theorem fk141_11 : FkP 11 128 7 11 11 := ⟨RX11, TX11, rfl, (by decide +kernel), (by decide +kernel), (by decide +kernel), "FourLorriesModel", Or.inl ⟨(gm 1018 (by decide +kernel) rfl), (by decide +kernel)⟩, Or.inl (by decide +kernel)⟩
theorem ft141_ok : FtP (11, 128, 7, 11) := fun ci h => by
  rcases (show ci = 11 by unfold kin at h; simp at h; omega) with rfl
  · exact fk141_11
theorem fk142_11 : FkP 11 135 8 11 11 := ⟨RX11, TX11, rfl, (by decide +kernel), (by decide +kernel), (by decide +kernel), "FourLorriesModel", Or.inl ⟨(gm 1019 (by decide +kernel) rfl), (by decide +kernel)⟩, Or.inl (by decide +kernel)⟩
theorem ft142_ok : FtP (11, 135, 8, 11) := fun ci h => by
  rcases (show ci = 11 by unfold kin at h; simp at h; omega) with rfl
  · exact fk142_11
theorem fk143_11 : FkP 11 146 10 11 11 := ⟨RX11, TX11, rfl, (by decide +kernel), (by decide +kernel), (by decide +kernel), "FourLorriesModel", Or.inl ⟨(gm 1021 (by decide +kernel) rfl), (by decide +kernel)⟩, Or.inl (by decide +kernel)⟩
theorem ft143_ok : FtP (11, 146, 10, 11) := fun ci h => by
  rcases (show ci = 11 by unfold kin at h; simp at h; omega) with rfl
  · exact fk143_11
theorem fk144_11 : FkP 11 153 9 11 11 := ⟨RX11, TX11, rfl, (by decide +kernel), (by decide +kernel), (by decide +kernel), "FourLorriesModel", Or.inl ⟨(gm 1020 (by decide +kernel) rfl), (by decide +kernel)⟩, Or.inl (by decide +kernel)⟩
theorem ft144_ok : FtP (11, 153, 9, 11) := fun ci h => by
  rcases (show ci = 11 by unfold kin at h; simp at h; omega) with rfl
  · exact fk144_11
theorem fk145_11 : FkP 11 156 11 11 11 := ⟨RX11, TX11, rfl, (by decide +kernel), (by decide +kernel), (by decide +kernel), "FourLorriesModel", Or.inl ⟨(gm 1022 (by decide +kernel) rfl), (by decide +kernel)⟩, Or.inl (by decide +kernel)⟩
theorem ft145_ok : FtP (11, 156, 11, 11) := fun ci h => by
  rcases (show ci = 11 by unfold kin at h; simp at h; omega) with rfl
  · exact fk145_11
theorem fk146_11 : FkP 11 259 18 11 11 := ⟨RX11, TX11, rfl, (by decide +kernel), (by decide +kernel), (by decide +kernel), "FourLorriesModel", Or.inl ⟨(gm 1029 (by decide +kernel) rfl), (by decide +kernel)⟩, Or.inl (by decide +kernel)⟩
theorem ft146_ok : FtP (11, 259, 18, 11) := fun ci h => by
  rcases (show ci = 11 by unfold kin at h; simp at h; omega) with rfl
  · exact fk146_11
theorem fk147_11 : FkP 11 281 29 11 11 := ⟨RX11, TX11, rfl, (by decide +kernel), (by decide +kernel), (by decide +kernel), "FourLorriesModel", Or.inl ⟨(gm 1040 (by decide +kernel) rfl), (by decide +kernel)⟩, Or.inl (by decide +kernel)⟩
theorem ft147_ok : FtP (11, 281, 29, 11) := fun ci h => by
  rcases (show ci = 11 by unfold kin at h; simp at h; omega) with rfl
  · exact fk147_11
theorem fk148_11 : FkP 11 295 31 11 11 := ⟨RX11, TX11, rfl, (by decide +kernel), (by decide +kernel), (by decide +kernel), "FourLorriesModel", Or.inl ⟨(gm 1042 (by decide +kernel) rfl), (by decide +kernel)⟩, Or.inl (by decide +kernel)⟩
theorem ft148_ok : FtP (11, 295, 31, 11) := fun ci h => by
  rcases (show ci = 11 by unfold kin at h; simp at h; omega) with rfl
  · exact fk148_11
theorem fk149_11 : FkP 11 298 32 11 11 := ⟨RX11, TX11, rfl, (by decide +kernel), (by decide +kernel), (by decide +kernel), "FourLorriesModel", Or.inl ⟨(gm 1043 (by decide +kernel) rfl), (by decide +kernel)⟩, Or.inl (by decide +kernel)⟩
theorem ft149_ok : FtP (11, 298, 32, 11) := fun ci h => by
  rcases (show ci = 11 by unfold kin at h; simp at h; omega) with rfl
  · exact fk149_11
theorem fk150_11 : FkP 11 321 37 11 11 := ⟨RX11, TX11, rfl, (by decide +kernel), (by decide +kernel), (by decide +kernel), "FourLorriesModel", Or.inl ⟨(gm 1048 (by decide +kernel) rfl), (by decide +kernel)⟩, Or.inl (by decide +kernel)⟩
theorem ft150_ok : FtP (11, 321, 37, 11) := fun ci h => by
  rcases (show ci = 11 by unfold kin at h; simp at h; omega) with rfl
  · exact fk150_11
def ptok (q : Mt) : Bool := q.2.all (fun r => match r.2.2.1 with | .putfield ix => pok (mC q.1) ix | _ => true)
theorem ptok_all : Mts.all ptok = true := by decide +kernel
theorem fts_0 : ∀ q ∈ FTs_0, FtP q := List.forall_mem_cons.mpr ⟨ft0_ok, List.forall_mem_cons.mpr ⟨ft1_ok, List.forall_mem_cons.mpr ⟨ft2_ok, List.forall_mem_cons.mpr ⟨ft3_ok, List.forall_mem_cons.mpr ⟨ft4_ok, List.forall_mem_cons.mpr ⟨ft5_ok, List.forall_mem_cons.mpr ⟨ft6_ok, List.forall_mem_cons.mpr ⟨ft7_ok, List.forall_mem_cons.mpr ⟨ft8_ok, List.forall_mem_cons.mpr ⟨ft9_ok, List.forall_mem_cons.mpr ⟨ft10_ok, List.forall_mem_cons.mpr ⟨ft11_ok, List.forall_mem_cons.mpr ⟨ft12_ok, List.forall_mem_cons.mpr ⟨ft13_ok, List.forall_mem_cons.mpr ⟨ft14_ok, List.forall_mem_cons.mpr ⟨ft15_ok, List.forall_mem_cons.mpr ⟨ft16_ok, List.forall_mem_cons.mpr ⟨ft17_ok, List.forall_mem_cons.mpr ⟨ft18_ok, List.forall_mem_cons.mpr ⟨ft19_ok, List.forall_mem_cons.mpr ⟨ft20_ok, List.forall_mem_cons.mpr ⟨ft21_ok, List.forall_mem_cons.mpr ⟨ft22_ok, List.forall_mem_cons.mpr ⟨ft23_ok, List.forall_mem_cons.mpr ⟨ft24_ok, List.forall_mem_cons.mpr ⟨ft25_ok, List.forall_mem_cons.mpr ⟨ft26_ok, List.forall_mem_cons.mpr ⟨ft27_ok, List.forall_mem_cons.mpr ⟨ft28_ok, List.forall_mem_cons.mpr ⟨ft29_ok, List.forall_mem_cons.mpr ⟨ft30_ok, List.forall_mem_cons.mpr ⟨ft31_ok, List.forall_mem_cons.mpr ⟨ft32_ok, List.forall_mem_cons.mpr ⟨ft33_ok, List.forall_mem_cons.mpr ⟨ft34_ok, List.forall_mem_cons.mpr ⟨ft35_ok, List.forall_mem_cons.mpr ⟨ft36_ok, List.forall_mem_cons.mpr ⟨ft37_ok, List.forall_mem_cons.mpr ⟨ft38_ok, List.forall_mem_cons.mpr ⟨ft39_ok, fun _ h => absurd h List.not_mem_nil⟩⟩⟩⟩⟩⟩⟩⟩⟩⟩⟩⟩⟩⟩⟩⟩⟩⟩⟩⟩⟩⟩⟩⟩⟩⟩⟩⟩⟩⟩⟩⟩⟩⟩⟩⟩⟩⟩⟩⟩
theorem fts_1 : ∀ q ∈ FTs_1, FtP q := List.forall_mem_cons.mpr ⟨ft40_ok, List.forall_mem_cons.mpr ⟨ft41_ok, List.forall_mem_cons.mpr ⟨ft42_ok, List.forall_mem_cons.mpr ⟨ft43_ok, List.forall_mem_cons.mpr ⟨ft44_ok, List.forall_mem_cons.mpr ⟨ft45_ok, List.forall_mem_cons.mpr ⟨ft46_ok, List.forall_mem_cons.mpr ⟨ft47_ok, List.forall_mem_cons.mpr ⟨ft48_ok, List.forall_mem_cons.mpr ⟨ft49_ok, List.forall_mem_cons.mpr ⟨ft50_ok, List.forall_mem_cons.mpr ⟨ft51_ok, List.forall_mem_cons.mpr ⟨ft52_ok, List.forall_mem_cons.mpr ⟨ft53_ok, List.forall_mem_cons.mpr ⟨ft54_ok, List.forall_mem_cons.mpr ⟨ft55_ok, List.forall_mem_cons.mpr ⟨ft56_ok, List.forall_mem_cons.mpr ⟨ft57_ok, List.forall_mem_cons.mpr ⟨ft58_ok, List.forall_mem_cons.mpr ⟨ft59_ok, List.forall_mem_cons.mpr ⟨ft60_ok, List.forall_mem_cons.mpr ⟨ft61_ok, List.forall_mem_cons.mpr ⟨ft62_ok, List.forall_mem_cons.mpr ⟨ft63_ok, List.forall_mem_cons.mpr ⟨ft64_ok, List.forall_mem_cons.mpr ⟨ft65_ok, List.forall_mem_cons.mpr ⟨ft66_ok, List.forall_mem_cons.mpr ⟨ft67_ok, List.forall_mem_cons.mpr ⟨ft68_ok, List.forall_mem_cons.mpr ⟨ft69_ok, List.forall_mem_cons.mpr ⟨ft70_ok, List.forall_mem_cons.mpr ⟨ft71_ok, List.forall_mem_cons.mpr ⟨ft72_ok, List.forall_mem_cons.mpr ⟨ft73_ok, List.forall_mem_cons.mpr ⟨ft74_ok, List.forall_mem_cons.mpr ⟨ft75_ok, List.forall_mem_cons.mpr ⟨ft76_ok, List.forall_mem_cons.mpr ⟨ft77_ok, List.forall_mem_cons.mpr ⟨ft78_ok, List.forall_mem_cons.mpr ⟨ft79_ok, fun _ h => absurd h List.not_mem_nil⟩⟩⟩⟩⟩⟩⟩⟩⟩⟩⟩⟩⟩⟩⟩⟩⟩⟩⟩⟩⟩⟩⟩⟩⟩⟩⟩⟩⟩⟩⟩⟩⟩⟩⟩⟩⟩⟩⟩⟩
theorem fts_2 : ∀ q ∈ FTs_2, FtP q := List.forall_mem_cons.mpr ⟨ft80_ok, List.forall_mem_cons.mpr ⟨ft81_ok, List.forall_mem_cons.mpr ⟨ft82_ok, List.forall_mem_cons.mpr ⟨ft83_ok, List.forall_mem_cons.mpr ⟨ft84_ok, List.forall_mem_cons.mpr ⟨ft85_ok, List.forall_mem_cons.mpr ⟨ft86_ok, List.forall_mem_cons.mpr ⟨ft87_ok, List.forall_mem_cons.mpr ⟨ft88_ok, List.forall_mem_cons.mpr ⟨ft89_ok, List.forall_mem_cons.mpr ⟨ft90_ok, List.forall_mem_cons.mpr ⟨ft91_ok, List.forall_mem_cons.mpr ⟨ft92_ok, List.forall_mem_cons.mpr ⟨ft93_ok, List.forall_mem_cons.mpr ⟨ft94_ok, List.forall_mem_cons.mpr ⟨ft95_ok, List.forall_mem_cons.mpr ⟨ft96_ok, List.forall_mem_cons.mpr ⟨ft97_ok, List.forall_mem_cons.mpr ⟨ft98_ok, List.forall_mem_cons.mpr ⟨ft99_ok, List.forall_mem_cons.mpr ⟨ft100_ok, List.forall_mem_cons.mpr ⟨ft101_ok, List.forall_mem_cons.mpr ⟨ft102_ok, List.forall_mem_cons.mpr ⟨ft103_ok, List.forall_mem_cons.mpr ⟨ft104_ok, List.forall_mem_cons.mpr ⟨ft105_ok, List.forall_mem_cons.mpr ⟨ft106_ok, List.forall_mem_cons.mpr ⟨ft107_ok, List.forall_mem_cons.mpr ⟨ft108_ok, List.forall_mem_cons.mpr ⟨ft109_ok, List.forall_mem_cons.mpr ⟨ft110_ok, List.forall_mem_cons.mpr ⟨ft111_ok, List.forall_mem_cons.mpr ⟨ft112_ok, List.forall_mem_cons.mpr ⟨ft113_ok, List.forall_mem_cons.mpr ⟨ft114_ok, List.forall_mem_cons.mpr ⟨ft115_ok, List.forall_mem_cons.mpr ⟨ft116_ok, List.forall_mem_cons.mpr ⟨ft117_ok, List.forall_mem_cons.mpr ⟨ft118_ok, List.forall_mem_cons.mpr ⟨ft119_ok, fun _ h => absurd h List.not_mem_nil⟩⟩⟩⟩⟩⟩⟩⟩⟩⟩⟩⟩⟩⟩⟩⟩⟩⟩⟩⟩⟩⟩⟩⟩⟩⟩⟩⟩⟩⟩⟩⟩⟩⟩⟩⟩⟩⟩⟩⟩
theorem fts_3 : ∀ q ∈ FTs_3, FtP q := List.forall_mem_cons.mpr ⟨ft120_ok, List.forall_mem_cons.mpr ⟨ft121_ok, List.forall_mem_cons.mpr ⟨ft122_ok, List.forall_mem_cons.mpr ⟨ft123_ok, List.forall_mem_cons.mpr ⟨ft124_ok, List.forall_mem_cons.mpr ⟨ft125_ok, List.forall_mem_cons.mpr ⟨ft126_ok, List.forall_mem_cons.mpr ⟨ft127_ok, List.forall_mem_cons.mpr ⟨ft128_ok, List.forall_mem_cons.mpr ⟨ft129_ok, List.forall_mem_cons.mpr ⟨ft130_ok, List.forall_mem_cons.mpr ⟨ft131_ok, List.forall_mem_cons.mpr ⟨ft132_ok, List.forall_mem_cons.mpr ⟨ft133_ok, List.forall_mem_cons.mpr ⟨ft134_ok, List.forall_mem_cons.mpr ⟨ft135_ok, List.forall_mem_cons.mpr ⟨ft136_ok, List.forall_mem_cons.mpr ⟨ft137_ok, List.forall_mem_cons.mpr ⟨ft138_ok, List.forall_mem_cons.mpr ⟨ft139_ok, List.forall_mem_cons.mpr ⟨ft140_ok, List.forall_mem_cons.mpr ⟨ft141_ok, List.forall_mem_cons.mpr ⟨ft142_ok, List.forall_mem_cons.mpr ⟨ft143_ok, List.forall_mem_cons.mpr ⟨ft144_ok, List.forall_mem_cons.mpr ⟨ft145_ok, List.forall_mem_cons.mpr ⟨ft146_ok, List.forall_mem_cons.mpr ⟨ft147_ok, List.forall_mem_cons.mpr ⟨ft148_ok, List.forall_mem_cons.mpr ⟨ft149_ok, List.forall_mem_cons.mpr ⟨ft150_ok, fun _ h => absurd h List.not_mem_nil⟩⟩⟩⟩⟩⟩⟩⟩⟩⟩⟩⟩⟩⟩⟩⟩⟩⟩⟩⟩⟩⟩⟩⟩⟩⟩⟩⟩⟩⟩⟩
theorem fts : ∀ q ∈ FTs, FtP q := List.forall_mem_append.mpr ⟨fts_0, List.forall_mem_append.mpr ⟨fts_1, List.forall_mem_append.mpr ⟨fts_2, fts_3⟩⟩⟩
theorem sk0 : StP (3, 135, 4) := ⟨(by decide +kernel), Or.inl (gm 540 (by decide +kernel) rfl)⟩
theorem sk1 : StP (6, 72, 3) := ⟨(by decide +kernel), Or.inl (gm 413 (by decide +kernel) rfl)⟩
theorem sk2 : StP (6, 76, 2) := ⟨(by decide +kernel), Or.inl (gm 415 (by decide +kernel) rfl)⟩
theorem sk3 : StP (6, 79, 0) := ⟨(by decide +kernel), Or.inr ⟨"FourLorries", nm 417 (by decide +kernel) rfl⟩⟩
theorem sk4 : StP (6, 82, 1) := ⟨(by decide +kernel), Or.inr ⟨"FourLorries", nm 419 (by decide +kernel) rfl⟩⟩
theorem sk5 : StP (10, 99, 0) := ⟨(by decide +kernel), Or.inl (gm 504 (by decide +kernel) rfl)⟩
theorem sk6 : StP (10, 102, 1) := ⟨(by decide +kernel), Or.inl (gm 505 (by decide +kernel) rfl)⟩
theorem sts : ∀ q ∈ STs, StP q := List.forall_mem_cons.mpr ⟨sk0, List.forall_mem_cons.mpr ⟨sk1, List.forall_mem_cons.mpr ⟨sk2, List.forall_mem_cons.mpr ⟨sk3, List.forall_mem_cons.mpr ⟨sk4, List.forall_mem_cons.mpr ⟨sk5, List.forall_mem_cons.mpr ⟨sk6, fun _ h => absurd h List.not_mem_nil⟩⟩⟩⟩⟩⟩⟩
theorem lk0 : LtP (9, 9, 4) := ⟨(by decide +kernel), (gm 198 (by decide +kernel) rfl)⟩
theorem lk1 : LtP (9, 31, 8) := ⟨(by decide +kernel), (gm 200 (by decide +kernel) rfl)⟩
theorem lk2 : LtP (9, 48, 1) := ⟨(by decide +kernel), (gm 651 (by decide +kernel) rfl)⟩
theorem lk3 : LtP (9, 53, 2) := ⟨(by decide +kernel), (gm 701 (by decide +kernel) rfl)⟩
theorem lk4 : LtP (10, 11, 0) := ⟨(by decide +kernel), (gm 97 (by decide +kernel) rfl)⟩
theorem lk5 : LtP (10, 21, 6) := ⟨(by decide +kernel), (gm 99 (by decide +kernel) rfl)⟩
theorem lk6 : LtP (10, 28, 3) := ⟨(by decide +kernel), (gm 142 (by decide +kernel) rfl)⟩
theorem lk7 : LtP (10, 35, 9) := ⟨(by decide +kernel), (gm 192 (by decide +kernel) rfl)⟩
theorem lk8 : LtP (10, 42, 5) := ⟨(by decide +kernel), (gm 291 (by decide +kernel) rfl)⟩
theorem lk9 : LtP (10, 48, 7) := ⟨(by decide +kernel), (gm 293 (by decide +kernel) rfl)⟩
theorem lk10 : LtP (10, 288, 2) := ⟨(by decide +kernel), (gm 982 (by decide +kernel) rfl)⟩
theorem lk11 : LtP (10, 290, 1) := ⟨(by decide +kernel), (gm 983 (by decide +kernel) rfl)⟩
theorem lk12 : LtP (12, 7, 10) := ⟨(by decide +kernel), (gm 89 (by decide +kernel) rfl)⟩
theorem lk13 : LtP (12, 10, 11) := ⟨(by decide +kernel), (gm 1004 (by decide +kernel) rfl)⟩
theorem lts : ∀ q ∈ LTs, LtP q := List.forall_mem_cons.mpr ⟨lk0, List.forall_mem_cons.mpr ⟨lk1, List.forall_mem_cons.mpr ⟨lk2, List.forall_mem_cons.mpr ⟨lk3, List.forall_mem_cons.mpr ⟨lk4, List.forall_mem_cons.mpr ⟨lk5, List.forall_mem_cons.mpr ⟨lk6, List.forall_mem_cons.mpr ⟨lk7, List.forall_mem_cons.mpr ⟨lk8, List.forall_mem_cons.mpr ⟨lk9, List.forall_mem_cons.mpr ⟨lk10, List.forall_mem_cons.mpr ⟨lk11, List.forall_mem_cons.mpr ⟨lk12, List.forall_mem_cons.mpr ⟨lk13, fun _ h => absurd h List.not_mem_nil⟩⟩⟩⟩⟩⟩⟩⟩⟩⟩⟩⟩⟩⟩
theorem kk0 : KtP (3, 98, .long (-1)) := (gm 568 (by decide +kernel) rfl)
theorem kk1 : KtP (3, 123, .long 1000000) := (gm 582 (by decide +kernel) rfl)
theorem kk2 : KtP (3, 144, .long 3000000) := (gm 542 (by decide +kernel) rfl)
theorem kk3 : KtP (8, 68, .long 4611686018427387904) := (gm 849 (by decide +kernel) rfl)
theorem kk4 : KtP (8, 80, .long 8916100448256) := (gm 862 (by decide +kernel) rfl)
theorem kk5 : KtP (8, 128, .long 12) := (gm 863 (by decide +kernel) rfl)
theorem kk6 : KtP (8, 130, .long 144115188075855872) := (gm 861 (by decide +kernel) rfl)
theorem kk7 : KtP (8, 145, .long 256) := (gm 886 (by decide +kernel) rfl)
theorem kk8 : KtP (10, 115, .long (-9223372036854775808)) := (gm 521 (by decide +kernel) rfl)
theorem kk9 : KtP (11, 69, .int 53248) := (gm 1010 (by decide +kernel) rfl)
theorem kk10 : KtP (11, 92, .long (-9223372036854775808)) := (gm 1235 (by decide +kernel) rfl)
theorem kk11 : KtP (11, 109, .long 2) := (gm 1145 (by decide +kernel) rfl)
theorem kk12 : KtP (11, 131, .long 48) := (gm 1165 (by decide +kernel) rfl)
theorem kk13 : KtP (11, 133, .long 57) := (gm 1166 (by decide +kernel) rfl)
theorem kk14 : KtP (11, 193, .long 10) := (gm 1210 (by decide +kernel) rfl)
theorem kk15 : KtP (11, 198, .long 4) := (gm 1219 (by decide +kernel) rfl)
theorem kk16 : KtP (11, 200, .long 3) := (gm 1137 (by decide +kernel) rfl)
theorem kk17 : KtP (11, 220, .long (-1)) := (gm 1261 (by decide +kernel) rfl)
theorem kk18 : KtP (11, 226, .long 3000000) := (gm 1253 (by decide +kernel) rfl)
theorem kk19 : KtP (11, 228, .long 2000000) := (gm 1270 (by decide +kernel) rfl)
theorem kk20 : KtP (11, 241, .long 12) := (gm 1231 (by decide +kernel) rfl)
theorem kk21 : KtP (11, 253, .long 30) := (gm 1291 (by decide +kernel) rfl)
theorem kk22 : KtP (11, 265, .long 9) := (gm 1311 (by decide +kernel) rfl)
theorem kk23 : KtP (11, 276, .long 11) := (gm 1339 (by decide +kernel) rfl)
theorem kk24 : KtP (11, 291, .int 1000000) := (gm 1386 (by decide +kernel) rfl)
theorem kk25 : KtP (15, 265, .int 1431655765) := (gm 845 (by decide +kernel) rfl)
theorem kk26 : KtP (15, 266, .int 858993459) := (gm 846 (by decide +kernel) rfl)
theorem kk27 : KtP (15, 267, .int 252645135) := (gm 847 (by decide +kernel) rfl)
theorem kts : ∀ q ∈ KTs, KtP q := List.forall_mem_cons.mpr ⟨kk0, List.forall_mem_cons.mpr ⟨kk1, List.forall_mem_cons.mpr ⟨kk2, List.forall_mem_cons.mpr ⟨kk3, List.forall_mem_cons.mpr ⟨kk4, List.forall_mem_cons.mpr ⟨kk5, List.forall_mem_cons.mpr ⟨kk6, List.forall_mem_cons.mpr ⟨kk7, List.forall_mem_cons.mpr ⟨kk8, List.forall_mem_cons.mpr ⟨kk9, List.forall_mem_cons.mpr ⟨kk10, List.forall_mem_cons.mpr ⟨kk11, List.forall_mem_cons.mpr ⟨kk12, List.forall_mem_cons.mpr ⟨kk13, List.forall_mem_cons.mpr ⟨kk14, List.forall_mem_cons.mpr ⟨kk15, List.forall_mem_cons.mpr ⟨kk16, List.forall_mem_cons.mpr ⟨kk17, List.forall_mem_cons.mpr ⟨kk18, List.forall_mem_cons.mpr ⟨kk19, List.forall_mem_cons.mpr ⟨kk20, List.forall_mem_cons.mpr ⟨kk21, List.forall_mem_cons.mpr ⟨kk22, List.forall_mem_cons.mpr ⟨kk23, List.forall_mem_cons.mpr ⟨kk24, List.forall_mem_cons.mpr ⟨kk25, List.forall_mem_cons.mpr ⟨kk26, List.forall_mem_cons.mpr ⟨kk27, fun _ h => absurd h List.not_mem_nil⟩⟩⟩⟩⟩⟩⟩⟩⟩⟩⟩⟩⟩⟩⟩⟩⟩⟩⟩⟩⟩⟩⟩⟩⟩⟩⟩⟩
