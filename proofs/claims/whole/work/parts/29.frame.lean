/-! Numbers: comparisons by toInt. Frames: what a call leaves as it was. -/
theorem i_eq (a b : Int32) : a = b ↔ a.toInt = b.toInt := Int32.toInt_inj.symm
theorem bI_z (b : Bool) : bI b = 0 ↔ b = false := by cases b <;> simp [bI]
theorem bI_tz (b : Bool) : (bI b).toInt = 0 ↔ b = false := by cases b <;> simp [bI]
theorem bI_o (b : Bool) : bI b = 1 ↔ b = true := by cases b <;> simp [bI]
theorem bI_inj {a b : Bool} : bI a = bI b ↔ a = b := by cases a <;> cases b <;> simp [bI]
theorem tm1 : (-1 : Int32).toInt = -1 := by decide
theorem tm2 : (-2 : Int32).toInt = -2 := by decide
theorem tm3 : (-3 : Int32).toInt = -3 := by decide
theorem tm4 : (-4 : Int32).toInt = -4 := by decide
theorem tm9 : (-9 : Int32).toInt = -9 := by decide
theorem i_bd (a : Int32) : -2147483648 ≤ a.toInt ∧ a.toInt ≤ 2147483647 := by
  have h1 := Int32.le_toInt a
  have h2 := Int32.toInt_lt a
  constructor <;> omega
theorem i_of {a : Int32} {n : Nat} (h1 : 0 ≤ a.toInt) (h2 : a.toInt < n) (hn : n ≤ 2 ^ 31) : ∃ j : Nat, j < n ∧ a = nI j := by
  obtain ⟨j, hj, rfl⟩ := nI_of (x := a) (fun q => by rw [i_lt] at q; simp only [Int32.reduceToInt] at q; omega)
  rw [nI_toInt hj] at h2
  exact ⟨j, by omega, rfl⟩
theorem i_sub {a b : Int32} (h1 : -2147483648 ≤ a.toInt - b.toInt) (h2 : a.toInt - b.toInt ≤ 2147483647) : (a - b).toInt = a.toInt - b.toInt := by
  rw [Int32.toInt_sub]
  exact Int.bmod_eq_of_le (by omega) (by omega)
theorem i_add {a b : Int32} (h1 : -2147483648 ≤ a.toInt + b.toInt) (h2 : a.toInt + b.toInt ≤ 2147483647) : (a + b).toInt = a.toInt + b.toInt := by
  rw [Int32.toInt_add]
  exact Int.bmod_eq_of_le (by omega) (by omega)
theorem l_add {a b : Int64} (h1 : -9223372036854775808 ≤ a.toInt + b.toInt) (h2 : a.toInt + b.toInt ≤ 9223372036854775807) : (a + b).toInt = a.toInt + b.toInt := by
  rw [Int64.toInt_add]
  exact Int.bmod_eq_of_le (by omega) (by omega)
theorem l_sub {a b : Int64} (h1 : -9223372036854775808 ≤ a.toInt - b.toInt) (h2 : a.toInt - b.toInt ≤ 9223372036854775807) : (a - b).toInt = a.toInt - b.toInt := by
  rw [Int64.toInt_sub]
  exact Int.bmod_eq_of_le (by omega) (by omega)
theorem l_mul {a b : Int64} (h1 : -9223372036854775808 ≤ a.toInt * b.toInt) (h2 : a.toInt * b.toInt ≤ 9223372036854775807) : (a * b).toInt = a.toInt * b.toInt := by
  rw [Int64.toInt_mul]
  exact Int.bmod_eq_of_le (by omega) (by omega)
theorem cmp_le0 (x y : Int64) : lg_cmp x y ≤ 0 ↔ x.toInt ≤ y.toInt := by
  have := cmp_gt x y
  rw [i_le, show (0 : Int32).toInt = 0 by decide]
  rw [i_lt, show (0 : Int32).toInt = 0 by decide] at this
  omega
theorem cmp_ge0 (x y : Int64) : 0 ≤ lg_cmp x y ↔ y.toInt ≤ x.toInt := by
  have := cmp_lt x y
  rw [i_le, show (0 : Int32).toInt = 0 by decide]
  rw [i_lt, show (0 : Int32).toInt = 0 by decide] at this
  omega
theorem cmp_eq0 (x y : Int64) : lg_cmp x y = 0 ↔ x.toInt = y.toInt := by
  have h1 := cmp_le0 x y
  have h2 := cmp_ge0 x y
  rw [i_le, show (0 : Int32).toInt = 0 by decide] at h1 h2
  rw [i_eq, show (0 : Int32).toInt = 0 by decide]
  omega
def inP (L : List (Nat × Nat)) (a j : Nat) : Bool := L.any fun q => q.1 == a && (q.2 == 1000 || q.2 == j)
def lowP (L : List (Nat × Nat)) : Bool := L.all fun q => decide (q.1 < 65) && !decide (q.1 = 5)
def frP (L : List (Nat × Nat)) (a : Nat) : Bool := L.all fun q => q.1 != a
theorem lowP_in {L : List (Nat × Nat)} (h : lowP L = true) {a : Nat} (ha : 65 ≤ a) (j : Nat) : inP L a j = false := by
  unfold inP
  rw [List.any_eq_false]
  intro q hq
  have := List.all_eq_true.mp h q hq
  rw [Bool.and_eq_true] at this
  have := of_decide_eq_true this.1
  simp only [Bool.and_eq_true, beq_iff_eq, not_and]
  omega
theorem lowP_5 {L : List (Nat × Nat)} (h : lowP L = true) (j : Nat) : inP L 5 j = false := by
  unfold inP
  rw [List.any_eq_false]
  intro q hq
  have := List.all_eq_true.mp h q hq
  simp only [Bool.and_eq_true, Bool.not_eq_true', decide_eq_false_iff_not] at this
  simp only [Bool.and_eq_true, beq_iff_eq, not_and]
  exact fun z => absurd z this.2
theorem frP_in {L : List (Nat × Nat)} {a : Nat} (h : frP L a = true) (j : Nat) : inP L a j = false := by
  unfold inP
  rw [List.any_eq_false]
  intro q hq
  have := List.all_eq_true.mp h q hq
  simp only [bne_iff_ne] at this
  simp [this]
theorem inP_sub {L M : List (Nat × Nat)} (h : ∀ q ∈ L, q ∈ M) {a j : Nat} (hM : inP M a j = false) : inP L a j = false := by
  unfold inP at *
  rw [List.any_eq_false] at *
  exact fun q hq => hM q (h q hq)
/-- g is h but for the slots of L (slot 1000: the whole cell) -/
def Fr (L : List (Nat × Nat)) (h g : Hp) : Prop := g.1 = h.1 ∧ zK g = zK h ∧ zN g = zN h ∧ zA g = zA h ∧ ∀ a j, inP L a j = false → zI g a j = zI h a j ∧ zJ g a j = zJ h a j
theorem Fr.refl (L : List (Nat × Nat)) (h : Hp) : Fr L h h := ⟨rfl, rfl, rfl, rfl, fun _ _ _ => ⟨rfl, rfl⟩⟩
theorem Fr.trans {L : List (Nat × Nat)} {h g f : Hp} (a : Fr L h g) (b : Fr L g f) : Fr L h f :=
  ⟨b.1.trans a.1, b.2.1.trans a.2.1, b.2.2.1.trans a.2.2.1, b.2.2.2.1.trans a.2.2.2.1, fun x j q => ⟨(b.2.2.2.2 x j q).1.trans (a.2.2.2.2 x j q).1, (b.2.2.2.2 x j q).2.trans (a.2.2.2.2 x j q).2⟩⟩
theorem Fr.sub {L M : List (Nat × Nat)} {h g : Hp} (a : Fr L h g) (hs : ∀ q ∈ L, q ∈ M) : Fr M h g :=
  ⟨a.1, a.2.1, a.2.2.1, a.2.2.2.1, fun x j q => a.2.2.2.2 x j (inP_sub hs q)⟩
theorem Fr.upI {L : List (Nat × Nat)} {h g : Hp} (f : Fr L h g) {a j : Nat} {v : Int32} (hin : inP L a j = true) : Fr L h (upI g a j v) := by
  refine ⟨f.1, f.2.1, f.2.2.1, f.2.2.2.1, fun x i q => ⟨?_, (f.2.2.2.2 x i q).2⟩⟩
  rw [zI_upI]
  by_cases e1 : x = a
  · by_cases e2 : i = j
    · rw [e1, e2, hin] at q
      cases q
    · rw [if_pos e1, if_neg e2, ← e1]
      exact (f.2.2.2.2 x i q).1
  · rw [if_neg e1]
    exact (f.2.2.2.2 x i q).1
theorem Fr.upJ {L : List (Nat × Nat)} {h g : Hp} (f : Fr L h g) {a j : Nat} {v : Int64} (hin : inP L a j = true) : Fr L h (upJ g a j v) := by
  refine ⟨f.1, f.2.1, f.2.2.1, f.2.2.2.1, fun x i q => ⟨(f.2.2.2.2 x i q).1, ?_⟩⟩
  rw [zJ_upJ]
  by_cases e1 : x = a
  · by_cases e2 : i = j
    · rw [e1, e2, hin] at q
      cases q
    · rw [if_pos e1, if_neg e2, ← e1]
      exact (f.2.2.2.2 x i q).2
  · rw [if_neg e1]
    exact (f.2.2.2.2 x i q).2
theorem Fr.rwI {L : List (Nat × Nat)} {h g : Hp} (f : Fr L h g) {a : Nat} {v : Nat → Int32} (hin : (a, 1000) ∈ L) : Fr L h (rwI g a v) := by
  refine ⟨f.1, f.2.1, f.2.2.1, f.2.2.2.1, fun x i q => ⟨?_, (f.2.2.2.2 x i q).2⟩⟩
  have : x ≠ a := fun e => by
    unfold inP at q
    rw [List.any_eq_false] at q
    exact q _ hin (by simp [e])
  show va_up (zI g) a v x i = zI h x i
  rw [va_up_ne _ _ this]
  exact (f.2.2.2.2 x i q).1
theorem Fr.rwJ {L : List (Nat × Nat)} {h g : Hp} (f : Fr L h g) {a : Nat} {v : Nat → Int64} (hin : (a, 1000) ∈ L) : Fr L h (rwJ g a v) := by
  refine ⟨f.1, f.2.1, f.2.2.1, f.2.2.2.1, fun x i q => ⟨(f.2.2.2.2 x i q).1, ?_⟩⟩
  have : x ≠ a := fun e => by
    unfold inP at q
    rw [List.any_eq_false] at q
    exact q _ hin (by simp [e])
  show va_up (zJ g) a v x i = zJ h x i
  rw [va_up_ne _ _ this]
  exact (f.2.2.2.2 x i q).2
theorem inP_of {L : List (Nat × Nat)} {a : Nat} (h : (a, 1000) ∈ L) (j : Nat) : inP L a j = true := by
  unfold inP
  rw [List.any_eq_true]
  exact ⟨_, h, by simp⟩
theorem Fr.I {L : List (Nat × Nat)} {h g : Hp} (f : Fr L h g) {a : Nat} (q : frP L a = true) : zI g a = zI h a := funext fun j => (f.2.2.2.2 a j (frP_in q j)).1
theorem Fr.J {L : List (Nat × Nat)} {h g : Hp} (f : Fr L h g) {a : Nat} (q : frP L a = true) : zJ g a = zJ h a := funext fun j => (f.2.2.2.2 a j (frP_in q j)).2
theorem Fr.s {L : List (Nat × Nat)} {h g : Hp} (f : Fr L h g) {a j : Nat} (q : inP L a j = false) : zI g a j = zI h a j := (f.2.2.2.2 a j q).1
theorem Fr.hi {L : List (Nat × Nat)} {h g : Hp} (f : Fr L h g) (q : lowP L = true) {a : Nat} (ha : 65 ≤ a) : zI g a = zI h a := funext fun j => (f.2.2.2.2 a j (lowP_in q ha j)).1
theorem Fr.K {L : List (Nat × Nat)} {h g : Hp} (f : Fr L h g) : zK g = zK h := f.2.1
theorem Fr.N {L : List (Nat × Nat)} {h g : Hp} (f : Fr L h g) : zN g = zN h := f.2.2.1
theorem Fr.A {L : List (Nat × Nat)} {h g : Hp} (f : Fr L h g) : zA g = zA h := f.2.2.2.1
theorem Fr.shp {L : List (Nat × Nat)} {h g : Hp} (f : Fr L h g) (hs : Shp h) : Shp g := by
  unfold Shp
  rw [f.K, f.N, f.A]
  exact hs
theorem Fr.simC {L : List (Nat × Nat)} {h g : Hp} (f : Fr L h g) (q1 : (!inP L 1 1 && !inP L 39 1 && frP L 40 && frP L 41 && frP L 42 && frP L 43 && frP L 44 && lowP L) = true) (s : SimC h) : SimC g := by
  simp only [Bool.and_eq_true, Bool.not_eq_true'] at q1
  obtain ⟨⟨⟨⟨⟨⟨⟨q1, q2⟩, q3⟩, q4⟩, q5⟩, q6⟩, q7⟩, q8⟩ := q1
  refine SimC_congr (f.s q1) (f.s q2) ?_ (fun a ha => f.hi q8 ha) (by rw [f.A]) (fun a _ => by rw [f.A]) (fun a _ => by rw [f.K]) (fun a _ => by rw [f.N]) s
  intro a h1 h2
  have : a = 40 ∨ a = 41 ∨ a = 42 ∨ a = 43 ∨ a = 44 := by omega
  rcases this with rfl | rfl | rfl | rfl | rfl
  · exact f.I q3
  · exact f.I q4
  · exact f.I q5
  · exact f.I q6
  · exact f.I q7
theorem Fr.simP {L : List (Nat × Nat)} {h g : Hp} (f : Fr L h g) (q1 : (!inP L 15 1 && !inP L 39 18 && frP L 51 && frP L 52 && frP L 53 && frP L 54 && frP L 55 && frP L 56 && frP L 57 && frP L 17 && lowP L) = true) (s : SimP h) : SimP g := by
  simp only [Bool.and_eq_true, Bool.not_eq_true'] at q1
  obtain ⟨⟨⟨⟨⟨⟨⟨⟨⟨⟨q1, q2⟩, q3⟩, q4⟩, q5⟩, q6⟩, q7⟩, q8⟩, q9⟩, q10⟩, q11⟩ := q1
  refine SimP_congr (f.s q1) (f.s q2) ?_ (fun a ha => f.hi q11 ha) (by rw [f.A]) (fun a _ => by rw [f.K]) (f.I q10) s
  intro a h1 h2
  have : a = 51 ∨ a = 52 ∨ a = 53 ∨ a = 54 ∨ a = 55 ∨ a = 56 ∨ a = 57 := by omega
  rcases this with rfl | rfl | rfl | rfl | rfl | rfl | rfl
  · exact f.I q3
  · exact f.I q4
  · exact f.I q5
  · exact f.I q6
  · exact f.I q7
  · exact f.I q8
  · exact f.I q9
theorem Fr.simZ {L : List (Nat × Nat)} {h g : Hp} (f : Fr L h g) (q1 : inP L 15 1 = false) (q2 : inP L 1 1 = false) (q3 : (frP L 43 && lowP L) = true) (s : SimZ h) : SimZ g := by
  rw [Bool.and_eq_true] at q3
  unfold SimZ
  rw [show zc g = zc h by rw [show zc g = g.1.1 from rfl, f.1], show zs g = zs h by rw [show zs g = g.1.2 from rfl, f.1], f.K, f.s q1, f.s q2, f.s (lowP_5 q3.2 0), f.I q3.1]
  exact s
theorem Fr.simA {L : List (Nat × Nat)} {h g : Hp} (f : Fr L h g) (q1 : (!inP L 1 7 && !inP L 39 0 && !inP L 30 0 && !inP L 39 37 && !inP L 15 3 && !inP L 39 26 && frP L 18 && frP L 58) = true) (s : SimA h) : SimA g := by
  simp only [Bool.and_eq_true, Bool.not_eq_true'] at q1
  obtain ⟨⟨⟨⟨⟨⟨⟨q1, q2⟩, q3⟩, q4⟩, q5⟩, q6⟩, q7⟩, q8⟩ := q1
  exact SimA_congr (f.s q1) (f.s q2) (f.s q3) (f.s q4) (f.s q5) (f.s q6) (f.I q7) (f.I q8) s
/-- with other faults, alike -/
theorem Fr.simA0 {L : List (Nat × Nat)} {h g : Hp} (f : Fr L h g) (q1 : (!inP L 30 0 && !inP L 39 37 && !inP L 15 3 && !inP L 39 26 && frP L 18 && frP L 58) = true) (e : zI g 1 7 = zI g 39 0) (s : SimA h) : SimA g := by
  simp only [Bool.and_eq_true, Bool.not_eq_true'] at q1
  obtain ⟨⟨⟨⟨⟨q3, q4⟩, q5⟩, q6⟩, q7⟩, q8⟩ := q1
  refine ⟨e, ?_⟩
  rw [f.s q3, f.s q4, f.s q5, f.s q6, f.I q7, f.I q8]
  exact s.2
theorem Fr.rowOK {L : List (Nat × Nat)} {h g : Hp} (f : Fr L h g) {k : Nat} (q1 : (!inP L 61 k && !inP L 62 k && frP L 63 && frP L (31 + 2 * k) && frP L (32 + 2 * k)) = true) (s : RowOK h k) : RowOK g k := by
  simp only [Bool.and_eq_true, Bool.not_eq_true'] at q1
  obtain ⟨⟨⟨⟨q3, q4⟩, q5⟩, q6⟩, q7⟩ := q1
  exact RowOK_congr (f.s q3) (f.s q4) (fun j _ => by rw [f.I q5]) (f.I q6) (f.I q7) s
theorem Fr.simR {L : List (Nat × Nat)} {h g : Hp} (f : Fr L h g) (q1 : (frP L 61 && frP L 62 && frP L 63 && (List.range 8).all (fun i => frP L (31 + i))) = true) (s : SimR h) : SimR g := by
  simp only [Bool.and_eq_true] at q1
  obtain ⟨⟨⟨q3, q4⟩, q5⟩, q6⟩ := q1
  intro k hk
  have q7 := fun i hi => List.all_eq_true.mp q6 i (List.mem_range.mpr hi)
  refine f.rowOK ?_ (s k hk)
  simp only [Bool.and_eq_true, Bool.not_eq_true']
  refine ⟨⟨⟨⟨frP_in q3 k, frP_in q4 k⟩, q5⟩, q7 (2 * k) (by omega)⟩, ?_⟩
  have := q7 (1 + 2 * k) (by omega)
  rw [show 31 + (1 + 2 * k) = 32 + 2 * k by omega] at this
  exact this
