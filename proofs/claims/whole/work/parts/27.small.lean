/-! Small tests of both sides. -/
def bI (b : Bool) : Int32 := if b then 1 else 0
theorem bI_ne {P : Prop} [Decidable P] (h : P) : ¬ bI (decide P) = 0 := by
  rw [decide_eq_true h]
  decide
theorem bI_eq {P : Prop} [Decidable P] (h : ¬ P) : bI (decide P) = 0 := by
  rw [decide_eq_false h]
  rfl
theorem bI_01 (b : Bool) : bI b = 0 ∨ bI b = 1 := by cases b <;> simp [bI]
theorem i_lt (a b : Int32) : a < b ↔ a.toInt < b.toInt := Int32.lt_iff_toInt_lt
theorem i_le (a b : Int32) : a ≤ b ↔ a.toInt ≤ b.toInt := Int32.le_iff_toInt_le
theorem l_lt (a b : Int64) : a < b ↔ a.toInt < b.toInt := Int64.lt_iff_toInt_lt
theorem l_le (a b : Int64) : a ≤ b ↔ a.toInt ≤ b.toInt := Int64.le_iff_toInt_le
theorem wide (k : Int32) : k.toInt64.toInt = k.toInt := Int32.toInt_toInt64 k
theorem cmp_lt (x y : Int64) : lg_cmp x y < 0 ↔ x.toInt < y.toInt := by
  unfold lg_cmp
  by_cases h1 : x > y
  · rw [if_pos h1]
    have : y.toInt < x.toInt := (l_lt y x).mp h1
    constructor
    · intro q
      exact absurd q (by decide)
    · intro q
      omega
  · rw [if_neg h1]
    by_cases h2 : x = y
    · rw [if_pos h2, h2]
      constructor
      · intro q
        exact absurd q (by decide)
      · intro q
        omega
    · rw [if_neg h2]
      constructor
      · intro _
        have h3 : ¬ y.toInt < x.toInt := fun q => h1 ((l_lt y x).mpr q)
        have h4 : ¬ x.toInt = y.toInt := fun q => h2 (Int64.toInt_inj.mp q)
        omega
      · intro _
        decide
theorem cmp_gt (x y : Int64) : 0 < lg_cmp x y ↔ y.toInt < x.toInt := by
  unfold lg_cmp
  by_cases h1 : x > y
  · rw [if_pos h1]
    have : y.toInt < x.toInt := (l_lt y x).mp h1
    constructor
    · intro q
      exact this
    · intro q
      decide
  · rw [if_neg h1]
    have h3 : ¬ y.toInt < x.toInt := fun q => h1 ((l_lt y x).mpr q)
    by_cases h2 : x = y
    · rw [if_pos h2]
      constructor
      · intro q
        exact absurd q (by decide)
      · intro q
        exact absurd q h3
    · rw [if_neg h2]
      constructor
      · intro q
        exact absurd q (by decide)
      · intro q
        exact absurd q h3
section
variable {sc : Nat × (Nat → Int32)} {h : Hp}
theorem c_in (v l u : Int64) : Cc sc 139 [.long v, .long l, .long u] h (some (.int (bI (decide (l.toInt ≤ v.toInt ∧ v.toInt ≤ u.toInt))))) h := by
  refine cc_of 30 rfl rfl ?_
  refine br_c (fun q => ?_) (fun q => ?_)
  · have q := (cmp_lt v l).mp q
    exact ⟨Or.inr ⟨rfl, Or.inl rfl⟩, by rw [bI_eq (by omega)], rfl⟩
  · have q : ¬ v.toInt < l.toInt := fun z => q ((cmp_lt v l).mpr z)
    refine br_c (fun w => ?_) (fun w => ?_)
    · have w := (cmp_gt v u).mp w
      exact ⟨Or.inr ⟨rfl, Or.inl rfl⟩, by rw [bI_eq (by omega)], rfl⟩
    · have w : ¬ u.toInt < v.toInt := fun z => w ((cmp_gt v u).mpr z)
      exact ⟨Or.inr ⟨rfl, Or.inr rfl⟩, by rw [decide_eq_true (by omega)]; rfl, rfl⟩
theorem rng_of {k N : Int32} {n : Int} (hN : N.toInt = n) : (k < 0 ∨ N ≤ k) ↔ ¬ (0 ≤ k.toInt ∧ k.toInt < n) := by
  rw [i_lt, i_le, hN]
  have : (0 : Int32).toInt = 0 := by decide
  omega
theorem c_isSheet (k : Int32) : Cc sc 131 [.int k] h (some (.int (bI (decide (0 ≤ k.toInt ∧ k.toInt < 4))))) h := by
  refine cc_of 20 rfl rfl ?_
  refine br_c (fun q => ?_) (fun q => br_c (fun w => ?_) (fun w => ?_))
  · exact ⟨Or.inr ⟨rfl, Or.inl rfl⟩, by rw [bI_eq ((rng_of (N := 4) (n := 4) (by decide)).mp (Or.inl q))], rfl⟩
  · exact ⟨Or.inr ⟨rfl, Or.inl rfl⟩, by rw [bI_eq ((rng_of (N := 4) (n := 4) (by decide)).mp (Or.inr w))], rfl⟩
  · exact ⟨Or.inr ⟨rfl, Or.inr rfl⟩, by rw [decide_eq_true (Decidable.not_not.mp fun z => ((rng_of (N := 4) (n := 4) (by decide)).mpr z).elim q w)]; rfl, rfl⟩
theorem c_isLane (k : Int32) : Cc sc 132 [.int k] h (some (.int (bI (decide (0 ≤ k.toInt ∧ k.toInt < 3))))) h := by
  refine cc_of 20 rfl rfl ?_
  refine br_c (fun q => ?_) (fun q => br_c (fun w => ?_) (fun w => ?_))
  · exact ⟨Or.inr ⟨rfl, Or.inl rfl⟩, by rw [bI_eq ((rng_of (N := 3) (n := 3) (by decide)).mp (Or.inl q))], rfl⟩
  · exact ⟨Or.inr ⟨rfl, Or.inl rfl⟩, by rw [bI_eq ((rng_of (N := 3) (n := 3) (by decide)).mp (Or.inr w))], rfl⟩
  · exact ⟨Or.inr ⟨rfl, Or.inr rfl⟩, by rw [decide_eq_true (Decidable.not_not.mp fun z => ((rng_of (N := 3) (n := 3) (by decide)).mpr z).elim q w)]; rfl, rfl⟩
theorem c_isYardLorry (k : Int32) : Cc sc 129 [.int k] h (some (.int (bI (decide (0 ≤ k.toInt ∧ k.toInt < 4))))) h := by
  refine cc_of 20 rfl rfl ?_
  refine br_c (fun q => ?_) (fun q => br_c (fun w => ?_) (fun w => ?_))
  · exact ⟨Or.inr ⟨rfl, Or.inl rfl⟩, by rw [bI_eq ((rng_of (N := 4) (n := 4) (by decide)).mp (Or.inl q))], rfl⟩
  · exact ⟨Or.inr ⟨rfl, Or.inl rfl⟩, by rw [bI_eq ((rng_of (N := 4) (n := 4) (by decide)).mp (Or.inr w))], rfl⟩
  · exact ⟨Or.inr ⟨rfl, Or.inr rfl⟩, by rw [decide_eq_true (Decidable.not_not.mp fun z => ((rng_of (N := 4) (n := 4) (by decide)).mpr z).elim q w)]; rfl, rfl⟩
theorem c_isYardSort (k : Int32) : Cc sc 130 [.int k] h (some (.int (bI (decide (0 ≤ k.toInt ∧ k.toInt < 3))))) h := by
  refine cc_of 20 rfl rfl ?_
  refine br_c (fun q => ?_) (fun q => br_c (fun w => ?_) (fun w => ?_))
  · exact ⟨Or.inr ⟨rfl, Or.inl rfl⟩, by rw [bI_eq ((rng_of (N := 3) (n := 3) (by decide)).mp (Or.inl q))], rfl⟩
  · exact ⟨Or.inr ⟨rfl, Or.inl rfl⟩, by rw [bI_eq ((rng_of (N := 3) (n := 3) (by decide)).mp (Or.inr w))], rfl⟩
  · exact ⟨Or.inr ⟨rfl, Or.inr rfl⟩, by rw [decide_eq_true (Decidable.not_not.mp fun z => ((rng_of (N := 3) (n := 3) (by decide)).mpr z).elim q w)]; rfl, rfl⟩
/-- a test of the model: not within 0 .. u -/
theorem bI_not (b : Bool) : (if bI b = 0 then (1 : Int32) else 0) = bI (!b) := by cases b <;> rfl
theorem c_noSheet (k : Int32) : Cc sc 206 [.int k] h (some (.int (bI (decide (¬ (0 ≤ k.toInt ∧ k.toInt < 4)))))) h := by
  refine cc_of 20 rfl rfl ?_
  refine And.intro rfl (And.intro rfl (Exists.intro _ (Exists.intro _ (And.intro (c_in k.toInt64 0 3) ?_))))
  have e : ((0 : Int64).toInt ≤ k.toInt64.toInt ∧ k.toInt64.toInt ≤ (3 : Int64).toInt) ↔ (0 ≤ k.toInt ∧ k.toInt < 4) := by
    rw [wide, show (0 : Int64).toInt = 0 by decide, show (3 : Int64).toInt = 3 by decide]
    omega
  refine br_c (fun q => ?_) (fun q => ?_)
  · have q1 : 0 ≤ k.toInt ∧ k.toInt < 4 := Decidable.not_not.mp fun z => q (bI_eq (fun w => z (e.mp w)))
    exact ⟨Or.inr ⟨rfl, Or.inl rfl⟩, by rw [bI_eq (fun z => z q1)], rfl⟩
  · have q1 : ¬ (0 ≤ k.toInt ∧ k.toInt < 4) := fun z => q (bI_ne (e.mpr z))
    exact ⟨Or.inr ⟨rfl, Or.inr rfl⟩, by rw [decide_eq_true q1]; rfl, rfl⟩
theorem c_refused (hs : Shp h) (v : Int32) : Cc sc 143 [.ref 39, .int v] h (some (.int v)) (upI h 39 0 0) := by
  refine cc_nh (F := fun h => upI h 39 0 0) hs (cc_of 20 rfl rfl ?_)
  exact And.intro rfl ⟨Or.inl rfl, rfl, rfl⟩
theorem c_failed (hs : Shp h) (v : Int32) : Cc sc 144 [.ref 39, .int v] h (some (.int (-10 - v))) (upI h 39 0 v) := by
  refine cc_nh (F := fun h => upI h 39 0 v) hs (cc_of 20 rfl rfl ?_)
  exact And.intro rfl ⟨Or.inl rfl, rfl, rfl⟩
theorem c_lost : Cc sc 140 [] h (some (.long (-9223372036854775808))) h := cc_of 20 rfl rfl ⟨trivial, rfl, rfl⟩
theorem c_failedLong (hs : Shp h) (v : Int32) : Cc sc 145 [.ref 39, .int v] h (some (.long (-9223372036854775808))) (upI h 39 0 v) := by
  refine cc_nh (F := fun h => upI h 39 0 v) hs (cc_of 20 rfl rfl ?_)
  refine And.intro rfl ?_
  refine And.intro rfl (And.intro rfl (Exists.intro _ (Exists.intro _ (And.intro c_lost ?_))))
  exact ⟨trivial, rfl, rfl⟩
theorem c_faulty (hs : Shp h) (v : Int32) : Cc sc 133 [.ref 1, .int v] h (some (.int (-10 - v))) (upI h 1 7 v) := by
  refine cc_nh (F := fun h => upI h 1 7 v) hs (cc_of 20 rfl rfl ?_)
  exact And.intro rfl ⟨Or.inl rfl, rfl, rfl⟩
theorem c_fault_x (hs : Shp h) : Cc sc 123 [.ref 1] h (some (.int (zI h 1 7))) h := by
  refine cc_nh (F := fun h => h) hs (cc_of 20 rfl rfl ?_)
  exact And.intro rfl ⟨Or.inl rfl, rfl, rfl⟩
theorem c_fault_m (hs : Shp h) : Cc sc 219 [.ref 39] h (some (.int (zI h 39 0))) h := by
  refine cc_nh (F := fun h => h) hs (cc_of 20 rfl rfl ?_)
  exact And.intro rfl ⟨Or.inl rfl, rfl, rfl⟩
theorem c_trace_x (hs : Shp h) : Cc sc 122 [.ref 1] h (some (.int (zI h 30 0))) h := by
  refine cc_nh (F := fun h => h) hs (cc_of 20 rfl rfl ?_)
  exact And.intro rfl (And.intro rfl ⟨Or.inl rfl, rfl, rfl⟩)
theorem c_trace_m (hs : Shp h) : Cc sc 218 [.ref 39] h (some (.int (zI h 39 37))) h := by
  refine cc_nh (F := fun h => h) hs (cc_of 20 rfl rfl ?_)
  exact And.intro rfl ⟨Or.inl rfl, rfl, rfl⟩
end
