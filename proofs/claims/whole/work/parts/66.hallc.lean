/-! How many lorries can run: Hall's condition, by the class's counting. -/
def ht (s v : Nat) : Bool := (fS s 0 && decide (v / 2 ^ 0 % 2 = 1)) || (fS s 1 && decide (v / 2 ^ 1 % 2 = 1)) || (fS s 2 && decide (v / 2 ^ 2 % 2 = 1))
def uC (F : Nat → Nat) (s : Nat) : Nat → Nat
  | 0 => 0
  | n + 1 => uC F s n + (if ht s (F n) = true then 1 else 0)
theorem uC_le (F : Nat → Nat) (s n : Nat) : uC F s n ≤ n := by
  induction n with
  | zero => exact Nat.le_refl _
  | succ n ih =>
    show uC F s n + (if ht s (F n) = true then 1 else 0) ≤ n + 1
    split <;> omega
theorem uC_congr {F G : Nat → Nat} {s : Nat} : ∀ n, (∀ p, p < n → F p = G p) → uC F s n = uC G s n := by
  intro n
  induction n with
  | zero => intro _; rfl
  | succ n ih =>
    intro h
    show uC F s n + (if ht s (F n) = true then 1 else 0) = uC G s n + (if ht s (G n) = true then 1 else 0)
    rw [ih (fun p hp => h p (by omega)), h n (by omega)]

theorem uC_1 {F : Nat → Nat} (hF : ∀ p, F p < 8) (n : Nat) : uC F 1 n = tc F 1 n + tc F 3 n + tc F 5 n + tc F 7 n := by
  induction n with
  | zero => rfl
  | succ n ih =>
    show uC F 1 n + (if ht 1 (F n) = true then 1 else 0) = (tc F 1 n + (if F n = 1 then 1 else 0)) + (tc F 3 n + (if F n = 3 then 1 else 0)) + (tc F 5 n + (if F n = 5 then 1 else 0)) + (tc F 7 n + (if F n = 7 then 1 else 0))
    have hv := hF n
    obtain k | k | k | k | k | k | k | k : F n = 0 ∨ F n = 1 ∨ F n = 2 ∨ F n = 3 ∨ F n = 4 ∨ F n = 5 ∨ F n = 6 ∨ F n = 7 := by omega
    · rw [k, show ht 1 0 = false by decide, ih]
      simp only [Nat.reduceEqDiff, reduceIte, Bool.false_eq_true, Nat.add_zero]
      try omega
    · rw [k, show ht 1 1 = true by decide, ih]
      simp only [Nat.reduceEqDiff, reduceIte, Bool.false_eq_true, Nat.add_zero]
      try omega
    · rw [k, show ht 1 2 = false by decide, ih]
      simp only [Nat.reduceEqDiff, reduceIte, Bool.false_eq_true, Nat.add_zero]
      try omega
    · rw [k, show ht 1 3 = true by decide, ih]
      simp only [Nat.reduceEqDiff, reduceIte, Bool.false_eq_true, Nat.add_zero]
      try omega
    · rw [k, show ht 1 4 = false by decide, ih]
      simp only [Nat.reduceEqDiff, reduceIte, Bool.false_eq_true, Nat.add_zero]
      try omega
    · rw [k, show ht 1 5 = true by decide, ih]
      simp only [Nat.reduceEqDiff, reduceIte, Bool.false_eq_true, Nat.add_zero]
      try omega
    · rw [k, show ht 1 6 = false by decide, ih]
      simp only [Nat.reduceEqDiff, reduceIte, Bool.false_eq_true, Nat.add_zero]
      try omega
    · rw [k, show ht 1 7 = true by decide, ih]
      simp only [Nat.reduceEqDiff, reduceIte, Bool.false_eq_true, Nat.add_zero]
      try omega
theorem uC_2 {F : Nat → Nat} (hF : ∀ p, F p < 8) (n : Nat) : uC F 2 n = tc F 2 n + tc F 3 n + tc F 6 n + tc F 7 n := by
  induction n with
  | zero => rfl
  | succ n ih =>
    show uC F 2 n + (if ht 2 (F n) = true then 1 else 0) = (tc F 2 n + (if F n = 2 then 1 else 0)) + (tc F 3 n + (if F n = 3 then 1 else 0)) + (tc F 6 n + (if F n = 6 then 1 else 0)) + (tc F 7 n + (if F n = 7 then 1 else 0))
    have hv := hF n
    obtain k | k | k | k | k | k | k | k : F n = 0 ∨ F n = 1 ∨ F n = 2 ∨ F n = 3 ∨ F n = 4 ∨ F n = 5 ∨ F n = 6 ∨ F n = 7 := by omega
    · rw [k, show ht 2 0 = false by decide, ih]
      simp only [Nat.reduceEqDiff, reduceIte, Bool.false_eq_true, Nat.add_zero]
      try omega
    · rw [k, show ht 2 1 = false by decide, ih]
      simp only [Nat.reduceEqDiff, reduceIte, Bool.false_eq_true, Nat.add_zero]
      try omega
    · rw [k, show ht 2 2 = true by decide, ih]
      simp only [Nat.reduceEqDiff, reduceIte, Bool.false_eq_true, Nat.add_zero]
      try omega
    · rw [k, show ht 2 3 = true by decide, ih]
      simp only [Nat.reduceEqDiff, reduceIte, Bool.false_eq_true, Nat.add_zero]
      try omega
    · rw [k, show ht 2 4 = false by decide, ih]
      simp only [Nat.reduceEqDiff, reduceIte, Bool.false_eq_true, Nat.add_zero]
      try omega
    · rw [k, show ht 2 5 = false by decide, ih]
      simp only [Nat.reduceEqDiff, reduceIte, Bool.false_eq_true, Nat.add_zero]
      try omega
    · rw [k, show ht 2 6 = true by decide, ih]
      simp only [Nat.reduceEqDiff, reduceIte, Bool.false_eq_true, Nat.add_zero]
      try omega
    · rw [k, show ht 2 7 = true by decide, ih]
      simp only [Nat.reduceEqDiff, reduceIte, Bool.false_eq_true, Nat.add_zero]
      try omega
theorem uC_3 {F : Nat → Nat} (hF : ∀ p, F p < 8) (n : Nat) : uC F 3 n = tc F 1 n + tc F 2 n + tc F 3 n + tc F 5 n + tc F 6 n + tc F 7 n := by
  induction n with
  | zero => rfl
  | succ n ih =>
    show uC F 3 n + (if ht 3 (F n) = true then 1 else 0) = (tc F 1 n + (if F n = 1 then 1 else 0)) + (tc F 2 n + (if F n = 2 then 1 else 0)) + (tc F 3 n + (if F n = 3 then 1 else 0)) + (tc F 5 n + (if F n = 5 then 1 else 0)) + (tc F 6 n + (if F n = 6 then 1 else 0)) + (tc F 7 n + (if F n = 7 then 1 else 0))
    have hv := hF n
    obtain k | k | k | k | k | k | k | k : F n = 0 ∨ F n = 1 ∨ F n = 2 ∨ F n = 3 ∨ F n = 4 ∨ F n = 5 ∨ F n = 6 ∨ F n = 7 := by omega
    · rw [k, show ht 3 0 = false by decide, ih]
      simp only [Nat.reduceEqDiff, reduceIte, Bool.false_eq_true, Nat.add_zero]
      try omega
    · rw [k, show ht 3 1 = true by decide, ih]
      simp only [Nat.reduceEqDiff, reduceIte, Bool.false_eq_true, Nat.add_zero]
      try omega
    · rw [k, show ht 3 2 = true by decide, ih]
      simp only [Nat.reduceEqDiff, reduceIte, Bool.false_eq_true, Nat.add_zero]
      try omega
    · rw [k, show ht 3 3 = true by decide, ih]
      simp only [Nat.reduceEqDiff, reduceIte, Bool.false_eq_true, Nat.add_zero]
      try omega
    · rw [k, show ht 3 4 = false by decide, ih]
      simp only [Nat.reduceEqDiff, reduceIte, Bool.false_eq_true, Nat.add_zero]
      try omega
    · rw [k, show ht 3 5 = true by decide, ih]
      simp only [Nat.reduceEqDiff, reduceIte, Bool.false_eq_true, Nat.add_zero]
      try omega
    · rw [k, show ht 3 6 = true by decide, ih]
      simp only [Nat.reduceEqDiff, reduceIte, Bool.false_eq_true, Nat.add_zero]
      try omega
    · rw [k, show ht 3 7 = true by decide, ih]
      simp only [Nat.reduceEqDiff, reduceIte, Bool.false_eq_true, Nat.add_zero]
      try omega
theorem uC_4 {F : Nat → Nat} (hF : ∀ p, F p < 8) (n : Nat) : uC F 4 n = tc F 4 n + tc F 5 n + tc F 6 n + tc F 7 n := by
  induction n with
  | zero => rfl
  | succ n ih =>
    show uC F 4 n + (if ht 4 (F n) = true then 1 else 0) = (tc F 4 n + (if F n = 4 then 1 else 0)) + (tc F 5 n + (if F n = 5 then 1 else 0)) + (tc F 6 n + (if F n = 6 then 1 else 0)) + (tc F 7 n + (if F n = 7 then 1 else 0))
    have hv := hF n
    obtain k | k | k | k | k | k | k | k : F n = 0 ∨ F n = 1 ∨ F n = 2 ∨ F n = 3 ∨ F n = 4 ∨ F n = 5 ∨ F n = 6 ∨ F n = 7 := by omega
    · rw [k, show ht 4 0 = false by decide, ih]
      simp only [Nat.reduceEqDiff, reduceIte, Bool.false_eq_true, Nat.add_zero]
      try omega
    · rw [k, show ht 4 1 = false by decide, ih]
      simp only [Nat.reduceEqDiff, reduceIte, Bool.false_eq_true, Nat.add_zero]
      try omega
    · rw [k, show ht 4 2 = false by decide, ih]
      simp only [Nat.reduceEqDiff, reduceIte, Bool.false_eq_true, Nat.add_zero]
      try omega
    · rw [k, show ht 4 3 = false by decide, ih]
      simp only [Nat.reduceEqDiff, reduceIte, Bool.false_eq_true, Nat.add_zero]
      try omega
    · rw [k, show ht 4 4 = true by decide, ih]
      simp only [Nat.reduceEqDiff, reduceIte, Bool.false_eq_true, Nat.add_zero]
      try omega
    · rw [k, show ht 4 5 = true by decide, ih]
      simp only [Nat.reduceEqDiff, reduceIte, Bool.false_eq_true, Nat.add_zero]
      try omega
    · rw [k, show ht 4 6 = true by decide, ih]
      simp only [Nat.reduceEqDiff, reduceIte, Bool.false_eq_true, Nat.add_zero]
      try omega
    · rw [k, show ht 4 7 = true by decide, ih]
      simp only [Nat.reduceEqDiff, reduceIte, Bool.false_eq_true, Nat.add_zero]
      try omega
theorem uC_5 {F : Nat → Nat} (hF : ∀ p, F p < 8) (n : Nat) : uC F 5 n = tc F 1 n + tc F 3 n + tc F 4 n + tc F 5 n + tc F 6 n + tc F 7 n := by
  induction n with
  | zero => rfl
  | succ n ih =>
    show uC F 5 n + (if ht 5 (F n) = true then 1 else 0) = (tc F 1 n + (if F n = 1 then 1 else 0)) + (tc F 3 n + (if F n = 3 then 1 else 0)) + (tc F 4 n + (if F n = 4 then 1 else 0)) + (tc F 5 n + (if F n = 5 then 1 else 0)) + (tc F 6 n + (if F n = 6 then 1 else 0)) + (tc F 7 n + (if F n = 7 then 1 else 0))
    have hv := hF n
    obtain k | k | k | k | k | k | k | k : F n = 0 ∨ F n = 1 ∨ F n = 2 ∨ F n = 3 ∨ F n = 4 ∨ F n = 5 ∨ F n = 6 ∨ F n = 7 := by omega
    · rw [k, show ht 5 0 = false by decide, ih]
      simp only [Nat.reduceEqDiff, reduceIte, Bool.false_eq_true, Nat.add_zero]
      try omega
    · rw [k, show ht 5 1 = true by decide, ih]
      simp only [Nat.reduceEqDiff, reduceIte, Bool.false_eq_true, Nat.add_zero]
      try omega
    · rw [k, show ht 5 2 = false by decide, ih]
      simp only [Nat.reduceEqDiff, reduceIte, Bool.false_eq_true, Nat.add_zero]
      try omega
    · rw [k, show ht 5 3 = true by decide, ih]
      simp only [Nat.reduceEqDiff, reduceIte, Bool.false_eq_true, Nat.add_zero]
      try omega
    · rw [k, show ht 5 4 = true by decide, ih]
      simp only [Nat.reduceEqDiff, reduceIte, Bool.false_eq_true, Nat.add_zero]
      try omega
    · rw [k, show ht 5 5 = true by decide, ih]
      simp only [Nat.reduceEqDiff, reduceIte, Bool.false_eq_true, Nat.add_zero]
      try omega
    · rw [k, show ht 5 6 = true by decide, ih]
      simp only [Nat.reduceEqDiff, reduceIte, Bool.false_eq_true, Nat.add_zero]
      try omega
    · rw [k, show ht 5 7 = true by decide, ih]
      simp only [Nat.reduceEqDiff, reduceIte, Bool.false_eq_true, Nat.add_zero]
      try omega
theorem uC_6 {F : Nat → Nat} (hF : ∀ p, F p < 8) (n : Nat) : uC F 6 n = tc F 2 n + tc F 3 n + tc F 4 n + tc F 5 n + tc F 6 n + tc F 7 n := by
  induction n with
  | zero => rfl
  | succ n ih =>
    show uC F 6 n + (if ht 6 (F n) = true then 1 else 0) = (tc F 2 n + (if F n = 2 then 1 else 0)) + (tc F 3 n + (if F n = 3 then 1 else 0)) + (tc F 4 n + (if F n = 4 then 1 else 0)) + (tc F 5 n + (if F n = 5 then 1 else 0)) + (tc F 6 n + (if F n = 6 then 1 else 0)) + (tc F 7 n + (if F n = 7 then 1 else 0))
    have hv := hF n
    obtain k | k | k | k | k | k | k | k : F n = 0 ∨ F n = 1 ∨ F n = 2 ∨ F n = 3 ∨ F n = 4 ∨ F n = 5 ∨ F n = 6 ∨ F n = 7 := by omega
    · rw [k, show ht 6 0 = false by decide, ih]
      simp only [Nat.reduceEqDiff, reduceIte, Bool.false_eq_true, Nat.add_zero]
      try omega
    · rw [k, show ht 6 1 = false by decide, ih]
      simp only [Nat.reduceEqDiff, reduceIte, Bool.false_eq_true, Nat.add_zero]
      try omega
    · rw [k, show ht 6 2 = true by decide, ih]
      simp only [Nat.reduceEqDiff, reduceIte, Bool.false_eq_true, Nat.add_zero]
      try omega
    · rw [k, show ht 6 3 = true by decide, ih]
      simp only [Nat.reduceEqDiff, reduceIte, Bool.false_eq_true, Nat.add_zero]
      try omega
    · rw [k, show ht 6 4 = true by decide, ih]
      simp only [Nat.reduceEqDiff, reduceIte, Bool.false_eq_true, Nat.add_zero]
      try omega
    · rw [k, show ht 6 5 = true by decide, ih]
      simp only [Nat.reduceEqDiff, reduceIte, Bool.false_eq_true, Nat.add_zero]
      try omega
    · rw [k, show ht 6 6 = true by decide, ih]
      simp only [Nat.reduceEqDiff, reduceIte, Bool.false_eq_true, Nat.add_zero]
      try omega
    · rw [k, show ht 6 7 = true by decide, ih]
      simp only [Nat.reduceEqDiff, reduceIte, Bool.false_eq_true, Nat.add_zero]
      try omega
theorem uC_7 {F : Nat → Nat} (hF : ∀ p, F p < 8) (n : Nat) : uC F 7 n = tc F 1 n + tc F 2 n + tc F 3 n + tc F 4 n + tc F 5 n + tc F 6 n + tc F 7 n := by
  induction n with
  | zero => rfl
  | succ n ih =>
    show uC F 7 n + (if ht 7 (F n) = true then 1 else 0) = (tc F 1 n + (if F n = 1 then 1 else 0)) + (tc F 2 n + (if F n = 2 then 1 else 0)) + (tc F 3 n + (if F n = 3 then 1 else 0)) + (tc F 4 n + (if F n = 4 then 1 else 0)) + (tc F 5 n + (if F n = 5 then 1 else 0)) + (tc F 6 n + (if F n = 6 then 1 else 0)) + (tc F 7 n + (if F n = 7 then 1 else 0))
    have hv := hF n
    obtain k | k | k | k | k | k | k | k : F n = 0 ∨ F n = 1 ∨ F n = 2 ∨ F n = 3 ∨ F n = 4 ∨ F n = 5 ∨ F n = 6 ∨ F n = 7 := by omega
    · rw [k, show ht 7 0 = false by decide, ih]
      simp only [Nat.reduceEqDiff, reduceIte, Bool.false_eq_true, Nat.add_zero]
      try omega
    · rw [k, show ht 7 1 = true by decide, ih]
      simp only [Nat.reduceEqDiff, reduceIte, Bool.false_eq_true, Nat.add_zero]
      try omega
    · rw [k, show ht 7 2 = true by decide, ih]
      simp only [Nat.reduceEqDiff, reduceIte, Bool.false_eq_true, Nat.add_zero]
      try omega
    · rw [k, show ht 7 3 = true by decide, ih]
      simp only [Nat.reduceEqDiff, reduceIte, Bool.false_eq_true, Nat.add_zero]
      try omega
    · rw [k, show ht 7 4 = true by decide, ih]
      simp only [Nat.reduceEqDiff, reduceIte, Bool.false_eq_true, Nat.add_zero]
      try omega
    · rw [k, show ht 7 5 = true by decide, ih]
      simp only [Nat.reduceEqDiff, reduceIte, Bool.false_eq_true, Nat.add_zero]
      try omega
    · rw [k, show ht 7 6 = true by decide, ih]
      simp only [Nat.reduceEqDiff, reduceIte, Bool.false_eq_true, Nat.add_zero]
      try omega
    · rw [k, show ht 7 7 = true by decide, ih]
      simp only [Nat.reduceEqDiff, reduceIte, Bool.false_eq_true, Nat.add_zero]
      try omega
theorem HC_of {F : Nat → Nat} (hF : ∀ p, F p < 8) {n c : Nat} (h : ∀ s, 1 ≤ s → s < 8 → c * bc s ≤ uC F s n) : HC (tc F 1 n) (tc F 2 n) (tc F 3 n) (tc F 4 n) (tc F 5 n) (tc F 6 n) (tc F 7 n) c c c := by
  have h1 := h 1 (by decide) (by decide)
  rw [uC_1 hF, show bc 1 = 1 from rfl] at h1
  have h2 := h 2 (by decide) (by decide)
  rw [uC_2 hF, show bc 2 = 1 from rfl] at h2
  have h3 := h 3 (by decide) (by decide)
  rw [uC_3 hF, show bc 3 = 2 from rfl] at h3
  have h4 := h 4 (by decide) (by decide)
  rw [uC_4 hF, show bc 4 = 1 from rfl] at h4
  have h5 := h 5 (by decide) (by decide)
  rw [uC_5 hF, show bc 5 = 2 from rfl] at h5
  have h6 := h 6 (by decide) (by decide)
  rw [uC_6 hF, show bc 6 = 2 from rfl] at h6
  have h7 := h 7 (by decide) (by decide)
  rw [uC_7 hF, show bc 7 = 3 from rfl] at h7
  unfold HC
  omega
/-- so many of the first 3 c places are of the sorts of a set -/
theorem pl_cnt {s : Nat} (h1 : 1 ≤ s) (h2 : s < 8) (c : Nat) : sm (fun i => if fS s (i % 3) = true then (1 : Int) else 0) (3 * c) = c * bc s := by
  induction c with
  | zero =>
    show (0 : Int) = _
    simp
  | succ c ih =>
    rw [show 3 * (c + 1) = 3 * c + 1 + 1 + 1 by omega]
    show sm (fun i => if fS s (i % 3) = true then (1 : Int) else 0) (3 * c) + (if fS s (3 * c % 3) = true then (1 : Int) else 0) + (if fS s ((3 * c + 1) % 3) = true then (1 : Int) else 0) + (if fS s ((3 * c + 1 + 1) % 3) = true then (1 : Int) else 0) = _
    rw [ih, show 3 * c % 3 = 0 by omega, show (3 * c + 1) % 3 = 1 by omega, show (3 * c + 1 + 1) % 3 = 2 by omega]
    have k : ∀ s : Fin 8, ((if fS s.val 0 = true then (1 : Int) else 0) + (if fS s.val 1 = true then (1 : Int) else 0) + (if fS s.val 2 = true then (1 : Int) else 0)) = bc s.val := by decide
    have k := k ⟨s, h2⟩
    have e : ((c + 1 : Nat) : Int) * (bc s : Int) = (c : Int) * (bc s : Int) + (bc s : Int) := by
      rw [Int.natCast_add, Int.add_mul]
      simp
    rw [e]
    have k : ((if fS s 0 = true then (1 : Int) else 0) + (if fS s 1 = true then (1 : Int) else 0) + (if fS s 2 = true then (1 : Int) else 0)) = bc s := k
    omega
theorem uC_sm (F : Nat → Nat) (s n : Nat) : (uC F s n : Int) = sm (fun p => if ht s (F p) = true then (1 : Int) else 0) n := by
  induction n with
  | zero => rfl
  | succ n ih =>
    show ((uC F s n + (if ht s (F n) = true then 1 else 0) : Nat) : Int) = sm (fun p => if ht s (F p) = true then (1 : Int) else 0) n + (if ht s (F n) = true then (1 : Int) else 0)
    rw [← ih]
    split <;> omega
theorem ht_of {s v t : Nat} (ht3 : t < 3) (h1 : fS s t = true) (h2 : v / 2 ^ t % 2 = 1) : ht s v = true := by
  unfold ht
  obtain rfl | rfl | rfl : t = 0 ∨ t = 1 ∨ t = 2 := by omega
  · rw [h1, decide_eq_true h2]
    simp
  · rw [h1, decide_eq_true h2]
    simp
  · rw [h1, decide_eq_true h2]
    simp
/-- a way for 3 c places: Hall's condition holds -/
theorem uC_of {F : Nat → Nat} {n c s : Nat} {a : Nat → Nat} (h1 : 1 ≤ s) (h2 : s < 8) (a1 : ∀ i, i < 3 * c → a i < n ∧ F (a i) / 2 ^ (i % 3) % 2 = 1) (a2 : ∀ i j, i < 3 * c → j < 3 * c → a i = a j → i = j) : c * bc s ≤ uC F s n := by
  have k := sm_inj (m := n) (3 * c) (fun i => fS s (i % 3)) a (fun p => if ht s (F p) = true then (1 : Int) else 0) (fun p _ => by
    show (0 : Int) ≤ if ht s (F p) = true then (1 : Int) else 0
    split <;> omega) (fun i hi _ => (a1 i hi).1) (fun i j hi hj _ _ e => a2 i j hi hj e)
  have e : sm (fun i => if fS s (i % 3) = true then (if ht s (F (a i)) = true then (1 : Int) else 0) else 0) (3 * c) = sm (fun i => if fS s (i % 3) = true then (1 : Int) else 0) (3 * c) := sm_congr _ (fun i hi => by
    by_cases q : fS s (i % 3) = true
    · rw [if_pos q, if_pos q, if_pos (ht_of (by omega) q (a1 i hi).2)]
    · rw [if_neg q, if_neg q])
  rw [e, pl_cnt h1 h2, ← uC_sm] at k
  have k2 : ((c * bc s : Nat) : Int) ≤ (uC F s n : Int) := by
    rw [Int.natCast_mul]
    exact k
  omega
/-- the class's count -/
def mlF (F : Nat → Nat) (n : Nat) : Nat → Nat
  | 0 => 4
  | k + 1 => min (mlF F n k) (uC F (k + 1) n / bc (k + 1))
theorem mlF_4 (F : Nat → Nat) (n k : Nat) : mlF F n k ≤ 4 := by
  induction k with
  | zero => exact Nat.le_refl _
  | succ k ih => exact Nat.le_trans (Nat.min_le_left _ _) ih
theorem bc_pos : ∀ s : Fin 8, 1 ≤ s.val → 1 ≤ bc s.val ∧ bc s.val ≤ 3 := by decide
theorem le_mlF {F : Nat → Nat} {n c : Nat} : ∀ k, k < 8 → (c ≤ mlF F n k ↔ c ≤ 4 ∧ ∀ s, 1 ≤ s → s ≤ k → c * bc s ≤ uC F s n) := by
  intro k
  induction k with
  | zero => exact fun _ => ⟨fun q => ⟨q, fun s h1 h2 => by omega⟩, fun q => q.1⟩
  | succ k ih =>
    intro hk
    have b := (bc_pos ⟨k + 1, hk⟩ (by show 1 ≤ k + 1; omega)).1
    show c ≤ min (mlF F n k) (uC F (k + 1) n / bc (k + 1)) ↔ _
    rw [Nat.le_min, ih (by omega), Nat.le_div_iff_mul_le b]
    constructor
    · intro q
      refine ⟨q.1.1, fun s h1 h2 => ?_⟩
      by_cases e : s = k + 1
      · rw [e]; exact q.2
      · exact q.1.2 s h1 (by omega)
    · exact fun q => ⟨⟨q.1, fun s h1 h2 => q.2 s h1 (by omega)⟩, q.2 (k + 1) (by omega) (by omega)⟩
def fmk (kd st hr : Nat) : Nat := (if (hN kd st hr 0).isSome = true then 1 else 0) + (if (hN kd st hr 1).isSome = true then 2 else 0) + (if (hN kd st hr 2).isSome = true then 4 else 0)
theorem fmk_lt (kd st hr : Nat) : fmk kd st hr < 8 := by
  unfold fmk
  split <;> split <;> split <;> omega
theorem fmk_bit {kd st hr t : Nat} (ht : t < 3) : fmk kd st hr / 2 ^ t % 2 = 1 ↔ (hN kd st hr t).isSome = true := by
  unfold fmk
  obtain rfl | rfl | rfl : t = 0 ∨ t = 1 ∨ t = 2 := by omega
  all_goals
    cases (hN kd st hr 0).isSome <;> cases (hN kd st hr 1).isSome <;> cases (hN kd st hr 2).isSome <;> decide
def Fm (h : Hp) (p : Nat) : Nat := if pUs h p = true then fmk (pKd h p) (pSt h p) (pHr h p) else 0
theorem Fm_lt (h : Hp) (p : Nat) : Fm h p < 8 := by
  unfold Fm
  split
  · exact fmk_lt _ _ _
  · decide
theorem Fm_bit {h : Hp} {p x K : Nat} : Fm h p / 2 ^ (x % 3) % 2 = 1 ↔ ∃ c, csH K h x p = some c := by
  unfold Fm csH cs1
  cases hu : pUs h p with
  | false =>
    rw [if_neg (by decide)]
    simp
  | true =>
    rw [if_pos rfl, fmk_bit (by omega)]
    cases hh : hN (pKd h p) (pSt h p) (pHr h p) (x % 3) with
    | none => simp
    | some n => simp
theorem ht_fm (s kd st hr : Nat) : ht s (fmk kd st hr) = ((fS s 0 && (hN kd st hr 0).isSome) || (fS s 1 && (hN kd st hr 1).isSome) || (fS s 2 && (hN kd st hr 2).isSome)) := by
  have e : ∀ t, t < 3 → decide (fmk kd st hr / 2 ^ t % 2 = 1) = (hN kd st hr t).isSome := fun t ht => by
    cases hb : (hN kd st hr t).isSome with
    | true => exact decide_eq_true ((fmk_bit ht).mpr hb)
    | false => exact decide_eq_false (fun z => by rw [(fmk_bit ht).mp z] at hb; cases hb)
  unfold ht
  rw [e 0 (by decide), e 1 (by decide), e 2 (by decide)]
theorem ht_0 (s : Nat) : ht s 0 = false := by
  unfold ht
  simp
section
variable {sc : Nat × (Nat → Int32)} {h : Hp}
theorem oI_ne (x : Option Nat) (hx : ∀ n, x = some n → n < 100) : oI x = -9 ↔ x.isSome = false := by
  cases x with
  | none => exact ⟨fun _ => rfl, fun _ => rfl⟩
  | some n =>
    have := hx n rfl
    constructor
    · intro z
      have z : nI n = -9 := z
      have := congrArg Int32.toInt z
      rw [nI_toInt (by omega), tm9] at this
      omega
    · intro z
      cases z
theorem sh_cond {s t : Nat} (hs : s < 8) (ht : t < 3) : (nI s >>> (nI t &&& 31)) &&& 1 = nI (s / 2 ^ t % 2) := shr_bit (by omega) (by omega)
theorem c_fitsOneOf {a kd st hr s : Nat} (hkd : kd ≤ 2) (hk : zK h a = pkd kd) (h1 : zI h a 1 = nI st) (h2 : zI h a 2 = nI hr) (hst : st ≤ 2) (hhr : hr ≤ 9) (hs : s < 8) : Cc sc 69 [.ref a, .int (nI s)] h (some (.int (bI (ht s (fmk kd st hr))))) h := by
  have L : ∀ (d t : Nat) (b : Bool), t + d = 3 → (d = 3 → b = ht s (fmk kd st hr)) → (d = 2 → b = ((fS s 1 && (hN kd st hr 1).isSome) || (fS s 2 && (hN kd st hr 2).isSome))) → (d = 1 → b = (fS s 2 && (hN kd st hr 2).isSome)) → (d = 0 → b = false) → Rn sc (mtk 69) 2 [some (.ref a), some (.int (nI s)), some (.int (nI t))] [] h (some (.int (bI b))) h := by
    intro d
    induction d with
    | zero =>
      intro t b htd _ _ _ hb
      obtain rfl : t = 3 := by omega
      rw [hb rfl]
      refine bk_sound (cuts := []) 20 _ _ _ _ ?_
      refine br_t (by decide) ?_
      exact ⟨Or.inr ⟨rfl, Or.inl rfl⟩, rfl, rfl⟩
    | succ d ih =>
      intro t b htd b3 b2 b1 b0
      -- what is left behind this sort
      obtain ⟨b', hb', e3, e2, e1, e0⟩ : ∃ b', b = ((fS s t && (hN kd st hr t).isSome) || b') ∧ (d = 3 → b' = ht s (fmk kd st hr)) ∧ (d = 2 → b' = ((fS s 1 && (hN kd st hr 1).isSome) || (fS s 2 && (hN kd st hr 2).isSome))) ∧ (d = 1 → b' = (fS s 2 && (hN kd st hr 2).isSome)) ∧ (d = 0 → b' = false) := by
        obtain rfl | rfl | rfl : d = 0 ∨ d = 1 ∨ d = 2 := by omega
        · obtain rfl : t = 2 := by omega
          exact ⟨false, by rw [b1 rfl, Bool.or_false], fun z => by omega, fun z => by omega, fun z => by omega, fun _ => rfl⟩
        · obtain rfl : t = 1 := by omega
          exact ⟨_, by rw [b2 rfl], fun z => by omega, fun z => by omega, fun _ => rfl, fun z => by omega⟩
        · obtain rfl : t = 0 := by omega
          exact ⟨_, by rw [b3 rfl, ht_fm, Bool.or_assoc], fun z => by omega, fun _ => rfl, fun z => by omega, fun z => by omega⟩
      have R := ih (t + 1) b' (by omega) e3 e2 e1 e0
      rw [← nI_1] at R
      have eb := sh_cond hs (by omega : t < 3)
      have hc := c_hoursFor (sc := sc) hkd hk h1 h2 hst hhr (by omega : t ≤ 2)
      rw [hF_hN, ← hk] at hc
      have on := oI_ne (hN kd st hr t) (fun n hn => by have := hN_le hn; omega)
      refine bk_sound (cuts := [2, 21]) 40 _ _ _ _ ?_
      refine br_f (show ¬ 3 ≤ nI t from nI_ge (a := t) (b := 3) (by omega) (by omega)) ?_
      by_cases q : s / 2 ^ t % 2 = 1
      · have hf : fS s t = true := decide_eq_true q
        refine br_f (show ¬ ¬ (nI s >>> (nI t &&& 31)) &&& 1 = 1 from fun z => z (by rw [eb, q]; rfl)) ?_
        have K : Rn sc (mtk 69) 21 [some (.ref a), some (.int (nI s)), some (.int (nI t))] [.int (oI (hN kd st hr t))] h (some (.int (bI b))) h := by
          refine bk_sound (cuts := [2]) 20 _ _ _ _ ?_
          cases hh : (hN kd st hr t).isSome with
          | false =>
            refine br_t (on.mpr hh) ?_
            rw [hb', hh, Bool.and_false, Bool.false_or]
            exact R
          | true =>
            refine br_f (fun z => by rw [on.mp z] at hh; cases hh) ?_
            rw [hb', hh, hf]
            exact ⟨Or.inr ⟨rfl, Or.inr rfl⟩, rfl, rfl⟩
        obtain rfl | rfl | rfl : kd = 0 ∨ kd = 1 ∨ kd = 2 := by omega
        · refine And.intro (v_ok (show zK h a = 4 from hk) ⟨rfl, rfl, by decide⟩) (And.intro (v_ary (show zK h a = 4 from hk) rfl) (Exists.intro _ (Exists.intro _ (And.intro (hc) ?_))))
          exact K
        · refine And.intro (v_ok (show zK h a = 2 from hk) ⟨rfl, rfl, by decide⟩) (And.intro (v_ary (show zK h a = 2 from hk) rfl) (Exists.intro _ (Exists.intro _ (And.intro (hc) ?_))))
          exact K
        · refine And.intro (v_ok (show zK h a = 1 from hk) ⟨rfl, rfl, by decide⟩) (And.intro (v_ary (show zK h a = 1 from hk) rfl) (Exists.intro _ (Exists.intro _ (And.intro (hc) ?_))))
          exact K
      · have hf : fS s t = false := decide_eq_false q
        refine br_t (show ¬ (nI s >>> (nI t &&& 31)) &&& 1 = 1 from fun z => q (by rw [eb] at z; exact (nI_eq (by omega) (by omega)).mp z)) ?_
        rw [hb', hf, Bool.false_and, Bool.false_or]
        exact R
  refine cc_cut [2] 20 rfl rfl ?_
  exact L 3 0 _ rfl (fun _ => rfl) (fun z => by omega) (fun z => by omega) (fun z => by omega)
variable {F : Nat → Nat → Int32} {G : Nat → Nat → Int64} {M : Nat}
theorem usableFor_loop {s : Nat} (hA : zA h 19 5 = 16) (hM : M ≤ 12) (hF : ∀ a, 65 ≤ a → F a = zI h a) (hP : ∀ p, p < M → PH h p) (e6 : F 19 6 = nI M) (hs : s < 8) : ∀ (d p : Nat), p + d = M → Rn sc (mtk 68) 4 [some (.ref 19), some (.int (nI s)), some (.int (nI (uC (Fm h) s p))), some (.int (nI p))] [] (wIJ (nh h) F G) (some (.int (nI (uC (Fm h) s M)))) (wIJ (nh h) F G) := by
  intro d
  induction d with
  | zero =>
    intro p hp
    obtain rfl : p = M := by omega
    refine bk_sound (cuts := []) 20 _ _ _ _ ?_
    refine And.intro rfl ?_
    refine br_t (show F 19 6 ≤ nI p by rw [e6]; exact nI_le (Nat.le_refl _) (by omega)) ?_
    exact ⟨Or.inl rfl, rfl, rfl⟩
  | succ d ih =>
    intro p hp
    have R := ih (p + 1) (by omega)
    rw [← nI_1] at R
    obtain ⟨y1, y2, y3, y4, y5, y6, y7, y8, ⟨gd, hd, y9, y10, y11, y12, y13⟩, y14, -⟩ := hP p (by omega)
    have ip : inB (nI p) 12 = true := inB_nI (by omega) (by decide)
    have ep : (nI p).toNatClampNeg = p := nI_clamp (by omega)
    have a5 : zA (nh h) 19 5 = 16 := hA
    have fa := hF (zA h 16 p) y1
    have kK : zK (nh h) (zA h 16 p) = pkd (pKd h p) := by rw [nh_K y1]; exact y3
    have k4 : kin 4 (zK (wIJ (nh h) F G) (zA h 16 p)) = true := by
      show kin 4 (zK (nh h) (zA h 16 p)) = true
      rw [kK]
      exact kin_part y2
    have hu : Cc sc (pck (zK (wIJ (nh h) F G) (zA h 16 p)) 41 41 41) [.ref (zA h 16 p)] (wIJ (nh h) F G) (some (.int (bI (pUs h p)))) (wIJ (nh h) F G) := by
      rw [pck3, y13]
      exact c_isUsable k4 (show F (zA h 16 p) 3 = _ by rw [fa]; exact y9) (show F (zA h 16 p) 4 = _ by rw [fa]; exact y10)
    have hf := c_fitsOneOf (sc := sc) (h := wIJ (nh h) F G) (a := zA h 16 p) y2 kK (show F (zA h 16 p) 1 = _ by rw [fa]; exact y7) (show F (zA h 16 p) 2 = _ by rw [fa]; exact y8) y4 y6 hs
    have K : Rn sc (mtk 68) 21 [some (.ref 19), some (.int (nI s)), some (.int (nI (uC (Fm h) s p))), some (.int (nI p))] [.int (bI (pUs h p))] (wIJ (nh h) F G) (some (.int (nI (uC (Fm h) s M)))) (wIJ (nh h) F G) := by
      have un : uC (Fm h) s (p + 1) = uC (Fm h) s p + (if ht s (Fm h p) = true then 1 else 0) := rfl
      refine bk_sound (cuts := [4]) 40 _ _ _ _ ?_
      cases hb : pUs h p with
      | false =>
        refine br_t (by rfl) ?_
        rw [un, show Fm h p = 0 from if_neg (by rw [hb]; decide), ht_0, if_neg (by decide)] at R
        exact R
      | true =>
        refine br_f (by decide) ?_
        refine And.intro rfl ?_
        rw [show zA (wIJ (nh h) F G) 19 5 = 16 from a5]
        refine And.intro (⟨rfl, ip⟩) ?_
        rw [ep, show zA (wIJ (nh h) F G) 16 p = zA h 16 p from rfl]
        refine And.intro rfl (And.intro rfl (Exists.intro _ (Exists.intro _ (And.intro (hf) ?_))))
        rw [un, show Fm h p = fmk (pKd h p) (pSt h p) (pHr h p) from if_pos hb] at R
        cases hc : ht s (fmk (pKd h p) (pSt h p) (pHr h p)) with
        | false =>
          refine br_t (by rfl) ?_
          rw [hc, if_neg (by decide)] at R
          exact R
        | true =>
          refine br_f (by decide) ?_
          rw [hc, if_pos rfl, ← nI_1 (uC (Fm h) s p)] at R
          exact R
    refine bk_sound (cuts := [21]) 20 _ _ _ _ ?_
    refine And.intro rfl ?_
    refine br_f (show ¬ F 19 6 ≤ nI p by rw [e6]; exact nI_ge (by omega) (by omega)) ?_
    refine And.intro rfl ?_
    rw [show zA (wIJ (nh h) F G) 19 5 = 16 from a5]
    refine And.intro (⟨rfl, ip⟩) ?_
    rw [ep, show zA (wIJ (nh h) F G) 16 p = zA h 16 p from rfl]
    obtain e | e | e : pKd h p = 0 ∨ pKd h p = 1 ∨ pKd h p = 2 := by omega
    · refine And.intro (v_ok (show zK (nh h) (zA h 16 p) = 4 by rw [kK, e]; rfl) ⟨rfl, rfl, by decide⟩) (And.intro (v_ary (show zK (nh h) (zA h 16 p) = 4 by rw [kK, e]; rfl) rfl) (Exists.intro _ (Exists.intro _ (And.intro (hu) ?_))))
      exact K
    · refine And.intro (v_ok (show zK (nh h) (zA h 16 p) = 2 by rw [kK, e]; rfl) ⟨rfl, rfl, by decide⟩) (And.intro (v_ary (show zK (nh h) (zA h 16 p) = 2 by rw [kK, e]; rfl) rfl) (Exists.intro _ (Exists.intro _ (And.intro (hu) ?_))))
      exact K
    · refine And.intro (v_ok (show zK (nh h) (zA h 16 p) = 1 by rw [kK, e]; rfl) ⟨rfl, rfl, by decide⟩) (And.intro (v_ary (show zK (nh h) (zA h 16 p) = 1 by rw [kK, e]; rfl) rfl) (Exists.intro _ (Exists.intro _ (And.intro (hu) ?_))))
      exact K
theorem mostL_loop (hA : zA h 19 5 = 16) (hM : M ≤ 12) (hF : ∀ a, 65 ≤ a → F a = zI h a) (hP : ∀ p, p < M → PH h p) (e6 : F 19 6 = nI M) : ∀ (d k : Nat), k + d = 7 → Rn sc (mtk 67) 4 [some (.ref 19), some (.int (nI (mlF (Fm h) M k))), some (.int (nI (k + 1)))] [] (wIJ (nh h) F G) (some (.int (nI (mlF (Fm h) M 7)))) (wIJ (nh h) F G) := by
  intro d
  induction d with
  | zero =>
    intro k hk
    obtain rfl : k = 7 := by omega
    refine bk_sound (cuts := []) 20 _ _ _ _ ?_
    refine br_t (by decide) ?_
    exact ⟨Or.inl rfl, rfl, rfl⟩
  | succ d ih =>
    intro k hk
    have R := ih (k + 1) (by omega)
    rw [← nI_1 (k + 1)] at R
    have b := bc_pos ⟨k + 1, by omega⟩ (by show 1 ≤ k + 1; omega)
    have b1 : 1 ≤ bc (k + 1) := b.1
    have b2 : bc (k + 1) ≤ 3 := b.2
    have u := uC_le (Fm h) (k + 1) M
    have m4 := mlF_4 (Fm h) M k
    have hu : Cc sc 68 [.ref 19, .int (nI (k + 1))] (wIJ (nh h) F G) (some (.int (nI (uC (Fm h) (k + 1) M)))) (wIJ (nh h) F G) := by
      refine cc_cut [4] 20 rfl rfl ?_
      exact usableFor_loop hA hM hF hP e6 (by omega) M 0 (by omega)
    refine bk_sound (cuts := [4]) 40 _ _ _ _ ?_
    refine br_f (show ¬ 8 ≤ nI (k + 1) from nI_ge (a := k + 1) (b := 8) (by omega) (by omega)) ?_
    refine And.intro ⟨rfl, rfl⟩ (And.intro rfl (Exists.intro _ (Exists.intro _ (And.intro (hu) ?_))))
    refine And.intro rfl (And.intro rfl (Exists.intro _ (Exists.intro _ (And.intro (c_bitCount (by omega : k + 1 < 16)) ?_))))
    refine And.intro (fun z => by have z := (nI_eq (a := bc (k + 1)) (b := 0) (by omega) (by omega)).mp z; omega) ?_
    rw [pk_div (by omega) b1 (by omega)]
    refine And.intro rfl ?_
    have dl : uC (Fm h) (k + 1) M / bc (k + 1) ≤ uC (Fm h) (k + 1) M := Nat.div_le_self _ _
    rw [min_nI (a := mlF (Fm h) M k) (b := uC (Fm h) (k + 1) M / bc (k + 1)) (by omega) (by omega)]
    exact R
theorem c_mostLorries (hA : zA h 19 5 = 16) (hM : M ≤ 12) (hF : ∀ a, 65 ≤ a → F a = zI h a) (hP : ∀ p, p < M → PH h p) (e6 : F 19 6 = nI M) : Cc sc 67 [.ref 19] (wIJ (nh h) F G) (some (.int (nI (mlF (Fm h) M 7)))) (wIJ (nh h) F G) := by
  refine cc_cut [4] 20 rfl rfl ?_
  exact mostL_loop hA hM hF hP e6 7 0 rfl
end
