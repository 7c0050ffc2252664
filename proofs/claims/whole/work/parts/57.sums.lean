/-! Sums and injections; Hall's theorem for three sorts. -/
def sm (f : Nat → Int) : Nat → Int
  | 0 => 0
  | n + 1 => sm f n + f n
theorem sm_congr {f g : Nat → Int} : ∀ n, (∀ i, i < n → f i = g i) → sm f n = sm g n := by
  intro n
  induction n with
  | zero => intro _; rfl
  | succ n ih =>
    intro h
    unfold sm
    rw [ih (fun i hi => h i (by omega)), h n (by omega)]
theorem sm_le {f g : Nat → Int} : ∀ n, (∀ i, i < n → f i ≤ g i) → sm f n ≤ sm g n := by
  intro n
  induction n with
  | zero => intro _; exact Int.le_refl _
  | succ n ih =>
    intro h
    unfold sm
    have := ih (fun i hi => h i (by omega))
    have := h n (by omega)
    omega
theorem sm_add (f g : Nat → Int) (n : Nat) : sm (fun i => f i + g i) n = sm f n + sm g n := by
  induction n with
  | zero => rfl
  | succ n ih =>
    unfold sm
    rw [ih]
    omega
theorem sm_const (c : Int) (n : Nat) : sm (fun _ => c) n = n * c := by
  induction n with
  | zero => simp [sm]
  | succ n ih =>
    unfold sm
    rw [ih, show ((n + 1 : Nat) : Int) = (n : Int) + 1 by omega, Int.add_mul, Int.one_mul]
theorem sm_mul (c : Int) (f : Nat → Int) (n : Nat) : sm (fun i => c * f i) n = c * sm f n := by
  induction n with
  | zero => simp [sm]
  | succ n ih =>
    unfold sm
    rw [ih, Int.mul_add]
theorem sm_nn {f : Nat → Int} : ∀ n, (∀ i, i < n → 0 ≤ f i) → 0 ≤ sm f n := by
  intro n
  induction n with
  | zero => intro _; exact Int.le_refl _
  | succ n ih =>
    intro h
    unfold sm
    have := ih (fun i hi => h i (by omega))
    have := h n (by omega)
    omega
theorem sm_set {f : Nat → Int} {j : Nat} {v : Int} : ∀ n, sm (fun i => if i = j then v else f i) n = if j < n then sm f n - f j + v else sm f n := by
  intro n
  induction n with
  | zero => rfl
  | succ n ih =>
    have e : sm (fun i => if i = j then v else f i) (n + 1) = sm (fun i => if i = j then v else f i) n + (if n = j then v else f n) := rfl
    have e2 : sm f (n + 1) = sm f n + f n := rfl
    rw [e, ih, e2]
    by_cases q : n = j
    · subst q
      rw [if_neg (by omega), if_pos rfl, if_pos (by omega)]
      omega
    · rw [if_neg q]
      by_cases w : j < n
      · rw [if_pos w, if_pos (by omega)]
        omega
      · rw [if_neg w, if_neg (by omega)]
/-- over a partial injection no more than over all -/
theorem sm_inj {m : Nat} : ∀ (n : Nat) (b : Nat → Bool) (a : Nat → Nat) (g : Nat → Int), (∀ p, p < m → 0 ≤ g p) → (∀ i, i < n → b i = true → a i < m) → (∀ i j, i < n → j < n → b i = true → b j = true → a i = a j → i = j) → sm (fun i => if b i = true then g (a i) else 0) n ≤ sm g m := by
  intro n
  induction n with
  | zero => exact fun b a g h1 _ _ => sm_nn m h1
  | succ n ih =>
    intro b a g h1 h2 h3
    have e : sm (fun i => if b i = true then g (a i) else 0) (n + 1) = sm (fun i => if b i = true then g (a i) else 0) n + (if b n = true then g (a n) else 0) := rfl
    rw [e]
    by_cases q : b n = true
    · rw [if_pos q]
      have := ih b a (fun p => if p = a n then 0 else g p) (fun p hp => by
        show 0 ≤ if p = a n then 0 else g p
        split
        · exact Int.le_refl _
        · exact h1 p hp) (fun i hi => h2 i (by omega)) (fun i j hi hj => h3 i j (by omega) (by omega))
      rw [sm_set m, if_pos (h2 n (by omega) q)] at this
      have e2 : sm (fun i => if b i = true then (if a i = a n then 0 else g (a i)) else 0) n = sm (fun i => if b i = true then g (a i) else 0) n := sm_congr n (fun i hi => by
        by_cases w : b i = true
        · rw [if_pos w, if_pos w, if_neg (fun z => by have := h3 i n (by omega) (by omega) w q z; omega)]
        · rw [if_neg w, if_neg w])
      rw [e2] at this
      omega
    · rw [if_neg q]
      have := ih b a g h1 (fun i hi => h2 i (by omega)) (fun i j hi hj => h3 i j (by omega) (by omega))
      omega
theorem sm_injA {m n : Nat} {a : Nat → Nat} {g : Nat → Int} (h1 : ∀ p, p < m → 0 ≤ g p) (h2 : ∀ i, i < n → a i < m) (h3 : ∀ i j, i < n → j < n → a i = a j → i = j) : sm (fun i => g (a i)) n ≤ sm g m := by
  have := sm_inj (m := m) n (fun _ => true) a g h1 (fun i hi _ => h2 i hi) (fun i j hi hj _ _ => h3 i j hi hj)
  exact this
theorem pigeon {n m : Nat} {a : Nat → Nat} (h2 : ∀ i, i < n → a i < m) (h3 : ∀ i j, i < n → j < n → a i = a j → i = j) : n ≤ m := by
  have := sm_injA (g := fun _ => 1) (fun _ _ => by decide) h2 h3
  rw [sm_const, sm_const] at this
  omega
def HC (t1 t2 t3 t4 t5 t6 t7 d0 d1 d2 : Nat) : Prop := d0 ≤ t1 + t3 + t5 + t7 ∧ d1 ≤ t2 + t3 + t6 + t7 ∧ d2 ≤ t4 + t5 + t6 + t7 ∧ d0 + d1 ≤ t1 + t2 + t3 + t5 + t6 + t7 ∧ d0 + d2 ≤ t1 + t3 + t4 + t5 + t6 + t7 ∧ d1 + d2 ≤ t2 + t3 + t4 + t5 + t6 + t7 ∧ d0 + d1 + d2 ≤ t1 + t2 + t3 + t4 + t5 + t6 + t7
section
variable {t1 t2 t3 t4 t5 t6 t7 d0 d1 d2 : Nat}
theorem HC_1 (h : HC (t1 + 1) t2 t3 t4 t5 t6 t7 d0 d1 d2) : HC t1 t2 t3 t4 t5 t6 t7 d0 d1 d2 ∨ (1 ≤ d0 ∧ HC t1 t2 t3 t4 t5 t6 t7 (d0 - 1) d1 d2) := by
  unfold HC at *
  omega
theorem HC_2 (h : HC t1 (t2 + 1) t3 t4 t5 t6 t7 d0 d1 d2) : HC t1 t2 t3 t4 t5 t6 t7 d0 d1 d2 ∨ (1 ≤ d1 ∧ HC t1 t2 t3 t4 t5 t6 t7 d0 (d1 - 1) d2) := by
  unfold HC at *
  omega
theorem HC_4 (h : HC t1 t2 t3 (t4 + 1) t5 t6 t7 d0 d1 d2) : HC t1 t2 t3 t4 t5 t6 t7 d0 d1 d2 ∨ (1 ≤ d2 ∧ HC t1 t2 t3 t4 t5 t6 t7 d0 d1 (d2 - 1)) := by
  unfold HC at *
  omega
theorem HC_3 (h : HC t1 t2 (t3 + 1) t4 t5 t6 t7 d0 d1 d2) : HC t1 t2 t3 t4 t5 t6 t7 d0 d1 d2 ∨ (1 ≤ d0 ∧ HC t1 t2 t3 t4 t5 t6 t7 (d0 - 1) d1 d2) ∨ (1 ≤ d1 ∧ HC t1 t2 t3 t4 t5 t6 t7 d0 (d1 - 1) d2) := by
  unfold HC at *
  omega
theorem HC_5 (h : HC t1 t2 t3 t4 (t5 + 1) t6 t7 d0 d1 d2) : HC t1 t2 t3 t4 t5 t6 t7 d0 d1 d2 ∨ (1 ≤ d0 ∧ HC t1 t2 t3 t4 t5 t6 t7 (d0 - 1) d1 d2) ∨ (1 ≤ d2 ∧ HC t1 t2 t3 t4 t5 t6 t7 d0 d1 (d2 - 1)) := by
  unfold HC at *
  omega
theorem HC_6 (h : HC t1 t2 t3 t4 t5 (t6 + 1) t7 d0 d1 d2) : HC t1 t2 t3 t4 t5 t6 t7 d0 d1 d2 ∨ (1 ≤ d1 ∧ HC t1 t2 t3 t4 t5 t6 t7 d0 (d1 - 1) d2) ∨ (1 ≤ d2 ∧ HC t1 t2 t3 t4 t5 t6 t7 d0 d1 (d2 - 1)) := by
  unfold HC at *
  omega
theorem HC_7 (h : HC t1 t2 t3 t4 t5 t6 (t7 + 1) d0 d1 d2) : HC t1 t2 t3 t4 t5 t6 t7 d0 d1 d2 ∨ (1 ≤ d0 ∧ HC t1 t2 t3 t4 t5 t6 t7 (d0 - 1) d1 d2) ∨ (1 ≤ d1 ∧ HC t1 t2 t3 t4 t5 t6 t7 d0 (d1 - 1) d2) ∨ (1 ≤ d2 ∧ HC t1 t2 t3 t4 t5 t6 t7 d0 d1 (d2 - 1)) := by
  unfold HC at *
  omega
end
/-- how many of the first n are of a type -/
def tc (F : Nat → Nat) (k : Nat) : Nat → Nat
  | 0 => 0
  | n + 1 => tc F k n + (if F n = k then 1 else 0)
/-- so many of each sort can be given each a part of its own -/
def HP (F : Nat → Nat) (n : Nat) (d : Nat → Nat) : Prop := ∃ a : Nat → Nat → Nat, (∀ t l, t < 3 → l < d t → a l t < n ∧ F (a l t) / 2 ^ t % 2 = 1) ∧ ∀ t l t' l', t < 3 → t' < 3 → l < d t → l' < d t' → a l t = a l' t' → l = l' ∧ t = t'
theorem HP_mono {F : Nat → Nat} {n : Nat} {d : Nat → Nat} (h : HP F n d) : HP F (n + 1) d := by
  obtain ⟨a, h1, h2⟩ := h
  exact ⟨a, fun t l ht hl => ⟨by have := (h1 t l ht hl).1; omega, (h1 t l ht hl).2⟩, h2⟩
theorem HP_ext {F : Nat → Nat} {n s : Nat} {d d' : Nat → Nat} (hs : s < 3) (hF : F n / 2 ^ s % 2 = 1) (e1 : d s = d' s + 1) (e2 : ∀ t, t ≠ s → d t = d' t) (h : HP F n d') : HP F (n + 1) d := by
  obtain ⟨a, h1, h2⟩ := h
  have hd : ∀ t l, l < d t → ¬ (t = s ∧ l = d' s) → l < d' t := fun t l hl q => by
    by_cases e : t = s
    · subst e
      have : l ≠ d' t := fun z => q ⟨rfl, z⟩
      omega
    · rw [← e2 t e]; exact hl
  refine ⟨fun l t => if t = s ∧ l = d' s then n else a l t, fun t l ht hl => ?_, fun t l t' l' ht ht' hl hl' e => ?_⟩
  · show (if t = s ∧ l = d' s then n else a l t) < n + 1 ∧ F (if t = s ∧ l = d' s then n else a l t) / 2 ^ t % 2 = 1
    by_cases q : t = s ∧ l = d' s
    · rw [if_pos q, q.1]
      exact ⟨by omega, hF⟩
    · rw [if_neg q]
      have := h1 t l ht (hd t l hl q)
      exact ⟨by omega, this.2⟩
  · have e : (if t = s ∧ l = d' s then n else a l t) = (if t' = s ∧ l' = d' s then n else a l' t') := e
    by_cases q : t = s ∧ l = d' s
    · by_cases q' : t' = s ∧ l' = d' s
      · omega
      · rw [if_pos q, if_neg q'] at e
        have := (h1 t' l' ht' (hd t' l' hl' q')).1
        omega
    · by_cases q' : t' = s ∧ l' = d' s
      · rw [if_neg q, if_pos q'] at e
        have := (h1 t l ht (hd t l hl q)).1
        omega
      · rw [if_neg q, if_neg q'] at e
        exact h2 t l t' l' ht ht' (hd t l hl q) (hd t' l' hl' q') e
theorem hall {F : Nat → Nat} (hF : ∀ p, F p < 8) : ∀ (n : Nat) (d : Nat → Nat), HC (tc F 1 n) (tc F 2 n) (tc F 3 n) (tc F 4 n) (tc F 5 n) (tc F 6 n) (tc F 7 n) (d 0) (d 1) (d 2) → HP F n d := by
  intro n
  induction n with
  | zero =>
    intro d h
    unfold HC tc at h
    refine ⟨fun _ _ => 0, fun t l ht hl => ?_, fun t l t' l' ht ht' hl hl' e => ?_⟩
    · exfalso
      obtain rfl | rfl | rfl : t = 0 ∨ t = 1 ∨ t = 2 := by omega
      all_goals omega
    · exfalso
      obtain rfl | rfl | rfl : t = 0 ∨ t = 1 ∨ t = 2 := by omega
      all_goals omega
  | succ n ih =>
    intro d h
    have e : ∀ k, tc F k (n + 1) = tc F k n + (if F n = k then 1 else 0) := fun k => rfl
    rw [e, e, e, e, e, e, e] at h
    have X : ∀ s, s < 3 → F n / 2 ^ s % 2 = 1 → 1 ≤ d s → HC (tc F 1 n) (tc F 2 n) (tc F 3 n) (tc F 4 n) (tc F 5 n) (tc F 6 n) (tc F 7 n) (if 0 = s then d s - 1 else d 0) (if 1 = s then d s - 1 else d 1) (if 2 = s then d s - 1 else d 2) → HP F (n + 1) d := fun s hs hb h1 H => by
      refine HP_ext (d' := fun t => if t = s then d s - 1 else d t) hs hb ?_ (fun t ht => ?_) (ih _ H)
      · show d s = (if s = s then d s - 1 else d s) + 1
        rw [if_pos rfl]
        omega
      · show d t = if t = s then d s - 1 else d t
        rw [if_neg ht]
    have f8 := hF n
    obtain k | k | k | k | k | k | k | k : F n = 0 ∨ F n = 1 ∨ F n = 2 ∨ F n = 3 ∨ F n = 4 ∨ F n = 5 ∨ F n = 6 ∨ F n = 7 := by omega
    · rw [k] at h
      exact HP_mono (ih d h)
    · rw [k] at h X
      rcases HC_1 h with q | ⟨q, w⟩
      · exact HP_mono (ih d q)
      · exact X 0 (by decide) (by decide) q w
    · rw [k] at h X
      rcases HC_2 h with q | ⟨q, w⟩
      · exact HP_mono (ih d q)
      · exact X 1 (by decide) (by decide) q w
    · rw [k] at h X
      rcases HC_3 h with q | ⟨q, w⟩ | ⟨q, w⟩
      · exact HP_mono (ih d q)
      · exact X 0 (by decide) (by decide) q w
      · exact X 1 (by decide) (by decide) q w
    · rw [k] at h X
      rcases HC_4 h with q | ⟨q, w⟩
      · exact HP_mono (ih d q)
      · exact X 2 (by decide) (by decide) q w
    · rw [k] at h X
      rcases HC_5 h with q | ⟨q, w⟩ | ⟨q, w⟩
      · exact HP_mono (ih d q)
      · exact X 0 (by decide) (by decide) q w
      · exact X 2 (by decide) (by decide) q w
    · rw [k] at h X
      rcases HC_6 h with q | ⟨q, w⟩ | ⟨q, w⟩
      · exact HP_mono (ih d q)
      · exact X 1 (by decide) (by decide) q w
      · exact X 2 (by decide) (by decide) q w
    · rw [k] at h X
      rcases HC_7 h with q | ⟨q, w⟩ | ⟨q, w⟩ | ⟨q, w⟩
      · exact HP_mono (ih d q)
      · exact X 0 (by decide) (by decide) q w
      · exact X 1 (by decide) (by decide) q w
      · exact X 2 (by decide) (by decide) q w
