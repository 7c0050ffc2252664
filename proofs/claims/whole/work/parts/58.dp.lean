/-! The model's table of costs and its greedy row (pure). -/
/-- the least of f over the first n, at most 1000000 -/
def dpL (f : Nat → Option Nat) : Nat → Nat
  | 0 => 1000000
  | n + 1 => match f n with
    | none => dpL f n
    | some c => min (dpL f n) c
theorem dpL_far (f : Nat → Option Nat) (n : Nat) : dpL f n ≤ 1000000 := by
  induction n with
  | zero => exact Nat.le_refl _
  | succ n ih =>
    unfold dpL
    split
    · exact ih
    · exact Nat.le_trans (Nat.min_le_left _ _) ih
theorem dpL_le {f : Nat → Option Nat} : ∀ (n : Nat) {p c : Nat}, p < n → f p = some c → dpL f n ≤ c := by
  intro n
  induction n with
  | zero => intro p c hp; omega
  | succ n ih =>
    intro p c hp hf
    unfold dpL
    by_cases e : p = n
    · subst e
      rw [hf]
      exact Nat.min_le_right _ _
    · have := ih (p := p) (c := c) (by omega) hf
      split
      · exact this
      · exact Nat.le_trans (Nat.min_le_left _ _) this
theorem dpL_at {f : Nat → Option Nat} : ∀ (n : Nat), dpL f n < 1000000 → ∃ p, p < n ∧ f p = some (dpL f n) := by
  intro n
  induction n with
  | zero => intro h; exact absurd h (by unfold dpL; omega)
  | succ n ih =>
    intro h
    cases hf : f n with
    | none =>
      have e : dpL f (n + 1) = dpL f n := by
        show (match f n with
          | none => dpL f n
          | some c => min (dpL f n) c) = _
        rw [hf]
      rw [e] at h ⊢
      obtain ⟨p, h1, h2⟩ := ih h
      exact ⟨p, by omega, h2⟩
    | some c =>
      have e : dpL f (n + 1) = min (dpL f n) c := by
        show (match f n with
          | none => dpL f n
          | some c => min (dpL f n) c) = _
        rw [hf]
      rw [e] at h ⊢
      by_cases q : dpL f n ≤ c
      · rw [Nat.min_eq_left q] at h ⊢
        obtain ⟨p, h1, h2⟩ := ih h
        exact ⟨p, by omega, h2⟩
      · rw [Nat.min_eq_right (by omega)]
        exact ⟨n, by omega, hf⟩
theorem dpL_congr {f g : Nat → Option Nat} : ∀ n, (∀ p, p < n → f p = g p) → dpL f n = dpL g n := by
  intro n
  induction n with
  | zero => intro _; rfl
  | succ n ih =>
    intro h
    unfold dpL
    rw [h n (by omega), ih (fun p hp => h p (by omega))]
/-- what a part would cost at a place, with all behind it -/
def opA (c : Option Nat) (u p r : Nat) : Option Nat := match u.testBit p, c with
  | false, some c => some (c + r)
  | _, _ => none
theorem opA_some {c : Option Nat} {u p r k : Nat} : opA c u p r = some k ↔ u.testBit p = false ∧ ∃ c', c = some c' ∧ k = c' + r := by
  unfold opA
  cases hb : u.testBit p <;> cases c <;> simp
  exact eq_comm
section
variable (M : Nat) (cs : Nat → Nat → Option Nat)
def dpc : Nat → Nat → Nat → Nat
  | 0, _, _ => 0
  | d + 1, x, u => dpL (fun p => opA (cs x p) u p (dpc d (x + 1) (u ||| 2 ^ p))) M
def Vl (a : Nat → Nat) : Nat → Nat → Nat → Prop
  | 0, _, _ => True
  | d + 1, x, u => a x < M ∧ u.testBit (a x) = false ∧ (∃ c, cs x (a x) = some c) ∧ Vl a d (x + 1) (u ||| 2 ^ a x)
def cst (a : Nat → Nat) : Nat → Nat → Nat
  | 0, _ => 0
  | d + 1, x => (cs x (a x)).getD 0 + cst a d (x + 1)
end
section
variable {M : Nat} {cs : Nat → Nat → Option Nat}
theorem dpc_far (d x u : Nat) : dpc M cs d x u ≤ 1000000 := by
  cases d with
  | zero => exact Nat.zero_le _
  | succ d => exact dpL_far _ _
theorem dp_le : ∀ (d x u : Nat) {a : Nat → Nat}, Vl M cs a d x u → dpc M cs d x u ≤ cst cs a d x := by
  intro d
  induction d with
  | zero => intro x u a _; exact Nat.zero_le _
  | succ d ih =>
    intro x u a h
    obtain ⟨h1, h2, ⟨c, h3⟩, h4⟩ := h
    have e1 := ih (x + 1) _ h4
    have e2 : dpc M cs (d + 1) x u ≤ c + dpc M cs d (x + 1) (u ||| 2 ^ a x) := dpL_le M h1 (opA_some.mpr ⟨h2, c, h3, rfl⟩)
    show dpc M cs (d + 1) x u ≤ (cs x (a x)).getD 0 + cst cs a d (x + 1)
    rw [h3]
    show dpc M cs (d + 1) x u ≤ c + cst cs a d (x + 1)
    omega
theorem Vl_congr {a b : Nat → Nat} : ∀ (d x u : Nat), (∀ y, x ≤ y → a y = b y) → Vl M cs a d x u → Vl M cs b d x u := by
  intro d
  induction d with
  | zero => intro x u _ _; trivial
  | succ d ih =>
    intro x u h v
    obtain ⟨h1, h2, h3, h4⟩ := v
    have e := h x (Nat.le_refl _)
    rw [e] at h1 h2 h3 h4
    exact ⟨h1, h2, h3, ih (x + 1) _ (fun y hy => h y (by omega)) h4⟩
theorem cst_congr {a b : Nat → Nat} : ∀ (d x : Nat), (∀ y, x ≤ y → y < x + d → a y = b y) → cst cs a d x = cst cs b d x := by
  intro d
  induction d with
  | zero => intro x _; rfl
  | succ d ih =>
    intro x h
    unfold cst
    rw [h x (Nat.le_refl _) (by omega), ih (x + 1) (fun y h1 h2 => h y (by omega) (by omega))]
theorem or_bitF {u p q : Nat} (h : (u ||| 2 ^ p).testBit q = false) : u.testBit q = false ∧ q ≠ p := by
  rw [Nat.testBit_or, Bool.or_eq_false_iff] at h
  refine ⟨h.1, fun e => ?_⟩
  subst e
  rw [Nat.testBit_two_pow_self] at h
  exact absurd h.2 (by decide)
/-- the bits are those of what is given already -/
theorem Vl_inj {a : Nat → Nat} : ∀ (d x u : Nat), Vl M cs a d x u → ∀ y, x ≤ y → y < x + d → a y < M ∧ u.testBit (a y) = false ∧ (∃ c, cs y (a y) = some c) ∧ ∀ z, x ≤ z → z < x + d → a y = a z → y = z := by
  intro d
  induction d with
  | zero => intro x u _ y h1 h2; omega
  | succ d ih =>
    intro x u v y h1 h2
    obtain ⟨v1, v2, v3, v4⟩ := v
    have I := ih (x + 1) _ v4
    by_cases e : y = x
    · subst e
      refine ⟨v1, v2, v3, fun z z1 z2 ez => ?_⟩
      by_cases e2 : z = y
      · exact e2.symm
      · have := (or_bitF (I z (by omega) (by omega)).2.1).2
        omega
    · obtain ⟨i1, i2, i3, i4⟩ := I y (by omega) (by omega)
      refine ⟨i1, (or_bitF i2).1, i3, fun z z1 z2 ez => ?_⟩
      by_cases e2 : z = x
      · subst e2
        have := (or_bitF i2).2
        omega
      · exact i4 z (by omega) (by omega) ez
theorem Vl_of {a : Nat → Nat} : ∀ (d x u : Nat), (∀ y, x ≤ y → y < x + d → a y < M ∧ u.testBit (a y) = false ∧ (∃ c, cs y (a y) = some c) ∧ ∀ z, x ≤ z → z < x + d → a y = a z → y = z) → Vl M cs a d x u := by
  intro d
  induction d with
  | zero => intro x u _; trivial
  | succ d ih =>
    intro x u h
    obtain ⟨h1, h2, h3, h4⟩ := h x (Nat.le_refl _) (by omega)
    refine ⟨h1, h2, h3, ih (x + 1) _ (fun y y1 y2 => ?_)⟩
    obtain ⟨i1, i2, i3, i4⟩ := h y (by omega) (by omega)
    refine ⟨i1, ?_, i3, fun z z1 z2 ez => i4 z (by omega) (by omega) ez⟩
    rw [Nat.testBit_or, i2, Bool.false_or]
    rw [Nat.testBit_two_pow, decide_eq_false_iff_not]
    intro e
    have := h4 y (by omega) (by omega) e
    omega
/-- the first of i .. i+d-1 -/
def ff (P : Nat → Bool) : Nat → Nat → Option Nat
  | _, 0 => none
  | i, d + 1 => if P i = true then some i else ff P (i + 1) d
theorem ff_some {P : Nat → Bool} : ∀ (d i q : Nat), ff P i d = some q → i ≤ q ∧ q < i + d ∧ P q = true ∧ ∀ r, i ≤ r → r < q → P r = false := by
  intro d
  induction d with
  | zero => intro i q h; cases h
  | succ d ih =>
    intro i q h
    unfold ff at h
    by_cases e : P i = true
    · rw [if_pos e] at h
      cases h
      exact ⟨Nat.le_refl _, by omega, e, fun r h1 h2 => by omega⟩
    · rw [if_neg e] at h
      obtain ⟨a, b, c, f⟩ := ih (i + 1) q h
      refine ⟨by omega, by omega, c, fun r h1 h2 => ?_⟩
      by_cases e2 : r = i
      · rw [e2]
        cases hp : P i
        · rfl
        · exact absurd hp e
      · exact f r (by omega) h2
theorem ff_ex {P : Nat → Bool} : ∀ (d i q : Nat), i ≤ q → q < i + d → P q = true → ∃ r, ff P i d = some r := by
  intro d
  induction d with
  | zero => intro i q h1 h2; omega
  | succ d ih =>
    intro i q h1 h2 hp
    unfold ff
    by_cases e : P i = true
    · exact ⟨i, by rw [if_pos e]⟩
    · rw [if_neg e]
      have : q ≠ i := fun z => e (by rw [← z]; exact hp)
      exact ih (i + 1) q (by omega) (by omega) hp
end
section
variable (M : Nat) (cs : Nat → Nat → Option Nat) (W : Nat)
def isq (x u q : Nat) : Bool := decide (opA (cs x q) u q (dpc M cs (W - x - 1) (x + 1) (u ||| 2 ^ q)) = some (dpc M cs (W - x) x u))
def us : Nat → Nat
  | 0 => 0
  | x + 1 => us x ||| 2 ^ ((ff (isq M cs W x (us x)) 0 M).getD 0)
def gr (x : Nat) : Nat := (ff (isq M cs W x (us M cs W x)) 0 M).getD 0
end
section
variable {M : Nat} {cs : Nat → Nat → Option Nat} {W : Nat}
theorem us_succ (x : Nat) : us M cs W (x + 1) = us M cs W x ||| 2 ^ gr M cs W x := rfl
theorem gr_at {x : Nat} (hx : x < W) (h : dpc M cs (W - x) x (us M cs W x) < 1000000) : ff (isq M cs W x (us M cs W x)) 0 M = some (gr M cs W x) ∧ gr M cs W x < M ∧ (us M cs W x).testBit (gr M cs W x) = false ∧ ∃ c, cs x (gr M cs W x) = some c ∧ dpc M cs (W - x) x (us M cs W x) = c + dpc M cs (W - x - 1) (x + 1) (us M cs W (x + 1)) := by
  obtain ⟨d, hd⟩ : ∃ d, W - x = d + 1 := ⟨W - x - 1, by omega⟩
  have hd1 : W - x - 1 = d := by omega
  have h' := h
  rw [hd] at h
  obtain ⟨p, p1, p2⟩ := dpL_at M h
  obtain ⟨r, hr⟩ := ff_ex (P := isq M cs W x (us M cs W x)) M 0 p (Nat.zero_le _) (by omega) (by
    unfold isq
    rw [hd1, hd]
    exact decide_eq_true p2)
  have eg : gr M cs W x = r := by unfold gr; rw [hr]; rfl
  obtain ⟨f1, f2, f3, f4⟩ := ff_some M 0 r hr
  have f3 := of_decide_eq_true f3
  obtain ⟨o1, c, o2, o3⟩ := opA_some.mp f3
  refine ⟨by rw [hr, eg], by rw [eg]; omega, by rw [eg]; exact o1, c, by rw [eg]; exact o2, ?_⟩
  rw [us_succ, eg]
  exact o3
theorem gr_dp (h : dpc M cs W 0 0 < 1000000) : ∀ x, x ≤ W → dpc M cs (W - x) x (us M cs W x) < 1000000 := by
  intro x
  induction x with
  | zero => intro _; exact h
  | succ x ih =>
    intro hx
    have h1 := ih (by omega)
    obtain ⟨-, -, -, c, -, e⟩ := gr_at (by omega) h1
    rw [show W - (x + 1) = W - x - 1 by omega]
    omega
theorem gr_Vl (h : dpc M cs W 0 0 < 1000000) : ∀ d x, x + d = W → Vl M cs (gr M cs W) d x (us M cs W x) ∧ cst cs (gr M cs W) d x = dpc M cs d x (us M cs W x) := by
  intro d
  induction d with
  | zero => intro x _; exact ⟨trivial, rfl⟩
  | succ d ih =>
    intro x hx
    have h1 := gr_dp h x (by omega)
    obtain ⟨g1, g2, g3, c, g4, g5⟩ := gr_at (by omega) h1
    obtain ⟨i1, i2⟩ := ih (x + 1) (by omega)
    rw [show W - x - 1 = d by omega, show W - x = d + 1 by omega] at g5
    refine ⟨⟨g2, g3, ⟨c, g4⟩, i1⟩, ?_⟩
    show (cs x (gr M cs W x)).getD 0 + cst cs (gr M cs W) d (x + 1) = _
    rw [g4, i2, g5]
    rfl
/-- a row of parts as a number to the base 12 -/
def row (a : Nat → Nat) : Nat → Nat → Nat
  | 0, _ => 0
  | d + 1, x => a x * 12 ^ d + row a d (x + 1)
theorem row_lt {a : Nat → Nat} : ∀ d x, (∀ y, x ≤ y → y < x + d → a y < 12) → row a d x < 12 ^ d := by
  intro d
  induction d with
  | zero => intro x _; exact Nat.one_pos
  | succ d ih =>
    intro x h
    have h1 := ih (x + 1) (fun y a b => h y (by omega) (by omega))
    have h2 : a x ≤ 11 := by have := h x (Nat.le_refl _) (by omega); omega
    have h3 : a x * 12 ^ d ≤ 11 * 12 ^ d := Nat.mul_le_mul_right _ h2
    show a x * 12 ^ d + row a d (x + 1) < 12 ^ (d + 1)
    rw [Nat.pow_succ]
    omega
theorem row_inj {a b : Nat → Nat} : ∀ d x, (∀ y, x ≤ y → y < x + d → a y < 12) → (∀ y, x ≤ y → y < x + d → b y < 12) → row a d x = row b d x → ∀ y, x ≤ y → y < x + d → a y = b y := by
  intro d
  induction d with
  | zero => intro x _ _ _ y h1 h2; omega
  | succ d ih =>
    intro x ha hb e y h1 h2
    have ra := row_lt d (x + 1) (fun y h1 h2 => ha y (by omega) (by omega))
    have rb := row_lt d (x + 1) (fun y h1 h2 => hb y (by omega) (by omega))
    have e : a x * 12 ^ d + row a d (x + 1) = b x * 12 ^ d + row b d (x + 1) := e
    have ex : a x = b x := by
      have k1 : (a x * 12 ^ d + row a d (x + 1)) / 12 ^ d = a x := by
        rw [Nat.mul_comm, Nat.mul_add_div (Nat.pos_of_ne_zero (by intro z; rw [z] at ra; omega)), Nat.div_eq_of_lt ra, Nat.add_zero]
      have k2 : (b x * 12 ^ d + row b d (x + 1)) / 12 ^ d = b x := by
        rw [Nat.mul_comm, Nat.mul_add_div (Nat.pos_of_ne_zero (by intro z; rw [z] at ra; omega)), Nat.div_eq_of_lt rb, Nat.add_zero]
      rw [← k1, ← k2, e]
    by_cases q : y = x
    · rw [q]; exact ex
    · rw [ex] at e
      exact ih (x + 1) (fun y h1 h2 => ha y (by omega) (by omega)) (fun y h1 h2 => hb y (by omega) (by omega)) (by omega) y (by omega) (by omega)
/-- of all rows of the least cost the greedy one is the first -/
theorem gr_first (hM : M ≤ 12) (h : dpc M cs W 0 0 < 1000000) {b : Nat → Nat} : ∀ d x, x + d = W → Vl M cs b d x (us M cs W x) → cst cs b d x = dpc M cs d x (us M cs W x) → row (gr M cs W) d x ≤ row b d x := by
  intro d
  induction d with
  | zero => intro x _ _ _; exact Nat.le_refl _
  | succ d ih =>
    intro x hx v e
    have h1 := gr_dp h x (by omega)
    obtain ⟨g1, g2, g3, c, g4, g5⟩ := gr_at (by omega) h1
    have v0 := v
    obtain ⟨v1, v2, ⟨c', v3⟩, v4⟩ := v
    have e : (cs x (b x)).getD 0 + cst cs b d (x + 1) = dpc M cs (d + 1) x (us M cs W x) := e
    rw [v3] at e
    have e : c' + cst cs b d (x + 1) = dpc M cs (d + 1) x (us M cs W x) := e
    have l1 := dp_le d (x + 1) _ v4
    have l2 : dpc M cs (d + 1) x (us M cs W x) ≤ c' + dpc M cs d (x + 1) (us M cs W x ||| 2 ^ b x) := dpL_le M v1 (opA_some.mpr ⟨v2, c', v3, rfl⟩)
    have hq : isq M cs W x (us M cs W x) (b x) = true := by
      unfold isq
      rw [show W - x - 1 = d by omega, show W - x = d + 1 by omega]
      exact decide_eq_true (opA_some.mpr ⟨v2, c', v3, by omega⟩)
    have f := ff_some M 0 _ g1
    have le : gr M cs W x ≤ b x := by
      rcases Nat.lt_or_ge (b x) (gr M cs W x) with z | z
      · rw [f.2.2.2 (b x) (Nat.zero_le _) z] at hq
        cases hq
      · exact z
    show gr M cs W x * 12 ^ d + row (gr M cs W) d (x + 1) ≤ b x * 12 ^ d + row b d (x + 1)
    by_cases q : gr M cs W x = b x
    · have i := ih (x + 1) (by omega) (by rw [us_succ, q]; exact v4) (by rw [us_succ, q]; omega)
      rw [q]
      omega
    · have gv := (gr_Vl h d (x + 1) (by omega)).1
      have r1 := row_lt (a := gr M cs W) d (x + 1) (fun y h1 h2 => by have := (Vl_inj d (x + 1) _ gv y h1 h2).1; omega)
      have : (gr M cs W x + 1) * 12 ^ d ≤ b x * 12 ^ d := Nat.mul_le_mul_right _ (by omega)
      rw [Nat.add_mul, Nat.one_mul] at this
      omega
end
