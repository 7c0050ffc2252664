/-! Numbers as rows of digits (pure). -/
def dgN (S : Nat) (T Z : Nat → Nat) (i s : Nat) : Nat := if s < S then i / T s % Z s else 0
def ixN (T : Nat → Nat) (g : Nat → Nat) : Nat → Nat
  | 0 => 0
  | n + 1 => ixN T g n + g n * T n
def up1 (g : Nat → Nat) (s v : Nat) : Nat → Nat := fun t => if t = s then v else g t
def NS (S N : Nat) (T Z : Nat → Nat) : Prop := (∀ g : Nat → Nat, (∀ s, s < S → g s < Z s) → ixN T g S < N ∧ ∀ s, s < S → ixN T g S / T s % Z s = g s) ∧ (∀ i, i < N → ixN T (dgN S T Z i) S = i) ∧ ∀ s, s < S → 1 ≤ Z s ∧ 1 ≤ T s
theorem ixN_congr {T g g' : Nat → Nat} : ∀ n, (∀ s, s < n → g s = g' s) → ixN T g n = ixN T g' n := by
  intro n
  induction n with
  | zero => intro _; rfl
  | succ n ih =>
    intro h
    show ixN T g n + g n * T n = ixN T g' n + g' n * T n
    rw [ih (fun s hs => h s (by omega)), h n (by omega)]
theorem ixN_set {T g : Nat → Nat} {s j : Nat} (hj : j ≤ g s) : ∀ n, s < n → ixN T (up1 g s (g s - j)) n + j * T s = ixN T g n := by
  intro n
  induction n with
  | zero => intro h; omega
  | succ n ih =>
    intro h
    show ixN T (up1 g s (g s - j)) n + up1 g s (g s - j) n * T n + j * T s = ixN T g n + g n * T n
    by_cases e : n = s
    · subst e
      rw [ixN_congr (g := up1 g n (g n - j)) (g' := g) n (fun t ht => if_neg (show ¬ t = n by omega)), show up1 g n (g n - j) n = g n - j from if_pos rfl, Nat.sub_mul]
      have := Nat.mul_le_mul_right (T n) hj
      omega
    · have := ih (by omega)
      rw [show up1 g s (g s - j) n = g n from if_neg e]
      omega
theorem NS.dg_lt {S N : Nat} {T Z : Nat → Nat} (H : NS S N T Z) {i s : Nat} (hs : s < S) : dgN S T Z i s < Z s := by
  unfold dgN
  rw [if_pos hs]
  exact Nat.mod_lt _ (by have := (H.2.2 s hs).1; omega)
theorem NS.of {S N : Nat} {T Z : Nat → Nat} (H : NS S N T Z) {g : Nat → Nat} (hg : ∀ s, s < S → g s < Z s) (h0 : ∀ s, S ≤ s → g s = 0) : ixN T g S < N ∧ dgN S T Z (ixN T g S) = g := by
  obtain ⟨h1, h2⟩ := H.1 g hg
  refine ⟨h1, funext fun s => ?_⟩
  unfold dgN
  by_cases q : s < S
  · rw [if_pos q]
    exact h2 s q
  · rw [if_neg q]
    exact (h0 s (by omega)).symm
theorem dgN_out {S : Nat} {T Z : Nat → Nat} {i s : Nat} (hs : S ≤ s) : dgN S T Z i s = 0 := if_neg (by omega)
theorem NS.sub {S N : Nat} {T Z : Nat → Nat} (H : NS S N T Z) {i s j : Nat} (hi : i < N) (hs : s < S) (hj : j ≤ dgN S T Z i s) : j * T s ≤ i ∧ dgN S T Z (i - j * T s) = up1 (dgN S T Z i) s (dgN S T Z i s - j) := by
  have e := ixN_set (T := T) (g := dgN S T Z i) hj S hs
  rw [H.2.1 i hi] at e
  have k := H.of (g := up1 (dgN S T Z i) s (dgN S T Z i s - j)) (fun t ht => by
    unfold up1
    by_cases q : t = s
    · rw [if_pos q, q]
      have := H.dg_lt (i := i) hs
      omega
    · rw [if_neg q]
      exact H.dg_lt ht) (fun t ht => by
    unfold up1
    rw [if_neg (by omega)]
    exact dgN_out ht)
  refine ⟨by omega, ?_⟩
  rw [show i - j * T s = ixN T (up1 (dgN S T Z i) s (dgN S T Z i s - j)) S by omega]
  exact k.2
theorem md {a b P : Nat} (hb : b < P) : (P * a + b) / P = a ∧ (P * a + b) % P = b := by
  constructor
  · rw [Nat.mul_add_div (by omega), Nat.div_eq_of_lt hb, Nat.add_zero]
  · rw [Nat.mul_add_mod, Nat.mod_eq_of_lt hb]
/-- the class's digits -/
theorem NS_c {S : Nat} {T Z : Nat → Nat} (S1 : 1 ≤ S) (S3 : S ≤ 3) (hZ : ∀ s, s < S → 1 ≤ Z s) (hT : T (S - 1) = 1) (hT2 : ∀ s, s + 1 < S → T s = T (s + 1) * Z (s + 1)) : NS S (T 0 * Z 0) T Z := by
  obtain rfl | rfl | rfl : S = 1 ∨ S = 2 ∨ S = 3 := by omega
  · have t0 : T 0 = 1 := hT
    refine ⟨fun g hg => ?_, fun i hi => ?_, fun s hs => ?_⟩
    · have := hg 0 (by decide)
      have e : ixN T g 1 = g 0 := by show 0 + g 0 * T 0 = g 0; rw [t0]; omega
      rw [e, t0]
      refine ⟨by omega, fun s hs => ?_⟩
      obtain rfl : s = 0 := by omega
      rw [t0, Nat.div_one, Nat.mod_eq_of_lt this]
    · show 0 + dgN 1 T Z i 0 * T 0 = i
      rw [t0] at hi ⊢
      unfold dgN
      rw [if_pos (by decide), t0, Nat.div_one, Nat.mod_eq_of_lt (by omega)]
      omega
    · obtain rfl : s = 0 := by omega
      exact ⟨hZ 0 (by decide), by omega⟩
  · have t1 : T 1 = 1 := hT
    have t0 : T 0 = Z 1 := by rw [hT2 0 (by decide), t1, Nat.one_mul]
    have z1 := hZ 1 (by decide)
    refine ⟨fun g hg => ?_, fun i hi => ?_, fun s hs => ?_⟩
    · have g0 := hg 0 (by decide)
      have g1 := hg 1 (by decide)
      have e : ixN T g 2 = Z 1 * g 0 + g 1 := by show 0 + g 0 * T 0 + g 1 * T 1 = _; rw [t0, t1, Nat.mul_comm (g 0)]; omega
      have m := md (a := g 0) g1
      rw [e, t0]
      refine ⟨?_, fun s hs => ?_⟩
      · have : Z 1 * (g 0 + 1) ≤ Z 1 * Z 0 := Nat.mul_le_mul_left _ (by omega)
        rw [Nat.mul_add, Nat.mul_one] at this
        omega
      · obtain rfl | rfl : s = 0 ∨ s = 1 := by omega
        · rw [t0, m.1, Nat.mod_eq_of_lt g0]
        · rw [t1, Nat.div_one, m.2]
    · show 0 + dgN 2 T Z i 0 * T 0 + dgN 2 T Z i 1 * T 1 = i
      unfold dgN
      rw [if_pos (by decide), if_pos (by decide), t0, t1, Nat.div_one]
      have : i / Z 1 < Z 0 := Nat.div_lt_of_lt_mul (by rw [t0] at hi; exact hi)
      rw [Nat.mod_eq_of_lt this]
      have := Nat.div_add_mod' i (Z 1)
      omega
    · obtain rfl | rfl : s = 0 ∨ s = 1 := by omega
      · exact ⟨hZ 0 (by decide), by omega⟩
      · exact ⟨z1, by omega⟩
  · have t2 : T 2 = 1 := hT
    have t1 : T 1 = Z 2 := by rw [hT2 1 (by decide), t2, Nat.one_mul]
    have t0 : T 0 = Z 2 * Z 1 := by rw [hT2 0 (by decide), t1]
    have z1 := hZ 1 (by decide)
    have z2 := hZ 2 (by decide)
    refine ⟨fun g hg => ?_, fun i hi => ?_, fun s hs => ?_⟩
    · have g0 := hg 0 (by decide)
      have g1 := hg 1 (by decide)
      have g2 := hg 2 (by decide)
      have e : ixN T g 3 = Z 2 * (Z 1 * g 0 + g 1) + g 2 := by
        show 0 + g 0 * T 0 + g 1 * T 1 + g 2 * T 2 = _
        rw [t0, t1, t2, Nat.mul_comm (g 0), Nat.mul_comm (g 1), Nat.mul_assoc, Nat.mul_add]
        omega
      have m := md (a := g 0) g1
      have m2 := md (a := Z 1 * g 0 + g 1) g2
      rw [e, t0]
      refine ⟨?_, fun s hs => ?_⟩
      · have h1 : Z 1 * (g 0 + 1) ≤ Z 1 * Z 0 := Nat.mul_le_mul_left _ (by omega)
        rw [Nat.mul_add, Nat.mul_one] at h1
        have h2 : Z 2 * (Z 1 * g 0 + g 1 + 1) ≤ Z 2 * (Z 1 * Z 0) := Nat.mul_le_mul_left _ (by omega)
        rw [Nat.mul_add _ _ 1, Nat.mul_one] at h2
        rw [Nat.mul_assoc]
        omega
      · obtain rfl | rfl | rfl : s = 0 ∨ s = 1 ∨ s = 2 := by omega
        · rw [t0, ← Nat.div_div_eq_div_mul, m2.1, m.1, Nat.mod_eq_of_lt g0]
        · rw [t1, m2.1, m.2]
        · rw [t2, Nat.div_one, m2.2]
    · show 0 + dgN 3 T Z i 0 * T 0 + dgN 3 T Z i 1 * T 1 + dgN 3 T Z i 2 * T 2 = i
      unfold dgN
      rw [if_pos (by decide), if_pos (by decide), if_pos (by decide), t0, t1, t2, Nat.div_one]
      have : i / (Z 2 * Z 1) < Z 0 := Nat.div_lt_of_lt_mul (by rw [t0] at hi; exact hi)
      rw [Nat.mod_eq_of_lt this, ← Nat.div_div_eq_div_mul]
      have d1 := Nat.div_add_mod' i (Z 2)
      have d2 := Nat.div_add_mod' (i / Z 2) (Z 1)
      have d3 : i / Z 2 / Z 1 * (Z 2 * Z 1) + i / Z 2 % Z 1 * Z 2 = i / Z 2 * Z 2 := by
        rw [Nat.mul_comm (Z 2) (Z 1), ← Nat.mul_assoc, ← Nat.add_mul, d2]
      omega
    · obtain rfl | rfl | rfl : s = 0 ∨ s = 1 ∨ s = 2 := by omega
      · exact ⟨hZ 0 (by decide), by rw [t0]; exact Nat.mul_pos z2 z1⟩
      · exact ⟨z1, by omega⟩
      · exact ⟨z2, by omega⟩
/-- the model's digits -/
theorem NS_m {S : Nat} (S1 : 1 ≤ S) (S3 : S ≤ 3) : NS S (6 ^ S) (fun s => 6 ^ s) (fun _ => 6) := by
  obtain rfl | rfl | rfl : S = 1 ∨ S = 2 ∨ S = 3 := by omega
  · refine ⟨fun g hg => ?_, fun i hi => ?_, fun s hs => ⟨show 1 ≤ 6 by decide, Nat.pow_pos (by decide)⟩⟩
    · have g0 : g 0 < 6 := hg 0 (by decide)
      have e : ixN (fun s => 6 ^ s) g 1 = g 0 := by show 0 + g 0 * 1 = _; omega
      rw [e]
      refine ⟨g0, fun s hs => ?_⟩
      obtain rfl : s = 0 := by omega
      show g 0 / 1 % 6 = g 0
      omega
    · show 0 + i / 1 % 6 * 1 = i
      have hi : i < 6 := hi
      omega
  · refine ⟨fun g hg => ?_, fun i hi => ?_, fun s hs => ⟨show 1 ≤ 6 by decide, Nat.pow_pos (by decide)⟩⟩
    · have g0 : g 0 < 6 := hg 0 (by decide)
      have g1 : g 1 < 6 := hg 1 (by decide)
      have e : ixN (fun s => 6 ^ s) g 2 = g 0 + 6 * g 1 := by show 0 + g 0 * 1 + g 1 * 6 = _; omega
      rw [e]
      refine ⟨by show g 0 + 6 * g 1 < 36; omega, fun s hs => ?_⟩
      obtain rfl | rfl : s = 0 ∨ s = 1 := by omega
      · show (g 0 + 6 * g 1) / 1 % 6 = g 0
        omega
      · show (g 0 + 6 * g 1) / 6 % 6 = g 1
        omega
    · show 0 + i / 1 % 6 * 1 + i / 6 % 6 * 6 = i
      have hi : i < 36 := hi
      omega
  · refine ⟨fun g hg => ?_, fun i hi => ?_, fun s hs => ⟨show 1 ≤ 6 by decide, Nat.pow_pos (by decide)⟩⟩
    · have g0 : g 0 < 6 := hg 0 (by decide)
      have g1 : g 1 < 6 := hg 1 (by decide)
      have g2 : g 2 < 6 := hg 2 (by decide)
      have e : ixN (fun s => 6 ^ s) g 3 = g 0 + 6 * g 1 + 36 * g 2 := by show 0 + g 0 * 1 + g 1 * 6 + g 2 * 36 = _; omega
      rw [e]
      refine ⟨by show g 0 + 6 * g 1 + 36 * g 2 < 216; omega, fun s hs => ?_⟩
      obtain rfl | rfl | rfl : s = 0 ∨ s = 1 ∨ s = 2 := by omega
      · show (g 0 + 6 * g 1 + 36 * g 2) / 1 % 6 = g 0
        omega
      · show (g 0 + 6 * g 1 + 36 * g 2) / 6 % 6 = g 1
        omega
      · show (g 0 + 6 * g 1 + 36 * g 2) / 36 % 6 = g 2
        omega
    · show 0 + i / 1 % 6 * 1 + i / 6 % 6 * 6 + i / 36 % 6 * 36 = i
      have hi : i < 216 := hi
      omega
theorem stF_ix {f : Nat → Nat} {S : Nat} (S3 : S ≤ 3) : stF f 0 S = ixN (fun s => 6 ^ s) f S := by
  obtain rfl | rfl | rfl | rfl : S = 0 ∨ S = 1 ∨ S = 2 ∨ S = 3 := by omega
  · rfl
  · show f 0 + 6 * 0 = 0 + f 0 * 1
    omega
  · show f 0 + 6 * (f 1 + 6 * 0) = 0 + f 0 * 1 + f 1 * 6
    omega
  · show f 0 + 6 * (f 1 + 6 * (f 2 + 6 * 0)) = 0 + f 0 * 1 + f 1 * 6 + f 2 * 36
    omega
/-! What is to come of a camp (pure). A camp: sorts, lorries, days between planes, numbers of sorts, what so many bring. -/
abbrev Cp : Type := Nat × Nat × Nat × (Nat → Nat → Nat) × (Nat → Nat)
abbrev qS (C : Cp) : Nat := C.1
abbrev qL (C : Cp) : Nat := C.2.1
abbrev qP (C : Cp) : Nat := C.2.2.1
abbrev qV (C : Cp) : Nat → Nat → Nat := C.2.2.2.1
abbrev qB (C : Cp) : Nat → Nat := C.2.2.2.2
/-- of how many of k break by h twelfths each -/
def chR : Nat → Nat → Nat → Nat
  | 0, _, j => if j = 0 then 1 else 0
  | k + 1, h, j => chR k h j * (12 - h) + (if j = 0 then 0 else chR k h (j - 1) * h)
def sumC (k h : Nat) (f : Nat → Nat) : Nat → Nat
  | 0 => 0
  | n + 1 => sumC k h f n + chR k h n * f n
theorem sumC_congr {k h : Nat} {f g : Nat → Nat} : ∀ n, (∀ j, j < n → f j = g j) → sumC k h f n = sumC k h g n := by
  intro n
  induction n with
  | zero => intro _; rfl
  | succ n ih =>
    intro H
    show sumC k h f n + chR k h n * f n = sumC k h g n + chR k h n * g n
    rw [ih (fun j hj => H j (by omega)), H n (by omega)]
theorem sumC_le {k h : Nat} {f : Nat → Nat} {B : Nat} : ∀ n, (∀ j, j < n → f j ≤ B) → sumC k h f n ≤ sumC k h (fun _ => 1) n * B := by
  intro n
  induction n with
  | zero => intro _; exact Nat.zero_le _
  | succ n ih =>
    intro H
    show sumC k h f n + chR k h n * f n ≤ (sumC k h (fun _ => 1) n + chR k h n * 1) * B
    have h1 := ih (fun j hj => H j (by omega))
    have h2 : chR k h n * f n ≤ chR k h n * B := Nat.mul_le_mul_left _ (H n (by omega))
    rw [Nat.add_mul, Nat.mul_one]
    omega
theorem chR_all : ∀ k : Fin 5, ∀ h : Fin 13, sumC k.val h.val (fun _ => 1) (k.val + 1) = 12 ^ k.val := by decide +kernel
theorem chR_0 : ∀ k : Fin 5, ∀ j : Fin 5, chR k.val 0 j.val = if j.val = 0 then 12 ^ k.val else 0 := by decide +kernel
def mnE (e s a : Nat) : Nat := s / a + (if e = 1 ∧ s % a ≠ 0 then 1 else 0)
theorem mnE_le {e s a B : Nat} (ha : 0 < a) (h : s ≤ a * B) : mnE e s a ≤ B := by
  unfold mnE
  have h1 : s / a ≤ B := Nat.div_le_of_le_mul h
  by_cases q : e = 1 ∧ s % a ≠ 0
  · rw [if_pos q]
    have : s / a ≠ B := fun z => by
      have := Nat.div_add_mod s a
      rw [z] at this
      omega
    omega
  · rw [if_neg q]
    omega
theorem mnE_hi {s a : Nat} (ha : 0 < a) : (s + a - 1) / a = mnE 1 s a := by
  unfold mnE
  have d := Nat.div_add_mod s a
  have m := Nat.mod_lt s ha
  by_cases q : s % a = 0
  · rw [if_neg (fun z => z.2 q), Nat.add_zero]
    have : s + a - 1 = a * (s / a) + (a - 1) := by omega
    rw [this, (md (a := s / a) (b := a - 1) (P := a) (by omega)).1]
  · rw [if_pos ⟨rfl, q⟩]
    have : s + a - 1 = a * (s / a + 1) + (s % a - 1) := by rw [Nat.mul_add, Nat.mul_one]; omega
    rw [this, (md (a := s / a + 1) (b := s % a - 1) (P := a) (by omega)).1]
theorem mnE_id {e v a : Nat} (ha : 0 < a) : mnE e (a * v) a = v := by
  unfold mnE
  rw [if_neg (fun z => z.2 (Nat.mul_mod_right _ _)), Nat.mul_div_cancel_left _ ha, Nat.add_zero]
def stepM (e k h s : Nat) (f : (Nat → Nat) → Nat) (g : Nat → Nat) : Nat := mnE e (sumC k h (fun j => f (up1 g s (g s - j))) (k + 1)) (12 ^ k)
def mz (C : Cp) (e k w : Nat) (fo : (Nat → Nat) → Nat) : Nat → (Nat → Nat) → Nat
  | 0, g => fo g
  | d + 1, g => stepM e k (qV C (qS C - 1 - d) w) (qS C - 1 - d) (mz C e k w fo d) g
theorem up1_id {g : Nat → Nat} {s : Nat} : up1 g s (g s) = g := by
  funext t
  unfold up1
  by_cases q : t = s
  · rw [if_pos q, q]
  · rw [if_neg q]
theorem step_0 {e h s : Nat} {f : (Nat → Nat) → Nat} {g : Nat → Nat} : stepM e 0 h s f g = f g := by
  unfold stepM
  show mnE e (0 + chR 0 h 0 * f (up1 g s (g s - 0))) 1 = f g
  rw [Nat.sub_zero, up1_id, show chR 0 h 0 = 1 from rfl, Nat.zero_add]
  exact mnE_id (v := f g) (by decide)
theorem mz_0 {C : Cp} {e w : Nat} {fo : (Nat → Nat) → Nat} : ∀ d g, mz C e 0 w fo d g = fo g := by
  intro d
  induction d with
  | zero => intro g; rfl
  | succ d ih =>
    intro g
    show stepM e 0 _ _ (mz C e 0 w fo d) g = fo g
    rw [step_0, ih]
theorem step_le {e k h s : Nat} {f : (Nat → Nat) → Nat} {g : Nat → Nat} {B : Nat} (hk : k ≤ 4) (hh : h ≤ 12) (hf : ∀ g, f g ≤ B) : stepM e k h s f g ≤ B := by
  refine mnE_le (Nat.pow_pos (by decide)) ?_
  have := sumC_le (k := k) (h := h) (f := fun j => f (up1 g s (g s - j))) (B := B) (k + 1) (fun j _ => hf _)
  rw [chR_all ⟨k, by omega⟩ ⟨h, by omega⟩] at this
  exact this
def plD (C : Cp) (g : Nat → Nat) : Nat → Nat := fun s => if s < qS C then min 5 (g s + qV C s 4) else 0
def cmD (C : Cp) (day : Nat) : Bool := decide (0 < qP C ∧ day % qP C = 0)
def foD (C : Cp) (day : Nat) (f : (Nat → Nat) → Nat) (g : Nat → Nat) : Nat := if cmD C day = true then f (plD C g) else f g
def vlK (C : Cp) (e day : Nat) (f : (Nat → Nat) → Nat) (k z : Nat) (g : Nat → Nat) : Nat := (3 - z) * 1000000 * qB C k + mz C e k (1 + z) (foD C day f) (qS C) g
abbrev Ac : Type := Option (Nat × Nat × Nat)
def ltA (a : Ac) (v : Nat) : Bool := match a with
  | none => true
  | some x => decide (x.1 < v)
def mayK (rule k can : Nat) : Bool := if rule = 0 then decide (k ≤ can) else decide (can = k)
def stA (rule k z can v : Nat) (a : Ac) : Ac := if (mayK rule k can && ltA a v) = true then some (v, k, z) else a
def trC (rule k z : Nat) : Bool := if k = 0 then decide (z = 0) else (decide (rule = 0) || (decide (rule = 2) == decide (z = 1)))
def trM (rule z : Nat) : Bool := decide (rule = 0) || decide (z = if rule = 2 then 1 else 0)
def st2A (tr : Nat → Nat → Bool) (rule can : Nat) (v : Nat → Nat → Nat) (k : Nat) (a : Ac) : Ac :=
  let b := if tr k 0 = true then stA rule k 0 can (v k 0) a else a
  if tr k 1 = true then stA rule k 1 can (v k 1) b else b
/-- from k down to 0 -/
def dayF (tr : Nat → Nat → Bool) (rule can : Nat) (v : Nat → Nat → Nat) : Nat → Ac → Ac
  | 0, a => st2A tr rule can v 0 a
  | k + 1, a => dayF tr rule can v k (st2A tr rule can v (k + 1) a)
def outA (a : Ac) : Nat × Nat × Nat := ((a.getD (0, 0, 0)).1, (a.getD (0, 0, 0)).2.1, if (a.getD (0, 0, 0)).2.1 = 0 then 0 else (a.getD (0, 0, 0)).2.2)
theorem tr_eq {rule k z : Nat} (hk : k ≠ 0) (hz : z ≤ 1) : trC rule k z = trM rule z := by
  unfold trC trM
  rw [if_neg hk]
  obtain rfl | rfl : z = 0 ∨ z = 1 := by omega
  · by_cases q : rule = 2
    · subst q; decide
    · rw [if_neg q, decide_eq_false q]
      by_cases q2 : rule = 0 <;> simp [q2]
  · by_cases q : rule = 2
    · subst q; decide
    · rw [if_neg q, decide_eq_false q]
      by_cases q2 : rule = 0 <;> simp [q2]
theorem st2_eq {rule can k : Nat} {v : Nat → Nat → Nat} {a : Ac} (hk : k ≠ 0) : st2A (trC rule) rule can v k a = st2A (fun _ => trM rule) rule can v k a := by
  unfold st2A
  rw [tr_eq hk (by omega), tr_eq hk (by omega)]
theorem st0_eq {rule can : Nat} {v : Nat → Nat → Nat} {a : Ac} (hv : v 0 0 = v 0 1) : outA (st2A (trC rule) rule can v 0 a) = outA (st2A (fun _ => trM rule) rule can v 0 a) := by
  have c0 : trC rule 0 0 = true := rfl
  have c1 : trC rule 0 1 = false := rfl
  unfold st2A
  rw [c0, c1, if_pos rfl, if_neg (by decide)]
  show outA (stA rule 0 0 can (v 0 0) a) = outA (if trM rule 1 = true then stA rule 0 1 can (v 0 1) (if trM rule 0 = true then stA rule 0 0 can (v 0 0) a else a) else (if trM rule 0 = true then stA rule 0 0 can (v 0 0) a else a))
  rw [← hv]
  by_cases q2 : rule = 2
  · subst q2
    rw [show trM 2 1 = true from rfl, show trM 2 0 = false from rfl, if_pos rfl, if_neg (by decide)]
    unfold stA
    by_cases w : (mayK 2 0 can && ltA a (v 0 0)) = true
    · rw [if_pos w, if_pos w]
      rfl
    · rw [if_neg w, if_neg w]
  · by_cases q0 : rule = 0
    · subst q0
      rw [show trM 0 1 = true from rfl, show trM 0 0 = true from rfl, if_pos rfl, if_pos rfl]
      congr 1
      unfold stA
      by_cases w : (mayK 0 0 can && ltA a (v 0 0)) = true
      · rw [if_pos w, if_neg]
        rw [show ltA (some (v 0 0, 0, 0)) (v 0 0) = false from decide_eq_false (Nat.lt_irrefl _), Bool.and_false]
        decide
      · rw [if_neg w, if_neg w]
    · have e0 : trM rule 0 = true := by
        unfold trM
        rw [if_neg q2]
        simp
      have e1 : trM rule 1 = false := by
        unfold trM
        rw [if_neg q2]
        simp [q0]
      rw [e0, e1, if_pos rfl, if_neg (by decide)]
theorem dayF_eq {rule can : Nat} {v : Nat → Nat → Nat} (hv : v 0 0 = v 0 1) : ∀ k (a : Ac), outA (dayF (trC rule) rule can v k a) = outA (dayF (fun _ => trM rule) rule can v k a) := by
  intro k
  induction k with
  | zero => exact fun a => st0_eq hv
  | succ k ih =>
    intro a
    show outA (dayF (trC rule) rule can v k (st2A (trC rule) rule can v (k + 1) a)) = _
    rw [st2_eq (by omega)]
    exact ih _
theorem stA_none {rule k z can v : Nat} {a : Ac} (hr : rule ≠ 0) (hk : can ≠ k) : stA rule k z can v a = a := by
  unfold stA mayK
  rw [if_neg hr, decide_eq_false hk, Bool.false_and, if_neg (by decide)]
theorem st2_none {tr : Nat → Nat → Bool} {rule k can : Nat} {v : Nat → Nat → Nat} {a : Ac} (hr : rule ≠ 0) (hk : can ≠ k) : st2A tr rule can v k a = a := by
  unfold st2A
  simp only [stA_none hr hk, ite_self]
theorem stA_some {rule k z can v : Nat} {a : Ac} (h : a ≠ none) : stA rule k z can v a ≠ none := by
  unfold stA
  split
  · exact fun z => by cases z
  · exact h
theorem st2_some {tr : Nat → Nat → Bool} {rule k can : Nat} {v : Nat → Nat → Nat} {a : Ac} (h : a ≠ none) : st2A tr rule can v k a ≠ none := by
  unfold st2A
  have h1 : (if tr k 0 = true then stA rule k 0 can (v k 0) a else a) ≠ none := by
    split
    · exact stA_some h
    · exact h
  show (if tr k 1 = true then stA rule k 1 can (v k 1) (if tr k 0 = true then stA rule k 0 can (v k 0) a else a) else (if tr k 0 = true then stA rule k 0 can (v k 0) a else a)) ≠ none
  split
  · exact stA_some h1
  · exact h1
theorem stA_may {rule k z can v : Nat} {a : Ac} (h : mayK rule k can = true) : stA rule k z can v a ≠ none := by
  cases a with
  | some x => exact stA_some (fun z => by cases z)
  | none =>
    unfold stA
    rw [h]
    exact fun z => by cases z
theorem dayF_some {tr : Nat → Nat → Bool} {rule can : Nat} {v : Nat → Nat → Nat} (htr : ∀ k, tr k 0 = true ∨ tr k 1 = true) : ∀ k (a : Ac), (a ≠ none ∨ can ≤ k) → dayF tr rule can v k a ≠ none := by
  have st : ∀ k (a : Ac), mayK rule k can = true → st2A tr rule can v k a ≠ none := fun k a hm => by
    unfold st2A
    show (if tr k 1 = true then stA rule k 1 can (v k 1) (if tr k 0 = true then stA rule k 0 can (v k 0) a else a) else (if tr k 0 = true then stA rule k 0 can (v k 0) a else a)) ≠ none
    by_cases q : tr k 1 = true
    · rw [if_pos q]
      exact stA_may hm
    · rw [if_neg q, if_pos ((htr k).resolve_right q)]
      exact stA_may hm
  have m0 : can ≤ 0 → mayK rule 0 can = true := fun h => by
    unfold mayK
    split
    · exact decide_eq_true (by omega)
    · exact decide_eq_true (by omega)
  have mr0 : rule = 0 → mayK rule 0 can = true := fun h => by
    unfold mayK
    rw [if_pos h]
    exact decide_eq_true (by omega)
  intro k
  induction k with
  | zero =>
    intro a h
    rcases h with h | h
    · exact st2_some h
    · exact st 0 a (m0 h)
  | succ k ih =>
    intro a h
    show dayF tr rule can v k (st2A tr rule can v (k + 1) a) ≠ none
    rcases h with h | h
    · exact ih _ (Or.inl (st2_some h))
    · by_cases e : can = k + 1
      · refine ih _ (Or.inl (st (k + 1) a ?_))
        unfold mayK
        split
        · exact decide_eq_true (by omega)
        · exact decide_eq_true e
      · exact ih _ (Or.inr (by omega))
theorem trC_ex (rule k : Nat) : trC rule k 0 = true ∨ trC rule k 1 = true := by
  by_cases q : k = 0
  · exact Or.inl (by unfold trC; rw [if_pos q]; rfl)
  · rw [tr_eq q (by omega), tr_eq q (by omega)]
    unfold trM
    by_cases q2 : rule = 2
    · exact Or.inr (by rw [if_pos q2]; simp)
    · exact Or.inl (by rw [if_neg q2]; simp)
theorem dayF_le {tr : Nat → Nat → Bool} {rule can : Nat} {v : Nat → Nat → Nat} {B : Nat} : ∀ k, (∀ j z, j ≤ k → z ≤ 1 → v j z ≤ B) → ∀ (a : Ac), (∀ x, a = some x → x.1 ≤ B) → ∀ x, dayF tr rule can v k a = some x → x.1 ≤ B := by
  have sa : ∀ k z w (a : Ac), w ≤ B → (∀ x, a = some x → x.1 ≤ B) → ∀ x, stA rule k z can w a = some x → x.1 ≤ B := fun k z w a hw ha x hx => by
    unfold stA at hx
    split at hx
    · cases hx
      exact hw
    · exact ha x hx
  have s2 : ∀ k (a : Ac), (∀ z, z ≤ 1 → v k z ≤ B) → (∀ x, a = some x → x.1 ≤ B) → ∀ x, st2A tr rule can v k a = some x → x.1 ≤ B := fun k a hv ha => by
    have h1 : ∀ x, (if tr k 0 = true then stA rule k 0 can (v k 0) a else a) = some x → x.1 ≤ B := by
      split
      · exact sa k 0 _ a (hv 0 (by omega)) ha
      · exact ha
    show ∀ x, (if tr k 1 = true then stA rule k 1 can (v k 1) (if tr k 0 = true then stA rule k 0 can (v k 0) a else a) else (if tr k 0 = true then stA rule k 0 can (v k 0) a else a)) = some x → x.1 ≤ B
    split
    · exact sa k 1 _ _ (hv 1 (by omega)) h1
    · exact h1
  intro k
  induction k with
  | zero => exact fun hv a ha => s2 0 a (fun z hz => hv 0 z (Nat.le_refl _) hz) ha
  | succ k ih => exact fun hv a ha => ih (fun j z hj hz => hv j z (by omega) hz) _ (s2 (k + 1) a (fun z hz => hv (k + 1) z (Nat.le_refl _) hz) ha)
def lrR (C : Cp) (rule : Nat) : Nat := if rule = 3 then qL C - 1 else qL C
def canD (C : Cp) (rule : Nat) (g : Nat → Nat) : Nat := mnF (lrR C rule) g (qS C)
/-- the last m of n days: what they bring; and how the first of them is driven -/
def Vd (C : Cp) (rule e n : Nat) : Nat → (Nat → Nat) → Nat
  | 0, _ => 0
  | m + 1, g => (outA (dayF (trC rule) rule (canD C rule g) (fun k z => vlK C e (n - m) (Vd C rule e n m) k z g) (lrR C rule) none)).1
def Kd (C : Cp) (rule e n m : Nat) (g : Nat → Nat) : Nat × Nat := (outA (dayF (trC rule) rule (canD C rule g) (fun k z => vlK C e (n - m) (Vd C rule e n m) k z g) (lrR C rule) none)).2
