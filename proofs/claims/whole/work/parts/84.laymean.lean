/-! The model's table of states: leaves, layMean. -/
def MK (F : Nat → Nat → Int32) (C : Cp) (x : Nat) : Prop := x < 3 ∧ (1 ≤ qL C ∧ qL C ≤ 4 ∧ 1 ≤ qS C ∧ qS C ≤ 3 ∧ qP C ≤ 9) ∧ F 40 x = nI (qL C) ∧ F 41 x = nI (qS C) ∧ F 42 x = nI (qP C) ∧ (∀ s w, s < qS C → w < 5 → qV C s w ≤ 12 ∧ F 44 (15 * x + 5 * s + w) = nI (qV C s w)) ∧ ∀ k, k ≤ qL C → qB C k ≤ 9 ∧ (k = 0 → qB C k = 0) ∧ F 43 (5 * x + k) = nI (qB C k)
abbrev T6 (s : Nat) : Nat := 6 ^ s
abbrev Z6 (_ : Nat) : Nat := 6
def cbN (k : Nat) : Nat → Nat
  | 0 => 1
  | x + 1 => cbN k x * (k - x) / (x + 1)
theorem cb_all : ∀ k : Fin 5, ∀ j : Fin 5, j.val ≤ k.val → (cbN k.val j.val ≤ 10 ∧ ∀ h : Fin 13, cbN k.val j.val * h.val ^ j.val * (12 - h.val) ^ (k.val - j.val) = chR k.val h.val j.val) := by decide +kernel
section
variable {sc : Nat × (Nat → Int32)} {h : Hp}
theorem c_sixes {s : Nat} (hs : s ≤ 3) : Cc sc 167 [.int (nI s)] h (some (.int (nI (6 ^ s)))) h := by
  obtain rfl | rfl | rfl | rfl : s = 0 ∨ s = 1 ∨ s = 2 ∨ s = 3 := by omega
  · refine cc_of 20 rfl rfl ?_
    refine br_f (by exact fun z => z rfl) ?_
    exact ⟨Or.inl rfl, rfl, rfl⟩
  · refine cc_of 20 rfl rfl ?_
    refine br_t (by decide) ?_
    refine br_f (by exact fun z => z rfl) ?_
    exact ⟨Or.inl rfl, rfl, rfl⟩
  · refine cc_of 20 rfl rfl ?_
    refine br_t (by decide) ?_
    refine br_t (by decide) ?_
    refine br_f (by exact fun z => z rfl) ?_
    exact ⟨Or.inl rfl, rfl, rfl⟩
  · refine cc_of 20 rfl rfl ?_
    refine br_t (by decide) ?_
    refine br_t (by decide) ?_
    refine br_t (by decide) ?_
    exact ⟨Or.inl rfl, rfl, rfl⟩
theorem power_loop {v n : Nat} (hv : v < 100) (hn : n < 100) : ∀ (d x : Nat), x + d = n → Rn sc (mtk 164) 5 [some (.int (nI v)), some (.int (nI n)), some (.long (lN (v ^ x))), none, some (.int (nI x))] [] h (some (.long (lN (v ^ n)))) h := by
  intro d
  induction d with
  | zero =>
    intro x hx
    obtain rfl : x = n := by omega
    refine bk_sound (cuts := []) 20 _ _ _ _ ?_
    refine br_t (nI_le (Nat.le_refl _) (by omega)) ?_
    exact ⟨trivial, rfl, rfl⟩
  | succ d ih =>
    intro x hx
    have R := ih (x + 1) (by omega)
    rw [← nI_1, Nat.pow_succ, ← lN_mul, ← nI_l (n := v) (by omega)] at R
    refine bk_sound (cuts := [5]) 20 _ _ _ _ ?_
    refine br_f (nI_ge (by omega) (by omega)) ?_
    exact R
theorem c_power {v n : Nat} (hv : v < 100) (hn : n < 100) : Cc sc 164 [.int (nI v), .int (nI n)] h (some (.long (lN (v ^ n)))) h := by
  refine cc_cut [5] 20 rfl rfl ?_
  exact power_loop hv hn n 0 (by omega)
theorem chance_loop {k j b : Nat} (hk : k ≤ 4) (hj : j ≤ k) {r : Option Value} (KK : Rn sc (mtk 165) 31 [some (.int (nI k)), some (.int (nI j)), some (.int (nI b)), some (.long (lN (cbN k j))), none, some (.int (nI j))] [] h r h) : ∀ (d x : Nat), x + d = j → Rn sc (mtk 165) 5 [some (.int (nI k)), some (.int (nI j)), some (.int (nI b)), some (.long (lN (cbN k x))), none, some (.int (nI x))] [] h r h := by
  intro d
  induction d with
  | zero =>
    intro x hx
    obtain rfl : x = j := by omega
    refine bk_sound (cuts := [31]) 20 _ _ _ _ ?_
    refine br_t (nI_le (Nat.le_refl _) (by omega)) ?_
    exact KK
  | succ d ih =>
    intro x hx
    have R := ih (x + 1) (by omega)
    have c10 := (cb_all ⟨k, by omega⟩ ⟨x, by omega⟩ (by show x ≤ k; omega)).1
    have c10 : cbN k x ≤ 10 := c10
    have m : cbN k x * (k - x) ≤ 10 * 4 := Nat.mul_le_mul c10 (by omega)
    rw [← nI_1 x, show cbN k (x + 1) = cbN k x * (k - x) / (x + 1) from rfl, ← pk_lDiv (by omega) (by omega) (by omega), ← lN_mul, ← nI_l (n := k - x) (by omega), ← nI_l (n := x + 1) (by omega), ← pk_sub (by omega : x ≤ k)] at R
    refine bk_sound (cuts := [5]) 30 _ _ _ _ ?_
    refine br_f (nI_ge (by omega) (by omega)) ?_
    rw [← nI_1 x] at R
    refine And.intro (show ¬ (nI x + 1).toInt64 = 0 from fun z => by
      rw [nI_1, nI_l (by omega)] at z
      have := (pk_lEQ (a := x + 1) (b := 0) (by omega) (by omega)).mp z
      omega) ?_
    exact R
theorem c_chance {k j b : Nat} (hk : k ≤ 4) (hj : j ≤ k) (hb : b ≤ 12) : Cc sc 165 [.int (nI k), .int (nI j), .int (nI b)] h (some (.long (lN (chR k b j)))) h := by
  refine cc_cut [5] 20 rfl rfl ?_
  refine chance_loop hk hj ?_ j 0 (by omega)
  have e := (cb_all ⟨k, by omega⟩ ⟨j, by omega⟩ hj).2 ⟨b, by omega⟩
  have e : cbN k j * b ^ j * (12 - b) ^ (k - j) = chR k b j := e
  refine bk_sound (cuts := []) 30 _ _ _ _ ?_
  refine And.intro rfl (And.intro rfl (Exists.intro _ (Exists.intro _ (And.intro (c_power (by omega) (by omega)) ?_))))
  have p2 := c_power (sc := sc) (h := h) (v := 12 - b) (n := k - j) (by omega) (by omega)
  rw [← pk_sub (by omega : b ≤ 12), ← pk_sub hj] at p2
  refine And.intro rfl (And.intro rfl (Exists.intro _ (Exists.intro _ (And.intro (p2) ?_))))
  refine ⟨trivial, ?_, rfl⟩
  show some (Value.long (lN (cbN k j) * lN (b ^ j) * lN ((12 - b) ^ (k - j)))) = _
  rw [lN_mul, lN_mul, e]
theorem c_part12 {sum k e : Nat} (hk : k ≤ 4) (he : e ≤ 1) (hs : sum < 2 ^ 62) : Cc sc 166 [.long (lN sum), .int (nI k), .int (nI e)] h (some (.long (lN (mnE e sum (12 ^ k))))) h := by
  have p0 : 0 < 12 ^ k := Nat.pow_pos (by decide)
  have p4 : 12 ^ k ≤ 20736 := Nat.pow_le_pow_right (n := 12) (by decide) hk
  have ne : ¬ lN (12 ^ k) = 0 := fun z => by
    have := (pk_lEQ (a := 12 ^ k) (b := 0) (by omega) (by decide)).mp z
    omega
  have ml := Nat.mod_lt sum p0
  refine cc_of 40 rfl rfl ?_
  refine And.intro rfl (And.intro rfl (Exists.intro _ (Exists.intro _ (And.intro (c_power (v := 12) (by omega) (by omega)) ?_))))
  refine And.intro ne ?_
  by_cases q : e = 1
  · subst q
    refine br_f (by exact fun z => z rfl) ?_
    refine And.intro ne ?_
    rw [pk_lRem (by omega) p0 (by omega)]
    by_cases w : sum % 12 ^ k = 0
    · refine br_t (show lg_cmp (lN (sum % 12 ^ k)) 0 = 0 by rw [w]; rfl) ?_
      refine ⟨trivial, ?_, rfl⟩
      show some (Value.long (lN sum / lN (12 ^ k) + 0)) = _
      rw [pk_lDiv (by omega) p0 (by omega), show (0 : Int64) = lN 0 from rfl, lN_add]
      unfold mnE
      rw [if_neg (fun z => z.2 w)]
    · refine br_f (show ¬ lg_cmp (lN (sum % 12 ^ k)) 0 = 0 by
        rw [cmp_eq0, pk_lT (by omega)]
        show ¬ ((sum % 12 ^ k : Nat) : Int) = 0
        omega) ?_
      refine ⟨trivial, ?_, rfl⟩
      show some (Value.long (lN sum / lN (12 ^ k) + 1)) = _
      rw [pk_lDiv (by omega) p0 (by omega), show (1 : Int64) = lN 1 from rfl, lN_add]
      unfold mnE
      rw [if_pos ⟨rfl, w⟩]
  · refine br_t (fun z => q ((nI_eq (a := e) (b := 1) (by omega) (by omega)).mp z)) ?_
    refine ⟨trivial, ?_, rfl⟩
    show some (Value.long (lN sum / lN (12 ^ k) + 0)) = _
    rw [pk_lDiv (by omega) p0 (by omega), show (0 : Int64) = lN 0 from rfl, lN_add]
    unfold mnE
    rw [if_neg (fun z => q z.1)]
variable {F : Nat → Nat → Int32} {G : Nat → Nat → Int64} {C : Cp} {x : Nat}
theorem c_ofM (hs : Shp h) (K : MK F C x) {s w : Nat} (h1 : s < qS C) (h2 : w < 5) : Cc sc 149 [.ref 39, .int (nI x), .int (nI s), .int (nI w)] (wIJ (nh h) F G) (some (.int (nI (qV C s w)))) (wIJ (nh h) F G) := by
  obtain ⟨k1, k2, k3, k4, k5, k6, k7⟩ := K
  exact c_of (h := wIJ (nh h) F G) (wIJ_shp hs _ _) k1 (by omega) h2 (k6 s w h1 h2).2
theorem dg6 {i s : Nat} (hs : s < qS C) : dgN (qS C) T6 Z6 i s = i / 6 ^ s % 6 := if_pos hs
theorem six_b {S : Nat} (h : S ≤ 3) : 6 ^ S ≤ 216 := Nat.pow_le_pow_right (n := 6) (by decide) h
theorem planed_loop (hs : Shp h) (K : MK F C x) {i : Nat} (hi : i < 216) : ∀ (d s : Nat), s + d = qS C → Rn sc (mtk 168) 5 [some (.ref 39), some (.int (nI x)), some (.int (nI i)), some (.int (nI (ixN T6 (plD C (dgN (qS C) T6 Z6 i)) s))), some (.int (nI s))] [] (wIJ (nh h) F G) (some (.int (nI (ixN T6 (plD C (dgN (qS C) T6 Z6 i)) (qS C))))) (wIJ (nh h) F G) := by
  intro d
  obtain ⟨k1, k2, k3, k4, k5, k6, k7⟩ := id K
  have ix : inB (nI x) 3 = true := inB_nI k1 (by decide)
  have ex : (nI x).toNatClampNeg = x := nI_clamp (by omega)
  induction d with
  | zero =>
    intro s hsd
    obtain rfl : s = qS C := by omega
    refine bk_sound (cuts := []) 20 _ _ _ _ ?_
    refine And.intro rfl ?_
    refine And.intro (⟨rfl, ix⟩) ?_
    refine br_t (show F 41 (nI x).toNatClampNeg ≤ nI (qS C) by rw [ex, k4]; exact nI_le (Nat.le_refl _) (by omega)) ?_
    exact ⟨Or.inl rfl, rfl, rfl⟩
  | succ d ih =>
    intro s hsd
    have R := ih (s + 1) (by omega)
    have v4 := (k6 s 4 (by omega) (by decide)).1
    have p6 := six_b (S := s) (by omega)
    have p1 : 1 ≤ 6 ^ s := Nat.pow_pos (by decide)
    have il : i / 6 ^ s ≤ i := Nat.div_le_self _ _
    rw [← nI_1, show ixN T6 (plD C (dgN (qS C) T6 Z6 i)) (s + 1) = ixN T6 (plD C (dgN (qS C) T6 Z6 i)) s + plD C (dgN (qS C) T6 Z6 i) s * 6 ^ s from rfl, show plD C (dgN (qS C) T6 Z6 i) s = min 5 (dgN (qS C) T6 Z6 i s + qV C s 4) from if_pos (by omega), dg6 (by omega : s < qS C), Nat.mul_comm (min 5 _), ← nI_add, ← pk_mul] at R
    have cl := c_lesser (sc := sc) (h := wIJ (nh h) F G) (a := 5) (b := i / 6 ^ s % 6 + qV C s 4) (by omega) (by omega)
    rw [← nI_add] at cl
    refine bk_sound (cuts := [5]) 60 _ _ _ _ ?_
    refine And.intro rfl ?_
    refine And.intro (⟨rfl, ix⟩) ?_
    refine br_f (show ¬ F 41 (nI x).toNatClampNeg ≤ nI s by rw [ex, k4]; exact nI_ge (by omega) (by omega)) ?_
    refine And.intro rfl (And.intro rfl (Exists.intro _ (Exists.intro _ (And.intro (c_sixes (by omega)) ?_))))
    refine And.intro rfl (And.intro rfl (Exists.intro _ (Exists.intro _ (And.intro (c_sixes (by omega)) ?_))))
    refine And.intro (fun z => by have := (nI_eq (a := 6 ^ s) (b := 0) (by omega) (by omega)).mp z; omega) ?_
    rw [pk_div (by omega) p1 (by omega)]
    refine And.intro (by decide) ?_
    rw [show nI (i / 6 ^ s) - nI (i / 6 ^ s) / 6 * 6 = nI (i / 6 ^ s % 6) from pk_rem (d := 6) (by omega) (by decide) (by decide)]
    refine And.intro ⟨rfl, rfl⟩ (And.intro rfl (Exists.intro _ (Exists.intro _ (And.intro (c_ofM hs K (by omega : s < qS C) (by decide : 4 < 5)) ?_))))
    refine And.intro rfl (And.intro rfl (Exists.intro _ (Exists.intro _ (And.intro (cl) ?_))))
    exact R
theorem c_planed (hs : Shp h) (K : MK F C x) {i : Nat} (hi : i < 216) : Cc sc 168 [.ref 39, .int (nI x), .int (nI i)] (wIJ (nh h) F G) (some (.int (nI (ixN T6 (plD C (dgN (qS C) T6 Z6 i)) (qS C))))) (wIJ (nh h) F G) := by
  refine cc_cut [5] 20 rfl rfl ?_
  exact planed_loop hs K hi (qS C) 0 (by omega)
end
/-- one sort's means by the model -/
def tmM (S : Nat) (e k hh s : Nat) (val : Nat → Nat) (i : Nat) : Nat := if k ≤ dgN S T6 Z6 i s then mnE e (sumC k hh (fun j => val (i - j * 6 ^ s)) (k + 1)) (12 ^ k) else 0
def mtM (C : Cp) (e k w : Nat) (fol : Nat → Nat) : Nat → Nat → Nat
  | 0 => fol
  | d + 1 => tmM (qS C) e k (qV C (qS C - 1 - d) w) (qS C - 1 - d) (mtM C e k w fol d)
theorem mtM_mz {C : Cp} {N : Nat} (H : NS (qS C) N T6 Z6) {e k w : Nat} {fol : Nat → Nat} {fo : (Nat → Nat) → Nat} (hf : ∀ i, i < N → fol i = fo (dgN (qS C) T6 Z6 i)) : ∀ d, d ≤ qS C → ∀ i, i < N → (∀ t, qS C - d ≤ t → t < qS C → k ≤ dgN (qS C) T6 Z6 i t) → mtM C e k w fol d i = mz C e k w fo d (dgN (qS C) T6 Z6 i) := by
  intro d
  induction d with
  | zero => exact fun _ i hi _ => hf i hi
  | succ d ih =>
    intro hd i hi hc
    have hs : qS C - 1 - d < qS C := by omega
    have ks := hc (qS C - 1 - d) (by omega) hs
    show tmM (qS C) e k (qV C (qS C - 1 - d) w) (qS C - 1 - d) (mtM C e k w fol d) i = stepM e k (qV C (qS C - 1 - d) w) (qS C - 1 - d) (mz C e k w fo d) (dgN (qS C) T6 Z6 i)
    unfold tmM stepM
    rw [if_pos ks]
    congr 1
    refine sumC_congr _ (fun j hj => ?_)
    obtain ⟨s1, s2⟩ := H.sub hi hs (by omega : j ≤ dgN (qS C) T6 Z6 i (qS C - 1 - d))
    have s1 : j * 6 ^ (qS C - 1 - d) ≤ i := s1
    have s2 : dgN (qS C) T6 Z6 (i - j * 6 ^ (qS C - 1 - d)) = up1 (dgN (qS C) T6 Z6 i) (qS C - 1 - d) (dgN (qS C) T6 Z6 i (qS C - 1 - d) - j) := s2
    have := ih (by omega) (i - j * 6 ^ (qS C - 1 - d)) (by omega) (fun t t1 t2 => by
      rw [s2]
      unfold up1
      rw [if_neg (by omega)]
      exact hc t (by omega) t2)
    rw [this, s2]
theorem tmM_le {S e k hh s B : Nat} {val : Nat → Nat} (hk : k ≤ 4) (h12 : hh ≤ 12) (hv : ∀ i, val i ≤ B) (i : Nat) : tmM S e k hh s val i ≤ B := by
  unfold tmM
  split
  · exact mnE_le (Nat.pow_pos (by decide)) (sumC_b hk h12 (fun j _ => hv _)).1
  · exact Nat.zero_le _
