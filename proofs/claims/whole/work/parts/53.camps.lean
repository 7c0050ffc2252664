/-! Camps: what is read of one. -/
def cL (h : Hp) (j : Nat) : Nat := (zI h 40 j).toNatClampNeg
def cS (h : Hp) (j : Nat) : Nat := (zI h 41 j).toNatClampNeg
def cP (h : Hp) (j : Nat) : Nat := (zI h 42 j).toNatClampNeg
def cV (h : Hp) (j s w : Nat) : Nat := (zI h 44 (15 * j + 5 * s + w)).toNatClampNeg
def cB (h : Hp) (j k : Nat) : Nat := (zI h 43 (5 * j + k)).toNatClampNeg
def CD (h : Hp) (j c nb br : Nat) : Prop := zA h 2 j = c ∧ zA h c 3 = nb ∧ zA h c 4 = br ∧ 65 ≤ c ∧ 65 ≤ nb ∧ 65 ≤ br ∧ nb ≠ br ∧ zK h c = 0 ∧ zK h nb = 12 ∧ zN h nb = 15 ∧ zK h br = 12 ∧ zN h br = 5 ∧ 1 ≤ cL h j ∧ cL h j ≤ 4 ∧ 1 ≤ cS h j ∧ cS h j ≤ 3 ∧ cP h j ≤ 9 ∧ zI h c 0 = nI (cL h j) ∧ zI h 40 j = nI (cL h j) ∧ zI h c 1 = nI (cS h j) ∧ zI h 41 j = nI (cS h j) ∧ zI h c 2 = nI (cP h j) ∧ zI h 42 j = nI (cP h j) ∧ (∀ s w, s < cS h j → w < 5 → mnW w ≤ cV h j s w ∧ cV h j s w ≤ mxW w ∧ zI h nb (5 * s + w) = nI (cV h j s w) ∧ zI h 44 (15 * j + 5 * s + w) = nI (cV h j s w)) ∧ (∀ k, k ≤ cL h j → cB h j k ≤ 9 ∧ (k = 0 → cB h j k = 0) ∧ zI h br k = nI (cB h j k) ∧ zI h 43 (5 * j + k) = nI (cB h j k))
theorem mxW_le (w : Nat) : mxW w ≤ 12 := by
  unfold mxW
  split
  · omega
  · split
    · omega
    · split <;> omega
theorem CampOK.cd {h : Hp} {j : Nat} (hC : CampOK h j) : ∃ c nb br, CD h j c nb br := by
  obtain ⟨c, nb, br, L, S, P, q1, q2, q3, q4, q5, q6, q7, q8, q9, q10, q11, q12, q13, q14, q15, q16, q17, q18, q19, q20, q21, q22, q23, q24, q25⟩ := hC
  have eL : cL h j = L := by unfold cL; rw [q19]; exact nI_clamp (by omega)
  have eS : cS h j = S := by unfold cS; rw [q21]; exact nI_clamp (by omega)
  have eP : cP h j = P := by unfold cP; rw [q23]; exact nI_clamp (by omega)
  refine ⟨c, nb, br, ?_⟩
  unfold CD
  rw [eL, eS, eP]
  refine ⟨q1, q2, q3, q4, q5, q6, q7, q8, q9, q10, q11, q12, q13, q14, q15, q16, q17, q18, q19, q20, q21, q22, q23, fun s w hs hw => ?_, fun k hk => ?_⟩
  · obtain ⟨v, v1, v2, v3, v4⟩ := q24 s w hs hw
    have := mxW_le w
    have e : cV h j s w = v := by unfold cV; rw [v4]; exact nI_clamp (by omega)
    rw [e]
    exact ⟨v1, v2, v3, v4⟩
  · obtain ⟨v, v1, v2, v3, v4⟩ := q25 k hk
    have e : cB h j k = v := by unfold cB; rw [v4]; exact nI_clamp (by omega)
    rw [e]
    exact ⟨v1, v2, v3, v4⟩
def mnF (m : Nat) (f : Nat → Nat) : Nat → Nat
  | 0 => m
  | s + 1 => min (mnF m f s) (f s)
theorem mnF_le (m : Nat) (f : Nat → Nat) (s : Nat) : mnF m f s ≤ m := by
  induction s with
  | zero => exact Nat.le_refl _
  | succ s ih => exact Nat.le_trans (Nat.min_le_left _ _) ih
theorem mnF_congr {m : Nat} {f g : Nat → Nat} : ∀ s, (∀ t, t < s → f t = g t) → mnF m f s = mnF m g s := by
  intro s
  induction s with
  | zero => intro _; rfl
  | succ s ih =>
    intro h
    unfold mnF
    rw [ih (fun t ht => h t (by omega)), h s (by omega)]
theorem le_mnF {m k : Nat} {f : Nat → Nat} : ∀ s, k ≤ mnF m f s ↔ k ≤ m ∧ ∀ t, t < s → k ≤ f t := by
  intro s
  induction s with
  | zero => exact ⟨fun q => ⟨q, fun t ht => absurd ht (by omega)⟩, fun q => q.1⟩
  | succ s ih =>
    unfold mnF
    rw [Nat.le_min, ih]
    constructor
    · intro q
      refine ⟨q.1.1, fun t ht => ?_⟩
      by_cases e : t = s
      · rw [e]; exact q.2
      · exact q.1.2 t (by omega)
    · exact fun q => ⟨⟨q.1, fun t ht => q.2 t (by omega)⟩, q.2 s (by omega)⟩
/-- digits to the base 6 -/
def stF (f : Nat → Nat) : Nat → Nat → Nat
  | _, 0 => 0
  | i, d + 1 => f i + 6 * stF f (i + 1) d
theorem stF_lt {f : Nat → Nat} : ∀ d i, (∀ t, t < d → f (i + t) < 6) → stF f i d < 6 ^ d := by
  intro d
  induction d with
  | zero => intro i _; exact Nat.one_pos
  | succ d ih =>
    intro i h
    unfold stF
    have h1 := h 0 (by omega)
    have h2 := ih (i + 1) (fun t ht => by have := h (t + 1) (by omega); rw [show i + 1 + t = i + (t + 1) by omega]; exact this)
    rw [Nat.pow_succ]
    rw [Nat.add_zero] at h1
    omega
theorem stF_dg {f : Nat → Nat} : ∀ d i, (∀ t, t < d → f (i + t) < 6) → ∀ s, s < d → stF f i d / 6 ^ s % 6 = f (i + s) := by
  intro d
  induction d with
  | zero => intro i _ s hs; omega
  | succ d ih =>
    intro i h s hs
    unfold stF
    have h1 := h 0 (by omega)
    rw [Nat.add_zero] at h1
    cases s with
    | zero =>
      rw [Nat.pow_zero, Nat.div_one]
      show (f i + 6 * stF f (i + 1) d) % 6 = f i
      omega
    | succ s =>
      have h2 := ih (i + 1) (fun t ht => by have := h (t + 1) (by omega); rw [show i + 1 + t = i + (t + 1) by omega]; exact this) s (by omega)
      rw [Nat.pow_succ, Nat.mul_comm (6 ^ s) 6, ← Nat.div_div_eq_div_mul, show (f i + 6 * stF f (i + 1) d) / 6 = stF f (i + 1) d by omega, h2, show i + 1 + s = i + (s + 1) by omega]
section
variable {sc : Nat × (Nat → Int32)} {h : Hp}
theorem c_isCamp (hs : Shp h) {nc : Nat} (hn : nc ≤ 3) (e : zI h 1 1 = nI nc) (x : Int32) : Cc sc 125 [.ref 1, .int x] h (some (.int (bI (decide (0 ≤ x.toInt ∧ x.toInt < nc))))) h := by
  refine cc_nh (F := fun h => h) hs (cc_of 60 rfl rfl ?_)
  by_cases q1 : x.toInt < 0
  · refine br_t (show x < 0 by first | assumption | (simp (discharger := omega) only [i_lt, i_le, i_eq, bI_tz, decide_eq_false_iff_not, Int32.reduceToInt, nI_toInt, tm1, tm2, tm3, tm4, tm9]; done) | (simp (discharger := omega) only [i_lt, i_le, i_eq, bI_tz, decide_eq_false_iff_not, Int32.reduceToInt, nI_toInt, tm1, tm2, tm3, tm4, tm9]; omega) | omega) ?_
    exact ⟨Or.inr ⟨rfl, Or.inl rfl⟩, by rw [bI_eq (by omega)], rfl⟩
  · refine br_f (show ¬ (x < 0) by first | assumption | (simp (discharger := omega) only [i_lt, i_le, i_eq, bI_tz, decide_eq_false_iff_not, Int32.reduceToInt, nI_toInt, tm1, tm2, tm3, tm4, tm9]; done) | (simp (discharger := omega) only [i_lt, i_le, i_eq, bI_tz, decide_eq_false_iff_not, Int32.reduceToInt, nI_toInt, tm1, tm2, tm3, tm4, tm9]; omega) | omega) ?_
    refine And.intro rfl ?_
    by_cases q2 : x.toInt < nc
    · refine br_f (show ¬ zI h 1 1 ≤ x by rw [e]; first | assumption | (simp (discharger := omega) only [i_lt, i_le, i_eq, bI_tz, decide_eq_false_iff_not, Int32.reduceToInt, nI_toInt, tm1, tm2, tm3, tm4, tm9]; done) | (simp (discharger := omega) only [i_lt, i_le, i_eq, bI_tz, decide_eq_false_iff_not, Int32.reduceToInt, nI_toInt, tm1, tm2, tm3, tm4, tm9]; omega) | omega) ?_
      exact ⟨Or.inr ⟨rfl, Or.inr rfl⟩, by rw [decide_eq_true (by omega)]; rfl, rfl⟩
    · refine br_t (show zI h 1 1 ≤ x by rw [e]; first | assumption | (simp (discharger := omega) only [i_lt, i_le, i_eq, bI_tz, decide_eq_false_iff_not, Int32.reduceToInt, nI_toInt, tm1, tm2, tm3, tm4, tm9]; done) | (simp (discharger := omega) only [i_lt, i_le, i_eq, bI_tz, decide_eq_false_iff_not, Int32.reduceToInt, nI_toInt, tm1, tm2, tm3, tm4, tm9]; omega) | omega) ?_
      exact ⟨Or.inr ⟨rfl, Or.inl rfl⟩, by rw [bI_eq (by omega)], rfl⟩
theorem c_noCamp (hs : Shp h) {nc : Nat} (hn : nc ≤ 3) (e : zI h 39 1 = nI nc) (x : Int32) : Cc sc 147 [.ref 39, .int x] h (some (.int (bI (decide (¬ (0 ≤ x.toInt ∧ x.toInt < nc)))))) h := by
  refine cc_nh (F := fun h => h) hs (cc_of 60 rfl rfl ?_)
  refine And.intro rfl ?_
  have e1 : ((zI (nh h) 39 1).toInt64 - 1).toInt = (nc : Int) - 1 := by
    rw [show zI (nh h) 39 1 = zI h 39 1 from rfl, e]
    rw [l_sub] <;> rw [wide, show (1 : Int64).toInt = 1 by decide, nI_toInt (by omega)] <;> omega
  refine And.intro rfl (And.intro rfl (Exists.intro _ (Exists.intro _ (And.intro (c_inN x e1) ?_))))
  by_cases q : 0 ≤ x.toInt ∧ x.toInt < nc
  · refine br_t (by rw [bI_z, decide_eq_false_iff_not]; omega) ?_
    exact ⟨Or.inr ⟨rfl, Or.inl rfl⟩, by rw [bI_eq (fun z => z q)], rfl⟩
  · refine br_f (by rw [bI_z, decide_eq_false_iff_not]; omega) ?_
    exact ⟨Or.inr ⟨rfl, Or.inr rfl⟩, by rw [decide_eq_true q]; rfl, rfl⟩
theorem nh_2 {h : Hp} {j : Nat} : zA (nh h) 2 j = zA h 2 j := rfl
/-- is it a sort of a camp -/
theorem c_isSortOf (hs : Shp h) (hC : SimC h) (x s : Int32) {b : Bool} (hb : b = true ↔ ∃ j t nc : Nat, nc ≤ 3 ∧ zI h 1 1 = nI nc ∧ j < nc ∧ x = nI j ∧ s = nI t ∧ t < cS h j) : Cc sc 126 [.ref 1, .int x, .int s] h (some (.int (bI b))) h := by
  obtain ⟨nc, d1, d2, d3, d4, d5⟩ := hC
  refine cc_nh (F := fun h => h) hs (cc_of 60 rfl rfl ?_)
  refine And.intro ⟨rfl, rfl⟩ (And.intro rfl (Exists.intro _ (Exists.intro _ (And.intro (c_isCamp (h := nh h) (shp_nh hs) d1 d2 x) ?_))))
  by_cases q : 0 ≤ x.toInt ∧ x.toInt < nc
  · refine br_f (by first | assumption | (simp (discharger := omega) only [i_lt, i_le, i_eq, bI_tz, decide_eq_false_iff_not, Int32.reduceToInt, nI_toInt, tm1, tm2, tm3, tm4, tm9]; done) | (simp (discharger := omega) only [i_lt, i_le, i_eq, bI_tz, decide_eq_false_iff_not, Int32.reduceToInt, nI_toInt, tm1, tm2, tm3, tm4, tm9]; omega) | omega) ?_
    obtain ⟨j, hj, rfl⟩ := i_of q.1 (n := nc) q.2 (by omega)
    obtain ⟨c, nb, br, D⟩ := (d4 j hj).cd
    have ij : inB (nI j) 3 = true := inB_nI (by omega) (by decide)
    have ej : (nI j).toNatClampNeg = j := nI_clamp (by omega)
    have k0 : kin 0 (zK (nh h) c) = true := by rw [nh_K D.2.2.2.1, D.2.2.2.2.2.2.2.1]; rfl
    have eS : zI (nh h) c 1 = nI (cS h j) := D.2.2.2.2.2.2.2.2.2.2.2.2.2.2.2.2.2.2.2.1
    have S3 : cS h j ≤ 3 := D.2.2.2.2.2.2.2.2.2.2.2.2.2.2.2.1
    by_cases q2 : s.toInt < 0
    · refine br_t (show s < 0 by first | assumption | (simp (discharger := omega) only [i_lt, i_le, i_eq, bI_tz, decide_eq_false_iff_not, Int32.reduceToInt, nI_toInt, tm1, tm2, tm3, tm4, tm9]; done) | (simp (discharger := omega) only [i_lt, i_le, i_eq, bI_tz, decide_eq_false_iff_not, Int32.reduceToInt, nI_toInt, tm1, tm2, tm3, tm4, tm9]; omega) | omega) ?_
      have : b = false := by
        cases hbb : b with
        | false => rfl
        | true =>
          obtain ⟨j', t, nc', m1, m2, m3, m4, m5, m6⟩ := hb.mp hbb
          obtain ⟨nc'', k1, k2, k3, k4, k5⟩ : ∃ n, n = nc ∧ True ∧ True ∧ True ∧ True := ⟨nc, rfl, trivial, trivial, trivial, trivial⟩
          have hn' : nc' = nc := (nI_eq (by omega) (by omega)).mp (m2.symm.trans d2)
          have hj' : j' = j := ((nI_eq (by omega) (by omega)).mp m4).symm
          subst hj'
          rw [m5, nI_toInt (by omega)] at q2
          omega
      rw [this]
      exact ⟨Or.inr ⟨rfl, Or.inl rfl⟩, rfl, rfl⟩
    · refine br_f (show ¬ (s < 0) by first | assumption | (simp (discharger := omega) only [i_lt, i_le, i_eq, bI_tz, decide_eq_false_iff_not, Int32.reduceToInt, nI_toInt, tm1, tm2, tm3, tm4, tm9]; done) | (simp (discharger := omega) only [i_lt, i_le, i_eq, bI_tz, decide_eq_false_iff_not, Int32.reduceToInt, nI_toInt, tm1, tm2, tm3, tm4, tm9]; omega) | omega) ?_
      refine And.intro rfl ?_
      refine And.intro (⟨rfl, ij⟩) ?_
      rw [ej, show zA (nh h) (zA (nh h) 1 0) j = c from D.1]
      refine And.intro (k0) ?_
      rw [eS]
      obtain ⟨t, ht, rfl⟩ := nI_of (x := s) (fun z => q2 (by rw [i_lt] at z; exact z))
      by_cases q3 : t < cS h j
      · refine br_f (nI_ge q3 (by omega)) ?_
        rw [hb.mpr ⟨j, t, nc, d1, d2, hj, rfl, rfl, q3⟩]
        exact ⟨Or.inr ⟨rfl, Or.inr rfl⟩, rfl, rfl⟩
      · refine br_t (nI_le (by omega) ht) ?_
        have : b = false := by
          cases hbb : b with
          | false => rfl
          | true =>
            obtain ⟨j', t', nc', m1, m2, m3, m4, m5, m6⟩ := hb.mp hbb
            have hn' : nc' = nc := (nI_eq (by omega) (by omega)).mp (m2.symm.trans d2)
            have hj' : j' = j := ((nI_eq (by omega) (by omega)).mp m4).symm
            subst hj'
            have ht' : t' = t := by
              have := congrArg Int32.toInt m5
              rw [nI_toInt ht, nI_toInt (by omega)] at this
              omega
            omega
        rw [this]
        exact ⟨Or.inr ⟨rfl, Or.inl rfl⟩, rfl, rfl⟩
  · refine br_t (by first | assumption | (simp (discharger := omega) only [i_lt, i_le, i_eq, bI_tz, decide_eq_false_iff_not, Int32.reduceToInt, nI_toInt, tm1, tm2, tm3, tm4, tm9]; done) | (simp (discharger := omega) only [i_lt, i_le, i_eq, bI_tz, decide_eq_false_iff_not, Int32.reduceToInt, nI_toInt, tm1, tm2, tm3, tm4, tm9]; omega) | omega) ?_
    have : b = false := by
      cases hbb : b with
      | false => rfl
      | true =>
        obtain ⟨j', t, nc', m1, m2, m3, m4, m5, m6⟩ := hb.mp hbb
        have hn' : nc' = nc := (nI_eq (by omega) (by omega)).mp (m2.symm.trans d2)
        rw [m4, nI_toInt (by omega)] at q
        omega
    rw [this]
    exact ⟨Or.inr ⟨rfl, Or.inl rfl⟩, rfl, rfl⟩
theorem c_noSort (hs : Shp h) (hC : SimC h) (x s : Int32) {b : Bool} (hb : b = true ↔ ∃ j t nc : Nat, nc ≤ 3 ∧ zI h 1 1 = nI nc ∧ j < nc ∧ x = nI j ∧ s = nI t ∧ t < cS h j) : Cc sc 148 [.ref 39, .int x, .int s] h (some (.int (bI (!b)))) h := by
  obtain ⟨nc, d1, d2, d3, d4, d5⟩ := hC
  refine cc_nh (F := fun h => h) hs (cc_of 60 rfl rfl ?_)
  refine And.intro ⟨rfl, rfl⟩ (And.intro rfl (Exists.intro _ (Exists.intro _ (And.intro (c_noCamp (h := nh h) (shp_nh hs) d1 d3 x) ?_))))
  by_cases q : 0 ≤ x.toInt ∧ x.toInt < nc
  · refine br_f (by first | assumption | (simp (discharger := omega) only [i_lt, i_le, i_eq, bI_tz, decide_eq_false_iff_not, Int32.reduceToInt, nI_toInt, tm1, tm2, tm3, tm4, tm9]; done) | (simp (discharger := omega) only [i_lt, i_le, i_eq, bI_tz, decide_eq_false_iff_not, Int32.reduceToInt, nI_toInt, tm1, tm2, tm3, tm4, tm9]; omega) | omega) ?_
    obtain ⟨j, hj, rfl⟩ := i_of q.1 (n := nc) q.2 (by omega)
    obtain ⟨c, nb, br, D⟩ := (d4 j hj).cd
    have ij : inB (nI j) 3 = true := inB_nI (by omega) (by decide)
    have ej : (nI j).toNatClampNeg = j := nI_clamp (by omega)
    have eS : zI (nh h) 41 j = nI (cS h j) := D.2.2.2.2.2.2.2.2.2.2.2.2.2.2.2.2.2.2.2.2.1
    have S3 : cS h j ≤ 3 := D.2.2.2.2.2.2.2.2.2.2.2.2.2.2.2.1
    refine And.intro rfl ?_
    refine And.intro (⟨rfl, ij⟩) ?_
    rw [ej, show zI (nh h) (zA (nh h) 39 3) j = nI (cS h j) from eS]
    have e1 : ((nI (cS h j)).toInt64 - 1).toInt = (cS h j : Int) - 1 := by
      rw [l_sub] <;> rw [wide, show (1 : Int64).toInt = 1 by decide, nI_toInt (by omega)] <;> omega
    refine And.intro rfl (And.intro rfl (Exists.intro _ (Exists.intro _ (And.intro (c_inN s e1) ?_))))
    by_cases q3 : 0 ≤ s.toInt ∧ s.toInt < cS h j
    · obtain ⟨t, ht, rfl⟩ := i_of q3.1 (n := cS h j) q3.2 (by omega)
      refine br_t (by rw [bI_z, decide_eq_false_iff_not]; omega) ?_
      rw [hb.mpr ⟨j, t, nc, d1, d2, hj, rfl, rfl, ht⟩]
      exact ⟨Or.inr ⟨rfl, Or.inl rfl⟩, rfl, rfl⟩
    · refine br_f (by rw [bI_z, decide_eq_false_iff_not]; omega) ?_
      have : b = false := by
        cases hbb : b with
        | false => rfl
        | true =>
          obtain ⟨j', t', nc', m1, m2, m3, m4, m5, m6⟩ := hb.mp hbb
          have hn' : nc' = nc := (nI_eq (by omega) (by omega)).mp (m2.symm.trans d2)
          have hj' : j' = j := ((nI_eq (by omega) (by omega)).mp m4).symm
          subst hj'
          rw [m5, nI_toInt (by omega)] at q3
          omega
      rw [this]
      exact ⟨Or.inr ⟨rfl, Or.inr rfl⟩, rfl, rfl⟩
  · refine br_t (by first | assumption | (simp (discharger := omega) only [i_lt, i_le, i_eq, bI_tz, decide_eq_false_iff_not, Int32.reduceToInt, nI_toInt, tm1, tm2, tm3, tm4, tm9]; done) | (simp (discharger := omega) only [i_lt, i_le, i_eq, bI_tz, decide_eq_false_iff_not, Int32.reduceToInt, nI_toInt, tm1, tm2, tm3, tm4, tm9]; omega) | omega) ?_
    have : b = false := by
      cases hbb : b with
      | false => rfl
      | true =>
        obtain ⟨j', t, nc', m1, m2, m3, m4, m5, m6⟩ := hb.mp hbb
        have hn' : nc' = nc := (nI_eq (by omega) (by omega)).mp (m2.symm.trans d2)
        rw [m4, nI_toInt (by omega)] at q
        omega
    rw [this]
    exact ⟨Or.inr ⟨rfl, Or.inr rfl⟩, rfl, rfl⟩
/-- the class's number of a camp at c -/
theorem c_number {c nb s w v : Nat} (k0 : zK h c = 0) (h3 : zA h c 3 = nb) (kn : zK h nb = 12) (nn : zN h nb = 15) (hs : s < 3) (hw : w < 5) (e : zI h nb (5 * s + w) = nI v) : Cc sc 5 [.ref c, .int (nI s), .int (nI w)] h (some (.int (nI v))) h := by
  have e1 : nI s * 5 + nI w = nI (5 * s + w) := by rw [show (5 : Int32) = nI 5 from rfl, pk_mul, nI_add, Nat.mul_comm]
  subst h3
  refine cc_of 30 rfl rfl ?_
  refine And.intro (by rw [k0]; rfl) ?_
  refine And.intro (⟨kn, by rw [nn, e1]; exact inB_nI (n := 15) (by omega) (by decide)⟩) ?_
  rw [e1, nI_clamp (by omega), e]
  exact ⟨Or.inl rfl, rfl, rfl⟩
theorem c_of (hs : Shp h) {j s w : Nat} {v : Int32} (hj : j < 3) (hs' : s < 3) (hw : w < 5) (e : zI h 44 (15 * j + 5 * s + w) = v) : Cc sc 149 [.ref 39, .int (nI j), .int (nI s), .int (nI w)] h (some (.int v)) h := by
  have e1 : 15 * nI j + 5 * nI s + nI w = nI (15 * j + 5 * s + w) := by rw [show (15 : Int32) = nI 15 from rfl, show (5 : Int32) = nI 5 from rfl, pk_mul, pk_mul, nI_add, nI_add]
  refine cc_nh (F := fun h => h) hs (cc_of 30 rfl rfl ?_)
  refine And.intro rfl ?_
  refine And.intro (⟨rfl, by rw [e1]; exact inB_nI (n := 45) (by omega) (by decide)⟩) ?_
  rw [e1, nI_clamp (by omega)]
  exact ⟨Or.inl rfl, congrArg (fun v => some (Value.int v)) e, rfl⟩
theorem min_nI {a b : Nat} (ha : a < 2 ^ 31) (hb : b < 2 ^ 31) : (if nI b < nI a then nI b else nI a) = nI (min a b) := by
  by_cases q : b < a
  · rw [if_pos (nI_lt q ha), Nat.min_eq_right (by omega)]
  · rw [if_neg (nI_nlt (by omega) hb), Nat.min_eq_left (by omega)]
theorem c_lesser {a b : Nat} (ha : a < 2 ^ 31) (hb : b < 2 ^ 31) : Cc sc 142 [.int (nI a), .int (nI b)] h (some (.int (nI (min a b)))) h := by
  refine cc_of 20 rfl rfl ?_
  by_cases q : a < b
  · refine br_f (nI_ge q hb) ?_
    rw [Nat.min_eq_left (by omega)]
    exact ⟨Or.inl rfl, rfl, rfl⟩
  · refine br_t (nI_le (by omega) ha) ?_
    rw [Nat.min_eq_right (by omega)]
    exact ⟨Or.inl rfl, rfl, rfl⟩
end
