section
variable {sc : Nat × (Nat → Int32)} {h : Hp}
/-- how many of the first ones aren't 0 -/
def cnt (f : Nat → Int32) : Nat → Nat
  | 0 => 0
  | n + 1 => cnt f n + (if f n = 0 then 0 else 1)
theorem cnt_le (f : Nat → Int32) (n : Nat) : cnt f n ≤ n := by
  induction n with
  | zero => exact Nat.le_refl _
  | succ n ih =>
    unfold cnt
    split <;> omega
theorem cnt_congr {f g : Nat → Int32} {n : Nat} (e : ∀ p, p < n → f p = g p) : cnt f n = cnt g n := by
  induction n with
  | zero => rfl
  | succ n ih =>
    unfold cnt
    rw [ih (fun p hp => e p (by omega)), e n (by omega)]
theorem count_loop3 (hs : Shp h) {np : Nat} (hn : np ≤ 12) (e : zI h 15 1 = nI np) (hp : ∀ p, p < np → kin 4 (zK h (zA h 16 p)) = true) : ∀ (d i : Nat), i + d = np → Rn sc (mtk 88) 4 [some (.ref 15), some (.int (nI (cnt (fun p => zI h (zA h 16 p) 3) i))), some (.int (nI i))] [] (nh h) (some (.int (nI (cnt (fun p => zI h (zA h 16 p) 3) np)))) (nh h) := by
  intro d
  induction d with
  | zero =>
    intro i hi
    refine bk_sound (cuts := []) 20 _ _ _ _ ?_
    refine And.intro rfl ?_
    refine br_t (show zI h 15 1 ≤ nI i by rw [e]; exact nI_le (by omega) (by omega)) ?_
    rw [show i = np by omega]
    exact ⟨Or.inl rfl, rfl, rfl⟩
  | succ d ih =>
    intro i hi
    have ip : inB (nI i) 12 = true := inB_nI (by omega) (by decide)
    have ep : (nI i).toNatClampNeg = i := nI_clamp (by omega)
    have e1 := ih (i + 1) (by omega)
    refine bk_sound (cuts := [4]) 30 _ _ _ _ ?_
    refine And.intro rfl ?_
    refine br_f (show ¬ zI h 15 1 ≤ nI i by rw [e]; exact nI_ge (by omega) (by omega)) ?_
    refine And.intro rfl ?_
    refine And.intro (⟨rfl, ip⟩) ?_
    rw [ep]
    have kk := hp i (by omega)
    rw [← nh_eq hs] at kk
    refine And.intro (kk) ?_
    by_cases q : zI h (zA h 16 i) 3 = 0
    · refine br_t (show zI (nh h) (zA (nh h) 16 i) 3 = 0 by rw [nh_eq hs]; exact q) ?_
      rw [show cnt (fun p => zI h (zA h 16 p) 3) (i + 1) = cnt (fun p => zI h (zA h 16 p) 3) i + 0 by rw [cnt, if_pos q]] at e1
      rw [← nI_add, ← nI_1] at e1
      exact e1
    · refine br_f (show ¬ zI (nh h) (zA (nh h) 16 i) 3 = 0 by rw [nh_eq hs]; exact q) ?_
      rw [show cnt (fun p => zI h (zA h 16 p) 3) (i + 1) = cnt (fun p => zI h (zA h 16 p) 3) i + 1 by rw [cnt, if_neg q]] at e1
      rw [← nI_1, ← nI_1] at e1
      exact e1
theorem c_count3 (hs : Shp h) {np : Nat} (hn : np ≤ 12) (e : zI h 15 1 = nI np) (hp : ∀ p, p < np → kin 4 (zK h (zA h 16 p)) = true) : Cc sc 88 [.ref 15] h (some (.int (nI (cnt (fun p => zI h (zA h 16 p) 3) np)))) h := by
  refine cc_nh (F := fun h => h) hs (cc_cut [4] 20 rfl rfl ?_)
  exact count_loop3 hs hn e hp np 0 (by omega)
theorem count_loop4 (hs : Shp h) {np : Nat} (hn : np ≤ 12) (e : zI h 15 1 = nI np) (hp : ∀ p, p < np → kin 4 (zK h (zA h 16 p)) = true) : ∀ (d i : Nat), i + d = np → Rn sc (mtk 89) 4 [some (.ref 15), some (.int (nI (cnt (fun p => zI h (zA h 16 p) 4) i))), some (.int (nI i))] [] (nh h) (some (.int (nI (cnt (fun p => zI h (zA h 16 p) 4) np)))) (nh h) := by
  intro d
  induction d with
  | zero =>
    intro i hi
    refine bk_sound (cuts := []) 20 _ _ _ _ ?_
    refine And.intro rfl ?_
    refine br_t (show zI h 15 1 ≤ nI i by rw [e]; exact nI_le (by omega) (by omega)) ?_
    rw [show i = np by omega]
    exact ⟨Or.inl rfl, rfl, rfl⟩
  | succ d ih =>
    intro i hi
    have ip : inB (nI i) 12 = true := inB_nI (by omega) (by decide)
    have ep : (nI i).toNatClampNeg = i := nI_clamp (by omega)
    have e1 := ih (i + 1) (by omega)
    refine bk_sound (cuts := [4]) 30 _ _ _ _ ?_
    refine And.intro rfl ?_
    refine br_f (show ¬ zI h 15 1 ≤ nI i by rw [e]; exact nI_ge (by omega) (by omega)) ?_
    refine And.intro rfl ?_
    refine And.intro (⟨rfl, ip⟩) ?_
    rw [ep]
    have kk := hp i (by omega)
    rw [← nh_eq hs] at kk
    refine And.intro (kk) ?_
    by_cases q : zI h (zA h 16 i) 4 = 0
    · refine br_t (show zI (nh h) (zA (nh h) 16 i) 4 = 0 by rw [nh_eq hs]; exact q) ?_
      rw [show cnt (fun p => zI h (zA h 16 p) 4) (i + 1) = cnt (fun p => zI h (zA h 16 p) 4) i + 0 by rw [cnt, if_pos q]] at e1
      rw [← nI_add, ← nI_1] at e1
      exact e1
    · refine br_f (show ¬ zI (nh h) (zA (nh h) 16 i) 4 = 0 by rw [nh_eq hs]; exact q) ?_
      rw [show cnt (fun p => zI h (zA h 16 p) 4) (i + 1) = cnt (fun p => zI h (zA h 16 p) 4) i + 1 by rw [cnt, if_neg q]] at e1
      rw [← nI_1, ← nI_1] at e1
      exact e1
theorem c_count4 (hs : Shp h) {np : Nat} (hn : np ≤ 12) (e : zI h 15 1 = nI np) (hp : ∀ p, p < np → kin 4 (zK h (zA h 16 p)) = true) : Cc sc 89 [.ref 15] h (some (.int (nI (cnt (fun p => zI h (zA h 16 p) 4) np)))) h := by
  refine cc_nh (F := fun h => h) hs (cc_cut [4] 20 rfl rfl ?_)
  exact count_loop4 hs hn e hp np 0 (by omega)
theorem many_loop (hs : Shp h) {np : Nat} (hn : np ≤ 12) (e : zI h 39 18 = nI np) (w : Int32) {r : Int32} (H : Rn sc (mtk 220) 58 [some (.ref 39), some (.int w), some (.int (nI (cnt (zI h 54) np))), some (.int (nI (cnt (zI h 55) np))), some (.int (nI np))] [] (nh h) (some (.int r)) (nh h)) : ∀ (d i : Nat), i + d = np → Rn sc (mtk 220) 7 [some (.ref 39), some (.int w), some (.int (nI (cnt (zI h 54) i))), some (.int (nI (cnt (zI h 55) i))), some (.int (nI i))] [] (nh h) (some (.int r)) (nh h) := by
  intro d
  induction d with
  | zero =>
    intro i hi
    refine bk_sound (cuts := [58]) 20 _ _ _ _ ?_
    refine And.intro rfl ?_
    refine br_t (show zI h 39 18 ≤ nI i by rw [e]; exact nI_le (by omega) (by omega)) ?_
    rw [show i = np by omega]
    exact H
  | succ d ih =>
    intro i hi
    have ip : inB (nI i) 12 = true := inB_nI (by omega) (by decide)
    have ep : (nI i).toNatClampNeg = i := nI_clamp (by omega)
    have e1 := ih (i + 1) (by omega)
    have s1 : nI (cnt (zI h 54) (i + 1)) = nI (cnt (zI h 54) i) + (if zI h 54 i = 0 then 0 else 1) := by
      rw [cnt]
      split
      · rw [← nI_add]; rfl
      · rw [← nI_add]; rfl
    have s2 : nI (cnt (zI h 55) (i + 1)) = nI (cnt (zI h 55) i) + (if zI h 55 i = 0 then 0 else 1) := by
      rw [cnt]
      split
      · rw [← nI_add]; rfl
      · rw [← nI_add]; rfl
    rw [s1, s2, ← nI_1] at e1
    refine bk_sound (cuts := [7]) 40 _ _ _ _ ?_
    refine And.intro rfl ?_
    refine br_f (show ¬ zI h 39 18 ≤ nI i by rw [e]; exact nI_ge (by omega) (by omega)) ?_
    refine And.intro rfl ?_
    refine And.intro (⟨rfl, ip⟩) ?_
    rw [ep]
    by_cases q1 : zI h 54 i = 0
    · refine br_t q1 ?_
      rw [if_pos q1] at e1
      refine And.intro rfl ?_
      refine And.intro (⟨rfl, ip⟩) ?_
      rw [ep]
      by_cases q2 : zI h 55 i = 0
      · refine br_t q2 ?_
        rw [if_pos q2] at e1
        exact e1
      · refine br_f q2 ?_
        rw [if_neg q2] at e1
        exact e1
    · refine br_f q1 ?_
      rw [if_neg q1] at e1
      refine And.intro rfl ?_
      refine And.intro (⟨rfl, ip⟩) ?_
      rw [ep]
      by_cases q2 : zI h 55 i = 0
      · refine br_t q2 ?_
        rw [if_pos q2] at e1
        exact e1
      · refine br_f q2 ?_
        rw [if_neg q2] at e1
        exact e1
theorem op_many (hS : Sim0 h) (w : Int32) : Op0 sc 124 220 [.int w] h := by
  refine on_nh (P := fun h => Op0 sc 124 220 [.int w] h) hS (fun hS => ?_)
  have hs := hS.1
  obtain ⟨np, c1, c2, c3, c4, c5, c6, c7⟩ := hS.2.2.2.2.1
  obtain ⟨nc, d1, d2, d3, d4, d5⟩ := hS.2.2.2.1
  have hk : ∀ p, p < np → kin 4 (zK (nh h) (zA (nh h) 16 p)) = true ∧ zI (nh h) (zA (nh h) 16 p) 3 = zI (nh h) 54 p ∧ zI (nh h) (zA (nh h) 16 p) 4 = zI (nh h) 55 p := fun p hp => by
    obtain ⟨a, kd, st, hr, gd, hd, pl, z1, z2, z3, z4, z5, z6, z7, z8, z9, z10, z11, z12, z13, z14, z15, z16, z17, z18, z19, z20⟩ := c4 p hp
    rw [z1]
    exact ⟨by rw [z4]; exact kin_part z3, by rw [z11, z17], by rw [z12, z18]⟩
  have e3 : cnt (fun p => zI (nh h) (zA (nh h) 16 p) 3) np = cnt (zI (nh h) 54) np := cnt_congr fun p hp => (hk p hp).2.1
  have e4 : cnt (fun p => zI (nh h) (zA (nh h) 16 p) 4) np = cnt (zI (nh h) 55) np := cnt_congr fun p hp => (hk p hp).2.2
  have M : ∀ r : Int32, Rn sc (mtk 220) 58 [some (.ref 39), some (.int w), some (.int (nI (cnt (zI (nh h) 54) np))), some (.int (nI (cnt (zI (nh h) 55) np))), some (.int (nI np))] [] (nh h) (some (.int r)) (nh h) → Cc sc 220 [.ref 39, .int w] (nh h) (some (.int r)) (nh h) := fun r H => by
    refine cc_cut [7] 20 rfl rfl ?_
    have := many_loop (sc := sc) (h := nh h) hs c1 c3 w (r := r) (by rw [nh_eq hs]; exact H) np 0 (by omega)
    rw [nh_eq hs] at this
    exact this
  by_cases qo : w.toInt < 0 ∨ 3 < w.toInt
  · refine ⟨.int (-2), nh h, nh h, ?_, M _ ?_, fin_same hS⟩
    · refine cc_cut [1] 20 rfl rfl ?_
      refine bk_sound (cuts := []) 1 _ _ _ _ ?_
      show Rn sc (mtk 124) (tsw 1 60 0 3 #[31, 36, 44, 52] w) [some (.ref 1), some (.int w)] [] (nh h) (some (.int (-2))) (nh h)
      rw [tsw_out qo]
      refine bk_sound (cuts := []) 20 _ _ _ _ ?_
      exact ⟨Or.inl rfl, rfl, rfl⟩
    · refine bk_sound (cuts := []) 20 _ _ _ _ ?_
      refine br_t (show ¬ w = 0 by first | assumption | (simp (discharger := omega) only [i_lt, i_le, i_eq, bI_tz, decide_eq_false_iff_not, Int32.reduceToInt, nI_toInt, tm1, tm2, tm3, tm4, tm9]; done) | (simp (discharger := omega) only [i_lt, i_le, i_eq, bI_tz, decide_eq_false_iff_not, Int32.reduceToInt, nI_toInt, tm1, tm2, tm3, tm4, tm9]; omega) | omega) ?_
      refine br_t (show ¬ w = 1 by first | assumption | (simp (discharger := omega) only [i_lt, i_le, i_eq, bI_tz, decide_eq_false_iff_not, Int32.reduceToInt, nI_toInt, tm1, tm2, tm3, tm4, tm9]; done) | (simp (discharger := omega) only [i_lt, i_le, i_eq, bI_tz, decide_eq_false_iff_not, Int32.reduceToInt, nI_toInt, tm1, tm2, tm3, tm4, tm9]; omega) | omega) ?_
      refine br_t (show ¬ w = 2 by first | assumption | (simp (discharger := omega) only [i_lt, i_le, i_eq, bI_tz, decide_eq_false_iff_not, Int32.reduceToInt, nI_toInt, tm1, tm2, tm3, tm4, tm9]; done) | (simp (discharger := omega) only [i_lt, i_le, i_eq, bI_tz, decide_eq_false_iff_not, Int32.reduceToInt, nI_toInt, tm1, tm2, tm3, tm4, tm9]; omega) | omega) ?_
      refine br_t (show ¬ w = 3 by first | assumption | (simp (discharger := omega) only [i_lt, i_le, i_eq, bI_tz, decide_eq_false_iff_not, Int32.reduceToInt, nI_toInt, tm1, tm2, tm3, tm4, tm9]; done) | (simp (discharger := omega) only [i_lt, i_le, i_eq, bI_tz, decide_eq_false_iff_not, Int32.reduceToInt, nI_toInt, tm1, tm2, tm3, tm4, tm9]; omega) | omega) ?_
      exact ⟨Or.inl rfl, rfl, rfl⟩
  · obtain ⟨w, hw, rfl⟩ := i_of (a := w) (n := 4) (by omega) (by omega) (by decide)
    obtain rfl | rfl | rfl | rfl : w = 0 ∨ w = 1 ∨ w = 2 ∨ w = 3 := by omega
    · refine ⟨.int (nI nc), nh h, nh h, ?_, M _ ?_, fin_same hS⟩
      · refine cc_of 20 rfl rfl ?_
        refine And.intro rfl ?_
        exact ⟨Or.inl rfl, congrArg (fun v => some (Value.int v)) d2, rfl⟩
      · refine bk_sound (cuts := []) 20 _ _ _ _ ?_
        refine br_f (by decide) ?_
        refine And.intro rfl ?_
        exact ⟨Or.inl rfl, congrArg (fun v => some (Value.int v)) d3, rfl⟩
    · refine ⟨.int (nI np), nh h, nh h, ?_, M _ ?_, fin_same hS⟩
      · refine cc_of 20 rfl rfl ?_
        refine And.intro rfl ?_
        refine And.intro rfl ?_
        exact ⟨Or.inl rfl, congrArg (fun v => some (Value.int v)) c2, rfl⟩
      · refine bk_sound (cuts := []) 20 _ _ _ _ ?_
        refine br_t (by decide) ?_
        refine br_f (by decide) ?_
        refine And.intro rfl ?_
        exact ⟨Or.inl rfl, congrArg (fun v => some (Value.int v)) c3, rfl⟩
    · refine ⟨.int (nI (cnt (zI (nh h) 54) np)), nh h, nh h, ?_, M _ ?_, fin_same hS⟩
      · refine cc_of 20 rfl rfl ?_
        refine And.intro rfl ?_
        have := c_count3 (sc := sc) hs c1 c2 (fun p hp => (hk p hp).1)
        rw [e3] at this
        refine And.intro ⟨rfl, rfl⟩ (And.intro rfl (Exists.intro _ (Exists.intro _ (And.intro (this) ?_))))
        exact ⟨Or.inl rfl, rfl, rfl⟩
      · refine bk_sound (cuts := []) 20 _ _ _ _ ?_
        refine br_t (by decide) ?_
        refine br_t (by decide) ?_
        refine br_f (by decide) ?_
        exact ⟨Or.inl rfl, rfl, rfl⟩
    · refine ⟨.int (nI (cnt (zI (nh h) 55) np)), nh h, nh h, ?_, M _ ?_, fin_same hS⟩
      · refine cc_of 20 rfl rfl ?_
        refine And.intro rfl ?_
        have := c_count4 (sc := sc) hs c1 c2 (fun p hp => (hk p hp).1)
        rw [e4] at this
        refine And.intro ⟨rfl, rfl⟩ (And.intro rfl (Exists.intro _ (Exists.intro _ (And.intro (this) ?_))))
        exact ⟨Or.inl rfl, rfl, rfl⟩
      · refine bk_sound (cuts := []) 20 _ _ _ _ ?_
        refine br_t (by decide) ?_
        refine br_t (by decide) ?_
        refine br_t (by decide) ?_
        refine br_f (by decide) ?_
        exact ⟨Or.inl rfl, rfl, rfl⟩
end
