/-! Parts: what is read of one, frames but for parts. -/
theorem v_ok {z kd a b d : Nat} {m : Mr} {r : List Value} (hz : z = kd) (h : okc m (mro (pck kd a b d)) r = true ∧ kin 4 kd = true ∧ pck kd a b d < 999) : okc m (mro (pck z a b d)) r = true ∧ kin 4 z = true ∧ pck z a b d < 999 := by rw [hz]; exact h
theorem v_ary {z kd a b d n : Nat} (hz : z = kd) (h : n = ary (pck kd a b d)) : n = ary (pck z a b d) := by rw [hz]; exact h
theorem on_nh {P : Hp → Prop} {h : Hp} (hS : Sim0 h) (H : Sim0 (nh h) → P (nh h)) : P h := by
  have e := nh_eq hS.1
  rw [← e]
  exact H (by rw [e]; exact hS)
/-- g is h but for the slots of L and for parts -/
def FrY (L : List (Nat × Nat)) (h g : Hp) : Prop := g.1 = h.1 ∧ zK g = zK h ∧ zN g = zN h ∧ zA g = zA h ∧ ∀ a j, inP L a j = false → kin 4 (zK h a) = false → zI g a j = zI h a j ∧ zJ g a j = zJ h a j
theorem FrY.refl (L : List (Nat × Nat)) (h : Hp) : FrY L h h := ⟨rfl, rfl, rfl, rfl, fun _ _ _ _ => ⟨rfl, rfl⟩⟩
theorem FrY.upI {L : List (Nat × Nat)} {h g : Hp} (f : FrY L h g) {a j : Nat} {v : Int32} (hin : inP L a j = true ∨ kin 4 (zK h a) = true) : FrY L h (upI g a j v) := by
  refine ⟨f.1, f.2.1, f.2.2.1, f.2.2.2.1, fun x i q w => ⟨?_, (f.2.2.2.2 x i q w).2⟩⟩
  rw [zI_upI]
  by_cases e1 : x = a
  · by_cases e2 : i = j
    · rw [e1, e2] at q
      rw [e1] at w
      rw [q, w] at hin
      exact absurd hin (by decide)
    · rw [if_pos e1, if_neg e2, ← e1]
      exact (f.2.2.2.2 x i q w).1
  · rw [if_neg e1]
    exact (f.2.2.2.2 x i q w).1
theorem FrY.trans {L : List (Nat × Nat)} {h g f : Hp} (a : FrY L h g) (b : FrY L g f) : FrY L h f :=
  ⟨b.1.trans a.1, b.2.1.trans a.2.1, b.2.2.1.trans a.2.2.1, b.2.2.2.1.trans a.2.2.2.1, fun x j q w => ⟨(b.2.2.2.2 x j q (by rw [a.2.1]; exact w)).1.trans (a.2.2.2.2 x j q w).1, (b.2.2.2.2 x j q (by rw [a.2.1]; exact w)).2.trans (a.2.2.2.2 x j q w).2⟩⟩
theorem low_kin {h : Hp} (hs : Shp h) {a : Nat} (ha : a < 65) : kin 4 (zK h a) = false := by
  rw [(hs.1 a ha).1]
  have : ∀ x : Fin 65, kin 4 (K0 x.val) = false := by decide
  exact this ⟨a, ha⟩
theorem FrY.I {L : List (Nat × Nat)} {h g : Hp} (f : FrY L h g) (hs : Shp h) {a : Nat} (ha : a < 65) (q : frP L a = true) : zI g a = zI h a := funext fun j => (f.2.2.2.2 a j (frP_in q j) (low_kin hs ha)).1
theorem FrY.J {L : List (Nat × Nat)} {h g : Hp} (f : FrY L h g) (hs : Shp h) {a : Nat} (ha : a < 65) (q : frP L a = true) : zJ g a = zJ h a := funext fun j => (f.2.2.2.2 a j (frP_in q j) (low_kin hs ha)).2
theorem FrY.s {L : List (Nat × Nat)} {h g : Hp} (f : FrY L h g) (hs : Shp h) {a j : Nat} (ha : a < 65) (q : inP L a j = false) : zI g a j = zI h a j := (f.2.2.2.2 a j q (low_kin hs ha)).1
theorem FrY.shp {L : List (Nat × Nat)} {h g : Hp} (f : FrY L h g) (hs : Shp h) : Shp g := by
  unfold Shp
  rw [f.2.1, f.2.2.1, f.2.2.2.1]
  exact hs
theorem CampOK_congr2 {h g : Hp} {j : Nat} (e1 : ∀ a, 40 ≤ a → a ≤ 44 → zI g a = zI h a) (e2 : ∀ a, 65 ≤ a → zK h a = 0 ∨ zK h a = 12 → zI g a = zI h a) (e3 : zA g = zA h) (e5 : zK g = zK h) (e6 : zN g = zN h) (hC : CampOK h j) : CampOK g j := by
  obtain ⟨c, nb, br, L, S, P, q1, q2, q3, q4, q5, q6, q7, q8, q9, q10, q11, q12, q13, q14, q15, q16, q17, q18, q19, q20, q21, q22, q23, q24, q25⟩ := hC
  refine ⟨c, nb, br, L, S, P, by rw [e3]; exact q1, by rw [e3]; exact q2, by rw [e3]; exact q3, q4, q5, q6, q7, by rw [e5]; exact q8, by rw [e5]; exact q9, by rw [e6]; exact q10, by rw [e5]; exact q11, by rw [e6]; exact q12, q13, q14, q15, q16, q17, ?_⟩
  rw [e2 c q4 (Or.inl q8), e2 nb q5 (Or.inr q9), e2 br q6 (Or.inr q11), e1 40 (by omega) (by omega), e1 41 (by omega) (by omega), e1 42 (by omega) (by omega), e1 43 (by omega) (by omega), e1 44 (by omega) (by omega)]
  exact ⟨q18, q19, q20, q21, q22, q23, q24, q25⟩
theorem FrY.simC {L : List (Nat × Nat)} {h g : Hp} (f : FrY L h g) (hs : Shp h) (q1 : (!inP L 1 1 && !inP L 39 1 && frP L 40 && frP L 41 && frP L 42 && frP L 43 && frP L 44 && lowP L) = true) (s : SimC h) : SimC g := by
  simp only [Bool.and_eq_true, Bool.not_eq_true'] at q1
  obtain ⟨⟨⟨⟨⟨⟨⟨q1, q2⟩, q3⟩, q4⟩, q5⟩, q6⟩, q7⟩, q8⟩ := q1
  obtain ⟨nc, c1, c2, c3, c4, c5⟩ := s
  refine ⟨nc, c1, by rw [f.s hs (by decide) q1]; exact c2, by rw [f.s hs (by decide) q2]; exact c3, fun j hj => CampOK_congr2 ?_ ?_ f.2.2.2.1 f.2.1 f.2.2.1 (c4 j hj), by rw [f.2.2.2.1]; exact c5⟩
  · intro a h1 h2
    have : a = 40 ∨ a = 41 ∨ a = 42 ∨ a = 43 ∨ a = 44 := by omega
    rcases this with rfl | rfl | rfl | rfl | rfl
    · exact f.I hs (by decide) q3
    · exact f.I hs (by decide) q4
    · exact f.I hs (by decide) q5
    · exact f.I hs (by decide) q6
    · exact f.I hs (by decide) q7
  · intro a ha hk
    exact funext fun i => (f.2.2.2.2 a i (lowP_in q8 ha i) (by rcases hk with hk | hk <;> rw [hk] <;> rfl)).1
theorem FrY.simA {L : List (Nat × Nat)} {h g : Hp} (f : FrY L h g) (hs : Shp h) (q1 : (!inP L 1 7 && !inP L 39 0 && !inP L 30 0 && !inP L 39 37 && !inP L 15 3 && !inP L 39 26 && frP L 18 && frP L 58) = true) (s : SimA h) : SimA g := by
  simp only [Bool.and_eq_true, Bool.not_eq_true'] at q1
  obtain ⟨⟨⟨⟨⟨⟨⟨q1, q2⟩, q3⟩, q4⟩, q5⟩, q6⟩, q7⟩, q8⟩ := q1
  exact SimA_congr (f.s hs (by decide) q1) (f.s hs (by decide) q2) (f.s hs (by decide) q3) (f.s hs (by decide) q4) (f.s hs (by decide) q5) (f.s hs (by decide) q6) (f.I hs (by decide) q7) (f.I hs (by decide) q8) s
theorem FrY.simA0 {L : List (Nat × Nat)} {h g : Hp} (f : FrY L h g) (hs : Shp h) (q1 : (!inP L 30 0 && !inP L 39 37 && !inP L 15 3 && !inP L 39 26 && frP L 18 && frP L 58) = true) (e : zI g 1 7 = zI g 39 0) (s : SimA h) : SimA g := by
  simp only [Bool.and_eq_true, Bool.not_eq_true'] at q1
  obtain ⟨⟨⟨⟨⟨q3, q4⟩, q5⟩, q6⟩, q7⟩, q8⟩ := q1
  refine ⟨e, ?_⟩
  rw [f.s hs (by decide) q3, f.s hs (by decide) q4, f.s hs (by decide) q5, f.s hs (by decide) q6, f.I hs (by decide) q7, f.I hs (by decide) q8]
  exact s.2
theorem FrY.simR {L : List (Nat × Nat)} {h g : Hp} (f : FrY L h g) (hs : Shp h) (q1 : (frP L 61 && frP L 62 && frP L 63 && (List.range 8).all (fun i => frP L (31 + i))) = true) (s : SimR h) : SimR g := by
  simp only [Bool.and_eq_true] at q1
  obtain ⟨⟨⟨q3, q4⟩, q5⟩, q6⟩ := q1
  intro k hk
  have q7 := fun i hi => List.all_eq_true.mp q6 i (List.mem_range.mpr hi)
  have q8 := q7 (1 + 2 * k) (by omega)
  rw [show 31 + (1 + 2 * k) = 32 + 2 * k by omega] at q8
  exact RowOK_congr (by rw [f.I hs (by decide) q3]) (by rw [f.I hs (by decide) q4]) (fun j _ => by rw [f.I hs (by decide) q5]) (f.I hs (by omega) (q7 (2 * k) (by omega))) (f.I hs (by omega) q8) (s k hk)
theorem FrY.simZ {L : List (Nat × Nat)} {h g : Hp} (f : FrY L h g) (hs : Shp h) (q1 : inP L 15 1 = false) (q2 : inP L 1 1 = false) (q3 : frP L 43 = true) (q4 : lowP L = true) (s : SimZ h) : SimZ g := by
  unfold SimZ
  rw [show zc g = zc h by rw [show zc g = g.1.1 from rfl, f.1], show zs g = zs h by rw [show zs g = g.1.2 from rfl, f.1], f.2.1, f.s hs (by decide) q1, f.s hs (by decide) q2, f.s hs (by decide) (lowP_5 q4 0), f.I hs (by decide) q3]
  exact s
/-- the class's tables of camps stand as they were -/
def okO (L : List (Nat × Nat)) : Bool := lowP L && [2, 6, 7, 8, 9, 10, 11, 40, 41, 42, 43, 44].all (frP L) && !inP L 1 1 && !inP L 39 1
def KpY (h g : Hp) : Prop := (∃ L, FrY L h g ∧ okO L = true) ∧ zI g 15 6 = 0
/-- flags of parts have changed, on both sides alike -/
theorem SimP_fl {h g : Hp} (eK : zK g = zK h) (eA : zA g = zA h) (e1 : zI g 15 1 = zI h 15 1) (e2 : zI g 39 18 = zI h 39 18) (e51 : zI g 51 = zI h 51) (e52 : zI g 52 = zI h 52) (e53 : zI g 53 = zI h 53) (e56 : zI g 56 = zI h 56) (e57 : zI g 57 = zI h 57) (e17 : zI g 17 = zI h 17) (e55 : ∀ p, p < 12 → zI h 39 18 = nI p → ∀ q, p ≤ q → q < 12 → zI g 55 q = zI h 55 q) (hf : ∀ p np, np ≤ 12 → zI h 15 1 = nI np → p < np → (∀ j, j ≠ 3 → j ≠ 4 → zI g (zA h 16 p) j = zI h (zA h 16 p) j) ∧ ∃ gd hd : Bool, zI g (zA h 16 p) 3 = bI gd ∧ zI g 54 p = bI gd ∧ zI g (zA h 16 p) 4 = bI hd ∧ zI g 55 p = bI hd ∧ ((zI h (zA h 16 p) 5).toInt < 0 ∨ hd = false)) (hP : SimP h) : SimP g := by
  obtain ⟨np, c1, c2, c3, c4, c5, c6, c7⟩ := hP
  refine ⟨np, c1, by rw [e1]; exact c2, by rw [e2]; exact c3, fun p hp => ?_, fun p h1 h2 => ?_, ?_, by rw [eA]; exact c7⟩
  · obtain ⟨a, kd, st, hr, gd, hd, pl, q1, q2, q3, q4, q5, q6, q7, q8, q9, q10, q11, q12, q13, q14, q15, q16, q17, q18, q19, q20⟩ := c4 p hp
    obtain ⟨f0, gd', hd', f1, f2, f3, f4, f5⟩ := hf p np c1 c2 hp
    rw [q1] at f0 f1 f3 f5
    refine ⟨a, kd, st, hr, gd', hd', pl, by rw [eA]; exact q1, q2, q3, by rw [eK]; exact q4, by rw [f0 0 (by decide) (by decide)]; exact q5, q6, by rw [f0 1 (by decide) (by decide)]; exact q7, q8, q9, by rw [f0 2 (by decide) (by decide)]; exact q10, f1, f3, by rw [f0 5 (by decide) (by decide)]; exact q13, by rw [e51]; exact q14, by rw [e52]; exact q15, by rw [e53]; exact q16, f2, f4, by rw [e56]; exact q19, fun x hx => ?_⟩
    obtain ⟨w1, w2, w3⟩ := q20 x hx
    refine ⟨w1, by rw [e17]; exact w2, ?_⟩
    rcases f5 with f5 | f5
    · rw [q13, hx] at f5
      rw [show plI (some x) = nI x from rfl, nI_toInt (by omega)] at f5
      omega
    · exact f5
  · by_cases e : np < 12
    · rw [e55 np e c3 p h1 h2]
      exact c5 p h1 h2
    · omega
  · rw [e17, e57, e56]
    exact c6
section
variable {sc : Nat × (Nat → Int32)} {h : Hp}
theorem c_isPart (hs : Shp h) {np : Nat} (hn : np ≤ 12) (e : zI h 15 1 = nI np) (p : Int32) : Cc sc 127 [.ref 1, .int p] h (some (.int (bI (decide (0 ≤ p.toInt ∧ p.toInt < np))))) h := by
  refine cc_nh (F := fun h => h) hs (cc_of 60 rfl rfl ?_)
  by_cases q1 : p.toInt < 0
  · refine br_t (show p < 0 by first | assumption | (simp (discharger := omega) only [i_lt, i_le, i_eq, bI_tz, decide_eq_false_iff_not, Int32.reduceToInt, nI_toInt, tm1, tm2, tm3, tm4, tm9]; done) | (simp (discharger := omega) only [i_lt, i_le, i_eq, bI_tz, decide_eq_false_iff_not, Int32.reduceToInt, nI_toInt, tm1, tm2, tm3, tm4, tm9]; omega) | omega) ?_
    exact ⟨Or.inr ⟨rfl, Or.inl rfl⟩, by rw [bI_eq (by omega)], rfl⟩
  · refine br_f (show ¬ (p < 0) by first | assumption | (simp (discharger := omega) only [i_lt, i_le, i_eq, bI_tz, decide_eq_false_iff_not, Int32.reduceToInt, nI_toInt, tm1, tm2, tm3, tm4, tm9]; done) | (simp (discharger := omega) only [i_lt, i_le, i_eq, bI_tz, decide_eq_false_iff_not, Int32.reduceToInt, nI_toInt, tm1, tm2, tm3, tm4, tm9]; omega) | omega) ?_
    refine And.intro rfl ?_
    refine And.intro rfl ?_
    by_cases q2 : p.toInt < np
    · refine br_f (show ¬ zI h 15 1 ≤ p by rw [e]; first | assumption | (simp (discharger := omega) only [i_lt, i_le, i_eq, bI_tz, decide_eq_false_iff_not, Int32.reduceToInt, nI_toInt, tm1, tm2, tm3, tm4, tm9]; done) | (simp (discharger := omega) only [i_lt, i_le, i_eq, bI_tz, decide_eq_false_iff_not, Int32.reduceToInt, nI_toInt, tm1, tm2, tm3, tm4, tm9]; omega) | omega) ?_
      exact ⟨Or.inr ⟨rfl, Or.inr rfl⟩, by rw [decide_eq_true (by omega)]; rfl, rfl⟩
    · refine br_t (show zI h 15 1 ≤ p by rw [e]; first | assumption | (simp (discharger := omega) only [i_lt, i_le, i_eq, bI_tz, decide_eq_false_iff_not, Int32.reduceToInt, nI_toInt, tm1, tm2, tm3, tm4, tm9]; done) | (simp (discharger := omega) only [i_lt, i_le, i_eq, bI_tz, decide_eq_false_iff_not, Int32.reduceToInt, nI_toInt, tm1, tm2, tm3, tm4, tm9]; omega) | omega) ?_
      exact ⟨Or.inr ⟨rfl, Or.inl rfl⟩, by rw [bI_eq (by omega)], rfl⟩
theorem c_noPart (hs : Shp h) {np : Nat} (hn : np ≤ 12) (e : zI h 39 18 = nI np) (p : Int32) : Cc sc 183 [.ref 39, .int p] h (some (.int (bI (decide (¬ (0 ≤ p.toInt ∧ p.toInt < np)))))) h := by
  refine cc_nh (F := fun h => h) hs (cc_of 60 rfl rfl ?_)
  refine And.intro rfl ?_
  have e1 : ((zI (nh h) 39 18).toInt64 - 1).toInt = (np : Int) - 1 := by
    rw [show zI (nh h) 39 18 = zI h 39 18 from rfl, e]
    rw [l_sub] <;> rw [wide, show (1 : Int64).toInt = 1 by decide, nI_toInt (by omega)] <;> omega
  refine And.intro rfl (And.intro rfl (Exists.intro _ (Exists.intro _ (And.intro (c_inN p e1) ?_))))
  by_cases q : 0 ≤ p.toInt ∧ p.toInt < np
  · refine br_t (by rw [bI_z, decide_eq_false_iff_not]; omega) ?_
    exact ⟨Or.inr ⟨rfl, Or.inl rfl⟩, by rw [bI_eq (fun z => z q)], rfl⟩
  · refine br_f (by rw [bI_z, decide_eq_false_iff_not]; omega) ?_
    exact ⟨Or.inr ⟨rfl, Or.inr rfl⟩, by rw [decide_eq_true q]; rfl, rfl⟩
def hF (kd st hr t : Nat) : Int32 := if t = st then nI hr else if kd = 2 then nI (hr + 1) else if kd = 1 ∧ t = (st + 1) % 3 then nI (hr + 2) else -9
theorem kin_part {kd : Nat} (hk : kd ≤ 2) : kin 4 (pkd kd) = true := by
  obtain rfl | rfl | rfl : kd = 0 ∨ kd = 1 ∨ kd = 2 := by omega
  all_goals rfl
theorem c_hF4 {a kd st hr t : Nat} (hkd : kd ≤ 2) (hk : zK h a = pkd kd) (h1 : zI h a 1 = nI st) (h2 : zI h a 2 = nI hr) (hst : st ≤ 2) (ht : t ≤ 2) : Cc sc 40 [.ref a, .int (nI t)] h (some (.int (if t = st then nI hr else -9))) h := by
  have k0 : kin 4 (zK h a) = true := by rw [hk]; exact kin_part hkd
  refine cc_of 20 rfl rfl ?_
  refine And.intro (k0) ?_
  by_cases q : t = st
  · refine br_f (show ¬ ¬ nI t = zI h a 1 from fun z => z (by rw [h1, q])) ?_
    refine And.intro (k0) ?_
    rw [if_pos q]
    exact ⟨Or.inl rfl, congrArg (fun v => some (Value.int v)) h2, rfl⟩
  · refine br_t (show ¬ nI t = zI h a 1 by rw [h1, nI_eq (by omega) (by omega)]; exact q) ?_
    rw [if_neg q]
    exact ⟨Or.inl rfl, rfl, rfl⟩
theorem c_hoursFor {a kd st hr t : Nat} (hkd : kd ≤ 2) (hk : zK h a = pkd kd) (h1 : zI h a 1 = nI st) (h2 : zI h a 2 = nI hr) (hst : st ≤ 2) (hhr : hr ≤ 9) (ht : t ≤ 2) : Cc sc (pck (pkd kd) 40 15 10) [.ref a, .int (nI t)] h (some (.int (hF kd st hr t))) h := by
  obtain rfl | rfl | rfl : kd = 0 ∨ kd = 1 ∨ kd = 2 := by omega
  · have := c_hF4 (sc := sc) hkd hk h1 h2 hst ht
    unfold hF
    rw [if_neg (by decide : ¬ (0 = 2)), if_neg (by omega : ¬ ((0 : Nat) = 1 ∧ t = (st + 1) % 3))]
    exact this
  · have k0 : kin 2 (zK h a) = true := by rw [hk]; rfl
    have e1 : nI st + 1 - (nI st + 1) / 3 * 3 = nI ((st + 1) % 3) := by rw [nI_1]; exact pk_rem (a := st + 1) (d := 3) (by omega) (by decide) (by decide)
    refine cc_of (k := 15) 20 rfl rfl ?_
    refine And.intro (k0) ?_
    refine And.intro (by decide) ?_
    unfold hF
    rw [if_neg (by decide : ¬ (1 = 2))]
    by_cases q : t = (st + 1) % 3
    · refine br_f (show ¬ ¬ nI t = zI h a 1 + 1 - (zI h a 1 + 1) / 3 * 3 from fun z => z (by rw [h1, e1, q])) ?_
      refine And.intro (k0) ?_
      rw [if_neg (by omega), if_pos ⟨rfl, q⟩]
      exact ⟨Or.inl rfl, congrArg (fun v => some (Value.int v)) (show zI h a 2 + 2 = nI (hr + 2) by rw [h2]; exact nI_add hr 2), rfl⟩
    · refine br_t (show ¬ nI t = zI h a 1 + 1 - (zI h a 1 + 1) / 3 * 3 by rw [h1, e1, nI_eq (by omega) (by omega)]; exact q) ?_
      refine And.intro ⟨rfl, by rw [hk]; rfl⟩ (And.intro rfl (Exists.intro _ (Exists.intro _ (And.intro (c_hF4 (kd := 1) (by decide) hk h1 h2 hst ht) ?_))))
      rw [if_neg (fun z : (1 : Nat) = 1 ∧ t = (st + 1) % 3 => q z.2)]
      exact ⟨Or.inl rfl, rfl, rfl⟩
  · have k0 : kin 1 (zK h a) = true := by rw [hk]; rfl
    refine cc_of (k := 10) 20 rfl rfl ?_
    refine And.intro (k0) ?_
    unfold hF
    by_cases q : t = st
    · refine br_f (show ¬ ¬ nI t = zI h a 1 from fun z => z (by rw [h1, q])) ?_
      refine And.intro (k0) ?_
      rw [if_pos q]
      exact ⟨Or.inl rfl, congrArg (fun v => some (Value.int v)) h2, rfl⟩
    · refine br_t (show ¬ nI t = zI h a 1 by rw [h1, nI_eq (by omega) (by omega)]; exact q) ?_
      refine And.intro (k0) ?_
      rw [if_neg q, if_pos rfl]
      exact ⟨Or.inl rfl, congrArg (fun v => some (Value.int v)) (show zI h a 2 + 1 = nI (hr + 1) by rw [h2]; exact nI_add hr 1), rfl⟩
theorem c_hoursFor_m (hs : Shp h) {p kd st hr t : Nat} (hp : p < 12) (hkd : kd ≤ 2) (h0 : zI h 51 p = nI kd) (h1 : zI h 52 p = nI st) (h2 : zI h 53 p = nI hr) (hst : st ≤ 2) (hhr : hr ≤ 9) (ht : t ≤ 2) : Cc sc 189 [.ref 39, .int (nI p), .int (nI t)] h (some (.int (hF kd st hr t))) h := by
  have ip : inB (nI p) 12 = true := inB_nI hp (by decide)
  have ep : (nI p).toNatClampNeg = p := nI_clamp (by omega)
  have e1 : nI st + 1 - (nI st + 1) / 3 * 3 = nI ((st + 1) % 3) := by rw [nI_1]; exact pk_rem (a := st + 1) (d := 3) (by omega) (by decide) (by decide)
  refine cc_nh (F := fun h => h) hs (cc_of 80 rfl rfl ?_)
  unfold hF
  refine And.intro rfl ?_
  refine And.intro (⟨rfl, ip⟩) ?_
  rw [ep]
  by_cases q : t = st
  · rw [if_pos q]
    refine br_f (show ¬ ¬ zI h 52 p = nI t from fun z => z (by rw [h1, q])) ?_
    refine And.intro rfl ?_
    refine And.intro (⟨rfl, ip⟩) ?_
    rw [ep]
    refine And.intro (by decide) ?_
    refine br_t (show ¬ zI h 52 p + 1 - (zI h 52 p + 1) / 3 * 3 = nI t by rw [h1, e1, nI_eq (by omega) (by omega)]; omega) ?_
    refine br_f (by decide) ?_
    refine And.intro rfl ?_
    refine And.intro (⟨rfl, ip⟩) ?_
    rw [ep]
    exact ⟨Or.inl rfl, congrArg (fun v => some (Value.int v)) h2, rfl⟩
  · rw [if_neg q]
    refine br_t (show ¬ zI h 52 p = nI t by rw [h1, nI_eq (by omega) (by omega)]; omega) ?_
    refine And.intro rfl ?_
    refine And.intro (⟨rfl, ip⟩) ?_
    rw [ep]
    refine And.intro (by decide) ?_
    by_cases w : t = (st + 1) % 3
    · refine br_f (show ¬ ¬ zI h 52 p + 1 - (zI h 52 p + 1) / 3 * 3 = nI t from fun z => z (by rw [h1, e1, w])) ?_
      refine br_t (by decide) ?_
      refine And.intro rfl ?_
      refine And.intro (⟨rfl, ip⟩) ?_
      rw [ep]
      by_cases k2 : kd = 2
      · rw [if_pos k2]
        refine br_f (show ¬ ¬ zI h 51 p = 2 from fun z => z (by rw [h0, k2]; rfl)) ?_
        refine And.intro rfl ?_
        refine And.intro (⟨rfl, ip⟩) ?_
        rw [ep]
        exact ⟨Or.inl rfl, congrArg (fun v => some (Value.int v)) (show zI h 53 p + 1 = nI (hr + 1) by rw [h2]; exact nI_add hr 1), rfl⟩
      · rw [if_neg k2]
        refine br_t (show ¬ zI h 51 p = 2 by rw [h0, show (2 : Int32) = nI 2 from rfl, nI_eq (by omega) (by omega)]; exact k2) ?_
        refine And.intro rfl ?_
        refine And.intro (⟨rfl, ip⟩) ?_
        rw [ep]
        by_cases k1 : kd = 1
        · rw [if_pos ⟨k1, w⟩]
          refine br_f (show ¬ ¬ zI h 51 p = 1 from fun z => z (by rw [h0, k1]; rfl)) ?_
          refine br_f (by decide) ?_
          refine And.intro rfl ?_
          refine And.intro (⟨rfl, ip⟩) ?_
          rw [ep]
          exact ⟨Or.inl rfl, congrArg (fun v => some (Value.int v)) (show zI h 53 p + 2 = nI (hr + 2) by rw [h2]; exact nI_add hr 2), rfl⟩
        · rw [if_neg (fun z => k1 z.1)]
          refine br_t (show ¬ zI h 51 p = 1 by rw [h0, show (1 : Int32) = nI 1 from rfl, nI_eq (by omega) (by omega)]; exact k1) ?_
          exact ⟨Or.inl rfl, rfl, rfl⟩
    · refine br_t (show ¬ zI h 52 p + 1 - (zI h 52 p + 1) / 3 * 3 = nI t by rw [h1, e1, nI_eq (by omega) (by omega)]; omega) ?_
      refine br_t (by decide) ?_
      refine And.intro rfl ?_
      refine And.intro (⟨rfl, ip⟩) ?_
      rw [ep]
      by_cases k2 : kd = 2
      · rw [if_pos k2]
        refine br_f (show ¬ ¬ zI h 51 p = 2 from fun z => z (by rw [h0, k2]; rfl)) ?_
        refine And.intro rfl ?_
        refine And.intro (⟨rfl, ip⟩) ?_
        rw [ep]
        exact ⟨Or.inl rfl, congrArg (fun v => some (Value.int v)) (show zI h 53 p + 1 = nI (hr + 1) by rw [h2]; exact nI_add hr 1), rfl⟩
      · rw [if_neg k2, if_neg (fun z => w z.2)]
        refine br_t (show ¬ zI h 51 p = 2 by rw [h0, show (2 : Int32) = nI 2 from rfl, nI_eq (by omega) (by omega)]; exact k2) ?_
        refine And.intro rfl ?_
        refine And.intro (⟨rfl, ip⟩) ?_
        rw [ep]
        by_cases k1 : kd = 1
        · refine br_f (show ¬ ¬ zI h 51 p = 1 from fun z => z (by rw [h0, k1]; rfl)) ?_
          refine br_t (by decide) ?_
          exact ⟨Or.inl rfl, rfl, rfl⟩
        · refine br_t (show ¬ zI h 51 p = 1 by rw [h0, show (1 : Int32) = nI 1 from rfl, nI_eq (by omega) (by omega)]; exact k1) ?_
          exact ⟨Or.inl rfl, rfl, rfl⟩
end
