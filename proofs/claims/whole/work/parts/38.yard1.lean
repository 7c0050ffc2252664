/-! The yard: small calls. -/
section
variable {sc : Nat × (Nat → Int32)} {h : Hp}
theorem c_inN (k : Int32) {m : Int64} {n : Int} (hm : m.toInt = n) : Cc sc 139 [.long k.toInt64, .long 0, .long m] h (some (.int (bI (decide (0 ≤ k.toInt ∧ k.toInt < n + 1))))) h := by
  have := c_in (sc := sc) (h := h) k.toInt64 0 m
  rw [wide, show (0 : Int64).toInt = 0 by decide, hm] at this
  have e : (0 ≤ k.toInt ∧ k.toInt ≤ n) = (0 ≤ k.toInt ∧ k.toInt < n + 1) := propext ⟨fun q => ⟨q.1, by omega⟩, fun q => ⟨q.1, by omega⟩⟩
  simp only [e] at this
  exact this
theorem c_noYardSort (k : Int32) : Cc sc 184 [.int k] h (some (.int (bI (decide (¬ (0 ≤ k.toInt ∧ k.toInt < 3)))))) h := by
  refine cc_of 20 rfl rfl ?_
  refine And.intro rfl (And.intro rfl (Exists.intro _ (Exists.intro _ (And.intro (c_inN k (m := 2) (n := 2) (by decide)) ?_))))
  by_cases q : 0 ≤ k.toInt ∧ k.toInt < 3
  · refine br_t (by rw [bI_z, decide_eq_false_iff_not]; omega) ?_
    exact ⟨Or.inr ⟨rfl, Or.inl rfl⟩, by rw [bI_eq (fun z => z q)], rfl⟩
  · refine br_f (by rw [bI_z, decide_eq_false_iff_not]; omega) ?_
    exact ⟨Or.inr ⟨rfl, Or.inr rfl⟩, by rw [decide_eq_true q]; rfl, rfl⟩
theorem c_noLorry (k : Int32) : Cc sc 187 [.int k] h (some (.int (bI (decide (¬ (0 ≤ k.toInt ∧ k.toInt < 4)))))) h := by
  refine cc_of 20 rfl rfl ?_
  refine And.intro rfl (And.intro rfl (Exists.intro _ (Exists.intro _ (And.intro (c_inN k (m := 3) (n := 3) (by decide)) ?_))))
  by_cases q : 0 ≤ k.toInt ∧ k.toInt < 4
  · refine br_t (by rw [bI_z, decide_eq_false_iff_not]; omega) ?_
    exact ⟨Or.inr ⟨rfl, Or.inl rfl⟩, by rw [bI_eq (fun z => z q)], rfl⟩
  · refine br_f (by rw [bI_z, decide_eq_false_iff_not]; omega) ?_
    exact ⟨Or.inr ⟨rfl, Or.inr rfl⟩, by rw [decide_eq_true q]; rfl, rfl⟩
theorem op_spoils (hS : Sim0 h) (v : Int32) : Op0 sc 108 194 [.int v] h := by
  have hs := hS.1
  by_cases q : 0 ≤ v.toInt ∧ v.toInt < 13
  · refine ⟨.int (zI h 15 3), upI h 15 3 v, upI (upI h 15 3 v) 39 26 v, ?_, ?_, ?_⟩
    · refine cc_nh (F := fun h => upI h 15 3 v) hs (cc_of 60 rfl rfl ?_)
      refine br_f (show ¬ (v < 0) by first | assumption | (simp (discharger := omega) only [i_lt, i_le, i_eq, bI_tz, decide_eq_false_iff_not, Int32.reduceToInt, nI_toInt, tm1, tm2, tm3, tm4, tm9]; done) | (simp (discharger := omega) only [i_lt, i_le, i_eq, bI_tz, decide_eq_false_iff_not, Int32.reduceToInt, nI_toInt, tm1, tm2, tm3, tm4, tm9]; omega) | omega) ?_
      refine br_t (show v ≤ 12 by first | assumption | (simp (discharger := omega) only [i_lt, i_le, i_eq, bI_tz, decide_eq_false_iff_not, Int32.reduceToInt, nI_toInt, tm1, tm2, tm3, tm4, tm9]; done) | (simp (discharger := omega) only [i_lt, i_le, i_eq, bI_tz, decide_eq_false_iff_not, Int32.reduceToInt, nI_toInt, tm1, tm2, tm3, tm4, tm9]; omega) | omega) ?_
      refine And.intro rfl ?_
      refine And.intro rfl ?_
      refine And.intro rfl ?_
      refine And.intro rfl ?_
      exact ⟨Or.inl rfl, rfl, rfl⟩
    · rw [hS.2.1.2.2.1]
      refine cc_nh (h := upI h 15 3 v) (F := fun h => upI h 39 26 v) hs (cc_of 60 rfl rfl ?_)
      refine And.intro rfl (And.intro rfl (Exists.intro _ (Exists.intro _ (And.intro (c_inN v (m := 12) (n := 12) (by decide)) ?_))))
      refine br_t (by rw [bI_z, decide_eq_false_iff_not]; omega) ?_
      refine And.intro rfl ?_
      refine And.intro rfl ?_
      exact ⟨Or.inl rfl, rfl, rfl⟩
    · have f : Fr [(15, 3), (39, 26)] h (upI (upI h 15 3 v) 39 26 v) := ((Fr.refl _ h).upI rfl).upI rfl
      exact fin0 hS f rfl rfl ⟨hS.2.1.1, hS.2.1.2.1, rfl, hS.2.1.2.2.2⟩ (f.simR rfl hS.2.2.1)
  · refine ⟨.int (-2), h, h, ?_, ?_, fin_same hS⟩
    · refine cc_nh (F := fun h => h) hs (cc_of 60 rfl rfl ?_)
      by_cases w : v.toInt < 0
      · refine br_t (show v < 0 by first | assumption | (simp (discharger := omega) only [i_lt, i_le, i_eq, bI_tz, decide_eq_false_iff_not, Int32.reduceToInt, nI_toInt, tm1, tm2, tm3, tm4, tm9]; done) | (simp (discharger := omega) only [i_lt, i_le, i_eq, bI_tz, decide_eq_false_iff_not, Int32.reduceToInt, nI_toInt, tm1, tm2, tm3, tm4, tm9]; omega) | omega) ?_
        exact ⟨Or.inl rfl, rfl, rfl⟩
      · refine br_f (show ¬ (v < 0) by first | assumption | (simp (discharger := omega) only [i_lt, i_le, i_eq, bI_tz, decide_eq_false_iff_not, Int32.reduceToInt, nI_toInt, tm1, tm2, tm3, tm4, tm9]; done) | (simp (discharger := omega) only [i_lt, i_le, i_eq, bI_tz, decide_eq_false_iff_not, Int32.reduceToInt, nI_toInt, tm1, tm2, tm3, tm4, tm9]; omega) | omega) ?_
        refine br_f (show ¬ (v ≤ 12) by first | assumption | (simp (discharger := omega) only [i_lt, i_le, i_eq, bI_tz, decide_eq_false_iff_not, Int32.reduceToInt, nI_toInt, tm1, tm2, tm3, tm4, tm9]; done) | (simp (discharger := omega) only [i_lt, i_le, i_eq, bI_tz, decide_eq_false_iff_not, Int32.reduceToInt, nI_toInt, tm1, tm2, tm3, tm4, tm9]; omega) | omega) ?_
        exact ⟨Or.inl rfl, rfl, rfl⟩
    · refine cc_nh (F := fun h => h) hs (cc_of 60 rfl rfl ?_)
      refine And.intro rfl (And.intro rfl (Exists.intro _ (Exists.intro _ (And.intro (c_inN v (m := 12) (n := 12) (by decide)) ?_))))
      refine br_f (by rw [bI_z, decide_eq_false_iff_not]; omega) ?_
      exact ⟨Or.inl rfl, rfl, rfl⟩
theorem op_odds (hS : Sim0 h) (k v : Int32) : Op0 sc 109 195 [.int k, .int v] h := by
  have hs := hS.1
  by_cases q1 : 0 ≤ k.toInt ∧ k.toInt < 3
  · by_cases q : 0 ≤ v.toInt ∧ v.toInt < 13
    · obtain ⟨j, hj, rfl⟩ := i_of q1.1 (n := 3) q1.2 (by decide)
      have ij : inB (nI j) 3 = true := inB_nI hj (by decide)
      have ej : (nI j).toNatClampNeg = j := nI_clamp (by omega)
      refine ⟨.int (zI h 18 j), upI h 18 j v, upI (upI h 18 j v) 58 j v, ?_, ?_, ?_⟩
      · refine cc_nh (F := fun h => upI h 18 j v) hs (cc_of 60 rfl rfl ?_)
        refine And.intro rfl (And.intro rfl (Exists.intro _ (Exists.intro _ (And.intro (c_isYardSort _) ?_))))
        refine br_t (by first | assumption | (simp (discharger := omega) only [i_lt, i_le, i_eq, bI_tz, decide_eq_false_iff_not, Int32.reduceToInt, nI_toInt, tm1, tm2, tm3, tm4, tm9]; done) | (simp (discharger := omega) only [i_lt, i_le, i_eq, bI_tz, decide_eq_false_iff_not, Int32.reduceToInt, nI_toInt, tm1, tm2, tm3, tm4, tm9]; omega) | omega) ?_
        refine br_f (show ¬ (v < 0) by first | assumption | (simp (discharger := omega) only [i_lt, i_le, i_eq, bI_tz, decide_eq_false_iff_not, Int32.reduceToInt, nI_toInt, tm1, tm2, tm3, tm4, tm9]; done) | (simp (discharger := omega) only [i_lt, i_le, i_eq, bI_tz, decide_eq_false_iff_not, Int32.reduceToInt, nI_toInt, tm1, tm2, tm3, tm4, tm9]; omega) | omega) ?_
        refine br_t (show v ≤ 12 by first | assumption | (simp (discharger := omega) only [i_lt, i_le, i_eq, bI_tz, decide_eq_false_iff_not, Int32.reduceToInt, nI_toInt, tm1, tm2, tm3, tm4, tm9]; done) | (simp (discharger := omega) only [i_lt, i_le, i_eq, bI_tz, decide_eq_false_iff_not, Int32.reduceToInt, nI_toInt, tm1, tm2, tm3, tm4, tm9]; omega) | omega) ?_
        refine And.intro rfl ?_
        refine And.intro rfl ?_
        refine And.intro (⟨rfl, ij⟩) ?_
        refine And.intro rfl ?_
        refine And.intro rfl ?_
        refine And.intro (⟨rfl, ij⟩) ?_
        rw [ej]
        exact ⟨Or.inl rfl, rfl, rfl⟩
      · rw [hS.2.1.2.2.2 j hj]
        refine cc_nh (h := upI h 18 j v) (F := fun h => upI h 58 j v) hs (cc_of 60 rfl rfl ?_)
        refine And.intro rfl (And.intro rfl (Exists.intro _ (Exists.intro _ (And.intro (c_noYardSort _) ?_))))
        refine br_t (by first | assumption | (simp (discharger := omega) only [i_lt, i_le, i_eq, bI_tz, decide_eq_false_iff_not, Int32.reduceToInt, nI_toInt, tm1, tm2, tm3, tm4, tm9]; done) | (simp (discharger := omega) only [i_lt, i_le, i_eq, bI_tz, decide_eq_false_iff_not, Int32.reduceToInt, nI_toInt, tm1, tm2, tm3, tm4, tm9]; omega) | omega) ?_
        refine And.intro rfl (And.intro rfl (Exists.intro _ (Exists.intro _ (And.intro (c_inN v (m := 12) (n := 12) (by decide)) ?_))))
        refine br_t (by rw [bI_z, decide_eq_false_iff_not]; omega) ?_
        refine And.intro rfl ?_
        refine And.intro (⟨rfl, ij⟩) ?_
        refine And.intro rfl ?_
        refine And.intro (⟨rfl, ij⟩) ?_
        rw [ej]
        exact ⟨Or.inl rfl, rfl, rfl⟩
      · have f : Fr [(18, 1000), (58, 1000)] h (upI (upI h 18 j v) 58 j v) := ((Fr.refl _ h).upI rfl).upI rfl
        refine fin0 hS f rfl rfl ⟨hS.2.1.1, hS.2.1.2.1, hS.2.1.2.2.1, fun i hi => ?_⟩ (f.simR rfl hS.2.2.1)
        show upd (zI h 18) j v i = upd (zI h 58) j v i
        unfold upd
        rw [hS.2.1.2.2.2 i hi]
    · refine ⟨.int (-2), h, h, ?_, ?_, fin_same hS⟩
      · refine cc_nh (F := fun h => h) hs (cc_of 60 rfl rfl ?_)
        refine And.intro rfl (And.intro rfl (Exists.intro _ (Exists.intro _ (And.intro (c_isYardSort _) ?_))))
        refine br_t (by first | assumption | (simp (discharger := omega) only [i_lt, i_le, i_eq, bI_tz, decide_eq_false_iff_not, Int32.reduceToInt, nI_toInt, tm1, tm2, tm3, tm4, tm9]; done) | (simp (discharger := omega) only [i_lt, i_le, i_eq, bI_tz, decide_eq_false_iff_not, Int32.reduceToInt, nI_toInt, tm1, tm2, tm3, tm4, tm9]; omega) | omega) ?_
        by_cases w : v.toInt < 0
        · refine br_t (show v < 0 by first | assumption | (simp (discharger := omega) only [i_lt, i_le, i_eq, bI_tz, decide_eq_false_iff_not, Int32.reduceToInt, nI_toInt, tm1, tm2, tm3, tm4, tm9]; done) | (simp (discharger := omega) only [i_lt, i_le, i_eq, bI_tz, decide_eq_false_iff_not, Int32.reduceToInt, nI_toInt, tm1, tm2, tm3, tm4, tm9]; omega) | omega) ?_
          exact ⟨Or.inl rfl, rfl, rfl⟩
        · refine br_f (show ¬ (v < 0) by first | assumption | (simp (discharger := omega) only [i_lt, i_le, i_eq, bI_tz, decide_eq_false_iff_not, Int32.reduceToInt, nI_toInt, tm1, tm2, tm3, tm4, tm9]; done) | (simp (discharger := omega) only [i_lt, i_le, i_eq, bI_tz, decide_eq_false_iff_not, Int32.reduceToInt, nI_toInt, tm1, tm2, tm3, tm4, tm9]; omega) | omega) ?_
          refine br_f (show ¬ (v ≤ 12) by first | assumption | (simp (discharger := omega) only [i_lt, i_le, i_eq, bI_tz, decide_eq_false_iff_not, Int32.reduceToInt, nI_toInt, tm1, tm2, tm3, tm4, tm9]; done) | (simp (discharger := omega) only [i_lt, i_le, i_eq, bI_tz, decide_eq_false_iff_not, Int32.reduceToInt, nI_toInt, tm1, tm2, tm3, tm4, tm9]; omega) | omega) ?_
          exact ⟨Or.inl rfl, rfl, rfl⟩
      · refine cc_nh (F := fun h => h) hs (cc_of 60 rfl rfl ?_)
        refine And.intro rfl (And.intro rfl (Exists.intro _ (Exists.intro _ (And.intro (c_noYardSort _) ?_))))
        refine br_t (by first | assumption | (simp (discharger := omega) only [i_lt, i_le, i_eq, bI_tz, decide_eq_false_iff_not, Int32.reduceToInt, nI_toInt, tm1, tm2, tm3, tm4, tm9]; done) | (simp (discharger := omega) only [i_lt, i_le, i_eq, bI_tz, decide_eq_false_iff_not, Int32.reduceToInt, nI_toInt, tm1, tm2, tm3, tm4, tm9]; omega) | omega) ?_
        refine And.intro rfl (And.intro rfl (Exists.intro _ (Exists.intro _ (And.intro (c_inN v (m := 12) (n := 12) (by decide)) ?_))))
        refine br_f (by rw [bI_z, decide_eq_false_iff_not]; omega) ?_
        exact ⟨Or.inl rfl, rfl, rfl⟩
  · refine ⟨.int (-1), h, h, ?_, ?_, fin_same hS⟩
    · refine cc_nh (F := fun h => h) hs (cc_of 60 rfl rfl ?_)
      refine And.intro rfl (And.intro rfl (Exists.intro _ (Exists.intro _ (And.intro (c_isYardSort _) ?_))))
      refine br_f (by first | assumption | (simp (discharger := omega) only [i_lt, i_le, i_eq, bI_tz, decide_eq_false_iff_not, Int32.reduceToInt, nI_toInt, tm1, tm2, tm3, tm4, tm9]; done) | (simp (discharger := omega) only [i_lt, i_le, i_eq, bI_tz, decide_eq_false_iff_not, Int32.reduceToInt, nI_toInt, tm1, tm2, tm3, tm4, tm9]; omega) | omega) ?_
      exact ⟨Or.inl rfl, rfl, rfl⟩
    · refine cc_nh (F := fun h => h) hs (cc_of 60 rfl rfl ?_)
      refine And.intro rfl (And.intro rfl (Exists.intro _ (Exists.intro _ (And.intro (c_noYardSort _) ?_))))
      refine br_f (by first | assumption | (simp (discharger := omega) only [i_lt, i_le, i_eq, bI_tz, decide_eq_false_iff_not, Int32.reduceToInt, nI_toInt, tm1, tm2, tm3, tm4, tm9]; done) | (simp (discharger := omega) only [i_lt, i_le, i_eq, bI_tz, decide_eq_false_iff_not, Int32.reduceToInt, nI_toInt, tm1, tm2, tm3, tm4, tm9]; omega) | omega) ?_
      exact ⟨Or.inl rfl, rfl, rfl⟩
theorem op_at (hS : Sim0 h) (k s : Int32) : Op0 sc 103 188 [.int k, .int s] h := by
  have hs := hS.1
  by_cases q : (0 ≤ k.toInt ∧ k.toInt < 4) ∧ (0 ≤ s.toInt ∧ s.toInt < 3)
  · obtain ⟨q1, q2⟩ := q
    obtain ⟨j, hj, rfl⟩ := i_of q1.1 (n := 4) q1.2 (by decide)
    obtain ⟨t, ht, rfl⟩ := i_of q2.1 (n := 3) q2.2 (by decide)
    have e1 : nI j * 3 + nI t = nI (3 * j + t) := by rw [show (3 : Int32) = nI 3 from rfl, pk_mul, nI_add, Nat.mul_comm]
    have e2 : 3 * nI j + nI t = nI (3 * j + t) := by rw [show (3 : Int32) = nI 3 from rfl, pk_mul, nI_add]
    have ib : inB (nI (3 * j + t)) 12 = true := inB_nI (by omega) (by decide)
    have ec : (nI (3 * j + t)).toNatClampNeg = 3 * j + t := nI_clamp (by omega)
    have e3 : zI h 17 (3 * j + t) = zI h 57 (3 * j + t) := by
      obtain ⟨np, c1, c2, c3, c4, c5, c6, c7⟩ := hS.2.2.2.2.1
      rcases c6 (3 * j + t) (by omega) with ⟨z1, z2⟩ | ⟨p, z0, z1, z2, z3⟩
      · rw [z1, z2]
      · rw [z1, z2]
    refine ⟨.int (zI h 17 (3 * j + t)), h, h, ?_, ?_, fin_same hS⟩
    · refine cc_nh (F := fun h => h) hs (cc_of 60 rfl rfl ?_)
      refine And.intro rfl (And.intro rfl (Exists.intro _ (Exists.intro _ (And.intro (c_isYardLorry _) ?_))))
      refine br_f (by first | assumption | (simp (discharger := omega) only [i_lt, i_le, i_eq, bI_tz, decide_eq_false_iff_not, Int32.reduceToInt, nI_toInt, tm1, tm2, tm3, tm4, tm9]; done) | (simp (discharger := omega) only [i_lt, i_le, i_eq, bI_tz, decide_eq_false_iff_not, Int32.reduceToInt, nI_toInt, tm1, tm2, tm3, tm4, tm9]; omega) | omega) ?_
      refine And.intro rfl (And.intro rfl (Exists.intro _ (Exists.intro _ (And.intro (c_isYardSort _) ?_))))
      refine br_t (by first | assumption | (simp (discharger := omega) only [i_lt, i_le, i_eq, bI_tz, decide_eq_false_iff_not, Int32.reduceToInt, nI_toInt, tm1, tm2, tm3, tm4, tm9]; done) | (simp (discharger := omega) only [i_lt, i_le, i_eq, bI_tz, decide_eq_false_iff_not, Int32.reduceToInt, nI_toInt, tm1, tm2, tm3, tm4, tm9]; omega) | omega) ?_
      refine And.intro rfl ?_
      refine And.intro rfl ?_
      refine And.intro (⟨rfl, by rw [e1]; exact ib⟩) ?_
      rw [e1, ec]
      exact ⟨Or.inl rfl, rfl, rfl⟩
    · rw [e3]
      refine cc_nh (F := fun h => h) hs (cc_of 60 rfl rfl ?_)
      refine And.intro rfl (And.intro rfl (Exists.intro _ (Exists.intro _ (And.intro (c_noLorry _) ?_))))
      refine br_f (by first | assumption | (simp (discharger := omega) only [i_lt, i_le, i_eq, bI_tz, decide_eq_false_iff_not, Int32.reduceToInt, nI_toInt, tm1, tm2, tm3, tm4, tm9]; done) | (simp (discharger := omega) only [i_lt, i_le, i_eq, bI_tz, decide_eq_false_iff_not, Int32.reduceToInt, nI_toInt, tm1, tm2, tm3, tm4, tm9]; omega) | omega) ?_
      refine And.intro rfl (And.intro rfl (Exists.intro _ (Exists.intro _ (And.intro (c_noYardSort _) ?_))))
      refine br_t (by first | assumption | (simp (discharger := omega) only [i_lt, i_le, i_eq, bI_tz, decide_eq_false_iff_not, Int32.reduceToInt, nI_toInt, tm1, tm2, tm3, tm4, tm9]; done) | (simp (discharger := omega) only [i_lt, i_le, i_eq, bI_tz, decide_eq_false_iff_not, Int32.reduceToInt, nI_toInt, tm1, tm2, tm3, tm4, tm9]; omega) | omega) ?_
      refine And.intro rfl ?_
      refine And.intro (⟨rfl, by rw [e2]; exact ib⟩) ?_
      rw [e2, ec]
      exact ⟨Or.inl rfl, rfl, rfl⟩
  · refine ⟨.int (-1), h, h, ?_, ?_, fin_same hS⟩
    · refine cc_nh (F := fun h => h) hs (cc_of 60 rfl rfl ?_)
      refine And.intro rfl (And.intro rfl (Exists.intro _ (Exists.intro _ (And.intro (c_isYardLorry _) ?_))))
      by_cases q2 : 0 ≤ k.toInt ∧ k.toInt < 4
      · refine br_f (by first | assumption | (simp (discharger := omega) only [i_lt, i_le, i_eq, bI_tz, decide_eq_false_iff_not, Int32.reduceToInt, nI_toInt, tm1, tm2, tm3, tm4, tm9]; done) | (simp (discharger := omega) only [i_lt, i_le, i_eq, bI_tz, decide_eq_false_iff_not, Int32.reduceToInt, nI_toInt, tm1, tm2, tm3, tm4, tm9]; omega) | omega) ?_
        refine And.intro rfl (And.intro rfl (Exists.intro _ (Exists.intro _ (And.intro (c_isYardSort _) ?_))))
        refine br_f (by first | assumption | (simp (discharger := omega) only [i_lt, i_le, i_eq, bI_tz, decide_eq_false_iff_not, Int32.reduceToInt, nI_toInt, tm1, tm2, tm3, tm4, tm9]; done) | (simp (discharger := omega) only [i_lt, i_le, i_eq, bI_tz, decide_eq_false_iff_not, Int32.reduceToInt, nI_toInt, tm1, tm2, tm3, tm4, tm9]; omega) | omega) ?_
        exact ⟨Or.inl rfl, rfl, rfl⟩
      · refine br_t (by first | assumption | (simp (discharger := omega) only [i_lt, i_le, i_eq, bI_tz, decide_eq_false_iff_not, Int32.reduceToInt, nI_toInt, tm1, tm2, tm3, tm4, tm9]; done) | (simp (discharger := omega) only [i_lt, i_le, i_eq, bI_tz, decide_eq_false_iff_not, Int32.reduceToInt, nI_toInt, tm1, tm2, tm3, tm4, tm9]; omega) | omega) ?_
        exact ⟨Or.inl rfl, rfl, rfl⟩
    · refine cc_nh (F := fun h => h) hs (cc_of 60 rfl rfl ?_)
      refine And.intro rfl (And.intro rfl (Exists.intro _ (Exists.intro _ (And.intro (c_noLorry _) ?_))))
      by_cases q2 : 0 ≤ k.toInt ∧ k.toInt < 4
      · refine br_f (by first | assumption | (simp (discharger := omega) only [i_lt, i_le, i_eq, bI_tz, decide_eq_false_iff_not, Int32.reduceToInt, nI_toInt, tm1, tm2, tm3, tm4, tm9]; done) | (simp (discharger := omega) only [i_lt, i_le, i_eq, bI_tz, decide_eq_false_iff_not, Int32.reduceToInt, nI_toInt, tm1, tm2, tm3, tm4, tm9]; omega) | omega) ?_
        refine And.intro rfl (And.intro rfl (Exists.intro _ (Exists.intro _ (And.intro (c_noYardSort _) ?_))))
        refine br_f (by first | assumption | (simp (discharger := omega) only [i_lt, i_le, i_eq, bI_tz, decide_eq_false_iff_not, Int32.reduceToInt, nI_toInt, tm1, tm2, tm3, tm4, tm9]; done) | (simp (discharger := omega) only [i_lt, i_le, i_eq, bI_tz, decide_eq_false_iff_not, Int32.reduceToInt, nI_toInt, tm1, tm2, tm3, tm4, tm9]; omega) | omega) ?_
        exact ⟨Or.inl rfl, rfl, rfl⟩
      · refine br_t (by first | assumption | (simp (discharger := omega) only [i_lt, i_le, i_eq, bI_tz, decide_eq_false_iff_not, Int32.reduceToInt, nI_toInt, tm1, tm2, tm3, tm4, tm9]; done) | (simp (discharger := omega) only [i_lt, i_le, i_eq, bI_tz, decide_eq_false_iff_not, Int32.reduceToInt, nI_toInt, tm1, tm2, tm3, tm4, tm9]; omega) | omega) ?_
        exact ⟨Or.inl rfl, rfl, rfl⟩
end
