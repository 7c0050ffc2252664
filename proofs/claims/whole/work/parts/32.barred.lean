section
variable {sc : Nat × (Nat → Int32)} {h : Hp}
theorem c_in02 (k : Int32) : Cc sc 139 [.long k.toInt64, .long 0, .long 2] h (some (.int (bI (decide (0 ≤ k.toInt ∧ k.toInt < 3))))) h := by
  have := c_in (sc := sc) (h := h) k.toInt64 0 2
  rw [wide, show (0 : Int64).toInt = 0 by decide, show (2 : Int64).toInt = 2 by decide] at this
  have e : (0 ≤ k.toInt ∧ k.toInt ≤ 2) = (0 ≤ k.toInt ∧ k.toInt < 3) := propext ⟨fun q => ⟨q.1, by omega⟩, fun q => ⟨q.1, by omega⟩⟩
  simp only [e] at this
  exact this
theorem c_isBeyond (i n a : Int32) : Cc sc 212 [.int i, .long n.toInt64, .int a] h (some (.int (bI (decide (i.toInt < 0 ∨ n.toInt < 0 ∨ a.toInt < i.toInt + n.toInt))))) h := by
  have b1 := i_bd i
  have b2 := i_bd n
  have b3 := i_bd a
  have e : (i.toInt64 + n.toInt64).toInt = i.toInt + n.toInt := by rw [l_add] <;> rw [wide, wide] <;> omega
  refine cc_of 30 rfl rfl ?_
  by_cases q1 : i.toInt < 0
  · refine br_t (show i < 0 by first | assumption | (simp (discharger := omega) only [i_lt, i_le, i_eq, bI_tz, decide_eq_false_iff_not, Int32.reduceToInt, nI_toInt, tm1, tm2, tm3, tm4, tm9]; done) | (simp (discharger := omega) only [i_lt, i_le, i_eq, bI_tz, decide_eq_false_iff_not, Int32.reduceToInt, nI_toInt, tm1, tm2, tm3, tm4, tm9]; omega) | omega) ?_
    exact ⟨Or.inr ⟨rfl, Or.inr rfl⟩, by rw [decide_eq_true (Or.inl q1)]; rfl, rfl⟩
  · refine br_f (show ¬ (i < 0) by first | assumption | (simp (discharger := omega) only [i_lt, i_le, i_eq, bI_tz, decide_eq_false_iff_not, Int32.reduceToInt, nI_toInt, tm1, tm2, tm3, tm4, tm9]; done) | (simp (discharger := omega) only [i_lt, i_le, i_eq, bI_tz, decide_eq_false_iff_not, Int32.reduceToInt, nI_toInt, tm1, tm2, tm3, tm4, tm9]; omega) | omega) ?_
    by_cases q2 : n.toInt < 0
    · refine br_t ((cmp_lt _ _).mpr (by rw [wide, show (0 : Int64).toInt = 0 by decide]; exact q2)) ?_
      exact ⟨Or.inr ⟨rfl, Or.inr rfl⟩, by rw [decide_eq_true (Or.inr (Or.inl q2))]; rfl, rfl⟩
    · refine br_f (fun z => q2 (by have z := (cmp_lt _ _).mp z; rw [wide, show (0 : Int64).toInt = 0 by decide] at z; exact z)) ?_
      by_cases q3 : a.toInt < i.toInt + n.toInt
      · refine br_f (fun z => by have z := (cmp_le0 _ _).mp z; rw [wide, e] at z; omega) ?_
        exact ⟨Or.inr ⟨rfl, Or.inr rfl⟩, by rw [decide_eq_true (Or.inr (Or.inr q3))]; rfl, rfl⟩
      · refine br_t ((cmp_le0 _ _).mpr (by rw [wide, e]; omega)) ?_
        exact ⟨Or.inr ⟨rfl, Or.inl rfl⟩, by rw [bI_eq (by omega)], rfl⟩
theorem c_barred (hs : Shp h) (k lane i n : Int32) : Cc sc 146 [.ref 39, .int k, .int lane, .int i, .long n.toInt64] h (some (.int (tk (zI h 61) (zI h 62) k lane i n).1)) (if (tk (zI h 61) (zI h 62) k lane i n).1 = 0 then h else upI h 39 0 (tk (zI h 61) (zI h 62) k lane i n).2) := by
  unfold tk
  by_cases q1 : 0 ≤ k.toInt ∧ k.toInt < 4
  · rw [if_pos q1]
    obtain ⟨j, hj, rfl⟩ := i_of q1.1 (n := 4) q1.2 (by decide)
    have ij : inB (nI j) 4 = true := inB_nI hj (by decide)
    have ej : (nI j).toNatClampNeg = j := nI_clamp (by omega)
    rw [ej]
    by_cases q2 : 0 ≤ lane.toInt ∧ lane.toInt < 3
    · rw [if_pos q2]
      by_cases q3 : (zI h 61 j).toInt < 0
      · rw [if_pos q3]
        refine cc_nh (F := fun h => upI h 39 0 1) hs (cc_of 60 rfl rfl ?_)
        refine And.intro rfl (And.intro rfl (Exists.intro _ (Exists.intro _ (And.intro (c_noSheet _) ?_))))
        refine br_t (by first | assumption | (simp (discharger := omega) only [i_lt, i_le, i_eq, bI_tz, decide_eq_false_iff_not, Int32.reduceToInt, nI_toInt, tm1, tm2, tm3, tm4, tm9]; done) | (simp (discharger := omega) only [i_lt, i_le, i_eq, bI_tz, decide_eq_false_iff_not, Int32.reduceToInt, nI_toInt, tm1, tm2, tm3, tm4, tm9]; omega) | omega) ?_
        refine And.intro rfl (And.intro rfl (Exists.intro _ (Exists.intro _ (And.intro (c_in02 _) ?_))))
        refine br_t (by first | assumption | (simp (discharger := omega) only [i_lt, i_le, i_eq, bI_tz, decide_eq_false_iff_not, Int32.reduceToInt, nI_toInt, tm1, tm2, tm3, tm4, tm9]; done) | (simp (discharger := omega) only [i_lt, i_le, i_eq, bI_tz, decide_eq_false_iff_not, Int32.reduceToInt, nI_toInt, tm1, tm2, tm3, tm4, tm9]; omega) | omega) ?_
        refine And.intro rfl ?_
        refine And.intro (⟨rfl, ij⟩) ?_
        rw [ej]
        refine br_t (show zI h 61 j < 0 by first | assumption | (simp (discharger := omega) only [i_lt, i_le, i_eq, bI_tz, decide_eq_false_iff_not, Int32.reduceToInt, nI_toInt, tm1, tm2, tm3, tm4, tm9]; done) | (simp (discharger := omega) only [i_lt, i_le, i_eq, bI_tz, decide_eq_false_iff_not, Int32.reduceToInt, nI_toInt, tm1, tm2, tm3, tm4, tm9]; omega) | omega) ?_
        refine And.intro rfl ?_
        refine And.intro (⟨rfl, ij⟩) ?_
        rw [ej]
        refine br_f (show ¬ ((0 : Int32) ≤ zI h 61 j) by first | assumption | (simp (discharger := omega) only [i_lt, i_le, i_eq, bI_tz, decide_eq_false_iff_not, Int32.reduceToInt, nI_toInt, tm1, tm2, tm3, tm4, tm9]; done) | (simp (discharger := omega) only [i_lt, i_le, i_eq, bI_tz, decide_eq_false_iff_not, Int32.reduceToInt, nI_toInt, tm1, tm2, tm3, tm4, tm9]; omega) | omega) ?_
        refine And.intro ⟨rfl, rfl⟩ (And.intro rfl (Exists.intro _ (Exists.intro _ (And.intro (c_failed (h := nh h) (shp_nh hs) 1) ?_))))
        exact ⟨Or.inl rfl, rfl, rfl⟩
      · rw [if_neg q3]
        by_cases q4 : zI h 62 j = lane
        · rw [if_pos q4]
          by_cases q5 : n.toInt < 0
          · rw [if_pos q5]
            refine cc_nh (F := fun h => upI h 39 0 4) hs (cc_of 60 rfl rfl ?_)
            refine And.intro rfl (And.intro rfl (Exists.intro _ (Exists.intro _ (And.intro (c_noSheet _) ?_))))
            refine br_t (by first | assumption | (simp (discharger := omega) only [i_lt, i_le, i_eq, bI_tz, decide_eq_false_iff_not, Int32.reduceToInt, nI_toInt, tm1, tm2, tm3, tm4, tm9]; done) | (simp (discharger := omega) only [i_lt, i_le, i_eq, bI_tz, decide_eq_false_iff_not, Int32.reduceToInt, nI_toInt, tm1, tm2, tm3, tm4, tm9]; omega) | omega) ?_
            refine And.intro rfl (And.intro rfl (Exists.intro _ (Exists.intro _ (And.intro (c_in02 _) ?_))))
            refine br_t (by first | assumption | (simp (discharger := omega) only [i_lt, i_le, i_eq, bI_tz, decide_eq_false_iff_not, Int32.reduceToInt, nI_toInt, tm1, tm2, tm3, tm4, tm9]; done) | (simp (discharger := omega) only [i_lt, i_le, i_eq, bI_tz, decide_eq_false_iff_not, Int32.reduceToInt, nI_toInt, tm1, tm2, tm3, tm4, tm9]; omega) | omega) ?_
            refine And.intro rfl ?_
            refine And.intro (⟨rfl, ij⟩) ?_
            rw [ej]
            refine br_f (show ¬ (zI h 61 j < 0) by first | assumption | (simp (discharger := omega) only [i_lt, i_le, i_eq, bI_tz, decide_eq_false_iff_not, Int32.reduceToInt, nI_toInt, tm1, tm2, tm3, tm4, tm9]; done) | (simp (discharger := omega) only [i_lt, i_le, i_eq, bI_tz, decide_eq_false_iff_not, Int32.reduceToInt, nI_toInt, tm1, tm2, tm3, tm4, tm9]; omega) | omega) ?_
            refine And.intro rfl ?_
            refine And.intro (⟨rfl, ij⟩) ?_
            rw [ej]
            refine br_t q4 ?_
            refine And.intro rfl ?_
            refine And.intro (⟨rfl, ij⟩) ?_
            rw [ej]
            refine br_t (show (0 : Int32) ≤ zI h 61 j by first | assumption | (simp (discharger := omega) only [i_lt, i_le, i_eq, bI_tz, decide_eq_false_iff_not, Int32.reduceToInt, nI_toInt, tm1, tm2, tm3, tm4, tm9]; done) | (simp (discharger := omega) only [i_lt, i_le, i_eq, bI_tz, decide_eq_false_iff_not, Int32.reduceToInt, nI_toInt, tm1, tm2, tm3, tm4, tm9]; omega) | omega) ?_
            refine br_f (fun z => by have z := (cmp_ge0 _ _).mp z; rw [wide, show (0 : Int64).toInt = 0 by decide] at z; omega) ?_
            refine And.intro ⟨rfl, rfl⟩ (And.intro rfl (Exists.intro _ (Exists.intro _ (And.intro (c_failed (h := nh h) (shp_nh hs) 4) ?_))))
            exact ⟨Or.inl rfl, rfl, rfl⟩
          · rw [if_neg q5]
            by_cases q6 : i.toInt < 0 ∨ (zI h 61 j).toInt < i.toInt + n.toInt
            · rw [if_pos q6]
              refine cc_nh (F := fun h => upI h 39 0 3) hs (cc_of 60 rfl rfl ?_)
              refine And.intro rfl (And.intro rfl (Exists.intro _ (Exists.intro _ (And.intro (c_noSheet _) ?_))))
              refine br_t (by first | assumption | (simp (discharger := omega) only [i_lt, i_le, i_eq, bI_tz, decide_eq_false_iff_not, Int32.reduceToInt, nI_toInt, tm1, tm2, tm3, tm4, tm9]; done) | (simp (discharger := omega) only [i_lt, i_le, i_eq, bI_tz, decide_eq_false_iff_not, Int32.reduceToInt, nI_toInt, tm1, tm2, tm3, tm4, tm9]; omega) | omega) ?_
              refine And.intro rfl (And.intro rfl (Exists.intro _ (Exists.intro _ (And.intro (c_in02 _) ?_))))
              refine br_t (by first | assumption | (simp (discharger := omega) only [i_lt, i_le, i_eq, bI_tz, decide_eq_false_iff_not, Int32.reduceToInt, nI_toInt, tm1, tm2, tm3, tm4, tm9]; done) | (simp (discharger := omega) only [i_lt, i_le, i_eq, bI_tz, decide_eq_false_iff_not, Int32.reduceToInt, nI_toInt, tm1, tm2, tm3, tm4, tm9]; omega) | omega) ?_
              refine And.intro rfl ?_
              refine And.intro (⟨rfl, ij⟩) ?_
              rw [ej]
              refine br_f (show ¬ (zI h 61 j < 0) by first | assumption | (simp (discharger := omega) only [i_lt, i_le, i_eq, bI_tz, decide_eq_false_iff_not, Int32.reduceToInt, nI_toInt, tm1, tm2, tm3, tm4, tm9]; done) | (simp (discharger := omega) only [i_lt, i_le, i_eq, bI_tz, decide_eq_false_iff_not, Int32.reduceToInt, nI_toInt, tm1, tm2, tm3, tm4, tm9]; omega) | omega) ?_
              refine And.intro rfl ?_
              refine And.intro (⟨rfl, ij⟩) ?_
              rw [ej]
              refine br_t q4 ?_
              refine And.intro rfl ?_
              refine And.intro (⟨rfl, ij⟩) ?_
              rw [ej]
              refine br_t (show (0 : Int32) ≤ zI h 61 j by first | assumption | (simp (discharger := omega) only [i_lt, i_le, i_eq, bI_tz, decide_eq_false_iff_not, Int32.reduceToInt, nI_toInt, tm1, tm2, tm3, tm4, tm9]; done) | (simp (discharger := omega) only [i_lt, i_le, i_eq, bI_tz, decide_eq_false_iff_not, Int32.reduceToInt, nI_toInt, tm1, tm2, tm3, tm4, tm9]; omega) | omega) ?_
              refine br_t ((cmp_ge0 _ _).mpr (by rw [wide, show (0 : Int64).toInt = 0 by decide]; omega)) ?_
              refine And.intro rfl ?_
              refine And.intro (⟨rfl, ij⟩) ?_
              rw [ej]
              refine And.intro rfl (And.intro rfl (Exists.intro _ (Exists.intro _ (And.intro (c_isBeyond i n (zI h 61 j)) ?_))))
              refine br_f (by rw [bI_z, decide_eq_false_iff_not]; omega) ?_
              refine And.intro ⟨rfl, rfl⟩ (And.intro rfl (Exists.intro _ (Exists.intro _ (And.intro (c_failed (h := nh h) (shp_nh hs) 3) ?_))))
              exact ⟨Or.inl rfl, rfl, rfl⟩
            · rw [if_neg q6]
              refine cc_nh (F := fun h => h) hs (cc_of 60 rfl rfl ?_)
              refine And.intro rfl (And.intro rfl (Exists.intro _ (Exists.intro _ (And.intro (c_noSheet _) ?_))))
              refine br_t (by first | assumption | (simp (discharger := omega) only [i_lt, i_le, i_eq, bI_tz, decide_eq_false_iff_not, Int32.reduceToInt, nI_toInt, tm1, tm2, tm3, tm4, tm9]; done) | (simp (discharger := omega) only [i_lt, i_le, i_eq, bI_tz, decide_eq_false_iff_not, Int32.reduceToInt, nI_toInt, tm1, tm2, tm3, tm4, tm9]; omega) | omega) ?_
              refine And.intro rfl (And.intro rfl (Exists.intro _ (Exists.intro _ (And.intro (c_in02 _) ?_))))
              refine br_t (by first | assumption | (simp (discharger := omega) only [i_lt, i_le, i_eq, bI_tz, decide_eq_false_iff_not, Int32.reduceToInt, nI_toInt, tm1, tm2, tm3, tm4, tm9]; done) | (simp (discharger := omega) only [i_lt, i_le, i_eq, bI_tz, decide_eq_false_iff_not, Int32.reduceToInt, nI_toInt, tm1, tm2, tm3, tm4, tm9]; omega) | omega) ?_
              refine And.intro rfl ?_
              refine And.intro (⟨rfl, ij⟩) ?_
              rw [ej]
              refine br_f (show ¬ (zI h 61 j < 0) by first | assumption | (simp (discharger := omega) only [i_lt, i_le, i_eq, bI_tz, decide_eq_false_iff_not, Int32.reduceToInt, nI_toInt, tm1, tm2, tm3, tm4, tm9]; done) | (simp (discharger := omega) only [i_lt, i_le, i_eq, bI_tz, decide_eq_false_iff_not, Int32.reduceToInt, nI_toInt, tm1, tm2, tm3, tm4, tm9]; omega) | omega) ?_
              refine And.intro rfl ?_
              refine And.intro (⟨rfl, ij⟩) ?_
              rw [ej]
              refine br_t q4 ?_
              refine And.intro rfl ?_
              refine And.intro (⟨rfl, ij⟩) ?_
              rw [ej]
              refine br_t (show (0 : Int32) ≤ zI h 61 j by first | assumption | (simp (discharger := omega) only [i_lt, i_le, i_eq, bI_tz, decide_eq_false_iff_not, Int32.reduceToInt, nI_toInt, tm1, tm2, tm3, tm4, tm9]; done) | (simp (discharger := omega) only [i_lt, i_le, i_eq, bI_tz, decide_eq_false_iff_not, Int32.reduceToInt, nI_toInt, tm1, tm2, tm3, tm4, tm9]; omega) | omega) ?_
              refine br_t ((cmp_ge0 _ _).mpr (by rw [wide, show (0 : Int64).toInt = 0 by decide]; omega)) ?_
              refine And.intro rfl ?_
              refine And.intro (⟨rfl, ij⟩) ?_
              rw [ej]
              refine And.intro rfl (And.intro rfl (Exists.intro _ (Exists.intro _ (And.intro (c_isBeyond i n (zI h 61 j)) ?_))))
              refine br_t (by rw [bI_z, decide_eq_false_iff_not]; omega) ?_
              exact ⟨Or.inl rfl, rfl, rfl⟩
        · rw [if_neg q4]
          refine cc_nh (F := fun h => upI h 39 0 2) hs (cc_of 60 rfl rfl ?_)
          refine And.intro rfl (And.intro rfl (Exists.intro _ (Exists.intro _ (And.intro (c_noSheet _) ?_))))
          refine br_t (by first | assumption | (simp (discharger := omega) only [i_lt, i_le, i_eq, bI_tz, decide_eq_false_iff_not, Int32.reduceToInt, nI_toInt, tm1, tm2, tm3, tm4, tm9]; done) | (simp (discharger := omega) only [i_lt, i_le, i_eq, bI_tz, decide_eq_false_iff_not, Int32.reduceToInt, nI_toInt, tm1, tm2, tm3, tm4, tm9]; omega) | omega) ?_
          refine And.intro rfl (And.intro rfl (Exists.intro _ (Exists.intro _ (And.intro (c_in02 _) ?_))))
          refine br_t (by first | assumption | (simp (discharger := omega) only [i_lt, i_le, i_eq, bI_tz, decide_eq_false_iff_not, Int32.reduceToInt, nI_toInt, tm1, tm2, tm3, tm4, tm9]; done) | (simp (discharger := omega) only [i_lt, i_le, i_eq, bI_tz, decide_eq_false_iff_not, Int32.reduceToInt, nI_toInt, tm1, tm2, tm3, tm4, tm9]; omega) | omega) ?_
          refine And.intro rfl ?_
          refine And.intro (⟨rfl, ij⟩) ?_
          rw [ej]
          refine br_f (show ¬ (zI h 61 j < 0) by first | assumption | (simp (discharger := omega) only [i_lt, i_le, i_eq, bI_tz, decide_eq_false_iff_not, Int32.reduceToInt, nI_toInt, tm1, tm2, tm3, tm4, tm9]; done) | (simp (discharger := omega) only [i_lt, i_le, i_eq, bI_tz, decide_eq_false_iff_not, Int32.reduceToInt, nI_toInt, tm1, tm2, tm3, tm4, tm9]; omega) | omega) ?_
          refine And.intro rfl ?_
          refine And.intro (⟨rfl, ij⟩) ?_
          rw [ej]
          refine br_f q4 ?_
          refine And.intro ⟨rfl, rfl⟩ (And.intro rfl (Exists.intro _ (Exists.intro _ (And.intro (c_failed (h := nh h) (shp_nh hs) 2) ?_))))
          exact ⟨Or.inl rfl, rfl, rfl⟩
    · rw [if_neg q2]
      refine cc_nh (F := fun h => upI h 39 0 0) hs (cc_of 60 rfl rfl ?_)
      refine And.intro rfl (And.intro rfl (Exists.intro _ (Exists.intro _ (And.intro (c_noSheet _) ?_))))
      refine br_t (by first | assumption | (simp (discharger := omega) only [i_lt, i_le, i_eq, bI_tz, decide_eq_false_iff_not, Int32.reduceToInt, nI_toInt, tm1, tm2, tm3, tm4, tm9]; done) | (simp (discharger := omega) only [i_lt, i_le, i_eq, bI_tz, decide_eq_false_iff_not, Int32.reduceToInt, nI_toInt, tm1, tm2, tm3, tm4, tm9]; omega) | omega) ?_
      refine And.intro rfl (And.intro rfl (Exists.intro _ (Exists.intro _ (And.intro (c_in02 _) ?_))))
      refine br_f (by first | assumption | (simp (discharger := omega) only [i_lt, i_le, i_eq, bI_tz, decide_eq_false_iff_not, Int32.reduceToInt, nI_toInt, tm1, tm2, tm3, tm4, tm9]; done) | (simp (discharger := omega) only [i_lt, i_le, i_eq, bI_tz, decide_eq_false_iff_not, Int32.reduceToInt, nI_toInt, tm1, tm2, tm3, tm4, tm9]; omega) | omega) ?_
      refine And.intro ⟨rfl, rfl⟩ (And.intro rfl (Exists.intro _ (Exists.intro _ (And.intro (c_refused (h := nh h) (shp_nh hs) (-2)) ?_))))
      exact ⟨Or.inl rfl, rfl, rfl⟩
  · rw [if_neg q1]
    refine cc_nh (F := fun h => upI h 39 0 0) hs (cc_of 60 rfl rfl ?_)
    refine And.intro rfl (And.intro rfl (Exists.intro _ (Exists.intro _ (And.intro (c_noSheet _) ?_))))
    refine br_f (by first | assumption | (simp (discharger := omega) only [i_lt, i_le, i_eq, bI_tz, decide_eq_false_iff_not, Int32.reduceToInt, nI_toInt, tm1, tm2, tm3, tm4, tm9]; done) | (simp (discharger := omega) only [i_lt, i_le, i_eq, bI_tz, decide_eq_false_iff_not, Int32.reduceToInt, nI_toInt, tm1, tm2, tm3, tm4, tm9]; omega) | omega) ?_
    refine And.intro ⟨rfl, rfl⟩ (And.intro rfl (Exists.intro _ (Exists.intro _ (And.intro (c_refused (h := nh h) (shp_nh hs) (-1)) ?_))))
    exact ⟨Or.inl rfl, rfl, rfl⟩
/-! sheet -/
theorem sheet_loop {k n : Nat} (hk : k < 4) (hn : n ≤ 60) (lane : Int32) : ∀ (d i : Nat) (x : Int32) (f : Nat → Int32), i + d = n → x = nI i → (∀ j, f j = if 60 * k ≤ j ∧ j < 60 * k + i then 0 else zI h 63 j) → Shp h → Rn sc (mtk 207) 65 [some (.ref 39), some (.int (nI k)), some (.int lane), some (.int (nI n)), some (.int x)] [] (rwI (nh h) 63 f) (some (.int 1)) (upI (rwI (nh h) 63 (fun j => if 60 * k ≤ j ∧ j < 60 * k + n then 0 else zI h 63 j)) 39 0 0) := by
  intro d
  induction d with
  | zero =>
    intro i x f hi hx hf hs
    refine bk_sound (cuts := []) 20 _ _ _ _ ?_
    refine br_t ?_ ?_
    · rw [hx, show i = n by omega]
      exact Int32.le_refl _
    · refine And.intro ⟨rfl, rfl⟩ (And.intro rfl (Exists.intro _ (Exists.intro _ (And.intro (c_refused (h := rwI (nh h) 63 f) (shp_nh hs) 1) ?_))))
      rw [show f = (fun j => if 60 * k ≤ j ∧ j < 60 * k + n then 0 else zI h 63 j) from funext fun j => by rw [hf j, show i = n by omega]]
      exact ⟨Or.inl rfl, rfl, rfl⟩
  | succ d ih =>
    intro i x f hi hx hf hs
    subst hx
    refine bk_sound (cuts := [65]) 30 _ _ _ _ ?_
    refine br_f (nI_ge (by omega) (by omega)) ?_
    have ei : (60 : Int32) * nI k + nI i = nI (60 * k + i) := by rw [show (60 : Int32) = nI 60 from rfl, pk_mul, nI_add]
    refine And.intro rfl ?_
    refine And.intro (⟨rfl, by rw [ei]; exact inB_nI (n := 240) (by omega) (by decide)⟩) ?_
    show Rn sc (mtk 207) 65 [some (.ref 39), some (.int (nI k)), some (.int lane), some (.int (nI n)), some (.int (nI i + Int32.ofInt 1))] [] (upI (rwI (nh h) 63 f) 63 ((60 : Int32) * nI k + nI i).toNatClampNeg 0) _ _
    rw [upI_rwI, ei, nI_clamp (by omega)]
    refine ih (i + 1) _ _ (by omega) (by rw [ofI1, nI_1]) (fun j => ?_) hs
    unfold upd
    rw [hf j]
    by_cases e1 : j = 60 * k + i
    · rw [if_pos e1, if_pos (by omega)]
    · rw [if_neg e1]
      by_cases e2 : 60 * k ≤ j ∧ j < 60 * k + i
      · rw [if_pos e2, if_pos (by omega)]
      · rw [if_neg e2, if_neg (by omega)]
end
