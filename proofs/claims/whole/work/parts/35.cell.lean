section
variable {sc : Nat × (Nat → Int32)} {h : Hp}
theorem op_cell (hS : Sim0 h) (k i lane : Int32) : Op0 sc 117 211 [.int k, .int i, .int lane] h := by
  have hs := hS.1
  by_cases q1 : (0 ≤ k.toInt ∧ k.toInt < 4) ∧ (0 ≤ lane.toInt ∧ lane.toInt < 3)
  · obtain ⟨q1, q2⟩ := q1
    obtain ⟨j, hj, rfl⟩ := i_of q1.1 (n := 4) q1.2 (by decide)
    have ij : inB (nI j) 4 = true := inB_nI hj (by decide)
    have ej : (nI j).toNatClampNeg = j := nI_clamp (by omega)
    obtain rfl | rfl | rfl | rfl : j = 0 ∨ j = 1 ∨ j = 2 ∨ j = 3 := by omega
    · have hr := hS.2.2.1 0 (by decide)
      obtain ⟨r1, r2⟩ := RowOK_ln hr
      have rs := RowOK_sz hr
      have kr : zK (nh h) 31 = 5 := rfl
      have hn := fun (v : Int32) => c_noCell (sc := sc) (h := upI (nh (upI h 1 7 v)) 39 0 0) (shp_nh hs) (k := 0) (by decide) i
      by_cases q3 : (zI h 61 0).toInt < 0
      · have e0 : zI (upI (nh h) 1 7 0) 31 0 = -9 := r1.mp q3
        refine ⟨.long (-9223372036854775808), upI h 1 7 1, upI (upI h 1 7 1) 39 0 1, ?_, ?_, fin_flt hS 1⟩
        · refine cc_nh (F := fun h => upI h 1 7 1) hs (cc_of 60 rfl rfl ?_)
          refine And.intro rfl ?_
          refine And.intro rfl (And.intro rfl (Exists.intro _ (Exists.intro _ (And.intro (c_isSheet _) ?_))))
          refine br_f (by first | assumption | (simp (discharger := omega) only [i_lt, i_le, i_eq, bI_tz, decide_eq_false_iff_not, Int32.reduceToInt, nI_toInt, tm1, tm2, tm3, tm4, tm9]; done) | (simp (discharger := omega) only [i_lt, i_le, i_eq, bI_tz, decide_eq_false_iff_not, Int32.reduceToInt, nI_toInt, tm1, tm2, tm3, tm4, tm9]; omega) | omega) ?_
          refine And.intro rfl (And.intro rfl (Exists.intro _ (Exists.intro _ (And.intro (c_isLane _) ?_))))
          refine br_t (by first | assumption | (simp (discharger := omega) only [i_lt, i_le, i_eq, bI_tz, decide_eq_false_iff_not, Int32.reduceToInt, nI_toInt, tm1, tm2, tm3, tm4, tm9]; done) | (simp (discharger := omega) only [i_lt, i_le, i_eq, bI_tz, decide_eq_false_iff_not, Int32.reduceToInt, nI_toInt, tm1, tm2, tm3, tm4, tm9]; omega) | omega) ?_
          refine And.intro rfl ?_
          refine And.intro (⟨rfl, ij⟩) ?_
          refine And.intro ⟨rfl, rfl⟩ (And.intro rfl (Exists.intro _ (Exists.intro _ (And.intro (c_takeRow (h := upI (nh h) 1 7 0) (a := 31) (shp_nh hs) kr lane) ?_))))
          rw [if_pos e0, if_pos e0, upI_upI]
          refine br_f (by decide) ?_
          exact ⟨trivial, rfl, rfl⟩
        · refine cc_nh (h := upI h 1 7 1) (F := fun h => upI h 39 0 1) hs (cc_of 60 rfl rfl ?_)
          refine And.intro rfl ?_
          refine And.intro rfl (And.intro rfl (Exists.intro _ (Exists.intro _ (And.intro (c_noSheet _) ?_))))
          refine br_f (by first | assumption | (simp (discharger := omega) only [i_lt, i_le, i_eq, bI_tz, decide_eq_false_iff_not, Int32.reduceToInt, nI_toInt, tm1, tm2, tm3, tm4, tm9]; done) | (simp (discharger := omega) only [i_lt, i_le, i_eq, bI_tz, decide_eq_false_iff_not, Int32.reduceToInt, nI_toInt, tm1, tm2, tm3, tm4, tm9]; omega) | omega) ?_
          refine And.intro rfl (And.intro rfl (Exists.intro _ (Exists.intro _ (And.intro (c_in02 _) ?_))))
          refine br_t (by first | assumption | (simp (discharger := omega) only [i_lt, i_le, i_eq, bI_tz, decide_eq_false_iff_not, Int32.reduceToInt, nI_toInt, tm1, tm2, tm3, tm4, tm9]; done) | (simp (discharger := omega) only [i_lt, i_le, i_eq, bI_tz, decide_eq_false_iff_not, Int32.reduceToInt, nI_toInt, tm1, tm2, tm3, tm4, tm9]; omega) | omega) ?_
          refine And.intro rfl ?_
          refine And.intro (⟨rfl, ij⟩) ?_
          refine br_t (show zI h 61 0 < 0 by first | assumption | (simp (discharger := omega) only [i_lt, i_le, i_eq, bI_tz, decide_eq_false_iff_not, Int32.reduceToInt, nI_toInt, tm1, tm2, tm3, tm4, tm9]; done) | (simp (discharger := omega) only [i_lt, i_le, i_eq, bI_tz, decide_eq_false_iff_not, Int32.reduceToInt, nI_toInt, tm1, tm2, tm3, tm4, tm9]; omega) | omega) ?_
          have hn := hn 1
          rw [show zI (upI (nh (upI h 1 7 1)) 39 0 0) 61 0 = zI h 61 0 from rfl, if_pos q3] at hn
          refine And.intro ⟨rfl, rfl⟩ (And.intro rfl (Exists.intro _ (Exists.intro _ (And.intro (hn) ?_))))
          refine br_f (by decide) ?_
          refine And.intro ⟨rfl, rfl⟩ (And.intro rfl (Exists.intro _ (Exists.intro _ (And.intro (hn) ?_))))
          refine And.intro ⟨rfl, rfl⟩ (And.intro rfl (Exists.intro _ (Exists.intro _ (And.intro (c_failedLong (h := upI (nh (upI h 1 7 1)) 39 0 0) (shp_nh hs) 1) ?_))))
          rw [upI_upI]
          exact ⟨trivial, rfl, rfl⟩
      · obtain ⟨r3, r4⟩ := r2 q3
        have e9 : ¬ zI (upI (nh h) 1 7 0) 31 0 = -9 := fun z => q3 (r1.mpr z)
        by_cases q4 : zI h 62 0 = lane
        · have e0 : zI (upI (nh h) 1 7 0) 31 0 = lane := r3.trans q4
          have e8 : zI (upI (nh h) 1 7 0) 31 1 = zI h 61 0 := r4
          have hl := c_lacks (sc := sc) (h := upI (nh h) 1 7 0) (a := 31) rfl i 1 (by decide) (by rw [e8]; omega)
          rw [e8, show (1 : Int32).toInt = 1 by decide] at hl
          by_cases q5 : 0 ≤ i.toInt ∧ i.toInt < (zI h 61 0).toInt
          · obtain ⟨m, hm, rfl⟩ := i_of (a := i) (n := 60) (by omega) (by omega) (by decide)
            have im : inB (nI m) 60 = true := inB_nI hm (by decide)
            have em : (nI m).toNatClampNeg = m := nI_clamp (by omega)
            have q5' := q5
            rw [nI_toInt (by omega)] at q5'
            have ez : zI h 32 m = zI h 63 (60 * 0 + m) := by
              rcases hr with ⟨z1, z2⟩ | ⟨n, ln, z1, z2, z3, z4, z5, z6, z7⟩
              · rw [z1] at q3
                exact absurd (by decide) q3
              · rw [z3, nI_toInt (by omega)] at q5'
                exact z7 m (by omega)
            refine ⟨.long (zI h 32 m).toInt64, upI h 1 7 0, upI (upI h 1 7 0) 39 0 0, ?_, ?_, fin_flt hS 0⟩
            · refine cc_nh (F := fun h => upI h 1 7 0) hs (cc_of 60 rfl rfl ?_)
              refine And.intro rfl ?_
              refine And.intro rfl (And.intro rfl (Exists.intro _ (Exists.intro _ (And.intro (c_isSheet _) ?_))))
              refine br_f (by first | assumption | (simp (discharger := omega) only [i_lt, i_le, i_eq, bI_tz, decide_eq_false_iff_not, Int32.reduceToInt, nI_toInt, tm1, tm2, tm3, tm4, tm9]; done) | (simp (discharger := omega) only [i_lt, i_le, i_eq, bI_tz, decide_eq_false_iff_not, Int32.reduceToInt, nI_toInt, tm1, tm2, tm3, tm4, tm9]; omega) | omega) ?_
              refine And.intro rfl (And.intro rfl (Exists.intro _ (Exists.intro _ (And.intro (c_isLane _) ?_))))
              refine br_t (by first | assumption | (simp (discharger := omega) only [i_lt, i_le, i_eq, bI_tz, decide_eq_false_iff_not, Int32.reduceToInt, nI_toInt, tm1, tm2, tm3, tm4, tm9]; done) | (simp (discharger := omega) only [i_lt, i_le, i_eq, bI_tz, decide_eq_false_iff_not, Int32.reduceToInt, nI_toInt, tm1, tm2, tm3, tm4, tm9]; omega) | omega) ?_
              refine And.intro rfl ?_
              refine And.intro (⟨rfl, ij⟩) ?_
              refine And.intro ⟨rfl, rfl⟩ (And.intro rfl (Exists.intro _ (Exists.intro _ (And.intro (c_takeRow (h := upI (nh h) 1 7 0) (a := 31) (shp_nh hs) kr lane) ?_))))
              rw [if_neg e9, if_neg e9, if_pos e0, if_pos e0]
              refine br_t (by rfl) ?_
              refine And.intro rfl ?_
              refine And.intro (⟨rfl, ij⟩) ?_
              refine And.intro ⟨rfl, rfl⟩ (And.intro rfl (Exists.intro _ (Exists.intro _ (And.intro (hl) ?_))))
              refine br_t (by rw [bI_z, decide_eq_false_iff_not]; omega) ?_
              refine And.intro rfl ?_
              refine And.intro (⟨rfl, ij⟩) ?_
              refine And.intro rfl ?_
              refine And.intro (⟨rfl, im⟩) ?_
              rw [em]
              exact ⟨trivial, rfl, rfl⟩
            · refine cc_nh (h := upI h 1 7 0) (F := fun h => upI h 39 0 0) hs (cc_of 60 rfl rfl ?_)
              refine And.intro rfl ?_
              refine And.intro rfl (And.intro rfl (Exists.intro _ (Exists.intro _ (And.intro (c_noSheet _) ?_))))
              refine br_f (by first | assumption | (simp (discharger := omega) only [i_lt, i_le, i_eq, bI_tz, decide_eq_false_iff_not, Int32.reduceToInt, nI_toInt, tm1, tm2, tm3, tm4, tm9]; done) | (simp (discharger := omega) only [i_lt, i_le, i_eq, bI_tz, decide_eq_false_iff_not, Int32.reduceToInt, nI_toInt, tm1, tm2, tm3, tm4, tm9]; omega) | omega) ?_
              refine And.intro rfl (And.intro rfl (Exists.intro _ (Exists.intro _ (And.intro (c_in02 _) ?_))))
              refine br_t (by first | assumption | (simp (discharger := omega) only [i_lt, i_le, i_eq, bI_tz, decide_eq_false_iff_not, Int32.reduceToInt, nI_toInt, tm1, tm2, tm3, tm4, tm9]; done) | (simp (discharger := omega) only [i_lt, i_le, i_eq, bI_tz, decide_eq_false_iff_not, Int32.reduceToInt, nI_toInt, tm1, tm2, tm3, tm4, tm9]; omega) | omega) ?_
              refine And.intro rfl ?_
              refine And.intro (⟨rfl, ij⟩) ?_
              refine br_f (show ¬ (zI h 61 0 < 0) by first | assumption | (simp (discharger := omega) only [i_lt, i_le, i_eq, bI_tz, decide_eq_false_iff_not, Int32.reduceToInt, nI_toInt, tm1, tm2, tm3, tm4, tm9]; done) | (simp (discharger := omega) only [i_lt, i_le, i_eq, bI_tz, decide_eq_false_iff_not, Int32.reduceToInt, nI_toInt, tm1, tm2, tm3, tm4, tm9]; omega) | omega) ?_
              refine And.intro rfl ?_
              refine And.intro (⟨rfl, ij⟩) ?_
              refine br_t q4 ?_
              have hn := hn 0
              rw [show zI (upI (nh (upI h 1 7 0)) 39 0 0) 61 0 = zI h 61 0 from rfl, if_neg q3, if_pos q5] at hn
              refine And.intro ⟨rfl, rfl⟩ (And.intro rfl (Exists.intro _ (Exists.intro _ (And.intro (hn) ?_))))
              refine br_t (by decide) ?_
              refine And.intro rfl ?_
              have ei : (60 : Int32) * nI 0 + nI m = nI (60 * 0 + m) := by rw [show (60 : Int32) = nI 60 from rfl, pk_mul, nI_add]
              refine And.intro (⟨rfl, by rw [ei]; exact inB_nI (n := 240) (by omega) (by decide)⟩) ?_
              rw [ei, nI_clamp (by omega), ez]
              exact ⟨trivial, rfl, rfl⟩
          · refine ⟨.long (-9223372036854775808), upI h 1 7 3, upI (upI h 1 7 3) 39 0 3, ?_, ?_, fin_flt hS 3⟩
            · refine cc_nh (F := fun h => upI h 1 7 3) hs (cc_of 60 rfl rfl ?_)
              refine And.intro rfl ?_
              refine And.intro rfl (And.intro rfl (Exists.intro _ (Exists.intro _ (And.intro (c_isSheet _) ?_))))
              refine br_f (by first | assumption | (simp (discharger := omega) only [i_lt, i_le, i_eq, bI_tz, decide_eq_false_iff_not, Int32.reduceToInt, nI_toInt, tm1, tm2, tm3, tm4, tm9]; done) | (simp (discharger := omega) only [i_lt, i_le, i_eq, bI_tz, decide_eq_false_iff_not, Int32.reduceToInt, nI_toInt, tm1, tm2, tm3, tm4, tm9]; omega) | omega) ?_
              refine And.intro rfl (And.intro rfl (Exists.intro _ (Exists.intro _ (And.intro (c_isLane _) ?_))))
              refine br_t (by first | assumption | (simp (discharger := omega) only [i_lt, i_le, i_eq, bI_tz, decide_eq_false_iff_not, Int32.reduceToInt, nI_toInt, tm1, tm2, tm3, tm4, tm9]; done) | (simp (discharger := omega) only [i_lt, i_le, i_eq, bI_tz, decide_eq_false_iff_not, Int32.reduceToInt, nI_toInt, tm1, tm2, tm3, tm4, tm9]; omega) | omega) ?_
              refine And.intro rfl ?_
              refine And.intro (⟨rfl, ij⟩) ?_
              refine And.intro ⟨rfl, rfl⟩ (And.intro rfl (Exists.intro _ (Exists.intro _ (And.intro (c_takeRow (h := upI (nh h) 1 7 0) (a := 31) (shp_nh hs) kr lane) ?_))))
              rw [if_neg e9, if_neg e9, if_pos e0, if_pos e0]
              refine br_t (by rfl) ?_
              refine And.intro rfl ?_
              refine And.intro (⟨rfl, ij⟩) ?_
              refine And.intro ⟨rfl, rfl⟩ (And.intro rfl (Exists.intro _ (Exists.intro _ (And.intro (hl) ?_))))
              refine br_f (by rw [bI_z, decide_eq_false_iff_not]; omega) ?_
              refine And.intro ⟨rfl, rfl⟩ (And.intro rfl (Exists.intro _ (Exists.intro _ (And.intro (c_faulty (h := upI (nh h) 1 7 0) (shp_nh hs) 3) ?_))))
              rw [upI_upI]
              exact ⟨trivial, rfl, rfl⟩
            · refine cc_nh (h := upI h 1 7 3) (F := fun h => upI h 39 0 3) hs (cc_of 60 rfl rfl ?_)
              refine And.intro rfl ?_
              refine And.intro rfl (And.intro rfl (Exists.intro _ (Exists.intro _ (And.intro (c_noSheet _) ?_))))
              refine br_f (by first | assumption | (simp (discharger := omega) only [i_lt, i_le, i_eq, bI_tz, decide_eq_false_iff_not, Int32.reduceToInt, nI_toInt, tm1, tm2, tm3, tm4, tm9]; done) | (simp (discharger := omega) only [i_lt, i_le, i_eq, bI_tz, decide_eq_false_iff_not, Int32.reduceToInt, nI_toInt, tm1, tm2, tm3, tm4, tm9]; omega) | omega) ?_
              refine And.intro rfl (And.intro rfl (Exists.intro _ (Exists.intro _ (And.intro (c_in02 _) ?_))))
              refine br_t (by first | assumption | (simp (discharger := omega) only [i_lt, i_le, i_eq, bI_tz, decide_eq_false_iff_not, Int32.reduceToInt, nI_toInt, tm1, tm2, tm3, tm4, tm9]; done) | (simp (discharger := omega) only [i_lt, i_le, i_eq, bI_tz, decide_eq_false_iff_not, Int32.reduceToInt, nI_toInt, tm1, tm2, tm3, tm4, tm9]; omega) | omega) ?_
              refine And.intro rfl ?_
              refine And.intro (⟨rfl, ij⟩) ?_
              refine br_f (show ¬ (zI h 61 0 < 0) by first | assumption | (simp (discharger := omega) only [i_lt, i_le, i_eq, bI_tz, decide_eq_false_iff_not, Int32.reduceToInt, nI_toInt, tm1, tm2, tm3, tm4, tm9]; done) | (simp (discharger := omega) only [i_lt, i_le, i_eq, bI_tz, decide_eq_false_iff_not, Int32.reduceToInt, nI_toInt, tm1, tm2, tm3, tm4, tm9]; omega) | omega) ?_
              refine And.intro rfl ?_
              refine And.intro (⟨rfl, ij⟩) ?_
              refine br_t q4 ?_
              have hn := hn 3
              rw [show zI (upI (nh (upI h 1 7 3)) 39 0 0) 61 0 = zI h 61 0 from rfl, if_neg q3, if_neg q5] at hn
              refine And.intro ⟨rfl, rfl⟩ (And.intro rfl (Exists.intro _ (Exists.intro _ (And.intro (hn) ?_))))
              refine br_f (by decide) ?_
              refine And.intro ⟨rfl, rfl⟩ (And.intro rfl (Exists.intro _ (Exists.intro _ (And.intro (hn) ?_))))
              refine And.intro ⟨rfl, rfl⟩ (And.intro rfl (Exists.intro _ (Exists.intro _ (And.intro (c_failedLong (h := upI (nh (upI h 1 7 3)) 39 0 0) (shp_nh hs) 3) ?_))))
              rw [upI_upI]
              exact ⟨trivial, rfl, rfl⟩
        · have e0 : ¬ zI (upI (nh h) 1 7 0) 31 0 = lane := fun z => q4 (r3.symm.trans z)
          refine ⟨.long (-9223372036854775808), upI h 1 7 2, upI (upI h 1 7 2) 39 0 2, ?_, ?_, fin_flt hS 2⟩
          · refine cc_nh (F := fun h => upI h 1 7 2) hs (cc_of 60 rfl rfl ?_)
            refine And.intro rfl ?_
            refine And.intro rfl (And.intro rfl (Exists.intro _ (Exists.intro _ (And.intro (c_isSheet _) ?_))))
            refine br_f (by first | assumption | (simp (discharger := omega) only [i_lt, i_le, i_eq, bI_tz, decide_eq_false_iff_not, Int32.reduceToInt, nI_toInt, tm1, tm2, tm3, tm4, tm9]; done) | (simp (discharger := omega) only [i_lt, i_le, i_eq, bI_tz, decide_eq_false_iff_not, Int32.reduceToInt, nI_toInt, tm1, tm2, tm3, tm4, tm9]; omega) | omega) ?_
            refine And.intro rfl (And.intro rfl (Exists.intro _ (Exists.intro _ (And.intro (c_isLane _) ?_))))
            refine br_t (by first | assumption | (simp (discharger := omega) only [i_lt, i_le, i_eq, bI_tz, decide_eq_false_iff_not, Int32.reduceToInt, nI_toInt, tm1, tm2, tm3, tm4, tm9]; done) | (simp (discharger := omega) only [i_lt, i_le, i_eq, bI_tz, decide_eq_false_iff_not, Int32.reduceToInt, nI_toInt, tm1, tm2, tm3, tm4, tm9]; omega) | omega) ?_
            refine And.intro rfl ?_
            refine And.intro (⟨rfl, ij⟩) ?_
            refine And.intro ⟨rfl, rfl⟩ (And.intro rfl (Exists.intro _ (Exists.intro _ (And.intro (c_takeRow (h := upI (nh h) 1 7 0) (a := 31) (shp_nh hs) kr lane) ?_))))
            rw [if_neg e9, if_neg e9, if_neg e0, if_neg e0, upI_upI]
            refine br_f (by decide) ?_
            exact ⟨trivial, rfl, rfl⟩
          · refine cc_nh (h := upI h 1 7 2) (F := fun h => upI h 39 0 2) hs (cc_of 60 rfl rfl ?_)
            refine And.intro rfl ?_
            refine And.intro rfl (And.intro rfl (Exists.intro _ (Exists.intro _ (And.intro (c_noSheet _) ?_))))
            refine br_f (by first | assumption | (simp (discharger := omega) only [i_lt, i_le, i_eq, bI_tz, decide_eq_false_iff_not, Int32.reduceToInt, nI_toInt, tm1, tm2, tm3, tm4, tm9]; done) | (simp (discharger := omega) only [i_lt, i_le, i_eq, bI_tz, decide_eq_false_iff_not, Int32.reduceToInt, nI_toInt, tm1, tm2, tm3, tm4, tm9]; omega) | omega) ?_
            refine And.intro rfl (And.intro rfl (Exists.intro _ (Exists.intro _ (And.intro (c_in02 _) ?_))))
            refine br_t (by first | assumption | (simp (discharger := omega) only [i_lt, i_le, i_eq, bI_tz, decide_eq_false_iff_not, Int32.reduceToInt, nI_toInt, tm1, tm2, tm3, tm4, tm9]; done) | (simp (discharger := omega) only [i_lt, i_le, i_eq, bI_tz, decide_eq_false_iff_not, Int32.reduceToInt, nI_toInt, tm1, tm2, tm3, tm4, tm9]; omega) | omega) ?_
            refine And.intro rfl ?_
            refine And.intro (⟨rfl, ij⟩) ?_
            refine br_f (show ¬ (zI h 61 0 < 0) by first | assumption | (simp (discharger := omega) only [i_lt, i_le, i_eq, bI_tz, decide_eq_false_iff_not, Int32.reduceToInt, nI_toInt, tm1, tm2, tm3, tm4, tm9]; done) | (simp (discharger := omega) only [i_lt, i_le, i_eq, bI_tz, decide_eq_false_iff_not, Int32.reduceToInt, nI_toInt, tm1, tm2, tm3, tm4, tm9]; omega) | omega) ?_
            refine And.intro rfl ?_
            refine And.intro (⟨rfl, ij⟩) ?_
            refine br_f q4 ?_
            refine And.intro ⟨rfl, rfl⟩ (And.intro rfl (Exists.intro _ (Exists.intro _ (And.intro (c_failedLong (h := upI (nh (upI h 1 7 2)) 39 0 0) (shp_nh hs) 2) ?_))))
            rw [upI_upI]
            exact ⟨trivial, rfl, rfl⟩
    · have hr := hS.2.2.1 1 (by decide)
      obtain ⟨r1, r2⟩ := RowOK_ln hr
      have rs := RowOK_sz hr
      have kr : zK (nh h) 33 = 5 := rfl
      have hn := fun (v : Int32) => c_noCell (sc := sc) (h := upI (nh (upI h 1 7 v)) 39 0 0) (shp_nh hs) (k := 1) (by decide) i
      by_cases q3 : (zI h 61 1).toInt < 0
      · have e0 : zI (upI (nh h) 1 7 0) 33 0 = -9 := r1.mp q3
        refine ⟨.long (-9223372036854775808), upI h 1 7 1, upI (upI h 1 7 1) 39 0 1, ?_, ?_, fin_flt hS 1⟩
        · refine cc_nh (F := fun h => upI h 1 7 1) hs (cc_of 60 rfl rfl ?_)
          refine And.intro rfl ?_
          refine And.intro rfl (And.intro rfl (Exists.intro _ (Exists.intro _ (And.intro (c_isSheet _) ?_))))
          refine br_f (by first | assumption | (simp (discharger := omega) only [i_lt, i_le, i_eq, bI_tz, decide_eq_false_iff_not, Int32.reduceToInt, nI_toInt, tm1, tm2, tm3, tm4, tm9]; done) | (simp (discharger := omega) only [i_lt, i_le, i_eq, bI_tz, decide_eq_false_iff_not, Int32.reduceToInt, nI_toInt, tm1, tm2, tm3, tm4, tm9]; omega) | omega) ?_
          refine And.intro rfl (And.intro rfl (Exists.intro _ (Exists.intro _ (And.intro (c_isLane _) ?_))))
          refine br_t (by first | assumption | (simp (discharger := omega) only [i_lt, i_le, i_eq, bI_tz, decide_eq_false_iff_not, Int32.reduceToInt, nI_toInt, tm1, tm2, tm3, tm4, tm9]; done) | (simp (discharger := omega) only [i_lt, i_le, i_eq, bI_tz, decide_eq_false_iff_not, Int32.reduceToInt, nI_toInt, tm1, tm2, tm3, tm4, tm9]; omega) | omega) ?_
          refine And.intro rfl ?_
          refine And.intro (⟨rfl, ij⟩) ?_
          refine And.intro ⟨rfl, rfl⟩ (And.intro rfl (Exists.intro _ (Exists.intro _ (And.intro (c_takeRow (h := upI (nh h) 1 7 0) (a := 33) (shp_nh hs) kr lane) ?_))))
          rw [if_pos e0, if_pos e0, upI_upI]
          refine br_f (by decide) ?_
          exact ⟨trivial, rfl, rfl⟩
        · refine cc_nh (h := upI h 1 7 1) (F := fun h => upI h 39 0 1) hs (cc_of 60 rfl rfl ?_)
          refine And.intro rfl ?_
          refine And.intro rfl (And.intro rfl (Exists.intro _ (Exists.intro _ (And.intro (c_noSheet _) ?_))))
          refine br_f (by first | assumption | (simp (discharger := omega) only [i_lt, i_le, i_eq, bI_tz, decide_eq_false_iff_not, Int32.reduceToInt, nI_toInt, tm1, tm2, tm3, tm4, tm9]; done) | (simp (discharger := omega) only [i_lt, i_le, i_eq, bI_tz, decide_eq_false_iff_not, Int32.reduceToInt, nI_toInt, tm1, tm2, tm3, tm4, tm9]; omega) | omega) ?_
          refine And.intro rfl (And.intro rfl (Exists.intro _ (Exists.intro _ (And.intro (c_in02 _) ?_))))
          refine br_t (by first | assumption | (simp (discharger := omega) only [i_lt, i_le, i_eq, bI_tz, decide_eq_false_iff_not, Int32.reduceToInt, nI_toInt, tm1, tm2, tm3, tm4, tm9]; done) | (simp (discharger := omega) only [i_lt, i_le, i_eq, bI_tz, decide_eq_false_iff_not, Int32.reduceToInt, nI_toInt, tm1, tm2, tm3, tm4, tm9]; omega) | omega) ?_
          refine And.intro rfl ?_
          refine And.intro (⟨rfl, ij⟩) ?_
          refine br_t (show zI h 61 1 < 0 by first | assumption | (simp (discharger := omega) only [i_lt, i_le, i_eq, bI_tz, decide_eq_false_iff_not, Int32.reduceToInt, nI_toInt, tm1, tm2, tm3, tm4, tm9]; done) | (simp (discharger := omega) only [i_lt, i_le, i_eq, bI_tz, decide_eq_false_iff_not, Int32.reduceToInt, nI_toInt, tm1, tm2, tm3, tm4, tm9]; omega) | omega) ?_
          have hn := hn 1
          rw [show zI (upI (nh (upI h 1 7 1)) 39 0 0) 61 1 = zI h 61 1 from rfl, if_pos q3] at hn
          refine And.intro ⟨rfl, rfl⟩ (And.intro rfl (Exists.intro _ (Exists.intro _ (And.intro (hn) ?_))))
          refine br_f (by decide) ?_
          refine And.intro ⟨rfl, rfl⟩ (And.intro rfl (Exists.intro _ (Exists.intro _ (And.intro (hn) ?_))))
          refine And.intro ⟨rfl, rfl⟩ (And.intro rfl (Exists.intro _ (Exists.intro _ (And.intro (c_failedLong (h := upI (nh (upI h 1 7 1)) 39 0 0) (shp_nh hs) 1) ?_))))
          rw [upI_upI]
          exact ⟨trivial, rfl, rfl⟩
      · obtain ⟨r3, r4⟩ := r2 q3
        have e9 : ¬ zI (upI (nh h) 1 7 0) 33 0 = -9 := fun z => q3 (r1.mpr z)
        by_cases q4 : zI h 62 1 = lane
        · have e0 : zI (upI (nh h) 1 7 0) 33 0 = lane := r3.trans q4
          have e8 : zI (upI (nh h) 1 7 0) 33 1 = zI h 61 1 := r4
          have hl := c_lacks (sc := sc) (h := upI (nh h) 1 7 0) (a := 33) rfl i 1 (by decide) (by rw [e8]; omega)
          rw [e8, show (1 : Int32).toInt = 1 by decide] at hl
          by_cases q5 : 0 ≤ i.toInt ∧ i.toInt < (zI h 61 1).toInt
          · obtain ⟨m, hm, rfl⟩ := i_of (a := i) (n := 60) (by omega) (by omega) (by decide)
            have im : inB (nI m) 60 = true := inB_nI hm (by decide)
            have em : (nI m).toNatClampNeg = m := nI_clamp (by omega)
            have q5' := q5
            rw [nI_toInt (by omega)] at q5'
            have ez : zI h 34 m = zI h 63 (60 * 1 + m) := by
              rcases hr with ⟨z1, z2⟩ | ⟨n, ln, z1, z2, z3, z4, z5, z6, z7⟩
              · rw [z1] at q3
                exact absurd (by decide) q3
              · rw [z3, nI_toInt (by omega)] at q5'
                exact z7 m (by omega)
            refine ⟨.long (zI h 34 m).toInt64, upI h 1 7 0, upI (upI h 1 7 0) 39 0 0, ?_, ?_, fin_flt hS 0⟩
            · refine cc_nh (F := fun h => upI h 1 7 0) hs (cc_of 60 rfl rfl ?_)
              refine And.intro rfl ?_
              refine And.intro rfl (And.intro rfl (Exists.intro _ (Exists.intro _ (And.intro (c_isSheet _) ?_))))
              refine br_f (by first | assumption | (simp (discharger := omega) only [i_lt, i_le, i_eq, bI_tz, decide_eq_false_iff_not, Int32.reduceToInt, nI_toInt, tm1, tm2, tm3, tm4, tm9]; done) | (simp (discharger := omega) only [i_lt, i_le, i_eq, bI_tz, decide_eq_false_iff_not, Int32.reduceToInt, nI_toInt, tm1, tm2, tm3, tm4, tm9]; omega) | omega) ?_
              refine And.intro rfl (And.intro rfl (Exists.intro _ (Exists.intro _ (And.intro (c_isLane _) ?_))))
              refine br_t (by first | assumption | (simp (discharger := omega) only [i_lt, i_le, i_eq, bI_tz, decide_eq_false_iff_not, Int32.reduceToInt, nI_toInt, tm1, tm2, tm3, tm4, tm9]; done) | (simp (discharger := omega) only [i_lt, i_le, i_eq, bI_tz, decide_eq_false_iff_not, Int32.reduceToInt, nI_toInt, tm1, tm2, tm3, tm4, tm9]; omega) | omega) ?_
              refine And.intro rfl ?_
              refine And.intro (⟨rfl, ij⟩) ?_
              refine And.intro ⟨rfl, rfl⟩ (And.intro rfl (Exists.intro _ (Exists.intro _ (And.intro (c_takeRow (h := upI (nh h) 1 7 0) (a := 33) (shp_nh hs) kr lane) ?_))))
              rw [if_neg e9, if_neg e9, if_pos e0, if_pos e0]
              refine br_t (by rfl) ?_
              refine And.intro rfl ?_
              refine And.intro (⟨rfl, ij⟩) ?_
              refine And.intro ⟨rfl, rfl⟩ (And.intro rfl (Exists.intro _ (Exists.intro _ (And.intro (hl) ?_))))
              refine br_t (by rw [bI_z, decide_eq_false_iff_not]; omega) ?_
              refine And.intro rfl ?_
              refine And.intro (⟨rfl, ij⟩) ?_
              refine And.intro rfl ?_
              refine And.intro (⟨rfl, im⟩) ?_
              rw [em]
              exact ⟨trivial, rfl, rfl⟩
            · refine cc_nh (h := upI h 1 7 0) (F := fun h => upI h 39 0 0) hs (cc_of 60 rfl rfl ?_)
              refine And.intro rfl ?_
              refine And.intro rfl (And.intro rfl (Exists.intro _ (Exists.intro _ (And.intro (c_noSheet _) ?_))))
              refine br_f (by first | assumption | (simp (discharger := omega) only [i_lt, i_le, i_eq, bI_tz, decide_eq_false_iff_not, Int32.reduceToInt, nI_toInt, tm1, tm2, tm3, tm4, tm9]; done) | (simp (discharger := omega) only [i_lt, i_le, i_eq, bI_tz, decide_eq_false_iff_not, Int32.reduceToInt, nI_toInt, tm1, tm2, tm3, tm4, tm9]; omega) | omega) ?_
              refine And.intro rfl (And.intro rfl (Exists.intro _ (Exists.intro _ (And.intro (c_in02 _) ?_))))
              refine br_t (by first | assumption | (simp (discharger := omega) only [i_lt, i_le, i_eq, bI_tz, decide_eq_false_iff_not, Int32.reduceToInt, nI_toInt, tm1, tm2, tm3, tm4, tm9]; done) | (simp (discharger := omega) only [i_lt, i_le, i_eq, bI_tz, decide_eq_false_iff_not, Int32.reduceToInt, nI_toInt, tm1, tm2, tm3, tm4, tm9]; omega) | omega) ?_
              refine And.intro rfl ?_
              refine And.intro (⟨rfl, ij⟩) ?_
              refine br_f (show ¬ (zI h 61 1 < 0) by first | assumption | (simp (discharger := omega) only [i_lt, i_le, i_eq, bI_tz, decide_eq_false_iff_not, Int32.reduceToInt, nI_toInt, tm1, tm2, tm3, tm4, tm9]; done) | (simp (discharger := omega) only [i_lt, i_le, i_eq, bI_tz, decide_eq_false_iff_not, Int32.reduceToInt, nI_toInt, tm1, tm2, tm3, tm4, tm9]; omega) | omega) ?_
              refine And.intro rfl ?_
              refine And.intro (⟨rfl, ij⟩) ?_
              refine br_t q4 ?_
              have hn := hn 0
              rw [show zI (upI (nh (upI h 1 7 0)) 39 0 0) 61 1 = zI h 61 1 from rfl, if_neg q3, if_pos q5] at hn
              refine And.intro ⟨rfl, rfl⟩ (And.intro rfl (Exists.intro _ (Exists.intro _ (And.intro (hn) ?_))))
              refine br_t (by decide) ?_
              refine And.intro rfl ?_
              have ei : (60 : Int32) * nI 1 + nI m = nI (60 * 1 + m) := by rw [show (60 : Int32) = nI 60 from rfl, pk_mul, nI_add]
              refine And.intro (⟨rfl, by rw [ei]; exact inB_nI (n := 240) (by omega) (by decide)⟩) ?_
              rw [ei, nI_clamp (by omega), ez]
              exact ⟨trivial, rfl, rfl⟩
          · refine ⟨.long (-9223372036854775808), upI h 1 7 3, upI (upI h 1 7 3) 39 0 3, ?_, ?_, fin_flt hS 3⟩
            · refine cc_nh (F := fun h => upI h 1 7 3) hs (cc_of 60 rfl rfl ?_)
              refine And.intro rfl ?_
              refine And.intro rfl (And.intro rfl (Exists.intro _ (Exists.intro _ (And.intro (c_isSheet _) ?_))))
              refine br_f (by first | assumption | (simp (discharger := omega) only [i_lt, i_le, i_eq, bI_tz, decide_eq_false_iff_not, Int32.reduceToInt, nI_toInt, tm1, tm2, tm3, tm4, tm9]; done) | (simp (discharger := omega) only [i_lt, i_le, i_eq, bI_tz, decide_eq_false_iff_not, Int32.reduceToInt, nI_toInt, tm1, tm2, tm3, tm4, tm9]; omega) | omega) ?_
              refine And.intro rfl (And.intro rfl (Exists.intro _ (Exists.intro _ (And.intro (c_isLane _) ?_))))
              refine br_t (by first | assumption | (simp (discharger := omega) only [i_lt, i_le, i_eq, bI_tz, decide_eq_false_iff_not, Int32.reduceToInt, nI_toInt, tm1, tm2, tm3, tm4, tm9]; done) | (simp (discharger := omega) only [i_lt, i_le, i_eq, bI_tz, decide_eq_false_iff_not, Int32.reduceToInt, nI_toInt, tm1, tm2, tm3, tm4, tm9]; omega) | omega) ?_
              refine And.intro rfl ?_
              refine And.intro (⟨rfl, ij⟩) ?_
              refine And.intro ⟨rfl, rfl⟩ (And.intro rfl (Exists.intro _ (Exists.intro _ (And.intro (c_takeRow (h := upI (nh h) 1 7 0) (a := 33) (shp_nh hs) kr lane) ?_))))
              rw [if_neg e9, if_neg e9, if_pos e0, if_pos e0]
              refine br_t (by rfl) ?_
              refine And.intro rfl ?_
              refine And.intro (⟨rfl, ij⟩) ?_
              refine And.intro ⟨rfl, rfl⟩ (And.intro rfl (Exists.intro _ (Exists.intro _ (And.intro (hl) ?_))))
              refine br_f (by rw [bI_z, decide_eq_false_iff_not]; omega) ?_
              refine And.intro ⟨rfl, rfl⟩ (And.intro rfl (Exists.intro _ (Exists.intro _ (And.intro (c_faulty (h := upI (nh h) 1 7 0) (shp_nh hs) 3) ?_))))
              rw [upI_upI]
              exact ⟨trivial, rfl, rfl⟩
            · refine cc_nh (h := upI h 1 7 3) (F := fun h => upI h 39 0 3) hs (cc_of 60 rfl rfl ?_)
              refine And.intro rfl ?_
              refine And.intro rfl (And.intro rfl (Exists.intro _ (Exists.intro _ (And.intro (c_noSheet _) ?_))))
              refine br_f (by first | assumption | (simp (discharger := omega) only [i_lt, i_le, i_eq, bI_tz, decide_eq_false_iff_not, Int32.reduceToInt, nI_toInt, tm1, tm2, tm3, tm4, tm9]; done) | (simp (discharger := omega) only [i_lt, i_le, i_eq, bI_tz, decide_eq_false_iff_not, Int32.reduceToInt, nI_toInt, tm1, tm2, tm3, tm4, tm9]; omega) | omega) ?_
              refine And.intro rfl (And.intro rfl (Exists.intro _ (Exists.intro _ (And.intro (c_in02 _) ?_))))
              refine br_t (by first | assumption | (simp (discharger := omega) only [i_lt, i_le, i_eq, bI_tz, decide_eq_false_iff_not, Int32.reduceToInt, nI_toInt, tm1, tm2, tm3, tm4, tm9]; done) | (simp (discharger := omega) only [i_lt, i_le, i_eq, bI_tz, decide_eq_false_iff_not, Int32.reduceToInt, nI_toInt, tm1, tm2, tm3, tm4, tm9]; omega) | omega) ?_
              refine And.intro rfl ?_
              refine And.intro (⟨rfl, ij⟩) ?_
              refine br_f (show ¬ (zI h 61 1 < 0) by first | assumption | (simp (discharger := omega) only [i_lt, i_le, i_eq, bI_tz, decide_eq_false_iff_not, Int32.reduceToInt, nI_toInt, tm1, tm2, tm3, tm4, tm9]; done) | (simp (discharger := omega) only [i_lt, i_le, i_eq, bI_tz, decide_eq_false_iff_not, Int32.reduceToInt, nI_toInt, tm1, tm2, tm3, tm4, tm9]; omega) | omega) ?_
              refine And.intro rfl ?_
              refine And.intro (⟨rfl, ij⟩) ?_
              refine br_t q4 ?_
              have hn := hn 3
              rw [show zI (upI (nh (upI h 1 7 3)) 39 0 0) 61 1 = zI h 61 1 from rfl, if_neg q3, if_neg q5] at hn
              refine And.intro ⟨rfl, rfl⟩ (And.intro rfl (Exists.intro _ (Exists.intro _ (And.intro (hn) ?_))))
              refine br_f (by decide) ?_
              refine And.intro ⟨rfl, rfl⟩ (And.intro rfl (Exists.intro _ (Exists.intro _ (And.intro (hn) ?_))))
              refine And.intro ⟨rfl, rfl⟩ (And.intro rfl (Exists.intro _ (Exists.intro _ (And.intro (c_failedLong (h := upI (nh (upI h 1 7 3)) 39 0 0) (shp_nh hs) 3) ?_))))
              rw [upI_upI]
              exact ⟨trivial, rfl, rfl⟩
        · have e0 : ¬ zI (upI (nh h) 1 7 0) 33 0 = lane := fun z => q4 (r3.symm.trans z)
          refine ⟨.long (-9223372036854775808), upI h 1 7 2, upI (upI h 1 7 2) 39 0 2, ?_, ?_, fin_flt hS 2⟩
          · refine cc_nh (F := fun h => upI h 1 7 2) hs (cc_of 60 rfl rfl ?_)
            refine And.intro rfl ?_
            refine And.intro rfl (And.intro rfl (Exists.intro _ (Exists.intro _ (And.intro (c_isSheet _) ?_))))
            refine br_f (by first | assumption | (simp (discharger := omega) only [i_lt, i_le, i_eq, bI_tz, decide_eq_false_iff_not, Int32.reduceToInt, nI_toInt, tm1, tm2, tm3, tm4, tm9]; done) | (simp (discharger := omega) only [i_lt, i_le, i_eq, bI_tz, decide_eq_false_iff_not, Int32.reduceToInt, nI_toInt, tm1, tm2, tm3, tm4, tm9]; omega) | omega) ?_
            refine And.intro rfl (And.intro rfl (Exists.intro _ (Exists.intro _ (And.intro (c_isLane _) ?_))))
            refine br_t (by first | assumption | (simp (discharger := omega) only [i_lt, i_le, i_eq, bI_tz, decide_eq_false_iff_not, Int32.reduceToInt, nI_toInt, tm1, tm2, tm3, tm4, tm9]; done) | (simp (discharger := omega) only [i_lt, i_le, i_eq, bI_tz, decide_eq_false_iff_not, Int32.reduceToInt, nI_toInt, tm1, tm2, tm3, tm4, tm9]; omega) | omega) ?_
            refine And.intro rfl ?_
            refine And.intro (⟨rfl, ij⟩) ?_
            refine And.intro ⟨rfl, rfl⟩ (And.intro rfl (Exists.intro _ (Exists.intro _ (And.intro (c_takeRow (h := upI (nh h) 1 7 0) (a := 33) (shp_nh hs) kr lane) ?_))))
            rw [if_neg e9, if_neg e9, if_neg e0, if_neg e0, upI_upI]
            refine br_f (by decide) ?_
            exact ⟨trivial, rfl, rfl⟩
          · refine cc_nh (h := upI h 1 7 2) (F := fun h => upI h 39 0 2) hs (cc_of 60 rfl rfl ?_)
            refine And.intro rfl ?_
            refine And.intro rfl (And.intro rfl (Exists.intro _ (Exists.intro _ (And.intro (c_noSheet _) ?_))))
            refine br_f (by first | assumption | (simp (discharger := omega) only [i_lt, i_le, i_eq, bI_tz, decide_eq_false_iff_not, Int32.reduceToInt, nI_toInt, tm1, tm2, tm3, tm4, tm9]; done) | (simp (discharger := omega) only [i_lt, i_le, i_eq, bI_tz, decide_eq_false_iff_not, Int32.reduceToInt, nI_toInt, tm1, tm2, tm3, tm4, tm9]; omega) | omega) ?_
            refine And.intro rfl (And.intro rfl (Exists.intro _ (Exists.intro _ (And.intro (c_in02 _) ?_))))
            refine br_t (by first | assumption | (simp (discharger := omega) only [i_lt, i_le, i_eq, bI_tz, decide_eq_false_iff_not, Int32.reduceToInt, nI_toInt, tm1, tm2, tm3, tm4, tm9]; done) | (simp (discharger := omega) only [i_lt, i_le, i_eq, bI_tz, decide_eq_false_iff_not, Int32.reduceToInt, nI_toInt, tm1, tm2, tm3, tm4, tm9]; omega) | omega) ?_
            refine And.intro rfl ?_
            refine And.intro (⟨rfl, ij⟩) ?_
            refine br_f (show ¬ (zI h 61 1 < 0) by first | assumption | (simp (discharger := omega) only [i_lt, i_le, i_eq, bI_tz, decide_eq_false_iff_not, Int32.reduceToInt, nI_toInt, tm1, tm2, tm3, tm4, tm9]; done) | (simp (discharger := omega) only [i_lt, i_le, i_eq, bI_tz, decide_eq_false_iff_not, Int32.reduceToInt, nI_toInt, tm1, tm2, tm3, tm4, tm9]; omega) | omega) ?_
            refine And.intro rfl ?_
            refine And.intro (⟨rfl, ij⟩) ?_
            refine br_f q4 ?_
            refine And.intro ⟨rfl, rfl⟩ (And.intro rfl (Exists.intro _ (Exists.intro _ (And.intro (c_failedLong (h := upI (nh (upI h 1 7 2)) 39 0 0) (shp_nh hs) 2) ?_))))
            rw [upI_upI]
            exact ⟨trivial, rfl, rfl⟩
    · have hr := hS.2.2.1 2 (by decide)
      obtain ⟨r1, r2⟩ := RowOK_ln hr
      have rs := RowOK_sz hr
      have kr : zK (nh h) 35 = 5 := rfl
      have hn := fun (v : Int32) => c_noCell (sc := sc) (h := upI (nh (upI h 1 7 v)) 39 0 0) (shp_nh hs) (k := 2) (by decide) i
      by_cases q3 : (zI h 61 2).toInt < 0
      · have e0 : zI (upI (nh h) 1 7 0) 35 0 = -9 := r1.mp q3
        refine ⟨.long (-9223372036854775808), upI h 1 7 1, upI (upI h 1 7 1) 39 0 1, ?_, ?_, fin_flt hS 1⟩
        · refine cc_nh (F := fun h => upI h 1 7 1) hs (cc_of 60 rfl rfl ?_)
          refine And.intro rfl ?_
          refine And.intro rfl (And.intro rfl (Exists.intro _ (Exists.intro _ (And.intro (c_isSheet _) ?_))))
          refine br_f (by first | assumption | (simp (discharger := omega) only [i_lt, i_le, i_eq, bI_tz, decide_eq_false_iff_not, Int32.reduceToInt, nI_toInt, tm1, tm2, tm3, tm4, tm9]; done) | (simp (discharger := omega) only [i_lt, i_le, i_eq, bI_tz, decide_eq_false_iff_not, Int32.reduceToInt, nI_toInt, tm1, tm2, tm3, tm4, tm9]; omega) | omega) ?_
          refine And.intro rfl (And.intro rfl (Exists.intro _ (Exists.intro _ (And.intro (c_isLane _) ?_))))
          refine br_t (by first | assumption | (simp (discharger := omega) only [i_lt, i_le, i_eq, bI_tz, decide_eq_false_iff_not, Int32.reduceToInt, nI_toInt, tm1, tm2, tm3, tm4, tm9]; done) | (simp (discharger := omega) only [i_lt, i_le, i_eq, bI_tz, decide_eq_false_iff_not, Int32.reduceToInt, nI_toInt, tm1, tm2, tm3, tm4, tm9]; omega) | omega) ?_
          refine And.intro rfl ?_
          refine And.intro (⟨rfl, ij⟩) ?_
          refine And.intro ⟨rfl, rfl⟩ (And.intro rfl (Exists.intro _ (Exists.intro _ (And.intro (c_takeRow (h := upI (nh h) 1 7 0) (a := 35) (shp_nh hs) kr lane) ?_))))
          rw [if_pos e0, if_pos e0, upI_upI]
          refine br_f (by decide) ?_
          exact ⟨trivial, rfl, rfl⟩
        · refine cc_nh (h := upI h 1 7 1) (F := fun h => upI h 39 0 1) hs (cc_of 60 rfl rfl ?_)
          refine And.intro rfl ?_
          refine And.intro rfl (And.intro rfl (Exists.intro _ (Exists.intro _ (And.intro (c_noSheet _) ?_))))
          refine br_f (by first | assumption | (simp (discharger := omega) only [i_lt, i_le, i_eq, bI_tz, decide_eq_false_iff_not, Int32.reduceToInt, nI_toInt, tm1, tm2, tm3, tm4, tm9]; done) | (simp (discharger := omega) only [i_lt, i_le, i_eq, bI_tz, decide_eq_false_iff_not, Int32.reduceToInt, nI_toInt, tm1, tm2, tm3, tm4, tm9]; omega) | omega) ?_
          refine And.intro rfl (And.intro rfl (Exists.intro _ (Exists.intro _ (And.intro (c_in02 _) ?_))))
          refine br_t (by first | assumption | (simp (discharger := omega) only [i_lt, i_le, i_eq, bI_tz, decide_eq_false_iff_not, Int32.reduceToInt, nI_toInt, tm1, tm2, tm3, tm4, tm9]; done) | (simp (discharger := omega) only [i_lt, i_le, i_eq, bI_tz, decide_eq_false_iff_not, Int32.reduceToInt, nI_toInt, tm1, tm2, tm3, tm4, tm9]; omega) | omega) ?_
          refine And.intro rfl ?_
          refine And.intro (⟨rfl, ij⟩) ?_
          refine br_t (show zI h 61 2 < 0 by first | assumption | (simp (discharger := omega) only [i_lt, i_le, i_eq, bI_tz, decide_eq_false_iff_not, Int32.reduceToInt, nI_toInt, tm1, tm2, tm3, tm4, tm9]; done) | (simp (discharger := omega) only [i_lt, i_le, i_eq, bI_tz, decide_eq_false_iff_not, Int32.reduceToInt, nI_toInt, tm1, tm2, tm3, tm4, tm9]; omega) | omega) ?_
          have hn := hn 1
          rw [show zI (upI (nh (upI h 1 7 1)) 39 0 0) 61 2 = zI h 61 2 from rfl, if_pos q3] at hn
          refine And.intro ⟨rfl, rfl⟩ (And.intro rfl (Exists.intro _ (Exists.intro _ (And.intro (hn) ?_))))
          refine br_f (by decide) ?_
          refine And.intro ⟨rfl, rfl⟩ (And.intro rfl (Exists.intro _ (Exists.intro _ (And.intro (hn) ?_))))
          refine And.intro ⟨rfl, rfl⟩ (And.intro rfl (Exists.intro _ (Exists.intro _ (And.intro (c_failedLong (h := upI (nh (upI h 1 7 1)) 39 0 0) (shp_nh hs) 1) ?_))))
          rw [upI_upI]
          exact ⟨trivial, rfl, rfl⟩
      · obtain ⟨r3, r4⟩ := r2 q3
        have e9 : ¬ zI (upI (nh h) 1 7 0) 35 0 = -9 := fun z => q3 (r1.mpr z)
        by_cases q4 : zI h 62 2 = lane
        · have e0 : zI (upI (nh h) 1 7 0) 35 0 = lane := r3.trans q4
          have e8 : zI (upI (nh h) 1 7 0) 35 1 = zI h 61 2 := r4
          have hl := c_lacks (sc := sc) (h := upI (nh h) 1 7 0) (a := 35) rfl i 1 (by decide) (by rw [e8]; omega)
          rw [e8, show (1 : Int32).toInt = 1 by decide] at hl
          by_cases q5 : 0 ≤ i.toInt ∧ i.toInt < (zI h 61 2).toInt
          · obtain ⟨m, hm, rfl⟩ := i_of (a := i) (n := 60) (by omega) (by omega) (by decide)
            have im : inB (nI m) 60 = true := inB_nI hm (by decide)
            have em : (nI m).toNatClampNeg = m := nI_clamp (by omega)
            have q5' := q5
            rw [nI_toInt (by omega)] at q5'
            have ez : zI h 36 m = zI h 63 (60 * 2 + m) := by
              rcases hr with ⟨z1, z2⟩ | ⟨n, ln, z1, z2, z3, z4, z5, z6, z7⟩
              · rw [z1] at q3
                exact absurd (by decide) q3
              · rw [z3, nI_toInt (by omega)] at q5'
                exact z7 m (by omega)
            refine ⟨.long (zI h 36 m).toInt64, upI h 1 7 0, upI (upI h 1 7 0) 39 0 0, ?_, ?_, fin_flt hS 0⟩
            · refine cc_nh (F := fun h => upI h 1 7 0) hs (cc_of 60 rfl rfl ?_)
              refine And.intro rfl ?_
              refine And.intro rfl (And.intro rfl (Exists.intro _ (Exists.intro _ (And.intro (c_isSheet _) ?_))))
              refine br_f (by first | assumption | (simp (discharger := omega) only [i_lt, i_le, i_eq, bI_tz, decide_eq_false_iff_not, Int32.reduceToInt, nI_toInt, tm1, tm2, tm3, tm4, tm9]; done) | (simp (discharger := omega) only [i_lt, i_le, i_eq, bI_tz, decide_eq_false_iff_not, Int32.reduceToInt, nI_toInt, tm1, tm2, tm3, tm4, tm9]; omega) | omega) ?_
              refine And.intro rfl (And.intro rfl (Exists.intro _ (Exists.intro _ (And.intro (c_isLane _) ?_))))
              refine br_t (by first | assumption | (simp (discharger := omega) only [i_lt, i_le, i_eq, bI_tz, decide_eq_false_iff_not, Int32.reduceToInt, nI_toInt, tm1, tm2, tm3, tm4, tm9]; done) | (simp (discharger := omega) only [i_lt, i_le, i_eq, bI_tz, decide_eq_false_iff_not, Int32.reduceToInt, nI_toInt, tm1, tm2, tm3, tm4, tm9]; omega) | omega) ?_
              refine And.intro rfl ?_
              refine And.intro (⟨rfl, ij⟩) ?_
              refine And.intro ⟨rfl, rfl⟩ (And.intro rfl (Exists.intro _ (Exists.intro _ (And.intro (c_takeRow (h := upI (nh h) 1 7 0) (a := 35) (shp_nh hs) kr lane) ?_))))
              rw [if_neg e9, if_neg e9, if_pos e0, if_pos e0]
              refine br_t (by rfl) ?_
              refine And.intro rfl ?_
              refine And.intro (⟨rfl, ij⟩) ?_
              refine And.intro ⟨rfl, rfl⟩ (And.intro rfl (Exists.intro _ (Exists.intro _ (And.intro (hl) ?_))))
              refine br_t (by rw [bI_z, decide_eq_false_iff_not]; omega) ?_
              refine And.intro rfl ?_
              refine And.intro (⟨rfl, ij⟩) ?_
              refine And.intro rfl ?_
              refine And.intro (⟨rfl, im⟩) ?_
              rw [em]
              exact ⟨trivial, rfl, rfl⟩
            · refine cc_nh (h := upI h 1 7 0) (F := fun h => upI h 39 0 0) hs (cc_of 60 rfl rfl ?_)
              refine And.intro rfl ?_
              refine And.intro rfl (And.intro rfl (Exists.intro _ (Exists.intro _ (And.intro (c_noSheet _) ?_))))
              refine br_f (by first | assumption | (simp (discharger := omega) only [i_lt, i_le, i_eq, bI_tz, decide_eq_false_iff_not, Int32.reduceToInt, nI_toInt, tm1, tm2, tm3, tm4, tm9]; done) | (simp (discharger := omega) only [i_lt, i_le, i_eq, bI_tz, decide_eq_false_iff_not, Int32.reduceToInt, nI_toInt, tm1, tm2, tm3, tm4, tm9]; omega) | omega) ?_
              refine And.intro rfl (And.intro rfl (Exists.intro _ (Exists.intro _ (And.intro (c_in02 _) ?_))))
              refine br_t (by first | assumption | (simp (discharger := omega) only [i_lt, i_le, i_eq, bI_tz, decide_eq_false_iff_not, Int32.reduceToInt, nI_toInt, tm1, tm2, tm3, tm4, tm9]; done) | (simp (discharger := omega) only [i_lt, i_le, i_eq, bI_tz, decide_eq_false_iff_not, Int32.reduceToInt, nI_toInt, tm1, tm2, tm3, tm4, tm9]; omega) | omega) ?_
              refine And.intro rfl ?_
              refine And.intro (⟨rfl, ij⟩) ?_
              refine br_f (show ¬ (zI h 61 2 < 0) by first | assumption | (simp (discharger := omega) only [i_lt, i_le, i_eq, bI_tz, decide_eq_false_iff_not, Int32.reduceToInt, nI_toInt, tm1, tm2, tm3, tm4, tm9]; done) | (simp (discharger := omega) only [i_lt, i_le, i_eq, bI_tz, decide_eq_false_iff_not, Int32.reduceToInt, nI_toInt, tm1, tm2, tm3, tm4, tm9]; omega) | omega) ?_
              refine And.intro rfl ?_
              refine And.intro (⟨rfl, ij⟩) ?_
              refine br_t q4 ?_
              have hn := hn 0
              rw [show zI (upI (nh (upI h 1 7 0)) 39 0 0) 61 2 = zI h 61 2 from rfl, if_neg q3, if_pos q5] at hn
              refine And.intro ⟨rfl, rfl⟩ (And.intro rfl (Exists.intro _ (Exists.intro _ (And.intro (hn) ?_))))
              refine br_t (by decide) ?_
              refine And.intro rfl ?_
              have ei : (60 : Int32) * nI 2 + nI m = nI (60 * 2 + m) := by rw [show (60 : Int32) = nI 60 from rfl, pk_mul, nI_add]
              refine And.intro (⟨rfl, by rw [ei]; exact inB_nI (n := 240) (by omega) (by decide)⟩) ?_
              rw [ei, nI_clamp (by omega), ez]
              exact ⟨trivial, rfl, rfl⟩
          · refine ⟨.long (-9223372036854775808), upI h 1 7 3, upI (upI h 1 7 3) 39 0 3, ?_, ?_, fin_flt hS 3⟩
            · refine cc_nh (F := fun h => upI h 1 7 3) hs (cc_of 60 rfl rfl ?_)
              refine And.intro rfl ?_
              refine And.intro rfl (And.intro rfl (Exists.intro _ (Exists.intro _ (And.intro (c_isSheet _) ?_))))
              refine br_f (by first | assumption | (simp (discharger := omega) only [i_lt, i_le, i_eq, bI_tz, decide_eq_false_iff_not, Int32.reduceToInt, nI_toInt, tm1, tm2, tm3, tm4, tm9]; done) | (simp (discharger := omega) only [i_lt, i_le, i_eq, bI_tz, decide_eq_false_iff_not, Int32.reduceToInt, nI_toInt, tm1, tm2, tm3, tm4, tm9]; omega) | omega) ?_
              refine And.intro rfl (And.intro rfl (Exists.intro _ (Exists.intro _ (And.intro (c_isLane _) ?_))))
              refine br_t (by first | assumption | (simp (discharger := omega) only [i_lt, i_le, i_eq, bI_tz, decide_eq_false_iff_not, Int32.reduceToInt, nI_toInt, tm1, tm2, tm3, tm4, tm9]; done) | (simp (discharger := omega) only [i_lt, i_le, i_eq, bI_tz, decide_eq_false_iff_not, Int32.reduceToInt, nI_toInt, tm1, tm2, tm3, tm4, tm9]; omega) | omega) ?_
              refine And.intro rfl ?_
              refine And.intro (⟨rfl, ij⟩) ?_
              refine And.intro ⟨rfl, rfl⟩ (And.intro rfl (Exists.intro _ (Exists.intro _ (And.intro (c_takeRow (h := upI (nh h) 1 7 0) (a := 35) (shp_nh hs) kr lane) ?_))))
              rw [if_neg e9, if_neg e9, if_pos e0, if_pos e0]
              refine br_t (by rfl) ?_
              refine And.intro rfl ?_
              refine And.intro (⟨rfl, ij⟩) ?_
              refine And.intro ⟨rfl, rfl⟩ (And.intro rfl (Exists.intro _ (Exists.intro _ (And.intro (hl) ?_))))
              refine br_f (by rw [bI_z, decide_eq_false_iff_not]; omega) ?_
              refine And.intro ⟨rfl, rfl⟩ (And.intro rfl (Exists.intro _ (Exists.intro _ (And.intro (c_faulty (h := upI (nh h) 1 7 0) (shp_nh hs) 3) ?_))))
              rw [upI_upI]
              exact ⟨trivial, rfl, rfl⟩
            · refine cc_nh (h := upI h 1 7 3) (F := fun h => upI h 39 0 3) hs (cc_of 60 rfl rfl ?_)
              refine And.intro rfl ?_
              refine And.intro rfl (And.intro rfl (Exists.intro _ (Exists.intro _ (And.intro (c_noSheet _) ?_))))
              refine br_f (by first | assumption | (simp (discharger := omega) only [i_lt, i_le, i_eq, bI_tz, decide_eq_false_iff_not, Int32.reduceToInt, nI_toInt, tm1, tm2, tm3, tm4, tm9]; done) | (simp (discharger := omega) only [i_lt, i_le, i_eq, bI_tz, decide_eq_false_iff_not, Int32.reduceToInt, nI_toInt, tm1, tm2, tm3, tm4, tm9]; omega) | omega) ?_
              refine And.intro rfl (And.intro rfl (Exists.intro _ (Exists.intro _ (And.intro (c_in02 _) ?_))))
              refine br_t (by first | assumption | (simp (discharger := omega) only [i_lt, i_le, i_eq, bI_tz, decide_eq_false_iff_not, Int32.reduceToInt, nI_toInt, tm1, tm2, tm3, tm4, tm9]; done) | (simp (discharger := omega) only [i_lt, i_le, i_eq, bI_tz, decide_eq_false_iff_not, Int32.reduceToInt, nI_toInt, tm1, tm2, tm3, tm4, tm9]; omega) | omega) ?_
              refine And.intro rfl ?_
              refine And.intro (⟨rfl, ij⟩) ?_
              refine br_f (show ¬ (zI h 61 2 < 0) by first | assumption | (simp (discharger := omega) only [i_lt, i_le, i_eq, bI_tz, decide_eq_false_iff_not, Int32.reduceToInt, nI_toInt, tm1, tm2, tm3, tm4, tm9]; done) | (simp (discharger := omega) only [i_lt, i_le, i_eq, bI_tz, decide_eq_false_iff_not, Int32.reduceToInt, nI_toInt, tm1, tm2, tm3, tm4, tm9]; omega) | omega) ?_
              refine And.intro rfl ?_
              refine And.intro (⟨rfl, ij⟩) ?_
              refine br_t q4 ?_
              have hn := hn 3
              rw [show zI (upI (nh (upI h 1 7 3)) 39 0 0) 61 2 = zI h 61 2 from rfl, if_neg q3, if_neg q5] at hn
              refine And.intro ⟨rfl, rfl⟩ (And.intro rfl (Exists.intro _ (Exists.intro _ (And.intro (hn) ?_))))
              refine br_f (by decide) ?_
              refine And.intro ⟨rfl, rfl⟩ (And.intro rfl (Exists.intro _ (Exists.intro _ (And.intro (hn) ?_))))
              refine And.intro ⟨rfl, rfl⟩ (And.intro rfl (Exists.intro _ (Exists.intro _ (And.intro (c_failedLong (h := upI (nh (upI h 1 7 3)) 39 0 0) (shp_nh hs) 3) ?_))))
              rw [upI_upI]
              exact ⟨trivial, rfl, rfl⟩
        · have e0 : ¬ zI (upI (nh h) 1 7 0) 35 0 = lane := fun z => q4 (r3.symm.trans z)
          refine ⟨.long (-9223372036854775808), upI h 1 7 2, upI (upI h 1 7 2) 39 0 2, ?_, ?_, fin_flt hS 2⟩
          · refine cc_nh (F := fun h => upI h 1 7 2) hs (cc_of 60 rfl rfl ?_)
            refine And.intro rfl ?_
            refine And.intro rfl (And.intro rfl (Exists.intro _ (Exists.intro _ (And.intro (c_isSheet _) ?_))))
            refine br_f (by first | assumption | (simp (discharger := omega) only [i_lt, i_le, i_eq, bI_tz, decide_eq_false_iff_not, Int32.reduceToInt, nI_toInt, tm1, tm2, tm3, tm4, tm9]; done) | (simp (discharger := omega) only [i_lt, i_le, i_eq, bI_tz, decide_eq_false_iff_not, Int32.reduceToInt, nI_toInt, tm1, tm2, tm3, tm4, tm9]; omega) | omega) ?_
            refine And.intro rfl (And.intro rfl (Exists.intro _ (Exists.intro _ (And.intro (c_isLane _) ?_))))
            refine br_t (by first | assumption | (simp (discharger := omega) only [i_lt, i_le, i_eq, bI_tz, decide_eq_false_iff_not, Int32.reduceToInt, nI_toInt, tm1, tm2, tm3, tm4, tm9]; done) | (simp (discharger := omega) only [i_lt, i_le, i_eq, bI_tz, decide_eq_false_iff_not, Int32.reduceToInt, nI_toInt, tm1, tm2, tm3, tm4, tm9]; omega) | omega) ?_
            refine And.intro rfl ?_
            refine And.intro (⟨rfl, ij⟩) ?_
            refine And.intro ⟨rfl, rfl⟩ (And.intro rfl (Exists.intro _ (Exists.intro _ (And.intro (c_takeRow (h := upI (nh h) 1 7 0) (a := 35) (shp_nh hs) kr lane) ?_))))
            rw [if_neg e9, if_neg e9, if_neg e0, if_neg e0, upI_upI]
            refine br_f (by decide) ?_
            exact ⟨trivial, rfl, rfl⟩
          · refine cc_nh (h := upI h 1 7 2) (F := fun h => upI h 39 0 2) hs (cc_of 60 rfl rfl ?_)
            refine And.intro rfl ?_
            refine And.intro rfl (And.intro rfl (Exists.intro _ (Exists.intro _ (And.intro (c_noSheet _) ?_))))
            refine br_f (by first | assumption | (simp (discharger := omega) only [i_lt, i_le, i_eq, bI_tz, decide_eq_false_iff_not, Int32.reduceToInt, nI_toInt, tm1, tm2, tm3, tm4, tm9]; done) | (simp (discharger := omega) only [i_lt, i_le, i_eq, bI_tz, decide_eq_false_iff_not, Int32.reduceToInt, nI_toInt, tm1, tm2, tm3, tm4, tm9]; omega) | omega) ?_
            refine And.intro rfl (And.intro rfl (Exists.intro _ (Exists.intro _ (And.intro (c_in02 _) ?_))))
            refine br_t (by first | assumption | (simp (discharger := omega) only [i_lt, i_le, i_eq, bI_tz, decide_eq_false_iff_not, Int32.reduceToInt, nI_toInt, tm1, tm2, tm3, tm4, tm9]; done) | (simp (discharger := omega) only [i_lt, i_le, i_eq, bI_tz, decide_eq_false_iff_not, Int32.reduceToInt, nI_toInt, tm1, tm2, tm3, tm4, tm9]; omega) | omega) ?_
            refine And.intro rfl ?_
            refine And.intro (⟨rfl, ij⟩) ?_
            refine br_f (show ¬ (zI h 61 2 < 0) by first | assumption | (simp (discharger := omega) only [i_lt, i_le, i_eq, bI_tz, decide_eq_false_iff_not, Int32.reduceToInt, nI_toInt, tm1, tm2, tm3, tm4, tm9]; done) | (simp (discharger := omega) only [i_lt, i_le, i_eq, bI_tz, decide_eq_false_iff_not, Int32.reduceToInt, nI_toInt, tm1, tm2, tm3, tm4, tm9]; omega) | omega) ?_
            refine And.intro rfl ?_
            refine And.intro (⟨rfl, ij⟩) ?_
            refine br_f q4 ?_
            refine And.intro ⟨rfl, rfl⟩ (And.intro rfl (Exists.intro _ (Exists.intro _ (And.intro (c_failedLong (h := upI (nh (upI h 1 7 2)) 39 0 0) (shp_nh hs) 2) ?_))))
            rw [upI_upI]
            exact ⟨trivial, rfl, rfl⟩
    · have hr := hS.2.2.1 3 (by decide)
      obtain ⟨r1, r2⟩ := RowOK_ln hr
      have rs := RowOK_sz hr
      have kr : zK (nh h) 37 = 5 := rfl
      have hn := fun (v : Int32) => c_noCell (sc := sc) (h := upI (nh (upI h 1 7 v)) 39 0 0) (shp_nh hs) (k := 3) (by decide) i
      by_cases q3 : (zI h 61 3).toInt < 0
      · have e0 : zI (upI (nh h) 1 7 0) 37 0 = -9 := r1.mp q3
        refine ⟨.long (-9223372036854775808), upI h 1 7 1, upI (upI h 1 7 1) 39 0 1, ?_, ?_, fin_flt hS 1⟩
        · refine cc_nh (F := fun h => upI h 1 7 1) hs (cc_of 60 rfl rfl ?_)
          refine And.intro rfl ?_
          refine And.intro rfl (And.intro rfl (Exists.intro _ (Exists.intro _ (And.intro (c_isSheet _) ?_))))
          refine br_f (by first | assumption | (simp (discharger := omega) only [i_lt, i_le, i_eq, bI_tz, decide_eq_false_iff_not, Int32.reduceToInt, nI_toInt, tm1, tm2, tm3, tm4, tm9]; done) | (simp (discharger := omega) only [i_lt, i_le, i_eq, bI_tz, decide_eq_false_iff_not, Int32.reduceToInt, nI_toInt, tm1, tm2, tm3, tm4, tm9]; omega) | omega) ?_
          refine And.intro rfl (And.intro rfl (Exists.intro _ (Exists.intro _ (And.intro (c_isLane _) ?_))))
          refine br_t (by first | assumption | (simp (discharger := omega) only [i_lt, i_le, i_eq, bI_tz, decide_eq_false_iff_not, Int32.reduceToInt, nI_toInt, tm1, tm2, tm3, tm4, tm9]; done) | (simp (discharger := omega) only [i_lt, i_le, i_eq, bI_tz, decide_eq_false_iff_not, Int32.reduceToInt, nI_toInt, tm1, tm2, tm3, tm4, tm9]; omega) | omega) ?_
          refine And.intro rfl ?_
          refine And.intro (⟨rfl, ij⟩) ?_
          refine And.intro ⟨rfl, rfl⟩ (And.intro rfl (Exists.intro _ (Exists.intro _ (And.intro (c_takeRow (h := upI (nh h) 1 7 0) (a := 37) (shp_nh hs) kr lane) ?_))))
          rw [if_pos e0, if_pos e0, upI_upI]
          refine br_f (by decide) ?_
          exact ⟨trivial, rfl, rfl⟩
        · refine cc_nh (h := upI h 1 7 1) (F := fun h => upI h 39 0 1) hs (cc_of 60 rfl rfl ?_)
          refine And.intro rfl ?_
          refine And.intro rfl (And.intro rfl (Exists.intro _ (Exists.intro _ (And.intro (c_noSheet _) ?_))))
          refine br_f (by first | assumption | (simp (discharger := omega) only [i_lt, i_le, i_eq, bI_tz, decide_eq_false_iff_not, Int32.reduceToInt, nI_toInt, tm1, tm2, tm3, tm4, tm9]; done) | (simp (discharger := omega) only [i_lt, i_le, i_eq, bI_tz, decide_eq_false_iff_not, Int32.reduceToInt, nI_toInt, tm1, tm2, tm3, tm4, tm9]; omega) | omega) ?_
          refine And.intro rfl (And.intro rfl (Exists.intro _ (Exists.intro _ (And.intro (c_in02 _) ?_))))
          refine br_t (by first | assumption | (simp (discharger := omega) only [i_lt, i_le, i_eq, bI_tz, decide_eq_false_iff_not, Int32.reduceToInt, nI_toInt, tm1, tm2, tm3, tm4, tm9]; done) | (simp (discharger := omega) only [i_lt, i_le, i_eq, bI_tz, decide_eq_false_iff_not, Int32.reduceToInt, nI_toInt, tm1, tm2, tm3, tm4, tm9]; omega) | omega) ?_
          refine And.intro rfl ?_
          refine And.intro (⟨rfl, ij⟩) ?_
          refine br_t (show zI h 61 3 < 0 by first | assumption | (simp (discharger := omega) only [i_lt, i_le, i_eq, bI_tz, decide_eq_false_iff_not, Int32.reduceToInt, nI_toInt, tm1, tm2, tm3, tm4, tm9]; done) | (simp (discharger := omega) only [i_lt, i_le, i_eq, bI_tz, decide_eq_false_iff_not, Int32.reduceToInt, nI_toInt, tm1, tm2, tm3, tm4, tm9]; omega) | omega) ?_
          have hn := hn 1
          rw [show zI (upI (nh (upI h 1 7 1)) 39 0 0) 61 3 = zI h 61 3 from rfl, if_pos q3] at hn
          refine And.intro ⟨rfl, rfl⟩ (And.intro rfl (Exists.intro _ (Exists.intro _ (And.intro (hn) ?_))))
          refine br_f (by decide) ?_
          refine And.intro ⟨rfl, rfl⟩ (And.intro rfl (Exists.intro _ (Exists.intro _ (And.intro (hn) ?_))))
          refine And.intro ⟨rfl, rfl⟩ (And.intro rfl (Exists.intro _ (Exists.intro _ (And.intro (c_failedLong (h := upI (nh (upI h 1 7 1)) 39 0 0) (shp_nh hs) 1) ?_))))
          rw [upI_upI]
          exact ⟨trivial, rfl, rfl⟩
      · obtain ⟨r3, r4⟩ := r2 q3
        have e9 : ¬ zI (upI (nh h) 1 7 0) 37 0 = -9 := fun z => q3 (r1.mpr z)
        by_cases q4 : zI h 62 3 = lane
        · have e0 : zI (upI (nh h) 1 7 0) 37 0 = lane := r3.trans q4
          have e8 : zI (upI (nh h) 1 7 0) 37 1 = zI h 61 3 := r4
          have hl := c_lacks (sc := sc) (h := upI (nh h) 1 7 0) (a := 37) rfl i 1 (by decide) (by rw [e8]; omega)
          rw [e8, show (1 : Int32).toInt = 1 by decide] at hl
          by_cases q5 : 0 ≤ i.toInt ∧ i.toInt < (zI h 61 3).toInt
          · obtain ⟨m, hm, rfl⟩ := i_of (a := i) (n := 60) (by omega) (by omega) (by decide)
            have im : inB (nI m) 60 = true := inB_nI hm (by decide)
            have em : (nI m).toNatClampNeg = m := nI_clamp (by omega)
            have q5' := q5
            rw [nI_toInt (by omega)] at q5'
            have ez : zI h 38 m = zI h 63 (60 * 3 + m) := by
              rcases hr with ⟨z1, z2⟩ | ⟨n, ln, z1, z2, z3, z4, z5, z6, z7⟩
              · rw [z1] at q3
                exact absurd (by decide) q3
              · rw [z3, nI_toInt (by omega)] at q5'
                exact z7 m (by omega)
            refine ⟨.long (zI h 38 m).toInt64, upI h 1 7 0, upI (upI h 1 7 0) 39 0 0, ?_, ?_, fin_flt hS 0⟩
            · refine cc_nh (F := fun h => upI h 1 7 0) hs (cc_of 60 rfl rfl ?_)
              refine And.intro rfl ?_
              refine And.intro rfl (And.intro rfl (Exists.intro _ (Exists.intro _ (And.intro (c_isSheet _) ?_))))
              refine br_f (by first | assumption | (simp (discharger := omega) only [i_lt, i_le, i_eq, bI_tz, decide_eq_false_iff_not, Int32.reduceToInt, nI_toInt, tm1, tm2, tm3, tm4, tm9]; done) | (simp (discharger := omega) only [i_lt, i_le, i_eq, bI_tz, decide_eq_false_iff_not, Int32.reduceToInt, nI_toInt, tm1, tm2, tm3, tm4, tm9]; omega) | omega) ?_
              refine And.intro rfl (And.intro rfl (Exists.intro _ (Exists.intro _ (And.intro (c_isLane _) ?_))))
              refine br_t (by first | assumption | (simp (discharger := omega) only [i_lt, i_le, i_eq, bI_tz, decide_eq_false_iff_not, Int32.reduceToInt, nI_toInt, tm1, tm2, tm3, tm4, tm9]; done) | (simp (discharger := omega) only [i_lt, i_le, i_eq, bI_tz, decide_eq_false_iff_not, Int32.reduceToInt, nI_toInt, tm1, tm2, tm3, tm4, tm9]; omega) | omega) ?_
              refine And.intro rfl ?_
              refine And.intro (⟨rfl, ij⟩) ?_
              refine And.intro ⟨rfl, rfl⟩ (And.intro rfl (Exists.intro _ (Exists.intro _ (And.intro (c_takeRow (h := upI (nh h) 1 7 0) (a := 37) (shp_nh hs) kr lane) ?_))))
              rw [if_neg e9, if_neg e9, if_pos e0, if_pos e0]
              refine br_t (by rfl) ?_
              refine And.intro rfl ?_
              refine And.intro (⟨rfl, ij⟩) ?_
              refine And.intro ⟨rfl, rfl⟩ (And.intro rfl (Exists.intro _ (Exists.intro _ (And.intro (hl) ?_))))
              refine br_t (by rw [bI_z, decide_eq_false_iff_not]; omega) ?_
              refine And.intro rfl ?_
              refine And.intro (⟨rfl, ij⟩) ?_
              refine And.intro rfl ?_
              refine And.intro (⟨rfl, im⟩) ?_
              rw [em]
              exact ⟨trivial, rfl, rfl⟩
            · refine cc_nh (h := upI h 1 7 0) (F := fun h => upI h 39 0 0) hs (cc_of 60 rfl rfl ?_)
              refine And.intro rfl ?_
              refine And.intro rfl (And.intro rfl (Exists.intro _ (Exists.intro _ (And.intro (c_noSheet _) ?_))))
              refine br_f (by first | assumption | (simp (discharger := omega) only [i_lt, i_le, i_eq, bI_tz, decide_eq_false_iff_not, Int32.reduceToInt, nI_toInt, tm1, tm2, tm3, tm4, tm9]; done) | (simp (discharger := omega) only [i_lt, i_le, i_eq, bI_tz, decide_eq_false_iff_not, Int32.reduceToInt, nI_toInt, tm1, tm2, tm3, tm4, tm9]; omega) | omega) ?_
              refine And.intro rfl (And.intro rfl (Exists.intro _ (Exists.intro _ (And.intro (c_in02 _) ?_))))
              refine br_t (by first | assumption | (simp (discharger := omega) only [i_lt, i_le, i_eq, bI_tz, decide_eq_false_iff_not, Int32.reduceToInt, nI_toInt, tm1, tm2, tm3, tm4, tm9]; done) | (simp (discharger := omega) only [i_lt, i_le, i_eq, bI_tz, decide_eq_false_iff_not, Int32.reduceToInt, nI_toInt, tm1, tm2, tm3, tm4, tm9]; omega) | omega) ?_
              refine And.intro rfl ?_
              refine And.intro (⟨rfl, ij⟩) ?_
              refine br_f (show ¬ (zI h 61 3 < 0) by first | assumption | (simp (discharger := omega) only [i_lt, i_le, i_eq, bI_tz, decide_eq_false_iff_not, Int32.reduceToInt, nI_toInt, tm1, tm2, tm3, tm4, tm9]; done) | (simp (discharger := omega) only [i_lt, i_le, i_eq, bI_tz, decide_eq_false_iff_not, Int32.reduceToInt, nI_toInt, tm1, tm2, tm3, tm4, tm9]; omega) | omega) ?_
              refine And.intro rfl ?_
              refine And.intro (⟨rfl, ij⟩) ?_
              refine br_t q4 ?_
              have hn := hn 0
              rw [show zI (upI (nh (upI h 1 7 0)) 39 0 0) 61 3 = zI h 61 3 from rfl, if_neg q3, if_pos q5] at hn
              refine And.intro ⟨rfl, rfl⟩ (And.intro rfl (Exists.intro _ (Exists.intro _ (And.intro (hn) ?_))))
              refine br_t (by decide) ?_
              refine And.intro rfl ?_
              have ei : (60 : Int32) * nI 3 + nI m = nI (60 * 3 + m) := by rw [show (60 : Int32) = nI 60 from rfl, pk_mul, nI_add]
              refine And.intro (⟨rfl, by rw [ei]; exact inB_nI (n := 240) (by omega) (by decide)⟩) ?_
              rw [ei, nI_clamp (by omega), ez]
              exact ⟨trivial, rfl, rfl⟩
          · refine ⟨.long (-9223372036854775808), upI h 1 7 3, upI (upI h 1 7 3) 39 0 3, ?_, ?_, fin_flt hS 3⟩
            · refine cc_nh (F := fun h => upI h 1 7 3) hs (cc_of 60 rfl rfl ?_)
              refine And.intro rfl ?_
              refine And.intro rfl (And.intro rfl (Exists.intro _ (Exists.intro _ (And.intro (c_isSheet _) ?_))))
              refine br_f (by first | assumption | (simp (discharger := omega) only [i_lt, i_le, i_eq, bI_tz, decide_eq_false_iff_not, Int32.reduceToInt, nI_toInt, tm1, tm2, tm3, tm4, tm9]; done) | (simp (discharger := omega) only [i_lt, i_le, i_eq, bI_tz, decide_eq_false_iff_not, Int32.reduceToInt, nI_toInt, tm1, tm2, tm3, tm4, tm9]; omega) | omega) ?_
              refine And.intro rfl (And.intro rfl (Exists.intro _ (Exists.intro _ (And.intro (c_isLane _) ?_))))
              refine br_t (by first | assumption | (simp (discharger := omega) only [i_lt, i_le, i_eq, bI_tz, decide_eq_false_iff_not, Int32.reduceToInt, nI_toInt, tm1, tm2, tm3, tm4, tm9]; done) | (simp (discharger := omega) only [i_lt, i_le, i_eq, bI_tz, decide_eq_false_iff_not, Int32.reduceToInt, nI_toInt, tm1, tm2, tm3, tm4, tm9]; omega) | omega) ?_
              refine And.intro rfl ?_
              refine And.intro (⟨rfl, ij⟩) ?_
              refine And.intro ⟨rfl, rfl⟩ (And.intro rfl (Exists.intro _ (Exists.intro _ (And.intro (c_takeRow (h := upI (nh h) 1 7 0) (a := 37) (shp_nh hs) kr lane) ?_))))
              rw [if_neg e9, if_neg e9, if_pos e0, if_pos e0]
              refine br_t (by rfl) ?_
              refine And.intro rfl ?_
              refine And.intro (⟨rfl, ij⟩) ?_
              refine And.intro ⟨rfl, rfl⟩ (And.intro rfl (Exists.intro _ (Exists.intro _ (And.intro (hl) ?_))))
              refine br_f (by rw [bI_z, decide_eq_false_iff_not]; omega) ?_
              refine And.intro ⟨rfl, rfl⟩ (And.intro rfl (Exists.intro _ (Exists.intro _ (And.intro (c_faulty (h := upI (nh h) 1 7 0) (shp_nh hs) 3) ?_))))
              rw [upI_upI]
              exact ⟨trivial, rfl, rfl⟩
            · refine cc_nh (h := upI h 1 7 3) (F := fun h => upI h 39 0 3) hs (cc_of 60 rfl rfl ?_)
              refine And.intro rfl ?_
              refine And.intro rfl (And.intro rfl (Exists.intro _ (Exists.intro _ (And.intro (c_noSheet _) ?_))))
              refine br_f (by first | assumption | (simp (discharger := omega) only [i_lt, i_le, i_eq, bI_tz, decide_eq_false_iff_not, Int32.reduceToInt, nI_toInt, tm1, tm2, tm3, tm4, tm9]; done) | (simp (discharger := omega) only [i_lt, i_le, i_eq, bI_tz, decide_eq_false_iff_not, Int32.reduceToInt, nI_toInt, tm1, tm2, tm3, tm4, tm9]; omega) | omega) ?_
              refine And.intro rfl (And.intro rfl (Exists.intro _ (Exists.intro _ (And.intro (c_in02 _) ?_))))
              refine br_t (by first | assumption | (simp (discharger := omega) only [i_lt, i_le, i_eq, bI_tz, decide_eq_false_iff_not, Int32.reduceToInt, nI_toInt, tm1, tm2, tm3, tm4, tm9]; done) | (simp (discharger := omega) only [i_lt, i_le, i_eq, bI_tz, decide_eq_false_iff_not, Int32.reduceToInt, nI_toInt, tm1, tm2, tm3, tm4, tm9]; omega) | omega) ?_
              refine And.intro rfl ?_
              refine And.intro (⟨rfl, ij⟩) ?_
              refine br_f (show ¬ (zI h 61 3 < 0) by first | assumption | (simp (discharger := omega) only [i_lt, i_le, i_eq, bI_tz, decide_eq_false_iff_not, Int32.reduceToInt, nI_toInt, tm1, tm2, tm3, tm4, tm9]; done) | (simp (discharger := omega) only [i_lt, i_le, i_eq, bI_tz, decide_eq_false_iff_not, Int32.reduceToInt, nI_toInt, tm1, tm2, tm3, tm4, tm9]; omega) | omega) ?_
              refine And.intro rfl ?_
              refine And.intro (⟨rfl, ij⟩) ?_
              refine br_t q4 ?_
              have hn := hn 3
              rw [show zI (upI (nh (upI h 1 7 3)) 39 0 0) 61 3 = zI h 61 3 from rfl, if_neg q3, if_neg q5] at hn
              refine And.intro ⟨rfl, rfl⟩ (And.intro rfl (Exists.intro _ (Exists.intro _ (And.intro (hn) ?_))))
              refine br_f (by decide) ?_
              refine And.intro ⟨rfl, rfl⟩ (And.intro rfl (Exists.intro _ (Exists.intro _ (And.intro (hn) ?_))))
              refine And.intro ⟨rfl, rfl⟩ (And.intro rfl (Exists.intro _ (Exists.intro _ (And.intro (c_failedLong (h := upI (nh (upI h 1 7 3)) 39 0 0) (shp_nh hs) 3) ?_))))
              rw [upI_upI]
              exact ⟨trivial, rfl, rfl⟩
        · have e0 : ¬ zI (upI (nh h) 1 7 0) 37 0 = lane := fun z => q4 (r3.symm.trans z)
          refine ⟨.long (-9223372036854775808), upI h 1 7 2, upI (upI h 1 7 2) 39 0 2, ?_, ?_, fin_flt hS 2⟩
          · refine cc_nh (F := fun h => upI h 1 7 2) hs (cc_of 60 rfl rfl ?_)
            refine And.intro rfl ?_
            refine And.intro rfl (And.intro rfl (Exists.intro _ (Exists.intro _ (And.intro (c_isSheet _) ?_))))
            refine br_f (by first | assumption | (simp (discharger := omega) only [i_lt, i_le, i_eq, bI_tz, decide_eq_false_iff_not, Int32.reduceToInt, nI_toInt, tm1, tm2, tm3, tm4, tm9]; done) | (simp (discharger := omega) only [i_lt, i_le, i_eq, bI_tz, decide_eq_false_iff_not, Int32.reduceToInt, nI_toInt, tm1, tm2, tm3, tm4, tm9]; omega) | omega) ?_
            refine And.intro rfl (And.intro rfl (Exists.intro _ (Exists.intro _ (And.intro (c_isLane _) ?_))))
            refine br_t (by first | assumption | (simp (discharger := omega) only [i_lt, i_le, i_eq, bI_tz, decide_eq_false_iff_not, Int32.reduceToInt, nI_toInt, tm1, tm2, tm3, tm4, tm9]; done) | (simp (discharger := omega) only [i_lt, i_le, i_eq, bI_tz, decide_eq_false_iff_not, Int32.reduceToInt, nI_toInt, tm1, tm2, tm3, tm4, tm9]; omega) | omega) ?_
            refine And.intro rfl ?_
            refine And.intro (⟨rfl, ij⟩) ?_
            refine And.intro ⟨rfl, rfl⟩ (And.intro rfl (Exists.intro _ (Exists.intro _ (And.intro (c_takeRow (h := upI (nh h) 1 7 0) (a := 37) (shp_nh hs) kr lane) ?_))))
            rw [if_neg e9, if_neg e9, if_neg e0, if_neg e0, upI_upI]
            refine br_f (by decide) ?_
            exact ⟨trivial, rfl, rfl⟩
          · refine cc_nh (h := upI h 1 7 2) (F := fun h => upI h 39 0 2) hs (cc_of 60 rfl rfl ?_)
            refine And.intro rfl ?_
            refine And.intro rfl (And.intro rfl (Exists.intro _ (Exists.intro _ (And.intro (c_noSheet _) ?_))))
            refine br_f (by first | assumption | (simp (discharger := omega) only [i_lt, i_le, i_eq, bI_tz, decide_eq_false_iff_not, Int32.reduceToInt, nI_toInt, tm1, tm2, tm3, tm4, tm9]; done) | (simp (discharger := omega) only [i_lt, i_le, i_eq, bI_tz, decide_eq_false_iff_not, Int32.reduceToInt, nI_toInt, tm1, tm2, tm3, tm4, tm9]; omega) | omega) ?_
            refine And.intro rfl (And.intro rfl (Exists.intro _ (Exists.intro _ (And.intro (c_in02 _) ?_))))
            refine br_t (by first | assumption | (simp (discharger := omega) only [i_lt, i_le, i_eq, bI_tz, decide_eq_false_iff_not, Int32.reduceToInt, nI_toInt, tm1, tm2, tm3, tm4, tm9]; done) | (simp (discharger := omega) only [i_lt, i_le, i_eq, bI_tz, decide_eq_false_iff_not, Int32.reduceToInt, nI_toInt, tm1, tm2, tm3, tm4, tm9]; omega) | omega) ?_
            refine And.intro rfl ?_
            refine And.intro (⟨rfl, ij⟩) ?_
            refine br_f (show ¬ (zI h 61 3 < 0) by first | assumption | (simp (discharger := omega) only [i_lt, i_le, i_eq, bI_tz, decide_eq_false_iff_not, Int32.reduceToInt, nI_toInt, tm1, tm2, tm3, tm4, tm9]; done) | (simp (discharger := omega) only [i_lt, i_le, i_eq, bI_tz, decide_eq_false_iff_not, Int32.reduceToInt, nI_toInt, tm1, tm2, tm3, tm4, tm9]; omega) | omega) ?_
            refine And.intro rfl ?_
            refine And.intro (⟨rfl, ij⟩) ?_
            refine br_f q4 ?_
            refine And.intro ⟨rfl, rfl⟩ (And.intro rfl (Exists.intro _ (Exists.intro _ (And.intro (c_failedLong (h := upI (nh (upI h 1 7 2)) 39 0 0) (shp_nh hs) 2) ?_))))
            rw [upI_upI]
            exact ⟨trivial, rfl, rfl⟩
  · refine ⟨.long (-9223372036854775808), upI h 1 7 0, upI (upI h 1 7 0) 39 0 0, ?_, ?_, fin_flt hS 0⟩
    · refine cc_nh (F := fun h => upI h 1 7 0) hs (cc_of 60 rfl rfl ?_)
      refine And.intro rfl ?_
      refine And.intro rfl (And.intro rfl (Exists.intro _ (Exists.intro _ (And.intro (c_isSheet _) ?_))))
      by_cases q2 : 0 ≤ k.toInt ∧ k.toInt < 4
      · refine br_f (by first | assumption | (simp (discharger := omega) only [i_lt, i_le, i_eq, bI_tz, decide_eq_false_iff_not, Int32.reduceToInt, nI_toInt, tm1, tm2, tm3, tm4, tm9]; done) | (simp (discharger := omega) only [i_lt, i_le, i_eq, bI_tz, decide_eq_false_iff_not, Int32.reduceToInt, nI_toInt, tm1, tm2, tm3, tm4, tm9]; omega) | omega) ?_
        refine And.intro rfl (And.intro rfl (Exists.intro _ (Exists.intro _ (And.intro (c_isLane _) ?_))))
        refine br_f (by first | assumption | (simp (discharger := omega) only [i_lt, i_le, i_eq, bI_tz, decide_eq_false_iff_not, Int32.reduceToInt, nI_toInt, tm1, tm2, tm3, tm4, tm9]; done) | (simp (discharger := omega) only [i_lt, i_le, i_eq, bI_tz, decide_eq_false_iff_not, Int32.reduceToInt, nI_toInt, tm1, tm2, tm3, tm4, tm9]; omega) | omega) ?_
        exact ⟨trivial, rfl, rfl⟩
      · refine br_t (by first | assumption | (simp (discharger := omega) only [i_lt, i_le, i_eq, bI_tz, decide_eq_false_iff_not, Int32.reduceToInt, nI_toInt, tm1, tm2, tm3, tm4, tm9]; done) | (simp (discharger := omega) only [i_lt, i_le, i_eq, bI_tz, decide_eq_false_iff_not, Int32.reduceToInt, nI_toInt, tm1, tm2, tm3, tm4, tm9]; omega) | omega) ?_
        exact ⟨trivial, rfl, rfl⟩
    · refine cc_nh (h := upI h 1 7 0) (F := fun h => upI h 39 0 0) hs (cc_of 60 rfl rfl ?_)
      refine And.intro rfl ?_
      refine And.intro rfl (And.intro rfl (Exists.intro _ (Exists.intro _ (And.intro (c_noSheet _) ?_))))
      by_cases q2 : 0 ≤ k.toInt ∧ k.toInt < 4
      · refine br_f (by first | assumption | (simp (discharger := omega) only [i_lt, i_le, i_eq, bI_tz, decide_eq_false_iff_not, Int32.reduceToInt, nI_toInt, tm1, tm2, tm3, tm4, tm9]; done) | (simp (discharger := omega) only [i_lt, i_le, i_eq, bI_tz, decide_eq_false_iff_not, Int32.reduceToInt, nI_toInt, tm1, tm2, tm3, tm4, tm9]; omega) | omega) ?_
        refine And.intro rfl (And.intro rfl (Exists.intro _ (Exists.intro _ (And.intro (c_in02 _) ?_))))
        refine br_f (by first | assumption | (simp (discharger := omega) only [i_lt, i_le, i_eq, bI_tz, decide_eq_false_iff_not, Int32.reduceToInt, nI_toInt, tm1, tm2, tm3, tm4, tm9]; done) | (simp (discharger := omega) only [i_lt, i_le, i_eq, bI_tz, decide_eq_false_iff_not, Int32.reduceToInt, nI_toInt, tm1, tm2, tm3, tm4, tm9]; omega) | omega) ?_
        refine And.intro rfl (And.intro rfl (Exists.intro _ (Exists.intro _ (And.intro (c_lost) ?_))))
        exact ⟨trivial, rfl, rfl⟩
      · refine br_t (by first | assumption | (simp (discharger := omega) only [i_lt, i_le, i_eq, bI_tz, decide_eq_false_iff_not, Int32.reduceToInt, nI_toInt, tm1, tm2, tm3, tm4, tm9]; done) | (simp (discharger := omega) only [i_lt, i_le, i_eq, bI_tz, decide_eq_false_iff_not, Int32.reduceToInt, nI_toInt, tm1, tm2, tm3, tm4, tm9]; omega) | omega) ?_
        refine And.intro rfl (And.intro rfl (Exists.intro _ (Exists.intro _ (And.intro (c_lost) ?_))))
        exact ⟨trivial, rfl, rfl⟩
end
