section
variable {sc : Nat × (Nat → Int32)} {h : Hp}
def okCP (L : List (Nat × Nat)) : Bool := (!inP L 1 1 && !inP L 39 1 && frP L 40 && frP L 41 && frP L 42 && frP L 43 && frP L 44 && lowP L) && (!inP L 15 1 && !inP L 39 18 && frP L 51 && frP L 52 && frP L 53 && frP L 54 && frP L 55 && frP L 56 && frP L 57 && frP L 17 && lowP L)
theorem fin0 {L : List (Nat × Nat)} {g : Hp} (hS : Sim0 h) (f : Fr L h g) (q1 : okT L = true) (q2 : okCP L = true) (eA : SimA g) (eR : SimR g) : Sim0 g ∧ Kp h g := by
  unfold okCP at q2
  rw [Bool.and_eq_true] at q2
  have q3 := q2
  simp only [Bool.and_eq_true, Bool.not_eq_true'] at q3
  exact ⟨⟨f.shp hS.1, eA, eR, f.simC q2.1 hS.2.2.2.1, f.simP q2.2 hS.2.2.2.2.1, f.simZ q3.2.1.1.1.1.1.1.1.1.1.1 q3.1.1.1.1.1.1.1.1 (by rw [Bool.and_eq_true]; exact ⟨q3.1.1.1.2, q3.1.2⟩) hS.2.2.2.2.2⟩, L, f, q1⟩
/-- only faults have changed -/
theorem fin_flt (hS : Sim0 h) (v : Int32) : Sim0 (upI (upI h 1 7 v) 39 0 v) ∧ Kp h (upI (upI h 1 7 v) 39 0 v) := by
  have f : Fr [(1, 7), (39, 0)] h (upI (upI h 1 7 v) 39 0 v) := ((Fr.refl _ h).upI rfl).upI rfl
  exact fin0 hS f rfl rfl (f.simA0 rfl rfl hS.2.1) (f.simR rfl hS.2.2.1)
theorem fin_same (hS : Sim0 h) : Sim0 h ∧ Kp h h := ⟨hS, [], Fr.refl _ h, rfl⟩
theorem rows_but {g : Hp} {j : Nat} (hR : SimR h) (hj : RowOK g j) (e61 : ∀ k, k < 4 → k ≠ j → zI g 61 k = zI h 61 k) (e62 : ∀ k, k < 4 → k ≠ j → zI g 62 k = zI h 62 k) (e63 : ∀ k, k < 4 → k ≠ j → ∀ i, i < 60 → zI g 63 (60 * k + i) = zI h 63 (60 * k + i)) (er : ∀ k, k < 4 → k ≠ j → zI g (31 + 2 * k) = zI h (31 + 2 * k) ∧ zI g (32 + 2 * k) = zI h (32 + 2 * k)) : SimR g := by
  intro k hk
  by_cases e : k = j
  · rw [e]; exact hj
  · exact RowOK_congr (e61 k hk e) (e62 k hk e) (fun i hi => e63 k hk e i hi) (er k hk e).1 (er k hk e).2 (hR k hk)
theorem c_sheet_m (hs : Shp h) {k n : Nat} (hk : k < 4) (hn : n ≤ 60) {lane : Int32} (hl : 0 ≤ lane.toInt ∧ lane.toInt < 3) : Cc sc 207 [.ref 39, .int (nI k), .int lane, .int (nI n)] h (some (.int 1)) (upI (rwI (upI (upI h 61 k (nI n)) 62 k lane) 63 (fun j => if 60 * k ≤ j ∧ j < 60 * k + n then 0 else zI h 63 j)) 39 0 0) := by
  have ij : inB (nI k) 4 = true := inB_nI hk (by decide)
  have ej : (nI k).toNatClampNeg = k := nI_clamp (by omega)
  refine cc_nh (F := fun h => (upI (rwI (upI (upI h 61 k (nI n)) 62 k lane) 63 (fun j => if 60 * k ≤ j ∧ j < 60 * k + n then 0 else zI h 63 j)) 39 0 0)) hs (cc_cut [65] 60 rfl rfl ?_)
  refine And.intro rfl (And.intro rfl (Exists.intro _ (Exists.intro _ (And.intro (c_noSheet _) ?_))))
  refine br_t (by first | assumption | (simp (discharger := omega) only [i_lt, i_le, i_eq, bI_tz, decide_eq_false_iff_not, Int32.reduceToInt, nI_toInt, tm1, tm2, tm3, tm4, tm9]; done) | (simp (discharger := omega) only [i_lt, i_le, i_eq, bI_tz, decide_eq_false_iff_not, Int32.reduceToInt, nI_toInt, tm1, tm2, tm3, tm4, tm9]; omega) | omega) ?_
  refine And.intro rfl (And.intro rfl (Exists.intro _ (Exists.intro _ (And.intro (c_in02 _) ?_))))
  refine br_f (by first | assumption | (simp (discharger := omega) only [i_lt, i_le, i_eq, bI_tz, decide_eq_false_iff_not, Int32.reduceToInt, nI_toInt, tm1, tm2, tm3, tm4, tm9]; done) | (simp (discharger := omega) only [i_lt, i_le, i_eq, bI_tz, decide_eq_false_iff_not, Int32.reduceToInt, nI_toInt, tm1, tm2, tm3, tm4, tm9]; omega) | omega) ?_
  refine br_t (show nI n ≤ 60 by first | assumption | (simp (discharger := omega) only [i_lt, i_le, i_eq, bI_tz, decide_eq_false_iff_not, Int32.reduceToInt, nI_toInt, tm1, tm2, tm3, tm4, tm9]; done) | (simp (discharger := omega) only [i_lt, i_le, i_eq, bI_tz, decide_eq_false_iff_not, Int32.reduceToInt, nI_toInt, tm1, tm2, tm3, tm4, tm9]; omega) | omega) ?_
  refine br_t (show (0 : Int32) ≤ nI n by first | assumption | (simp (discharger := omega) only [i_lt, i_le, i_eq, bI_tz, decide_eq_false_iff_not, Int32.reduceToInt, nI_toInt, tm1, tm2, tm3, tm4, tm9]; done) | (simp (discharger := omega) only [i_lt, i_le, i_eq, bI_tz, decide_eq_false_iff_not, Int32.reduceToInt, nI_toInt, tm1, tm2, tm3, tm4, tm9]; omega) | omega) ?_
  refine And.intro rfl ?_
  refine And.intro (⟨rfl, ij⟩) ?_
  refine And.intro rfl ?_
  refine And.intro (⟨rfl, ij⟩) ?_
  rw [ej]
  have := sheet_loop (sc := sc) (h := upI (upI h 61 k (nI n)) 62 k lane) hk hn lane n 0 0 (zI h 63) (by omega) nI_0.symm (fun j => by rw [if_neg (by omega)]; rfl) hs
  rw [show rwI (nh (upI (upI h 61 k (nI n)) 62 k lane)) 63 (zI h 63) = nh (upI (upI h 61 k (nI n)) 62 k lane) from rwI_id _ _] at this
  exact this
theorem op_sheet (hS : Sim0 h) (k lane n : Int32) : Op0 sc 114 207 [.int k, .int lane, .int n] h := by
  have hs := hS.1
  by_cases q1 : 0 ≤ k.toInt ∧ k.toInt < 4
  · by_cases q2 : (0 ≤ lane.toInt ∧ lane.toInt < 3) ∧ n.toInt ≤ 60
    · by_cases q3 : n.toInt < 0
      · refine ⟨.int (-14), upI h 1 7 4, upI (upI h 1 7 4) 39 0 4, ?_, ?_, fin_flt hS 4⟩
        · refine cc_nh (F := fun h => upI h 1 7 4) hs (cc_of 60 rfl rfl ?_)
          refine And.intro rfl ?_
          refine And.intro rfl (And.intro rfl (Exists.intro _ (Exists.intro _ (And.intro (c_isSheet _) ?_))))
          refine br_t (by first | assumption | (simp (discharger := omega) only [i_lt, i_le, i_eq, bI_tz, decide_eq_false_iff_not, Int32.reduceToInt, nI_toInt, tm1, tm2, tm3, tm4, tm9]; done) | (simp (discharger := omega) only [i_lt, i_le, i_eq, bI_tz, decide_eq_false_iff_not, Int32.reduceToInt, nI_toInt, tm1, tm2, tm3, tm4, tm9]; omega) | omega) ?_
          refine And.intro rfl (And.intro rfl (Exists.intro _ (Exists.intro _ (And.intro (c_isLane _) ?_))))
          refine br_f (by first | assumption | (simp (discharger := omega) only [i_lt, i_le, i_eq, bI_tz, decide_eq_false_iff_not, Int32.reduceToInt, nI_toInt, tm1, tm2, tm3, tm4, tm9]; done) | (simp (discharger := omega) only [i_lt, i_le, i_eq, bI_tz, decide_eq_false_iff_not, Int32.reduceToInt, nI_toInt, tm1, tm2, tm3, tm4, tm9]; omega) | omega) ?_
          refine br_t (show n ≤ 60 by first | assumption | (simp (discharger := omega) only [i_lt, i_le, i_eq, bI_tz, decide_eq_false_iff_not, Int32.reduceToInt, nI_toInt, tm1, tm2, tm3, tm4, tm9]; done) | (simp (discharger := omega) only [i_lt, i_le, i_eq, bI_tz, decide_eq_false_iff_not, Int32.reduceToInt, nI_toInt, tm1, tm2, tm3, tm4, tm9]; omega) | omega) ?_
          refine br_f (show ¬ ((0 : Int32) ≤ n) by first | assumption | (simp (discharger := omega) only [i_lt, i_le, i_eq, bI_tz, decide_eq_false_iff_not, Int32.reduceToInt, nI_toInt, tm1, tm2, tm3, tm4, tm9]; done) | (simp (discharger := omega) only [i_lt, i_le, i_eq, bI_tz, decide_eq_false_iff_not, Int32.reduceToInt, nI_toInt, tm1, tm2, tm3, tm4, tm9]; omega) | omega) ?_
          refine And.intro ⟨rfl, rfl⟩ (And.intro rfl (Exists.intro _ (Exists.intro _ (And.intro (c_faulty (h := upI (nh h) 1 7 0) (shp_nh hs) 4) ?_))))
          rw [upI_upI]
          exact ⟨Or.inl rfl, rfl, rfl⟩
        · refine cc_nh (h := upI h 1 7 4) (F := fun h => upI h 39 0 4) hs (cc_of 60 rfl rfl ?_)
          refine And.intro rfl (And.intro rfl (Exists.intro _ (Exists.intro _ (And.intro (c_noSheet _) ?_))))
          refine br_t (by first | assumption | (simp (discharger := omega) only [i_lt, i_le, i_eq, bI_tz, decide_eq_false_iff_not, Int32.reduceToInt, nI_toInt, tm1, tm2, tm3, tm4, tm9]; done) | (simp (discharger := omega) only [i_lt, i_le, i_eq, bI_tz, decide_eq_false_iff_not, Int32.reduceToInt, nI_toInt, tm1, tm2, tm3, tm4, tm9]; omega) | omega) ?_
          refine And.intro rfl (And.intro rfl (Exists.intro _ (Exists.intro _ (And.intro (c_in02 _) ?_))))
          refine br_f (by first | assumption | (simp (discharger := omega) only [i_lt, i_le, i_eq, bI_tz, decide_eq_false_iff_not, Int32.reduceToInt, nI_toInt, tm1, tm2, tm3, tm4, tm9]; done) | (simp (discharger := omega) only [i_lt, i_le, i_eq, bI_tz, decide_eq_false_iff_not, Int32.reduceToInt, nI_toInt, tm1, tm2, tm3, tm4, tm9]; omega) | omega) ?_
          refine br_t (show n ≤ 60 by first | assumption | (simp (discharger := omega) only [i_lt, i_le, i_eq, bI_tz, decide_eq_false_iff_not, Int32.reduceToInt, nI_toInt, tm1, tm2, tm3, tm4, tm9]; done) | (simp (discharger := omega) only [i_lt, i_le, i_eq, bI_tz, decide_eq_false_iff_not, Int32.reduceToInt, nI_toInt, tm1, tm2, tm3, tm4, tm9]; omega) | omega) ?_
          refine br_f (show ¬ ((0 : Int32) ≤ n) by first | assumption | (simp (discharger := omega) only [i_lt, i_le, i_eq, bI_tz, decide_eq_false_iff_not, Int32.reduceToInt, nI_toInt, tm1, tm2, tm3, tm4, tm9]; done) | (simp (discharger := omega) only [i_lt, i_le, i_eq, bI_tz, decide_eq_false_iff_not, Int32.reduceToInt, nI_toInt, tm1, tm2, tm3, tm4, tm9]; omega) | omega) ?_
          refine And.intro ⟨rfl, rfl⟩ (And.intro rfl (Exists.intro _ (Exists.intro _ (And.intro (c_failed (h := nh (upI h 1 7 4)) (shp_nh hs) 4) ?_))))
          exact ⟨Or.inl rfl, rfl, rfl⟩
      · obtain ⟨j, hj, rfl⟩ := i_of q1.1 (n := 4) q1.2 (by decide)
        obtain ⟨m, hm, rfl⟩ := i_of (a := n) (n := 61) (by omega) (by omega) (by decide)
        obtain ⟨l, hl, rfl⟩ := i_of q2.1.1 (n := 3) q2.1.2 (by decide)
        have ij : inB (nI j) 4 = true := inB_nI hj (by decide)
        obtain rfl | rfl | rfl | rfl : j = 0 ∨ j = 1 ∨ j = 2 ∨ j = 3 := by omega
        · refine ⟨.int 1, flI (upI (upI (upI h 1 7 0) 31 0 (nI l)) 31 1 (nI m)) 32 0, _, ?_, c_sheet_m (h := flI (upI (upI (upI h 1 7 0) 31 0 (nI l)) 31 1 (nI m)) 32 0) hs (by decide) (by omega) q2.1, ?_⟩
          · refine cc_nh (F := fun h => flI (upI (upI (upI h 1 7 0) 31 0 (nI l)) 31 1 (nI m)) 32 0) hs (cc_of 60 rfl rfl ?_)
            refine And.intro rfl ?_
            refine And.intro rfl (And.intro rfl (Exists.intro _ (Exists.intro _ (And.intro (c_isSheet _) ?_))))
            refine br_t (by first | assumption | (simp (discharger := omega) only [i_lt, i_le, i_eq, bI_tz, decide_eq_false_iff_not, Int32.reduceToInt, nI_toInt, tm1, tm2, tm3, tm4, tm9]; done) | (simp (discharger := omega) only [i_lt, i_le, i_eq, bI_tz, decide_eq_false_iff_not, Int32.reduceToInt, nI_toInt, tm1, tm2, tm3, tm4, tm9]; omega) | omega) ?_
            refine And.intro rfl (And.intro rfl (Exists.intro _ (Exists.intro _ (And.intro (c_isLane _) ?_))))
            refine br_f (by first | assumption | (simp (discharger := omega) only [i_lt, i_le, i_eq, bI_tz, decide_eq_false_iff_not, Int32.reduceToInt, nI_toInt, tm1, tm2, tm3, tm4, tm9]; done) | (simp (discharger := omega) only [i_lt, i_le, i_eq, bI_tz, decide_eq_false_iff_not, Int32.reduceToInt, nI_toInt, tm1, tm2, tm3, tm4, tm9]; omega) | omega) ?_
            refine br_t (show nI m ≤ 60 by first | assumption | (simp (discharger := omega) only [i_lt, i_le, i_eq, bI_tz, decide_eq_false_iff_not, Int32.reduceToInt, nI_toInt, tm1, tm2, tm3, tm4, tm9]; done) | (simp (discharger := omega) only [i_lt, i_le, i_eq, bI_tz, decide_eq_false_iff_not, Int32.reduceToInt, nI_toInt, tm1, tm2, tm3, tm4, tm9]; omega) | omega) ?_
            refine br_t (show (0 : Int32) ≤ nI m by first | assumption | (simp (discharger := omega) only [i_lt, i_le, i_eq, bI_tz, decide_eq_false_iff_not, Int32.reduceToInt, nI_toInt, tm1, tm2, tm3, tm4, tm9]; done) | (simp (discharger := omega) only [i_lt, i_le, i_eq, bI_tz, decide_eq_false_iff_not, Int32.reduceToInt, nI_toInt, tm1, tm2, tm3, tm4, tm9]; omega) | omega) ?_
            refine And.intro rfl ?_
            refine And.intro (⟨rfl, ij⟩) ?_
            refine And.intro ⟨rfl, rfl⟩ (And.intro rfl (Exists.intro _ (Exists.intro _ (And.intro (c_begin (h := upI (nh h) 1 7 0) (a := 31) (c := 32) rfl rfl rfl rfl (nI l) (nI m)) ?_))))
            exact ⟨Or.inl rfl, rfl, rfl⟩
          · have f : Fr [(1, 7), (31, 0), (31, 1), (32, 1000), (61, 0), (62, 0), (63, 1000), (39, 0)] h (upI (rwI (upI (upI (flI (upI (upI (upI h 1 7 0) 31 0 (nI l)) 31 1 (nI m)) 32 0) 61 0 (nI m)) 62 0 (nI l)) 63 (fun i => if 60 * 0 ≤ i ∧ i < 60 * 0 + m then 0 else zI (flI (upI (upI (upI h 1 7 0) 31 0 (nI l)) 31 1 (nI m)) 32 0) 63 i)) 39 0 0) := (((((((((Fr.refl _ h).upI rfl).upI rfl).upI rfl).rwI (by decide)).upI rfl).upI rfl).rwI (by decide)).upI rfl)
            refine fin0 hS f rfl rfl (f.simA0 rfl rfl hS.2.1) (rows_but (j := 0) hS.2.2.1 (Or.inr ⟨m, l, by omega, by omega, rfl, rfl, rfl, rfl, fun i hi => ?_⟩) ?_ ?_ ?_ ?_)
            · show (if i < zN h 32 then (0 : Int32) else _) = (if 60 * 0 ≤ 60 * 0 + i ∧ 60 * 0 + i < 60 * 0 + m then 0 else _)
              rw [if_pos (by rw [(hs.1 32 (by decide)).2]; exact (show i < 60 by omega)), if_pos (by omega)]
            · intro k hk hne
              obtain rfl | rfl | rfl | rfl : k = 0 ∨ k = 1 ∨ k = 2 ∨ k = 3 := by omega
              all_goals first | rfl | exact absurd rfl hne
            · intro k hk hne
              obtain rfl | rfl | rfl | rfl : k = 0 ∨ k = 1 ∨ k = 2 ∨ k = 3 := by omega
              all_goals first | rfl | exact absurd rfl hne
            · intro k hk hne i hi
              show (if 60 * 0 ≤ 60 * k + i ∧ 60 * k + i < 60 * 0 + m then (0 : Int32) else _) = _
              rw [if_neg (by omega)]
              rfl
            · intro k hk hne
              obtain rfl | rfl | rfl | rfl : k = 0 ∨ k = 1 ∨ k = 2 ∨ k = 3 := by omega
              all_goals first | exact absurd rfl hne | exact ⟨rfl, rfl⟩
        · refine ⟨.int 1, flI (upI (upI (upI h 1 7 0) 33 0 (nI l)) 33 1 (nI m)) 34 0, _, ?_, c_sheet_m (h := flI (upI (upI (upI h 1 7 0) 33 0 (nI l)) 33 1 (nI m)) 34 0) hs (by decide) (by omega) q2.1, ?_⟩
          · refine cc_nh (F := fun h => flI (upI (upI (upI h 1 7 0) 33 0 (nI l)) 33 1 (nI m)) 34 0) hs (cc_of 60 rfl rfl ?_)
            refine And.intro rfl ?_
            refine And.intro rfl (And.intro rfl (Exists.intro _ (Exists.intro _ (And.intro (c_isSheet _) ?_))))
            refine br_t (by first | assumption | (simp (discharger := omega) only [i_lt, i_le, i_eq, bI_tz, decide_eq_false_iff_not, Int32.reduceToInt, nI_toInt, tm1, tm2, tm3, tm4, tm9]; done) | (simp (discharger := omega) only [i_lt, i_le, i_eq, bI_tz, decide_eq_false_iff_not, Int32.reduceToInt, nI_toInt, tm1, tm2, tm3, tm4, tm9]; omega) | omega) ?_
            refine And.intro rfl (And.intro rfl (Exists.intro _ (Exists.intro _ (And.intro (c_isLane _) ?_))))
            refine br_f (by first | assumption | (simp (discharger := omega) only [i_lt, i_le, i_eq, bI_tz, decide_eq_false_iff_not, Int32.reduceToInt, nI_toInt, tm1, tm2, tm3, tm4, tm9]; done) | (simp (discharger := omega) only [i_lt, i_le, i_eq, bI_tz, decide_eq_false_iff_not, Int32.reduceToInt, nI_toInt, tm1, tm2, tm3, tm4, tm9]; omega) | omega) ?_
            refine br_t (show nI m ≤ 60 by first | assumption | (simp (discharger := omega) only [i_lt, i_le, i_eq, bI_tz, decide_eq_false_iff_not, Int32.reduceToInt, nI_toInt, tm1, tm2, tm3, tm4, tm9]; done) | (simp (discharger := omega) only [i_lt, i_le, i_eq, bI_tz, decide_eq_false_iff_not, Int32.reduceToInt, nI_toInt, tm1, tm2, tm3, tm4, tm9]; omega) | omega) ?_
            refine br_t (show (0 : Int32) ≤ nI m by first | assumption | (simp (discharger := omega) only [i_lt, i_le, i_eq, bI_tz, decide_eq_false_iff_not, Int32.reduceToInt, nI_toInt, tm1, tm2, tm3, tm4, tm9]; done) | (simp (discharger := omega) only [i_lt, i_le, i_eq, bI_tz, decide_eq_false_iff_not, Int32.reduceToInt, nI_toInt, tm1, tm2, tm3, tm4, tm9]; omega) | omega) ?_
            refine And.intro rfl ?_
            refine And.intro (⟨rfl, ij⟩) ?_
            refine And.intro ⟨rfl, rfl⟩ (And.intro rfl (Exists.intro _ (Exists.intro _ (And.intro (c_begin (h := upI (nh h) 1 7 0) (a := 33) (c := 34) rfl rfl rfl rfl (nI l) (nI m)) ?_))))
            exact ⟨Or.inl rfl, rfl, rfl⟩
          · have f : Fr [(1, 7), (33, 0), (33, 1), (34, 1000), (61, 1), (62, 1), (63, 1000), (39, 0)] h (upI (rwI (upI (upI (flI (upI (upI (upI h 1 7 0) 33 0 (nI l)) 33 1 (nI m)) 34 0) 61 1 (nI m)) 62 1 (nI l)) 63 (fun i => if 60 * 1 ≤ i ∧ i < 60 * 1 + m then 0 else zI (flI (upI (upI (upI h 1 7 0) 33 0 (nI l)) 33 1 (nI m)) 34 0) 63 i)) 39 0 0) := (((((((((Fr.refl _ h).upI rfl).upI rfl).upI rfl).rwI (by decide)).upI rfl).upI rfl).rwI (by decide)).upI rfl)
            refine fin0 hS f rfl rfl (f.simA0 rfl rfl hS.2.1) (rows_but (j := 1) hS.2.2.1 (Or.inr ⟨m, l, by omega, by omega, rfl, rfl, rfl, rfl, fun i hi => ?_⟩) ?_ ?_ ?_ ?_)
            · show (if i < zN h 34 then (0 : Int32) else _) = (if 60 * 1 ≤ 60 * 1 + i ∧ 60 * 1 + i < 60 * 1 + m then 0 else _)
              rw [if_pos (by rw [(hs.1 34 (by decide)).2]; exact (show i < 60 by omega)), if_pos (by omega)]
            · intro k hk hne
              obtain rfl | rfl | rfl | rfl : k = 0 ∨ k = 1 ∨ k = 2 ∨ k = 3 := by omega
              all_goals first | rfl | exact absurd rfl hne
            · intro k hk hne
              obtain rfl | rfl | rfl | rfl : k = 0 ∨ k = 1 ∨ k = 2 ∨ k = 3 := by omega
              all_goals first | rfl | exact absurd rfl hne
            · intro k hk hne i hi
              show (if 60 * 1 ≤ 60 * k + i ∧ 60 * k + i < 60 * 1 + m then (0 : Int32) else _) = _
              rw [if_neg (by omega)]
              rfl
            · intro k hk hne
              obtain rfl | rfl | rfl | rfl : k = 0 ∨ k = 1 ∨ k = 2 ∨ k = 3 := by omega
              all_goals first | exact absurd rfl hne | exact ⟨rfl, rfl⟩
        · refine ⟨.int 1, flI (upI (upI (upI h 1 7 0) 35 0 (nI l)) 35 1 (nI m)) 36 0, _, ?_, c_sheet_m (h := flI (upI (upI (upI h 1 7 0) 35 0 (nI l)) 35 1 (nI m)) 36 0) hs (by decide) (by omega) q2.1, ?_⟩
          · refine cc_nh (F := fun h => flI (upI (upI (upI h 1 7 0) 35 0 (nI l)) 35 1 (nI m)) 36 0) hs (cc_of 60 rfl rfl ?_)
            refine And.intro rfl ?_
            refine And.intro rfl (And.intro rfl (Exists.intro _ (Exists.intro _ (And.intro (c_isSheet _) ?_))))
            refine br_t (by first | assumption | (simp (discharger := omega) only [i_lt, i_le, i_eq, bI_tz, decide_eq_false_iff_not, Int32.reduceToInt, nI_toInt, tm1, tm2, tm3, tm4, tm9]; done) | (simp (discharger := omega) only [i_lt, i_le, i_eq, bI_tz, decide_eq_false_iff_not, Int32.reduceToInt, nI_toInt, tm1, tm2, tm3, tm4, tm9]; omega) | omega) ?_
            refine And.intro rfl (And.intro rfl (Exists.intro _ (Exists.intro _ (And.intro (c_isLane _) ?_))))
            refine br_f (by first | assumption | (simp (discharger := omega) only [i_lt, i_le, i_eq, bI_tz, decide_eq_false_iff_not, Int32.reduceToInt, nI_toInt, tm1, tm2, tm3, tm4, tm9]; done) | (simp (discharger := omega) only [i_lt, i_le, i_eq, bI_tz, decide_eq_false_iff_not, Int32.reduceToInt, nI_toInt, tm1, tm2, tm3, tm4, tm9]; omega) | omega) ?_
            refine br_t (show nI m ≤ 60 by first | assumption | (simp (discharger := omega) only [i_lt, i_le, i_eq, bI_tz, decide_eq_false_iff_not, Int32.reduceToInt, nI_toInt, tm1, tm2, tm3, tm4, tm9]; done) | (simp (discharger := omega) only [i_lt, i_le, i_eq, bI_tz, decide_eq_false_iff_not, Int32.reduceToInt, nI_toInt, tm1, tm2, tm3, tm4, tm9]; omega) | omega) ?_
            refine br_t (show (0 : Int32) ≤ nI m by first | assumption | (simp (discharger := omega) only [i_lt, i_le, i_eq, bI_tz, decide_eq_false_iff_not, Int32.reduceToInt, nI_toInt, tm1, tm2, tm3, tm4, tm9]; done) | (simp (discharger := omega) only [i_lt, i_le, i_eq, bI_tz, decide_eq_false_iff_not, Int32.reduceToInt, nI_toInt, tm1, tm2, tm3, tm4, tm9]; omega) | omega) ?_
            refine And.intro rfl ?_
            refine And.intro (⟨rfl, ij⟩) ?_
            refine And.intro ⟨rfl, rfl⟩ (And.intro rfl (Exists.intro _ (Exists.intro _ (And.intro (c_begin (h := upI (nh h) 1 7 0) (a := 35) (c := 36) rfl rfl rfl rfl (nI l) (nI m)) ?_))))
            exact ⟨Or.inl rfl, rfl, rfl⟩
          · have f : Fr [(1, 7), (35, 0), (35, 1), (36, 1000), (61, 2), (62, 2), (63, 1000), (39, 0)] h (upI (rwI (upI (upI (flI (upI (upI (upI h 1 7 0) 35 0 (nI l)) 35 1 (nI m)) 36 0) 61 2 (nI m)) 62 2 (nI l)) 63 (fun i => if 60 * 2 ≤ i ∧ i < 60 * 2 + m then 0 else zI (flI (upI (upI (upI h 1 7 0) 35 0 (nI l)) 35 1 (nI m)) 36 0) 63 i)) 39 0 0) := (((((((((Fr.refl _ h).upI rfl).upI rfl).upI rfl).rwI (by decide)).upI rfl).upI rfl).rwI (by decide)).upI rfl)
            refine fin0 hS f rfl rfl (f.simA0 rfl rfl hS.2.1) (rows_but (j := 2) hS.2.2.1 (Or.inr ⟨m, l, by omega, by omega, rfl, rfl, rfl, rfl, fun i hi => ?_⟩) ?_ ?_ ?_ ?_)
            · show (if i < zN h 36 then (0 : Int32) else _) = (if 60 * 2 ≤ 60 * 2 + i ∧ 60 * 2 + i < 60 * 2 + m then 0 else _)
              rw [if_pos (by rw [(hs.1 36 (by decide)).2]; exact (show i < 60 by omega)), if_pos (by omega)]
            · intro k hk hne
              obtain rfl | rfl | rfl | rfl : k = 0 ∨ k = 1 ∨ k = 2 ∨ k = 3 := by omega
              all_goals first | rfl | exact absurd rfl hne
            · intro k hk hne
              obtain rfl | rfl | rfl | rfl : k = 0 ∨ k = 1 ∨ k = 2 ∨ k = 3 := by omega
              all_goals first | rfl | exact absurd rfl hne
            · intro k hk hne i hi
              show (if 60 * 2 ≤ 60 * k + i ∧ 60 * k + i < 60 * 2 + m then (0 : Int32) else _) = _
              rw [if_neg (by omega)]
              rfl
            · intro k hk hne
              obtain rfl | rfl | rfl | rfl : k = 0 ∨ k = 1 ∨ k = 2 ∨ k = 3 := by omega
              all_goals first | exact absurd rfl hne | exact ⟨rfl, rfl⟩
        · refine ⟨.int 1, flI (upI (upI (upI h 1 7 0) 37 0 (nI l)) 37 1 (nI m)) 38 0, _, ?_, c_sheet_m (h := flI (upI (upI (upI h 1 7 0) 37 0 (nI l)) 37 1 (nI m)) 38 0) hs (by decide) (by omega) q2.1, ?_⟩
          · refine cc_nh (F := fun h => flI (upI (upI (upI h 1 7 0) 37 0 (nI l)) 37 1 (nI m)) 38 0) hs (cc_of 60 rfl rfl ?_)
            refine And.intro rfl ?_
            refine And.intro rfl (And.intro rfl (Exists.intro _ (Exists.intro _ (And.intro (c_isSheet _) ?_))))
            refine br_t (by first | assumption | (simp (discharger := omega) only [i_lt, i_le, i_eq, bI_tz, decide_eq_false_iff_not, Int32.reduceToInt, nI_toInt, tm1, tm2, tm3, tm4, tm9]; done) | (simp (discharger := omega) only [i_lt, i_le, i_eq, bI_tz, decide_eq_false_iff_not, Int32.reduceToInt, nI_toInt, tm1, tm2, tm3, tm4, tm9]; omega) | omega) ?_
            refine And.intro rfl (And.intro rfl (Exists.intro _ (Exists.intro _ (And.intro (c_isLane _) ?_))))
            refine br_f (by first | assumption | (simp (discharger := omega) only [i_lt, i_le, i_eq, bI_tz, decide_eq_false_iff_not, Int32.reduceToInt, nI_toInt, tm1, tm2, tm3, tm4, tm9]; done) | (simp (discharger := omega) only [i_lt, i_le, i_eq, bI_tz, decide_eq_false_iff_not, Int32.reduceToInt, nI_toInt, tm1, tm2, tm3, tm4, tm9]; omega) | omega) ?_
            refine br_t (show nI m ≤ 60 by first | assumption | (simp (discharger := omega) only [i_lt, i_le, i_eq, bI_tz, decide_eq_false_iff_not, Int32.reduceToInt, nI_toInt, tm1, tm2, tm3, tm4, tm9]; done) | (simp (discharger := omega) only [i_lt, i_le, i_eq, bI_tz, decide_eq_false_iff_not, Int32.reduceToInt, nI_toInt, tm1, tm2, tm3, tm4, tm9]; omega) | omega) ?_
            refine br_t (show (0 : Int32) ≤ nI m by first | assumption | (simp (discharger := omega) only [i_lt, i_le, i_eq, bI_tz, decide_eq_false_iff_not, Int32.reduceToInt, nI_toInt, tm1, tm2, tm3, tm4, tm9]; done) | (simp (discharger := omega) only [i_lt, i_le, i_eq, bI_tz, decide_eq_false_iff_not, Int32.reduceToInt, nI_toInt, tm1, tm2, tm3, tm4, tm9]; omega) | omega) ?_
            refine And.intro rfl ?_
            refine And.intro (⟨rfl, ij⟩) ?_
            refine And.intro ⟨rfl, rfl⟩ (And.intro rfl (Exists.intro _ (Exists.intro _ (And.intro (c_begin (h := upI (nh h) 1 7 0) (a := 37) (c := 38) rfl rfl rfl rfl (nI l) (nI m)) ?_))))
            exact ⟨Or.inl rfl, rfl, rfl⟩
          · have f : Fr [(1, 7), (37, 0), (37, 1), (38, 1000), (61, 3), (62, 3), (63, 1000), (39, 0)] h (upI (rwI (upI (upI (flI (upI (upI (upI h 1 7 0) 37 0 (nI l)) 37 1 (nI m)) 38 0) 61 3 (nI m)) 62 3 (nI l)) 63 (fun i => if 60 * 3 ≤ i ∧ i < 60 * 3 + m then 0 else zI (flI (upI (upI (upI h 1 7 0) 37 0 (nI l)) 37 1 (nI m)) 38 0) 63 i)) 39 0 0) := (((((((((Fr.refl _ h).upI rfl).upI rfl).upI rfl).rwI (by decide)).upI rfl).upI rfl).rwI (by decide)).upI rfl)
            refine fin0 hS f rfl rfl (f.simA0 rfl rfl hS.2.1) (rows_but (j := 3) hS.2.2.1 (Or.inr ⟨m, l, by omega, by omega, rfl, rfl, rfl, rfl, fun i hi => ?_⟩) ?_ ?_ ?_ ?_)
            · show (if i < zN h 38 then (0 : Int32) else _) = (if 60 * 3 ≤ 60 * 3 + i ∧ 60 * 3 + i < 60 * 3 + m then 0 else _)
              rw [if_pos (by rw [(hs.1 38 (by decide)).2]; exact (show i < 60 by omega)), if_pos (by omega)]
            · intro k hk hne
              obtain rfl | rfl | rfl | rfl : k = 0 ∨ k = 1 ∨ k = 2 ∨ k = 3 := by omega
              all_goals first | rfl | exact absurd rfl hne
            · intro k hk hne
              obtain rfl | rfl | rfl | rfl : k = 0 ∨ k = 1 ∨ k = 2 ∨ k = 3 := by omega
              all_goals first | rfl | exact absurd rfl hne
            · intro k hk hne i hi
              show (if 60 * 3 ≤ 60 * k + i ∧ 60 * k + i < 60 * 3 + m then (0 : Int32) else _) = _
              rw [if_neg (by omega)]
              rfl
            · intro k hk hne
              obtain rfl | rfl | rfl | rfl : k = 0 ∨ k = 1 ∨ k = 2 ∨ k = 3 := by omega
              all_goals first | exact absurd rfl hne | exact ⟨rfl, rfl⟩
    · refine ⟨.int (-2), upI h 1 7 0, upI (upI h 1 7 0) 39 0 0, ?_, ?_, fin_flt hS 0⟩
      · refine cc_nh (F := fun h => upI h 1 7 0) hs (cc_of 60 rfl rfl ?_)
        refine And.intro rfl ?_
        refine And.intro rfl (And.intro rfl (Exists.intro _ (Exists.intro _ (And.intro (c_isSheet _) ?_))))
        refine br_t (by first | assumption | (simp (discharger := omega) only [i_lt, i_le, i_eq, bI_tz, decide_eq_false_iff_not, Int32.reduceToInt, nI_toInt, tm1, tm2, tm3, tm4, tm9]; done) | (simp (discharger := omega) only [i_lt, i_le, i_eq, bI_tz, decide_eq_false_iff_not, Int32.reduceToInt, nI_toInt, tm1, tm2, tm3, tm4, tm9]; omega) | omega) ?_
        refine And.intro rfl (And.intro rfl (Exists.intro _ (Exists.intro _ (And.intro (c_isLane _) ?_))))
        by_cases q3 : 0 ≤ lane.toInt ∧ lane.toInt < 3
        · refine br_f (by first | assumption | (simp (discharger := omega) only [i_lt, i_le, i_eq, bI_tz, decide_eq_false_iff_not, Int32.reduceToInt, nI_toInt, tm1, tm2, tm3, tm4, tm9]; done) | (simp (discharger := omega) only [i_lt, i_le, i_eq, bI_tz, decide_eq_false_iff_not, Int32.reduceToInt, nI_toInt, tm1, tm2, tm3, tm4, tm9]; omega) | omega) ?_
          refine br_f (show ¬ (n ≤ 60) by first | assumption | (simp (discharger := omega) only [i_lt, i_le, i_eq, bI_tz, decide_eq_false_iff_not, Int32.reduceToInt, nI_toInt, tm1, tm2, tm3, tm4, tm9]; done) | (simp (discharger := omega) only [i_lt, i_le, i_eq, bI_tz, decide_eq_false_iff_not, Int32.reduceToInt, nI_toInt, tm1, tm2, tm3, tm4, tm9]; omega) | omega) ?_
          exact ⟨Or.inl rfl, rfl, rfl⟩
        · refine br_t (by first | assumption | (simp (discharger := omega) only [i_lt, i_le, i_eq, bI_tz, decide_eq_false_iff_not, Int32.reduceToInt, nI_toInt, tm1, tm2, tm3, tm4, tm9]; done) | (simp (discharger := omega) only [i_lt, i_le, i_eq, bI_tz, decide_eq_false_iff_not, Int32.reduceToInt, nI_toInt, tm1, tm2, tm3, tm4, tm9]; omega) | omega) ?_
          exact ⟨Or.inl rfl, rfl, rfl⟩
      · refine cc_nh (h := upI h 1 7 0) (F := fun h => upI h 39 0 0) hs (cc_of 60 rfl rfl ?_)
        refine And.intro rfl (And.intro rfl (Exists.intro _ (Exists.intro _ (And.intro (c_noSheet _) ?_))))
        refine br_t (by first | assumption | (simp (discharger := omega) only [i_lt, i_le, i_eq, bI_tz, decide_eq_false_iff_not, Int32.reduceToInt, nI_toInt, tm1, tm2, tm3, tm4, tm9]; done) | (simp (discharger := omega) only [i_lt, i_le, i_eq, bI_tz, decide_eq_false_iff_not, Int32.reduceToInt, nI_toInt, tm1, tm2, tm3, tm4, tm9]; omega) | omega) ?_
        refine And.intro rfl (And.intro rfl (Exists.intro _ (Exists.intro _ (And.intro (c_in02 _) ?_))))
        by_cases q3 : 0 ≤ lane.toInt ∧ lane.toInt < 3
        · refine br_f (by first | assumption | (simp (discharger := omega) only [i_lt, i_le, i_eq, bI_tz, decide_eq_false_iff_not, Int32.reduceToInt, nI_toInt, tm1, tm2, tm3, tm4, tm9]; done) | (simp (discharger := omega) only [i_lt, i_le, i_eq, bI_tz, decide_eq_false_iff_not, Int32.reduceToInt, nI_toInt, tm1, tm2, tm3, tm4, tm9]; omega) | omega) ?_
          refine br_f (show ¬ (n ≤ 60) by first | assumption | (simp (discharger := omega) only [i_lt, i_le, i_eq, bI_tz, decide_eq_false_iff_not, Int32.reduceToInt, nI_toInt, tm1, tm2, tm3, tm4, tm9]; done) | (simp (discharger := omega) only [i_lt, i_le, i_eq, bI_tz, decide_eq_false_iff_not, Int32.reduceToInt, nI_toInt, tm1, tm2, tm3, tm4, tm9]; omega) | omega) ?_
          refine And.intro ⟨rfl, rfl⟩ (And.intro rfl (Exists.intro _ (Exists.intro _ (And.intro (c_refused (h := nh (upI h 1 7 0)) (shp_nh hs) (-2)) ?_))))
          exact ⟨Or.inl rfl, rfl, rfl⟩
        · refine br_t (by first | assumption | (simp (discharger := omega) only [i_lt, i_le, i_eq, bI_tz, decide_eq_false_iff_not, Int32.reduceToInt, nI_toInt, tm1, tm2, tm3, tm4, tm9]; done) | (simp (discharger := omega) only [i_lt, i_le, i_eq, bI_tz, decide_eq_false_iff_not, Int32.reduceToInt, nI_toInt, tm1, tm2, tm3, tm4, tm9]; omega) | omega) ?_
          refine And.intro ⟨rfl, rfl⟩ (And.intro rfl (Exists.intro _ (Exists.intro _ (And.intro (c_refused (h := nh (upI h 1 7 0)) (shp_nh hs) (-2)) ?_))))
          exact ⟨Or.inl rfl, rfl, rfl⟩
  · refine ⟨.int (-1), upI h 1 7 0, upI (upI h 1 7 0) 39 0 0, ?_, ?_, fin_flt hS 0⟩
    · refine cc_nh (F := fun h => upI h 1 7 0) hs (cc_of 60 rfl rfl ?_)
      refine And.intro rfl ?_
      refine And.intro rfl (And.intro rfl (Exists.intro _ (Exists.intro _ (And.intro (c_isSheet _) ?_))))
      refine br_f (by first | assumption | (simp (discharger := omega) only [i_lt, i_le, i_eq, bI_tz, decide_eq_false_iff_not, Int32.reduceToInt, nI_toInt, tm1, tm2, tm3, tm4, tm9]; done) | (simp (discharger := omega) only [i_lt, i_le, i_eq, bI_tz, decide_eq_false_iff_not, Int32.reduceToInt, nI_toInt, tm1, tm2, tm3, tm4, tm9]; omega) | omega) ?_
      exact ⟨Or.inl rfl, rfl, rfl⟩
    · refine cc_nh (h := upI h 1 7 0) (F := fun h => upI h 39 0 0) hs (cc_of 60 rfl rfl ?_)
      refine And.intro rfl (And.intro rfl (Exists.intro _ (Exists.intro _ (And.intro (c_noSheet _) ?_))))
      refine br_f (by first | assumption | (simp (discharger := omega) only [i_lt, i_le, i_eq, bI_tz, decide_eq_false_iff_not, Int32.reduceToInt, nI_toInt, tm1, tm2, tm3, tm4, tm9]; done) | (simp (discharger := omega) only [i_lt, i_le, i_eq, bI_tz, decide_eq_false_iff_not, Int32.reduceToInt, nI_toInt, tm1, tm2, tm3, tm4, tm9]; omega) | omega) ?_
      refine And.intro ⟨rfl, rfl⟩ (And.intro rfl (Exists.intro _ (Exists.intro _ (And.intro (c_refused (h := nh (upI h 1 7 0)) (shp_nh hs) (-1)) ?_))))
      exact ⟨Or.inl rfl, rfl, rfl⟩
theorem op_fault (hS : Sim0 h) : Op0 sc 123 219 [] h := by
  refine ⟨.int (zI h 1 7), h, h, c_fault_x hS.1, ?_, fin_same hS⟩
  rw [hS.2.1.1]
  exact c_fault_m hS.1
theorem op_trace (hS : Sim0 h) : Op0 sc 122 218 [] h := by
  refine ⟨.int (zI h 30 0), h, h, c_trace_x hS.1, ?_, fin_same hS⟩
  rw [hS.2.1.2.1]
  exact c_trace_m hS.1
theorem op_lose (hS : Sim0 h) (k : Int32) : Op0 sc 115 208 [.int k] h := by
  have hs := hS.1
  by_cases q1 : 0 ≤ k.toInt ∧ k.toInt < 4
  · obtain ⟨j, hj, rfl⟩ := i_of q1.1 (n := 4) q1.2 (by decide)
    have ij : inB (nI j) 4 = true := inB_nI hj (by decide)
    have ej : (nI j).toNatClampNeg = j := nI_clamp (by omega)
    obtain rfl | rfl | rfl | rfl : j = 0 ∨ j = 1 ∨ j = 2 ∨ j = 3 := by omega
    · obtain ⟨r1, r2⟩ := RowOK_ln (hS.2.2.1 0 (by decide))
      refine ⟨.int (if (zI h 61 0).toInt < 0 then 0 else 1), upI h 31 0 (-9), upI (upI h 31 0 (-9)) 61 0 (-1), ?_, ?_, ?_⟩
      · refine cc_nh (F := fun h => upI h 31 0 (-9)) hs (cc_of 60 rfl rfl ?_)
        refine And.intro rfl (And.intro rfl (Exists.intro _ (Exists.intro _ (And.intro (c_isSheet _) ?_))))
        refine br_t (by first | assumption | (simp (discharger := omega) only [i_lt, i_le, i_eq, bI_tz, decide_eq_false_iff_not, Int32.reduceToInt, nI_toInt, tm1, tm2, tm3, tm4, tm9]; done) | (simp (discharger := omega) only [i_lt, i_le, i_eq, bI_tz, decide_eq_false_iff_not, Int32.reduceToInt, nI_toInt, tm1, tm2, tm3, tm4, tm9]; omega) | omega) ?_
        refine And.intro rfl ?_
        refine And.intro (⟨rfl, ij⟩) ?_
        refine And.intro ⟨rfl, rfl⟩ (And.intro rfl (Exists.intro _ (Exists.intro _ (And.intro (c_isNothing (h := nh h) (a := 31) rfl) ?_))))
        by_cases q3 : (zI h 61 0).toInt < 0
        · rw [if_pos q3]
          refine br_f (by rw [bI_z]; exact fun z => of_decide_eq_false z (r1.mp q3)) ?_
          refine And.intro rfl ?_
          refine And.intro (⟨rfl, ij⟩) ?_
          refine And.intro rfl ?_
          exact ⟨Or.inl rfl, rfl, rfl⟩
        · rw [if_neg q3]
          refine br_t (by rw [bI_z]; exact decide_eq_false fun z => q3 (r1.mpr z)) ?_
          refine And.intro rfl ?_
          refine And.intro (⟨rfl, ij⟩) ?_
          refine And.intro rfl ?_
          exact ⟨Or.inl rfl, rfl, rfl⟩
      · refine cc_nh (h := upI h 31 0 (-9)) (F := fun h => upI h 61 0 (-1)) hs (cc_of 60 rfl rfl ?_)
        refine And.intro rfl (And.intro rfl (Exists.intro _ (Exists.intro _ (And.intro (c_noSheet _) ?_))))
        refine br_t (by first | assumption | (simp (discharger := omega) only [i_lt, i_le, i_eq, bI_tz, decide_eq_false_iff_not, Int32.reduceToInt, nI_toInt, tm1, tm2, tm3, tm4, tm9]; done) | (simp (discharger := omega) only [i_lt, i_le, i_eq, bI_tz, decide_eq_false_iff_not, Int32.reduceToInt, nI_toInt, tm1, tm2, tm3, tm4, tm9]; omega) | omega) ?_
        refine And.intro rfl ?_
        refine And.intro (⟨rfl, ij⟩) ?_
        by_cases q3 : (zI h 61 0).toInt < 0
        · rw [if_pos q3]
          refine br_f (show ¬ ((0 : Int32) ≤ zI h 61 0) by first | assumption | (simp (discharger := omega) only [i_lt, i_le, i_eq, bI_tz, decide_eq_false_iff_not, Int32.reduceToInt, nI_toInt, tm1, tm2, tm3, tm4, tm9]; done) | (simp (discharger := omega) only [i_lt, i_le, i_eq, bI_tz, decide_eq_false_iff_not, Int32.reduceToInt, nI_toInt, tm1, tm2, tm3, tm4, tm9]; omega) | omega) ?_
          refine And.intro rfl ?_
          refine And.intro (⟨rfl, ij⟩) ?_
          exact ⟨Or.inl rfl, rfl, rfl⟩
        · rw [if_neg q3]
          refine br_t (show (0 : Int32) ≤ zI h 61 0 by first | assumption | (simp (discharger := omega) only [i_lt, i_le, i_eq, bI_tz, decide_eq_false_iff_not, Int32.reduceToInt, nI_toInt, tm1, tm2, tm3, tm4, tm9]; done) | (simp (discharger := omega) only [i_lt, i_le, i_eq, bI_tz, decide_eq_false_iff_not, Int32.reduceToInt, nI_toInt, tm1, tm2, tm3, tm4, tm9]; omega) | omega) ?_
          refine And.intro rfl ?_
          refine And.intro (⟨rfl, ij⟩) ?_
          exact ⟨Or.inl rfl, rfl, rfl⟩
      · have f : Fr [(31, 0), (61, 0)] h (upI (upI h 31 0 (-9)) 61 0 (-1)) := ((Fr.refl _ h).upI rfl).upI rfl
        refine fin0 hS f rfl rfl (f.simA rfl hS.2.1) (rows_but (j := 0) hS.2.2.1 (Or.inl ⟨rfl, rfl⟩) ?_ (fun k _ _ => rfl) (fun k _ _ i _ => rfl) ?_)
        · intro k hk hne
          obtain rfl | rfl | rfl | rfl : k = 0 ∨ k = 1 ∨ k = 2 ∨ k = 3 := by omega
          all_goals first | rfl | exact absurd rfl hne
        · intro k hk hne
          obtain rfl | rfl | rfl | rfl : k = 0 ∨ k = 1 ∨ k = 2 ∨ k = 3 := by omega
          all_goals first | exact absurd rfl hne | exact ⟨rfl, rfl⟩
    · obtain ⟨r1, r2⟩ := RowOK_ln (hS.2.2.1 1 (by decide))
      refine ⟨.int (if (zI h 61 1).toInt < 0 then 0 else 1), upI h 33 0 (-9), upI (upI h 33 0 (-9)) 61 1 (-1), ?_, ?_, ?_⟩
      · refine cc_nh (F := fun h => upI h 33 0 (-9)) hs (cc_of 60 rfl rfl ?_)
        refine And.intro rfl (And.intro rfl (Exists.intro _ (Exists.intro _ (And.intro (c_isSheet _) ?_))))
        refine br_t (by first | assumption | (simp (discharger := omega) only [i_lt, i_le, i_eq, bI_tz, decide_eq_false_iff_not, Int32.reduceToInt, nI_toInt, tm1, tm2, tm3, tm4, tm9]; done) | (simp (discharger := omega) only [i_lt, i_le, i_eq, bI_tz, decide_eq_false_iff_not, Int32.reduceToInt, nI_toInt, tm1, tm2, tm3, tm4, tm9]; omega) | omega) ?_
        refine And.intro rfl ?_
        refine And.intro (⟨rfl, ij⟩) ?_
        refine And.intro ⟨rfl, rfl⟩ (And.intro rfl (Exists.intro _ (Exists.intro _ (And.intro (c_isNothing (h := nh h) (a := 33) rfl) ?_))))
        by_cases q3 : (zI h 61 1).toInt < 0
        · rw [if_pos q3]
          refine br_f (by rw [bI_z]; exact fun z => of_decide_eq_false z (r1.mp q3)) ?_
          refine And.intro rfl ?_
          refine And.intro (⟨rfl, ij⟩) ?_
          refine And.intro rfl ?_
          exact ⟨Or.inl rfl, rfl, rfl⟩
        · rw [if_neg q3]
          refine br_t (by rw [bI_z]; exact decide_eq_false fun z => q3 (r1.mpr z)) ?_
          refine And.intro rfl ?_
          refine And.intro (⟨rfl, ij⟩) ?_
          refine And.intro rfl ?_
          exact ⟨Or.inl rfl, rfl, rfl⟩
      · refine cc_nh (h := upI h 33 0 (-9)) (F := fun h => upI h 61 1 (-1)) hs (cc_of 60 rfl rfl ?_)
        refine And.intro rfl (And.intro rfl (Exists.intro _ (Exists.intro _ (And.intro (c_noSheet _) ?_))))
        refine br_t (by first | assumption | (simp (discharger := omega) only [i_lt, i_le, i_eq, bI_tz, decide_eq_false_iff_not, Int32.reduceToInt, nI_toInt, tm1, tm2, tm3, tm4, tm9]; done) | (simp (discharger := omega) only [i_lt, i_le, i_eq, bI_tz, decide_eq_false_iff_not, Int32.reduceToInt, nI_toInt, tm1, tm2, tm3, tm4, tm9]; omega) | omega) ?_
        refine And.intro rfl ?_
        refine And.intro (⟨rfl, ij⟩) ?_
        by_cases q3 : (zI h 61 1).toInt < 0
        · rw [if_pos q3]
          refine br_f (show ¬ ((0 : Int32) ≤ zI h 61 1) by first | assumption | (simp (discharger := omega) only [i_lt, i_le, i_eq, bI_tz, decide_eq_false_iff_not, Int32.reduceToInt, nI_toInt, tm1, tm2, tm3, tm4, tm9]; done) | (simp (discharger := omega) only [i_lt, i_le, i_eq, bI_tz, decide_eq_false_iff_not, Int32.reduceToInt, nI_toInt, tm1, tm2, tm3, tm4, tm9]; omega) | omega) ?_
          refine And.intro rfl ?_
          refine And.intro (⟨rfl, ij⟩) ?_
          exact ⟨Or.inl rfl, rfl, rfl⟩
        · rw [if_neg q3]
          refine br_t (show (0 : Int32) ≤ zI h 61 1 by first | assumption | (simp (discharger := omega) only [i_lt, i_le, i_eq, bI_tz, decide_eq_false_iff_not, Int32.reduceToInt, nI_toInt, tm1, tm2, tm3, tm4, tm9]; done) | (simp (discharger := omega) only [i_lt, i_le, i_eq, bI_tz, decide_eq_false_iff_not, Int32.reduceToInt, nI_toInt, tm1, tm2, tm3, tm4, tm9]; omega) | omega) ?_
          refine And.intro rfl ?_
          refine And.intro (⟨rfl, ij⟩) ?_
          exact ⟨Or.inl rfl, rfl, rfl⟩
      · have f : Fr [(33, 0), (61, 1)] h (upI (upI h 33 0 (-9)) 61 1 (-1)) := ((Fr.refl _ h).upI rfl).upI rfl
        refine fin0 hS f rfl rfl (f.simA rfl hS.2.1) (rows_but (j := 1) hS.2.2.1 (Or.inl ⟨rfl, rfl⟩) ?_ (fun k _ _ => rfl) (fun k _ _ i _ => rfl) ?_)
        · intro k hk hne
          obtain rfl | rfl | rfl | rfl : k = 0 ∨ k = 1 ∨ k = 2 ∨ k = 3 := by omega
          all_goals first | rfl | exact absurd rfl hne
        · intro k hk hne
          obtain rfl | rfl | rfl | rfl : k = 0 ∨ k = 1 ∨ k = 2 ∨ k = 3 := by omega
          all_goals first | exact absurd rfl hne | exact ⟨rfl, rfl⟩
    · obtain ⟨r1, r2⟩ := RowOK_ln (hS.2.2.1 2 (by decide))
      refine ⟨.int (if (zI h 61 2).toInt < 0 then 0 else 1), upI h 35 0 (-9), upI (upI h 35 0 (-9)) 61 2 (-1), ?_, ?_, ?_⟩
      · refine cc_nh (F := fun h => upI h 35 0 (-9)) hs (cc_of 60 rfl rfl ?_)
        refine And.intro rfl (And.intro rfl (Exists.intro _ (Exists.intro _ (And.intro (c_isSheet _) ?_))))
        refine br_t (by first | assumption | (simp (discharger := omega) only [i_lt, i_le, i_eq, bI_tz, decide_eq_false_iff_not, Int32.reduceToInt, nI_toInt, tm1, tm2, tm3, tm4, tm9]; done) | (simp (discharger := omega) only [i_lt, i_le, i_eq, bI_tz, decide_eq_false_iff_not, Int32.reduceToInt, nI_toInt, tm1, tm2, tm3, tm4, tm9]; omega) | omega) ?_
        refine And.intro rfl ?_
        refine And.intro (⟨rfl, ij⟩) ?_
        refine And.intro ⟨rfl, rfl⟩ (And.intro rfl (Exists.intro _ (Exists.intro _ (And.intro (c_isNothing (h := nh h) (a := 35) rfl) ?_))))
        by_cases q3 : (zI h 61 2).toInt < 0
        · rw [if_pos q3]
          refine br_f (by rw [bI_z]; exact fun z => of_decide_eq_false z (r1.mp q3)) ?_
          refine And.intro rfl ?_
          refine And.intro (⟨rfl, ij⟩) ?_
          refine And.intro rfl ?_
          exact ⟨Or.inl rfl, rfl, rfl⟩
        · rw [if_neg q3]
          refine br_t (by rw [bI_z]; exact decide_eq_false fun z => q3 (r1.mpr z)) ?_
          refine And.intro rfl ?_
          refine And.intro (⟨rfl, ij⟩) ?_
          refine And.intro rfl ?_
          exact ⟨Or.inl rfl, rfl, rfl⟩
      · refine cc_nh (h := upI h 35 0 (-9)) (F := fun h => upI h 61 2 (-1)) hs (cc_of 60 rfl rfl ?_)
        refine And.intro rfl (And.intro rfl (Exists.intro _ (Exists.intro _ (And.intro (c_noSheet _) ?_))))
        refine br_t (by first | assumption | (simp (discharger := omega) only [i_lt, i_le, i_eq, bI_tz, decide_eq_false_iff_not, Int32.reduceToInt, nI_toInt, tm1, tm2, tm3, tm4, tm9]; done) | (simp (discharger := omega) only [i_lt, i_le, i_eq, bI_tz, decide_eq_false_iff_not, Int32.reduceToInt, nI_toInt, tm1, tm2, tm3, tm4, tm9]; omega) | omega) ?_
        refine And.intro rfl ?_
        refine And.intro (⟨rfl, ij⟩) ?_
        by_cases q3 : (zI h 61 2).toInt < 0
        · rw [if_pos q3]
          refine br_f (show ¬ ((0 : Int32) ≤ zI h 61 2) by first | assumption | (simp (discharger := omega) only [i_lt, i_le, i_eq, bI_tz, decide_eq_false_iff_not, Int32.reduceToInt, nI_toInt, tm1, tm2, tm3, tm4, tm9]; done) | (simp (discharger := omega) only [i_lt, i_le, i_eq, bI_tz, decide_eq_false_iff_not, Int32.reduceToInt, nI_toInt, tm1, tm2, tm3, tm4, tm9]; omega) | omega) ?_
          refine And.intro rfl ?_
          refine And.intro (⟨rfl, ij⟩) ?_
          exact ⟨Or.inl rfl, rfl, rfl⟩
        · rw [if_neg q3]
          refine br_t (show (0 : Int32) ≤ zI h 61 2 by first | assumption | (simp (discharger := omega) only [i_lt, i_le, i_eq, bI_tz, decide_eq_false_iff_not, Int32.reduceToInt, nI_toInt, tm1, tm2, tm3, tm4, tm9]; done) | (simp (discharger := omega) only [i_lt, i_le, i_eq, bI_tz, decide_eq_false_iff_not, Int32.reduceToInt, nI_toInt, tm1, tm2, tm3, tm4, tm9]; omega) | omega) ?_
          refine And.intro rfl ?_
          refine And.intro (⟨rfl, ij⟩) ?_
          exact ⟨Or.inl rfl, rfl, rfl⟩
      · have f : Fr [(35, 0), (61, 2)] h (upI (upI h 35 0 (-9)) 61 2 (-1)) := ((Fr.refl _ h).upI rfl).upI rfl
        refine fin0 hS f rfl rfl (f.simA rfl hS.2.1) (rows_but (j := 2) hS.2.2.1 (Or.inl ⟨rfl, rfl⟩) ?_ (fun k _ _ => rfl) (fun k _ _ i _ => rfl) ?_)
        · intro k hk hne
          obtain rfl | rfl | rfl | rfl : k = 0 ∨ k = 1 ∨ k = 2 ∨ k = 3 := by omega
          all_goals first | rfl | exact absurd rfl hne
        · intro k hk hne
          obtain rfl | rfl | rfl | rfl : k = 0 ∨ k = 1 ∨ k = 2 ∨ k = 3 := by omega
          all_goals first | exact absurd rfl hne | exact ⟨rfl, rfl⟩
    · obtain ⟨r1, r2⟩ := RowOK_ln (hS.2.2.1 3 (by decide))
      refine ⟨.int (if (zI h 61 3).toInt < 0 then 0 else 1), upI h 37 0 (-9), upI (upI h 37 0 (-9)) 61 3 (-1), ?_, ?_, ?_⟩
      · refine cc_nh (F := fun h => upI h 37 0 (-9)) hs (cc_of 60 rfl rfl ?_)
        refine And.intro rfl (And.intro rfl (Exists.intro _ (Exists.intro _ (And.intro (c_isSheet _) ?_))))
        refine br_t (by first | assumption | (simp (discharger := omega) only [i_lt, i_le, i_eq, bI_tz, decide_eq_false_iff_not, Int32.reduceToInt, nI_toInt, tm1, tm2, tm3, tm4, tm9]; done) | (simp (discharger := omega) only [i_lt, i_le, i_eq, bI_tz, decide_eq_false_iff_not, Int32.reduceToInt, nI_toInt, tm1, tm2, tm3, tm4, tm9]; omega) | omega) ?_
        refine And.intro rfl ?_
        refine And.intro (⟨rfl, ij⟩) ?_
        refine And.intro ⟨rfl, rfl⟩ (And.intro rfl (Exists.intro _ (Exists.intro _ (And.intro (c_isNothing (h := nh h) (a := 37) rfl) ?_))))
        by_cases q3 : (zI h 61 3).toInt < 0
        · rw [if_pos q3]
          refine br_f (by rw [bI_z]; exact fun z => of_decide_eq_false z (r1.mp q3)) ?_
          refine And.intro rfl ?_
          refine And.intro (⟨rfl, ij⟩) ?_
          refine And.intro rfl ?_
          exact ⟨Or.inl rfl, rfl, rfl⟩
        · rw [if_neg q3]
          refine br_t (by rw [bI_z]; exact decide_eq_false fun z => q3 (r1.mpr z)) ?_
          refine And.intro rfl ?_
          refine And.intro (⟨rfl, ij⟩) ?_
          refine And.intro rfl ?_
          exact ⟨Or.inl rfl, rfl, rfl⟩
      · refine cc_nh (h := upI h 37 0 (-9)) (F := fun h => upI h 61 3 (-1)) hs (cc_of 60 rfl rfl ?_)
        refine And.intro rfl (And.intro rfl (Exists.intro _ (Exists.intro _ (And.intro (c_noSheet _) ?_))))
        refine br_t (by first | assumption | (simp (discharger := omega) only [i_lt, i_le, i_eq, bI_tz, decide_eq_false_iff_not, Int32.reduceToInt, nI_toInt, tm1, tm2, tm3, tm4, tm9]; done) | (simp (discharger := omega) only [i_lt, i_le, i_eq, bI_tz, decide_eq_false_iff_not, Int32.reduceToInt, nI_toInt, tm1, tm2, tm3, tm4, tm9]; omega) | omega) ?_
        refine And.intro rfl ?_
        refine And.intro (⟨rfl, ij⟩) ?_
        by_cases q3 : (zI h 61 3).toInt < 0
        · rw [if_pos q3]
          refine br_f (show ¬ ((0 : Int32) ≤ zI h 61 3) by first | assumption | (simp (discharger := omega) only [i_lt, i_le, i_eq, bI_tz, decide_eq_false_iff_not, Int32.reduceToInt, nI_toInt, tm1, tm2, tm3, tm4, tm9]; done) | (simp (discharger := omega) only [i_lt, i_le, i_eq, bI_tz, decide_eq_false_iff_not, Int32.reduceToInt, nI_toInt, tm1, tm2, tm3, tm4, tm9]; omega) | omega) ?_
          refine And.intro rfl ?_
          refine And.intro (⟨rfl, ij⟩) ?_
          exact ⟨Or.inl rfl, rfl, rfl⟩
        · rw [if_neg q3]
          refine br_t (show (0 : Int32) ≤ zI h 61 3 by first | assumption | (simp (discharger := omega) only [i_lt, i_le, i_eq, bI_tz, decide_eq_false_iff_not, Int32.reduceToInt, nI_toInt, tm1, tm2, tm3, tm4, tm9]; done) | (simp (discharger := omega) only [i_lt, i_le, i_eq, bI_tz, decide_eq_false_iff_not, Int32.reduceToInt, nI_toInt, tm1, tm2, tm3, tm4, tm9]; omega) | omega) ?_
          refine And.intro rfl ?_
          refine And.intro (⟨rfl, ij⟩) ?_
          exact ⟨Or.inl rfl, rfl, rfl⟩
      · have f : Fr [(37, 0), (61, 3)] h (upI (upI h 37 0 (-9)) 61 3 (-1)) := ((Fr.refl _ h).upI rfl).upI rfl
        refine fin0 hS f rfl rfl (f.simA rfl hS.2.1) (rows_but (j := 3) hS.2.2.1 (Or.inl ⟨rfl, rfl⟩) ?_ (fun k _ _ => rfl) (fun k _ _ i _ => rfl) ?_)
        · intro k hk hne
          obtain rfl | rfl | rfl | rfl : k = 0 ∨ k = 1 ∨ k = 2 ∨ k = 3 := by omega
          all_goals first | rfl | exact absurd rfl hne
        · intro k hk hne
          obtain rfl | rfl | rfl | rfl : k = 0 ∨ k = 1 ∨ k = 2 ∨ k = 3 := by omega
          all_goals first | exact absurd rfl hne | exact ⟨rfl, rfl⟩
  · refine ⟨.int (-1), h, h, ?_, ?_, fin_same hS⟩
    · refine cc_nh (F := fun h => h) hs (cc_of 60 rfl rfl ?_)
      refine And.intro rfl (And.intro rfl (Exists.intro _ (Exists.intro _ (And.intro (c_isSheet _) ?_))))
      refine br_f (by first | assumption | (simp (discharger := omega) only [i_lt, i_le, i_eq, bI_tz, decide_eq_false_iff_not, Int32.reduceToInt, nI_toInt, tm1, tm2, tm3, tm4, tm9]; done) | (simp (discharger := omega) only [i_lt, i_le, i_eq, bI_tz, decide_eq_false_iff_not, Int32.reduceToInt, nI_toInt, tm1, tm2, tm3, tm4, tm9]; omega) | omega) ?_
      exact ⟨Or.inl rfl, rfl, rfl⟩
    · refine cc_nh (F := fun h => h) hs (cc_of 60 rfl rfl ?_)
      refine And.intro rfl (And.intro rfl (Exists.intro _ (Exists.intro _ (And.intro (c_noSheet _) ?_))))
      refine br_f (by first | assumption | (simp (discharger := omega) only [i_lt, i_le, i_eq, bI_tz, decide_eq_false_iff_not, Int32.reduceToInt, nI_toInt, tm1, tm2, tm3, tm4, tm9]; done) | (simp (discharger := omega) only [i_lt, i_le, i_eq, bI_tz, decide_eq_false_iff_not, Int32.reduceToInt, nI_toInt, tm1, tm2, tm3, tm4, tm9]; omega) | omega) ?_
      exact ⟨Or.inl rfl, rfl, rfl⟩
end
