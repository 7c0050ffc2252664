section
variable {sc : Nat × (Nat → Int32)} {h : Hp}
theorem c_put_m (hs : Shp h) {k i : Nat} (hk : k < 4) (v : Int32) (h1 : (i : Int) < (zI h 61 k).toInt) (h2 : (zI h 61 k).toInt ≤ 60) : Cc sc 210 [.ref 39, .int (nI k), .int (nI i), .int v] h (some (.int 1)) (upI (upI h 63 (60 * k + i) (nar (zI h 62 k) v)) 39 0 0) := by
  have ij : inB (nI k) 4 = true := inB_nI hk (by decide)
  have ej : (nI k).toNatClampNeg = k := nI_clamp (by omega)
  have ei : (60 : Int32) * nI k + nI i = nI (60 * k + i) := by rw [show (60 : Int32) = nI 60 from rfl, pk_mul, nI_add]
  have ie : (nI (60 * k + i)).toNatClampNeg = 60 * k + i := nI_clamp (by omega)
  have ib : inB (nI (60 * k + i)) 240 = true := inB_nI (by omega) (by decide)
  refine cc_nh (F := fun h => (upI (upI h 63 (60 * k + i) (nar (zI h 62 k) v)) 39 0 0)) hs (cc_of 60 rfl rfl ?_)
  refine And.intro rfl (And.intro rfl (Exists.intro _ (Exists.intro _ (And.intro (c_noSheet _) ?_))))
  refine br_t (by first | assumption | (simp (discharger := omega) only [i_lt, i_le, i_eq, bI_tz, decide_eq_false_iff_not, Int32.reduceToInt, nI_toInt, tm1, tm2, tm3, tm4, tm9]; done) | (simp (discharger := omega) only [i_lt, i_le, i_eq, bI_tz, decide_eq_false_iff_not, Int32.reduceToInt, nI_toInt, tm1, tm2, tm3, tm4, tm9]; omega) | omega) ?_
  refine And.intro ⟨rfl, rfl⟩ (And.intro rfl (Exists.intro _ (Exists.intro _ (And.intro (c_noCell (shp_nh hs) hk (nI i)) ?_))))
  have e0 : (if (zI (nh h) 61 k).toInt < 0 then (1 : Int32) else if 0 ≤ (nI i).toInt ∧ (nI i).toInt < (zI (nh h) 61 k).toInt then 0 else 3) = 0 := by
    rw [show zI (nh h) 61 k = zI h 61 k from rfl, nI_toInt (by omega), if_neg (by omega), if_pos (by omega)]
  rw [e0]
  refine br_t (by decide) ?_
  refine And.intro rfl ?_
  refine And.intro rfl ?_
  refine And.intro (⟨rfl, ij⟩) ?_
  rw [ej, ei]
  by_cases q1 : zI h 62 k = 0
  · refine br_f (fun z => z q1) ?_
    refine And.intro (⟨rfl, ib⟩) ?_
    rw [ie, show nar (zI (nh h) 62 k) v = v.toInt8.toInt32 by rw [nar, show zI (nh h) 62 k = zI h 62 k from rfl, if_pos q1]]
    refine And.intro ⟨rfl, rfl⟩ (And.intro rfl (Exists.intro _ (Exists.intro _ (And.intro (c_refused (h := upI (nh h) 63 (60 * k + i) v.toInt8.toInt32) (shp_nh hs) 1) ?_))))
    exact ⟨Or.inl rfl, rfl, rfl⟩
  · refine br_t q1 ?_
    refine And.intro rfl ?_
    refine And.intro (⟨rfl, ij⟩) ?_
    rw [ej]
    by_cases q2 : zI h 62 k = 1
    · refine br_f (fun z => z q2) ?_
      refine And.intro (⟨rfl, ib⟩) ?_
      rw [ie, show nar (zI (nh h) 62 k) v = v.toInt16.toInt32 by rw [nar, show zI (nh h) 62 k = zI h 62 k from rfl, if_neg q1, if_pos q2]]
      refine And.intro ⟨rfl, rfl⟩ (And.intro rfl (Exists.intro _ (Exists.intro _ (And.intro (c_refused (h := upI (nh h) 63 (60 * k + i) v.toInt16.toInt32) (shp_nh hs) 1) ?_))))
      exact ⟨Or.inl rfl, rfl, rfl⟩
    · refine br_t q2 ?_
      refine And.intro (⟨rfl, ib⟩) ?_
      rw [ie, show nar (zI (nh h) 62 k) v = v by rw [nar, show zI (nh h) 62 k = zI h 62 k from rfl, if_neg q1, if_neg q2]]
      refine And.intro ⟨rfl, rfl⟩ (And.intro rfl (Exists.intro _ (Exists.intro _ (And.intro (c_refused (h := upI (nh h) 63 (60 * k + i) v) (shp_nh hs) 1) ?_))))
      exact ⟨Or.inl rfl, rfl, rfl⟩
theorem c_put_bad (hs : Shp h) {k : Nat} (hk : k < 4) (i v : Int32) {w : Int32} (h1 : (if (zI h 61 k).toInt < 0 then (1 : Int32) else if 0 ≤ i.toInt ∧ i.toInt < (zI h 61 k).toInt then 0 else 3) = w) (h2 : 0 < w) : Cc sc 210 [.ref 39, .int (nI k), .int i, .int v] h (some (.int (-10 - w))) (upI h 39 0 w) := by
  have hn := c_noCell (sc := sc) (shp_nh hs) hk i
  rw [show zI (nh h) 61 k = zI h 61 k from rfl, h1] at hn
  refine cc_nh (F := fun h => upI h 39 0 w) hs (cc_of 60 rfl rfl ?_)
  refine And.intro rfl (And.intro rfl (Exists.intro _ (Exists.intro _ (And.intro (c_noSheet _) ?_))))
  refine br_t (by first | assumption | (simp (discharger := omega) only [i_lt, i_le, i_eq, bI_tz, decide_eq_false_iff_not, Int32.reduceToInt, nI_toInt, tm1, tm2, tm3, tm4, tm9]; done) | (simp (discharger := omega) only [i_lt, i_le, i_eq, bI_tz, decide_eq_false_iff_not, Int32.reduceToInt, nI_toInt, tm1, tm2, tm3, tm4, tm9]; omega) | omega) ?_
  refine And.intro ⟨rfl, rfl⟩ (And.intro rfl (Exists.intro _ (Exists.intro _ (And.intro (hn) ?_))))
  refine br_f (fun z => by rw [i_le] at z; rw [i_lt] at h2; omega) ?_
  refine And.intro ⟨rfl, rfl⟩ (And.intro rfl (Exists.intro _ (Exists.intro _ (And.intro (hn) ?_))))
  refine And.intro ⟨rfl, rfl⟩ (And.intro rfl (Exists.intro _ (Exists.intro _ (And.intro (c_failed (h := nh h) (shp_nh hs) w) ?_))))
  exact ⟨Or.inl rfl, rfl, rfl⟩
theorem RowOK_sz {h : Hp} {k : Nat} (r : RowOK h k) : (zI h 61 k).toInt ≤ 60 := by
  rcases r with ⟨h1, h2⟩ | ⟨n, ln, h1, h2, h3, h4, h5, h6, h7⟩
  · rw [h1]; decide
  · rw [h3, nI_toInt (by omega)]; omega
theorem op_put (hS : Sim0 h) (k i v : Int32) : Op0 sc 116 210 [.int k, .int i, .int v] h := by
  have hs := hS.1
  by_cases q1 : 0 ≤ k.toInt ∧ k.toInt < 4
  · obtain ⟨j, hj, rfl⟩ := i_of q1.1 (n := 4) q1.2 (by decide)
    have ij : inB (nI j) 4 = true := inB_nI hj (by decide)
    obtain rfl | rfl | rfl | rfl : j = 0 ∨ j = 1 ∨ j = 2 ∨ j = 3 := by omega
    · have hr := hS.2.2.1 0 (by decide)
      obtain ⟨r1, r2⟩ := RowOK_ln hr
      have rs := RowOK_sz hr
      by_cases q3 : (zI h 61 0).toInt < 0
      · have e0 : zI h 31 0 = -9 := r1.mp q3
        refine ⟨.int (-11), upI h 1 7 1, upI (upI h 1 7 1) 39 0 1, ?_, c_put_bad (h := upI h 1 7 1) hs (by decide) i v (w := 1) (if_pos q3) (by decide), fin_flt hS 1⟩
        refine cc_nh (F := fun h => upI h 1 7 1) hs (cc_of 60 rfl rfl ?_)
        refine And.intro rfl ?_
        refine And.intro rfl (And.intro rfl (Exists.intro _ (Exists.intro _ (And.intro (c_isSheet _) ?_))))
        refine br_t (by first | assumption | (simp (discharger := omega) only [i_lt, i_le, i_eq, bI_tz, decide_eq_false_iff_not, Int32.reduceToInt, nI_toInt, tm1, tm2, tm3, tm4, tm9]; done) | (simp (discharger := omega) only [i_lt, i_le, i_eq, bI_tz, decide_eq_false_iff_not, Int32.reduceToInt, nI_toInt, tm1, tm2, tm3, tm4, tm9]; omega) | omega) ?_
        refine And.intro rfl ?_
        refine And.intro (⟨rfl, ij⟩) ?_
        refine And.intro ⟨rfl, rfl⟩ (And.intro rfl (Exists.intro _ (Exists.intro _ (And.intro (c_isNothing (h := upI (nh h) 1 7 0) (a := 31) rfl) ?_))))
        refine br_f (by rw [bI_z]; exact fun z => of_decide_eq_false z e0) ?_
        refine And.intro ⟨rfl, rfl⟩ (And.intro rfl (Exists.intro _ (Exists.intro _ (And.intro (c_faulty (h := upI (nh h) 1 7 0) (shp_nh hs) 1) ?_))))
        rw [upI_upI]
        exact ⟨Or.inl rfl, rfl, rfl⟩
      · obtain ⟨r3, r4⟩ := r2 q3
        have e9 : ¬ zI h 31 0 = -9 := fun z => q3 (r1.mpr z)
        have e8 : zI (upI (nh h) 1 7 0) 31 1 = zI h 61 0 := r4
        have hl := c_lacks (sc := sc) (h := upI (nh h) 1 7 0) (a := 31) rfl i 1 (by decide) (by rw [e8]; omega)
        rw [e8, show (1 : Int32).toInt = 1 by decide] at hl
        by_cases q4 : 0 ≤ i.toInt ∧ i.toInt < (zI h 61 0).toInt
        · obtain ⟨m, hm, rfl⟩ := i_of (a := i) (n := 60) (by omega) (by omega) (by decide)
          rw [nI_toInt (by omega)] at q4
          refine ⟨.int 1, upI (upI h 1 7 0) 32 m (nar (zI h 31 0) v), _, ?_, c_put_m (h := upI (upI h 1 7 0) 32 m (nar (zI h 31 0) v)) hs (k := 0) (by decide) v q4.2 rs, ?_⟩
          · refine cc_nh (F := fun h => upI (upI h 1 7 0) 32 m (nar (zI h 31 0) v)) hs (cc_of 60 rfl rfl ?_)
            refine And.intro rfl ?_
            refine And.intro rfl (And.intro rfl (Exists.intro _ (Exists.intro _ (And.intro (c_isSheet _) ?_))))
            refine br_t (by first | assumption | (simp (discharger := omega) only [i_lt, i_le, i_eq, bI_tz, decide_eq_false_iff_not, Int32.reduceToInt, nI_toInt, tm1, tm2, tm3, tm4, tm9]; done) | (simp (discharger := omega) only [i_lt, i_le, i_eq, bI_tz, decide_eq_false_iff_not, Int32.reduceToInt, nI_toInt, tm1, tm2, tm3, tm4, tm9]; omega) | omega) ?_
            refine And.intro rfl ?_
            refine And.intro (⟨rfl, ij⟩) ?_
            refine And.intro ⟨rfl, rfl⟩ (And.intro rfl (Exists.intro _ (Exists.intro _ (And.intro (c_isNothing (h := upI (nh h) 1 7 0) (a := 31) rfl) ?_))))
            refine br_t (by rw [bI_z]; exact decide_eq_false e9) ?_
            refine And.intro rfl ?_
            refine And.intro (⟨rfl, ij⟩) ?_
            refine And.intro ⟨rfl, rfl⟩ (And.intro rfl (Exists.intro _ (Exists.intro _ (And.intro (hl) ?_))))
            refine br_t (by rw [bI_z, decide_eq_false_iff_not, nI_toInt (by omega)]; omega) ?_
            refine And.intro rfl ?_
            refine And.intro (⟨rfl, ij⟩) ?_
            refine And.intro ⟨rfl, rfl⟩ (And.intro rfl (Exists.intro _ (Exists.intro _ (And.intro (c_write (h := upI (nh h) 1 7 0) (a := 31) (c := 32) rfl rfl rfl rfl hm v) ?_))))
            exact ⟨Or.inl rfl, rfl, rfl⟩
          · have f : Fr [(1, 7), (32, m), (63, 60 * 0 + m), (39, 0)] h (upI (upI (upI (upI h 1 7 0) 32 m (nar (zI h 31 0) v)) 63 (60 * 0 + m) (nar (zI h 62 0) v)) 39 0 0) := ((((Fr.refl _ h).upI rfl).upI (by simp [inP])).upI (by simp [inP])).upI rfl
            refine fin0 hS f rfl rfl (f.simA0 rfl rfl hS.2.1) (rows_but (j := 0) hS.2.2.1 ?_ (fun k _ _ => rfl) (fun k _ _ => rfl) ?_ ?_)
            · rcases hr with ⟨z1, z2⟩ | ⟨n, ln, z1, z2, z3, z4, z5, z6, z7⟩
              · rw [z1] at q3
                exact absurd (by decide) q3
              · refine Or.inr ⟨n, ln, z1, z2, z3, z4, z5, z6, fun i hi => ?_⟩
                show upd (zI h 32) m (nar (zI h 31 0) v) i = upd (zI h 63) (60 * 0 + m) (nar (zI h 62 0) v) (60 * 0 + i)
                unfold upd
                by_cases e : i = m
                · rw [if_pos e, if_pos (by omega), r3]
                · rw [if_neg e, if_neg (by omega)]
                  exact z7 i hi
            · intro k hk hne i hi
              show upd (zI h 63) (60 * 0 + m) (nar (zI h 62 0) v) (60 * k + i) = _
              unfold upd
              rw [if_neg (by omega)]
            · intro k hk hne
              obtain rfl | rfl | rfl | rfl : k = 0 ∨ k = 1 ∨ k = 2 ∨ k = 3 := by omega
              all_goals first | exact absurd rfl hne | exact ⟨rfl, rfl⟩
        · refine ⟨.int (-13), upI h 1 7 3, upI (upI h 1 7 3) 39 0 3, ?_, c_put_bad (h := upI h 1 7 3) hs (by decide) i v (w := 3) ((if_neg q3).trans (if_neg q4)) (by decide), fin_flt hS 3⟩
          refine cc_nh (F := fun h => upI h 1 7 3) hs (cc_of 60 rfl rfl ?_)
          refine And.intro rfl ?_
          refine And.intro rfl (And.intro rfl (Exists.intro _ (Exists.intro _ (And.intro (c_isSheet _) ?_))))
          refine br_t (by first | assumption | (simp (discharger := omega) only [i_lt, i_le, i_eq, bI_tz, decide_eq_false_iff_not, Int32.reduceToInt, nI_toInt, tm1, tm2, tm3, tm4, tm9]; done) | (simp (discharger := omega) only [i_lt, i_le, i_eq, bI_tz, decide_eq_false_iff_not, Int32.reduceToInt, nI_toInt, tm1, tm2, tm3, tm4, tm9]; omega) | omega) ?_
          refine And.intro rfl ?_
          refine And.intro (⟨rfl, ij⟩) ?_
          refine And.intro ⟨rfl, rfl⟩ (And.intro rfl (Exists.intro _ (Exists.intro _ (And.intro (c_isNothing (h := upI (nh h) 1 7 0) (a := 31) rfl) ?_))))
          refine br_t (by rw [bI_z]; exact decide_eq_false e9) ?_
          refine And.intro rfl ?_
          refine And.intro (⟨rfl, ij⟩) ?_
          refine And.intro ⟨rfl, rfl⟩ (And.intro rfl (Exists.intro _ (Exists.intro _ (And.intro (hl) ?_))))
          refine br_f (by rw [bI_z, decide_eq_false_iff_not]; omega) ?_
          refine And.intro ⟨rfl, rfl⟩ (And.intro rfl (Exists.intro _ (Exists.intro _ (And.intro (c_faulty (h := upI (nh h) 1 7 0) (shp_nh hs) 3) ?_))))
          rw [upI_upI]
          exact ⟨Or.inl rfl, rfl, rfl⟩
    · have hr := hS.2.2.1 1 (by decide)
      obtain ⟨r1, r2⟩ := RowOK_ln hr
      have rs := RowOK_sz hr
      by_cases q3 : (zI h 61 1).toInt < 0
      · have e0 : zI h 33 0 = -9 := r1.mp q3
        refine ⟨.int (-11), upI h 1 7 1, upI (upI h 1 7 1) 39 0 1, ?_, c_put_bad (h := upI h 1 7 1) hs (by decide) i v (w := 1) (if_pos q3) (by decide), fin_flt hS 1⟩
        refine cc_nh (F := fun h => upI h 1 7 1) hs (cc_of 60 rfl rfl ?_)
        refine And.intro rfl ?_
        refine And.intro rfl (And.intro rfl (Exists.intro _ (Exists.intro _ (And.intro (c_isSheet _) ?_))))
        refine br_t (by first | assumption | (simp (discharger := omega) only [i_lt, i_le, i_eq, bI_tz, decide_eq_false_iff_not, Int32.reduceToInt, nI_toInt, tm1, tm2, tm3, tm4, tm9]; done) | (simp (discharger := omega) only [i_lt, i_le, i_eq, bI_tz, decide_eq_false_iff_not, Int32.reduceToInt, nI_toInt, tm1, tm2, tm3, tm4, tm9]; omega) | omega) ?_
        refine And.intro rfl ?_
        refine And.intro (⟨rfl, ij⟩) ?_
        refine And.intro ⟨rfl, rfl⟩ (And.intro rfl (Exists.intro _ (Exists.intro _ (And.intro (c_isNothing (h := upI (nh h) 1 7 0) (a := 33) rfl) ?_))))
        refine br_f (by rw [bI_z]; exact fun z => of_decide_eq_false z e0) ?_
        refine And.intro ⟨rfl, rfl⟩ (And.intro rfl (Exists.intro _ (Exists.intro _ (And.intro (c_faulty (h := upI (nh h) 1 7 0) (shp_nh hs) 1) ?_))))
        rw [upI_upI]
        exact ⟨Or.inl rfl, rfl, rfl⟩
      · obtain ⟨r3, r4⟩ := r2 q3
        have e9 : ¬ zI h 33 0 = -9 := fun z => q3 (r1.mpr z)
        have e8 : zI (upI (nh h) 1 7 0) 33 1 = zI h 61 1 := r4
        have hl := c_lacks (sc := sc) (h := upI (nh h) 1 7 0) (a := 33) rfl i 1 (by decide) (by rw [e8]; omega)
        rw [e8, show (1 : Int32).toInt = 1 by decide] at hl
        by_cases q4 : 0 ≤ i.toInt ∧ i.toInt < (zI h 61 1).toInt
        · obtain ⟨m, hm, rfl⟩ := i_of (a := i) (n := 60) (by omega) (by omega) (by decide)
          rw [nI_toInt (by omega)] at q4
          refine ⟨.int 1, upI (upI h 1 7 0) 34 m (nar (zI h 33 0) v), _, ?_, c_put_m (h := upI (upI h 1 7 0) 34 m (nar (zI h 33 0) v)) hs (k := 1) (by decide) v q4.2 rs, ?_⟩
          · refine cc_nh (F := fun h => upI (upI h 1 7 0) 34 m (nar (zI h 33 0) v)) hs (cc_of 60 rfl rfl ?_)
            refine And.intro rfl ?_
            refine And.intro rfl (And.intro rfl (Exists.intro _ (Exists.intro _ (And.intro (c_isSheet _) ?_))))
            refine br_t (by first | assumption | (simp (discharger := omega) only [i_lt, i_le, i_eq, bI_tz, decide_eq_false_iff_not, Int32.reduceToInt, nI_toInt, tm1, tm2, tm3, tm4, tm9]; done) | (simp (discharger := omega) only [i_lt, i_le, i_eq, bI_tz, decide_eq_false_iff_not, Int32.reduceToInt, nI_toInt, tm1, tm2, tm3, tm4, tm9]; omega) | omega) ?_
            refine And.intro rfl ?_
            refine And.intro (⟨rfl, ij⟩) ?_
            refine And.intro ⟨rfl, rfl⟩ (And.intro rfl (Exists.intro _ (Exists.intro _ (And.intro (c_isNothing (h := upI (nh h) 1 7 0) (a := 33) rfl) ?_))))
            refine br_t (by rw [bI_z]; exact decide_eq_false e9) ?_
            refine And.intro rfl ?_
            refine And.intro (⟨rfl, ij⟩) ?_
            refine And.intro ⟨rfl, rfl⟩ (And.intro rfl (Exists.intro _ (Exists.intro _ (And.intro (hl) ?_))))
            refine br_t (by rw [bI_z, decide_eq_false_iff_not, nI_toInt (by omega)]; omega) ?_
            refine And.intro rfl ?_
            refine And.intro (⟨rfl, ij⟩) ?_
            refine And.intro ⟨rfl, rfl⟩ (And.intro rfl (Exists.intro _ (Exists.intro _ (And.intro (c_write (h := upI (nh h) 1 7 0) (a := 33) (c := 34) rfl rfl rfl rfl hm v) ?_))))
            exact ⟨Or.inl rfl, rfl, rfl⟩
          · have f : Fr [(1, 7), (34, m), (63, 60 * 1 + m), (39, 0)] h (upI (upI (upI (upI h 1 7 0) 34 m (nar (zI h 33 0) v)) 63 (60 * 1 + m) (nar (zI h 62 1) v)) 39 0 0) := ((((Fr.refl _ h).upI rfl).upI (by simp [inP])).upI (by simp [inP])).upI rfl
            refine fin0 hS f rfl rfl (f.simA0 rfl rfl hS.2.1) (rows_but (j := 1) hS.2.2.1 ?_ (fun k _ _ => rfl) (fun k _ _ => rfl) ?_ ?_)
            · rcases hr with ⟨z1, z2⟩ | ⟨n, ln, z1, z2, z3, z4, z5, z6, z7⟩
              · rw [z1] at q3
                exact absurd (by decide) q3
              · refine Or.inr ⟨n, ln, z1, z2, z3, z4, z5, z6, fun i hi => ?_⟩
                show upd (zI h 34) m (nar (zI h 33 0) v) i = upd (zI h 63) (60 * 1 + m) (nar (zI h 62 1) v) (60 * 1 + i)
                unfold upd
                by_cases e : i = m
                · rw [if_pos e, if_pos (by omega), r3]
                · rw [if_neg e, if_neg (by omega)]
                  exact z7 i hi
            · intro k hk hne i hi
              show upd (zI h 63) (60 * 1 + m) (nar (zI h 62 1) v) (60 * k + i) = _
              unfold upd
              rw [if_neg (by omega)]
            · intro k hk hne
              obtain rfl | rfl | rfl | rfl : k = 0 ∨ k = 1 ∨ k = 2 ∨ k = 3 := by omega
              all_goals first | exact absurd rfl hne | exact ⟨rfl, rfl⟩
        · refine ⟨.int (-13), upI h 1 7 3, upI (upI h 1 7 3) 39 0 3, ?_, c_put_bad (h := upI h 1 7 3) hs (by decide) i v (w := 3) ((if_neg q3).trans (if_neg q4)) (by decide), fin_flt hS 3⟩
          refine cc_nh (F := fun h => upI h 1 7 3) hs (cc_of 60 rfl rfl ?_)
          refine And.intro rfl ?_
          refine And.intro rfl (And.intro rfl (Exists.intro _ (Exists.intro _ (And.intro (c_isSheet _) ?_))))
          refine br_t (by first | assumption | (simp (discharger := omega) only [i_lt, i_le, i_eq, bI_tz, decide_eq_false_iff_not, Int32.reduceToInt, nI_toInt, tm1, tm2, tm3, tm4, tm9]; done) | (simp (discharger := omega) only [i_lt, i_le, i_eq, bI_tz, decide_eq_false_iff_not, Int32.reduceToInt, nI_toInt, tm1, tm2, tm3, tm4, tm9]; omega) | omega) ?_
          refine And.intro rfl ?_
          refine And.intro (⟨rfl, ij⟩) ?_
          refine And.intro ⟨rfl, rfl⟩ (And.intro rfl (Exists.intro _ (Exists.intro _ (And.intro (c_isNothing (h := upI (nh h) 1 7 0) (a := 33) rfl) ?_))))
          refine br_t (by rw [bI_z]; exact decide_eq_false e9) ?_
          refine And.intro rfl ?_
          refine And.intro (⟨rfl, ij⟩) ?_
          refine And.intro ⟨rfl, rfl⟩ (And.intro rfl (Exists.intro _ (Exists.intro _ (And.intro (hl) ?_))))
          refine br_f (by rw [bI_z, decide_eq_false_iff_not]; omega) ?_
          refine And.intro ⟨rfl, rfl⟩ (And.intro rfl (Exists.intro _ (Exists.intro _ (And.intro (c_faulty (h := upI (nh h) 1 7 0) (shp_nh hs) 3) ?_))))
          rw [upI_upI]
          exact ⟨Or.inl rfl, rfl, rfl⟩
    · have hr := hS.2.2.1 2 (by decide)
      obtain ⟨r1, r2⟩ := RowOK_ln hr
      have rs := RowOK_sz hr
      by_cases q3 : (zI h 61 2).toInt < 0
      · have e0 : zI h 35 0 = -9 := r1.mp q3
        refine ⟨.int (-11), upI h 1 7 1, upI (upI h 1 7 1) 39 0 1, ?_, c_put_bad (h := upI h 1 7 1) hs (by decide) i v (w := 1) (if_pos q3) (by decide), fin_flt hS 1⟩
        refine cc_nh (F := fun h => upI h 1 7 1) hs (cc_of 60 rfl rfl ?_)
        refine And.intro rfl ?_
        refine And.intro rfl (And.intro rfl (Exists.intro _ (Exists.intro _ (And.intro (c_isSheet _) ?_))))
        refine br_t (by first | assumption | (simp (discharger := omega) only [i_lt, i_le, i_eq, bI_tz, decide_eq_false_iff_not, Int32.reduceToInt, nI_toInt, tm1, tm2, tm3, tm4, tm9]; done) | (simp (discharger := omega) only [i_lt, i_le, i_eq, bI_tz, decide_eq_false_iff_not, Int32.reduceToInt, nI_toInt, tm1, tm2, tm3, tm4, tm9]; omega) | omega) ?_
        refine And.intro rfl ?_
        refine And.intro (⟨rfl, ij⟩) ?_
        refine And.intro ⟨rfl, rfl⟩ (And.intro rfl (Exists.intro _ (Exists.intro _ (And.intro (c_isNothing (h := upI (nh h) 1 7 0) (a := 35) rfl) ?_))))
        refine br_f (by rw [bI_z]; exact fun z => of_decide_eq_false z e0) ?_
        refine And.intro ⟨rfl, rfl⟩ (And.intro rfl (Exists.intro _ (Exists.intro _ (And.intro (c_faulty (h := upI (nh h) 1 7 0) (shp_nh hs) 1) ?_))))
        rw [upI_upI]
        exact ⟨Or.inl rfl, rfl, rfl⟩
      · obtain ⟨r3, r4⟩ := r2 q3
        have e9 : ¬ zI h 35 0 = -9 := fun z => q3 (r1.mpr z)
        have e8 : zI (upI (nh h) 1 7 0) 35 1 = zI h 61 2 := r4
        have hl := c_lacks (sc := sc) (h := upI (nh h) 1 7 0) (a := 35) rfl i 1 (by decide) (by rw [e8]; omega)
        rw [e8, show (1 : Int32).toInt = 1 by decide] at hl
        by_cases q4 : 0 ≤ i.toInt ∧ i.toInt < (zI h 61 2).toInt
        · obtain ⟨m, hm, rfl⟩ := i_of (a := i) (n := 60) (by omega) (by omega) (by decide)
          rw [nI_toInt (by omega)] at q4
          refine ⟨.int 1, upI (upI h 1 7 0) 36 m (nar (zI h 35 0) v), _, ?_, c_put_m (h := upI (upI h 1 7 0) 36 m (nar (zI h 35 0) v)) hs (k := 2) (by decide) v q4.2 rs, ?_⟩
          · refine cc_nh (F := fun h => upI (upI h 1 7 0) 36 m (nar (zI h 35 0) v)) hs (cc_of 60 rfl rfl ?_)
            refine And.intro rfl ?_
            refine And.intro rfl (And.intro rfl (Exists.intro _ (Exists.intro _ (And.intro (c_isSheet _) ?_))))
            refine br_t (by first | assumption | (simp (discharger := omega) only [i_lt, i_le, i_eq, bI_tz, decide_eq_false_iff_not, Int32.reduceToInt, nI_toInt, tm1, tm2, tm3, tm4, tm9]; done) | (simp (discharger := omega) only [i_lt, i_le, i_eq, bI_tz, decide_eq_false_iff_not, Int32.reduceToInt, nI_toInt, tm1, tm2, tm3, tm4, tm9]; omega) | omega) ?_
            refine And.intro rfl ?_
            refine And.intro (⟨rfl, ij⟩) ?_
            refine And.intro ⟨rfl, rfl⟩ (And.intro rfl (Exists.intro _ (Exists.intro _ (And.intro (c_isNothing (h := upI (nh h) 1 7 0) (a := 35) rfl) ?_))))
            refine br_t (by rw [bI_z]; exact decide_eq_false e9) ?_
            refine And.intro rfl ?_
            refine And.intro (⟨rfl, ij⟩) ?_
            refine And.intro ⟨rfl, rfl⟩ (And.intro rfl (Exists.intro _ (Exists.intro _ (And.intro (hl) ?_))))
            refine br_t (by rw [bI_z, decide_eq_false_iff_not, nI_toInt (by omega)]; omega) ?_
            refine And.intro rfl ?_
            refine And.intro (⟨rfl, ij⟩) ?_
            refine And.intro ⟨rfl, rfl⟩ (And.intro rfl (Exists.intro _ (Exists.intro _ (And.intro (c_write (h := upI (nh h) 1 7 0) (a := 35) (c := 36) rfl rfl rfl rfl hm v) ?_))))
            exact ⟨Or.inl rfl, rfl, rfl⟩
          · have f : Fr [(1, 7), (36, m), (63, 60 * 2 + m), (39, 0)] h (upI (upI (upI (upI h 1 7 0) 36 m (nar (zI h 35 0) v)) 63 (60 * 2 + m) (nar (zI h 62 2) v)) 39 0 0) := ((((Fr.refl _ h).upI rfl).upI (by simp [inP])).upI (by simp [inP])).upI rfl
            refine fin0 hS f rfl rfl (f.simA0 rfl rfl hS.2.1) (rows_but (j := 2) hS.2.2.1 ?_ (fun k _ _ => rfl) (fun k _ _ => rfl) ?_ ?_)
            · rcases hr with ⟨z1, z2⟩ | ⟨n, ln, z1, z2, z3, z4, z5, z6, z7⟩
              · rw [z1] at q3
                exact absurd (by decide) q3
              · refine Or.inr ⟨n, ln, z1, z2, z3, z4, z5, z6, fun i hi => ?_⟩
                show upd (zI h 36) m (nar (zI h 35 0) v) i = upd (zI h 63) (60 * 2 + m) (nar (zI h 62 2) v) (60 * 2 + i)
                unfold upd
                by_cases e : i = m
                · rw [if_pos e, if_pos (by omega), r3]
                · rw [if_neg e, if_neg (by omega)]
                  exact z7 i hi
            · intro k hk hne i hi
              show upd (zI h 63) (60 * 2 + m) (nar (zI h 62 2) v) (60 * k + i) = _
              unfold upd
              rw [if_neg (by omega)]
            · intro k hk hne
              obtain rfl | rfl | rfl | rfl : k = 0 ∨ k = 1 ∨ k = 2 ∨ k = 3 := by omega
              all_goals first | exact absurd rfl hne | exact ⟨rfl, rfl⟩
        · refine ⟨.int (-13), upI h 1 7 3, upI (upI h 1 7 3) 39 0 3, ?_, c_put_bad (h := upI h 1 7 3) hs (by decide) i v (w := 3) ((if_neg q3).trans (if_neg q4)) (by decide), fin_flt hS 3⟩
          refine cc_nh (F := fun h => upI h 1 7 3) hs (cc_of 60 rfl rfl ?_)
          refine And.intro rfl ?_
          refine And.intro rfl (And.intro rfl (Exists.intro _ (Exists.intro _ (And.intro (c_isSheet _) ?_))))
          refine br_t (by first | assumption | (simp (discharger := omega) only [i_lt, i_le, i_eq, bI_tz, decide_eq_false_iff_not, Int32.reduceToInt, nI_toInt, tm1, tm2, tm3, tm4, tm9]; done) | (simp (discharger := omega) only [i_lt, i_le, i_eq, bI_tz, decide_eq_false_iff_not, Int32.reduceToInt, nI_toInt, tm1, tm2, tm3, tm4, tm9]; omega) | omega) ?_
          refine And.intro rfl ?_
          refine And.intro (⟨rfl, ij⟩) ?_
          refine And.intro ⟨rfl, rfl⟩ (And.intro rfl (Exists.intro _ (Exists.intro _ (And.intro (c_isNothing (h := upI (nh h) 1 7 0) (a := 35) rfl) ?_))))
          refine br_t (by rw [bI_z]; exact decide_eq_false e9) ?_
          refine And.intro rfl ?_
          refine And.intro (⟨rfl, ij⟩) ?_
          refine And.intro ⟨rfl, rfl⟩ (And.intro rfl (Exists.intro _ (Exists.intro _ (And.intro (hl) ?_))))
          refine br_f (by rw [bI_z, decide_eq_false_iff_not]; omega) ?_
          refine And.intro ⟨rfl, rfl⟩ (And.intro rfl (Exists.intro _ (Exists.intro _ (And.intro (c_faulty (h := upI (nh h) 1 7 0) (shp_nh hs) 3) ?_))))
          rw [upI_upI]
          exact ⟨Or.inl rfl, rfl, rfl⟩
    · have hr := hS.2.2.1 3 (by decide)
      obtain ⟨r1, r2⟩ := RowOK_ln hr
      have rs := RowOK_sz hr
      by_cases q3 : (zI h 61 3).toInt < 0
      · have e0 : zI h 37 0 = -9 := r1.mp q3
        refine ⟨.int (-11), upI h 1 7 1, upI (upI h 1 7 1) 39 0 1, ?_, c_put_bad (h := upI h 1 7 1) hs (by decide) i v (w := 1) (if_pos q3) (by decide), fin_flt hS 1⟩
        refine cc_nh (F := fun h => upI h 1 7 1) hs (cc_of 60 rfl rfl ?_)
        refine And.intro rfl ?_
        refine And.intro rfl (And.intro rfl (Exists.intro _ (Exists.intro _ (And.intro (c_isSheet _) ?_))))
        refine br_t (by first | assumption | (simp (discharger := omega) only [i_lt, i_le, i_eq, bI_tz, decide_eq_false_iff_not, Int32.reduceToInt, nI_toInt, tm1, tm2, tm3, tm4, tm9]; done) | (simp (discharger := omega) only [i_lt, i_le, i_eq, bI_tz, decide_eq_false_iff_not, Int32.reduceToInt, nI_toInt, tm1, tm2, tm3, tm4, tm9]; omega) | omega) ?_
        refine And.intro rfl ?_
        refine And.intro (⟨rfl, ij⟩) ?_
        refine And.intro ⟨rfl, rfl⟩ (And.intro rfl (Exists.intro _ (Exists.intro _ (And.intro (c_isNothing (h := upI (nh h) 1 7 0) (a := 37) rfl) ?_))))
        refine br_f (by rw [bI_z]; exact fun z => of_decide_eq_false z e0) ?_
        refine And.intro ⟨rfl, rfl⟩ (And.intro rfl (Exists.intro _ (Exists.intro _ (And.intro (c_faulty (h := upI (nh h) 1 7 0) (shp_nh hs) 1) ?_))))
        rw [upI_upI]
        exact ⟨Or.inl rfl, rfl, rfl⟩
      · obtain ⟨r3, r4⟩ := r2 q3
        have e9 : ¬ zI h 37 0 = -9 := fun z => q3 (r1.mpr z)
        have e8 : zI (upI (nh h) 1 7 0) 37 1 = zI h 61 3 := r4
        have hl := c_lacks (sc := sc) (h := upI (nh h) 1 7 0) (a := 37) rfl i 1 (by decide) (by rw [e8]; omega)
        rw [e8, show (1 : Int32).toInt = 1 by decide] at hl
        by_cases q4 : 0 ≤ i.toInt ∧ i.toInt < (zI h 61 3).toInt
        · obtain ⟨m, hm, rfl⟩ := i_of (a := i) (n := 60) (by omega) (by omega) (by decide)
          rw [nI_toInt (by omega)] at q4
          refine ⟨.int 1, upI (upI h 1 7 0) 38 m (nar (zI h 37 0) v), _, ?_, c_put_m (h := upI (upI h 1 7 0) 38 m (nar (zI h 37 0) v)) hs (k := 3) (by decide) v q4.2 rs, ?_⟩
          · refine cc_nh (F := fun h => upI (upI h 1 7 0) 38 m (nar (zI h 37 0) v)) hs (cc_of 60 rfl rfl ?_)
            refine And.intro rfl ?_
            refine And.intro rfl (And.intro rfl (Exists.intro _ (Exists.intro _ (And.intro (c_isSheet _) ?_))))
            refine br_t (by first | assumption | (simp (discharger := omega) only [i_lt, i_le, i_eq, bI_tz, decide_eq_false_iff_not, Int32.reduceToInt, nI_toInt, tm1, tm2, tm3, tm4, tm9]; done) | (simp (discharger := omega) only [i_lt, i_le, i_eq, bI_tz, decide_eq_false_iff_not, Int32.reduceToInt, nI_toInt, tm1, tm2, tm3, tm4, tm9]; omega) | omega) ?_
            refine And.intro rfl ?_
            refine And.intro (⟨rfl, ij⟩) ?_
            refine And.intro ⟨rfl, rfl⟩ (And.intro rfl (Exists.intro _ (Exists.intro _ (And.intro (c_isNothing (h := upI (nh h) 1 7 0) (a := 37) rfl) ?_))))
            refine br_t (by rw [bI_z]; exact decide_eq_false e9) ?_
            refine And.intro rfl ?_
            refine And.intro (⟨rfl, ij⟩) ?_
            refine And.intro ⟨rfl, rfl⟩ (And.intro rfl (Exists.intro _ (Exists.intro _ (And.intro (hl) ?_))))
            refine br_t (by rw [bI_z, decide_eq_false_iff_not, nI_toInt (by omega)]; omega) ?_
            refine And.intro rfl ?_
            refine And.intro (⟨rfl, ij⟩) ?_
            refine And.intro ⟨rfl, rfl⟩ (And.intro rfl (Exists.intro _ (Exists.intro _ (And.intro (c_write (h := upI (nh h) 1 7 0) (a := 37) (c := 38) rfl rfl rfl rfl hm v) ?_))))
            exact ⟨Or.inl rfl, rfl, rfl⟩
          · have f : Fr [(1, 7), (38, m), (63, 60 * 3 + m), (39, 0)] h (upI (upI (upI (upI h 1 7 0) 38 m (nar (zI h 37 0) v)) 63 (60 * 3 + m) (nar (zI h 62 3) v)) 39 0 0) := ((((Fr.refl _ h).upI rfl).upI (by simp [inP])).upI (by simp [inP])).upI rfl
            refine fin0 hS f rfl rfl (f.simA0 rfl rfl hS.2.1) (rows_but (j := 3) hS.2.2.1 ?_ (fun k _ _ => rfl) (fun k _ _ => rfl) ?_ ?_)
            · rcases hr with ⟨z1, z2⟩ | ⟨n, ln, z1, z2, z3, z4, z5, z6, z7⟩
              · rw [z1] at q3
                exact absurd (by decide) q3
              · refine Or.inr ⟨n, ln, z1, z2, z3, z4, z5, z6, fun i hi => ?_⟩
                show upd (zI h 38) m (nar (zI h 37 0) v) i = upd (zI h 63) (60 * 3 + m) (nar (zI h 62 3) v) (60 * 3 + i)
                unfold upd
                by_cases e : i = m
                · rw [if_pos e, if_pos (by omega), r3]
                · rw [if_neg e, if_neg (by omega)]
                  exact z7 i hi
            · intro k hk hne i hi
              show upd (zI h 63) (60 * 3 + m) (nar (zI h 62 3) v) (60 * k + i) = _
              unfold upd
              rw [if_neg (by omega)]
            · intro k hk hne
              obtain rfl | rfl | rfl | rfl : k = 0 ∨ k = 1 ∨ k = 2 ∨ k = 3 := by omega
              all_goals first | exact absurd rfl hne | exact ⟨rfl, rfl⟩
        · refine ⟨.int (-13), upI h 1 7 3, upI (upI h 1 7 3) 39 0 3, ?_, c_put_bad (h := upI h 1 7 3) hs (by decide) i v (w := 3) ((if_neg q3).trans (if_neg q4)) (by decide), fin_flt hS 3⟩
          refine cc_nh (F := fun h => upI h 1 7 3) hs (cc_of 60 rfl rfl ?_)
          refine And.intro rfl ?_
          refine And.intro rfl (And.intro rfl (Exists.intro _ (Exists.intro _ (And.intro (c_isSheet _) ?_))))
          refine br_t (by first | assumption | (simp (discharger := omega) only [i_lt, i_le, i_eq, bI_tz, decide_eq_false_iff_not, Int32.reduceToInt, nI_toInt, tm1, tm2, tm3, tm4, tm9]; done) | (simp (discharger := omega) only [i_lt, i_le, i_eq, bI_tz, decide_eq_false_iff_not, Int32.reduceToInt, nI_toInt, tm1, tm2, tm3, tm4, tm9]; omega) | omega) ?_
          refine And.intro rfl ?_
          refine And.intro (⟨rfl, ij⟩) ?_
          refine And.intro ⟨rfl, rfl⟩ (And.intro rfl (Exists.intro _ (Exists.intro _ (And.intro (c_isNothing (h := upI (nh h) 1 7 0) (a := 37) rfl) ?_))))
          refine br_t (by rw [bI_z]; exact decide_eq_false e9) ?_
          refine And.intro rfl ?_
          refine And.intro (⟨rfl, ij⟩) ?_
          refine And.intro ⟨rfl, rfl⟩ (And.intro rfl (Exists.intro _ (Exists.intro _ (And.intro (hl) ?_))))
          refine br_f (by rw [bI_z, decide_eq_false_iff_not]; omega) ?_
          refine And.intro ⟨rfl, rfl⟩ (And.intro rfl (Exists.intro _ (Exists.intro _ (And.intro (c_faulty (h := upI (nh h) 1 7 0) (shp_nh hs) 3) ?_))))
          rw [upI_upI]
          exact ⟨Or.inl rfl, rfl, rfl⟩
  · refine ⟨.int (-1), upI h 1 7 0, upI (upI h 1 7 0) 39 0 0, ?_, ?_, fin_flt hS 0⟩
    · refine cc_nh (F := fun h => upI h 1 7 0) hs (cc_of 60 rfl rfl ?_)
      refine And.intro rfl ?_
      refine And.intro rfl (And.intro rfl (Exists.intro _ (Exists.intro _ (And.intro (c_isSheet _) ?_))))
      refine br_f (by first | assumption | (simp (discharger := omega) only [i_lt, i_le, i_eq, bI_tz, decide_eq_false_iff_not, Int32.reduceToInt, nI_toInt, tm1, tm2, tm3, tm4, tm9]; done) | (simp (discharger := omega) only [i_lt, i_le, i_eq, bI_tz, decide_eq_false_iff_not, Int32.reduceToInt, nI_toInt, tm1, tm2, tm3, tm4, tm9]; omega) | omega) ?_
      exact ⟨Or.inl rfl, rfl, rfl⟩
    · refine cc_nh (h := upI h 1 7 0) (F := fun h => upI h 39 0 0) hs (cc_of 60 rfl rfl ?_)
      refine And.intro rfl (And.intro rfl (Exists.intro _ (Exists.intro _ (And.intro (c_noSheet _) ?_))))
      refine br_f (by first | assumption | (simp (discharger := omega) only [i_lt, i_le, i_eq, bI_tz, decide_eq_false_iff_not, Int32.reduceToInt, nI_toInt, tm1, tm2, tm3, tm4, tm9]; done) | (simp (discharger := omega) only [i_lt, i_le, i_eq, bI_tz, decide_eq_false_iff_not, Int32.reduceToInt, nI_toInt, tm1, tm2, tm3, tm4, tm9]; omega) | omega) ?_
      refine And.intro ⟨rfl, rfl⟩ (And.intro rfl (Exists.intro _ (Exists.intro _ (And.intro (c_refused (h := nh (upI h 1 7 0)) (shp_nh hs) (-1)) ?_))))
      exact ⟨Or.inl rfl, rfl, rfl⟩
end
