/-! What camp and drive look at first; the calls on sheets. -/
section
variable {sc : Nat × (Nat → Int32)} {h : Hp}
theorem upI_upI (h : Hp) (a j : Nat) (v w : Int32) : upI (upI h a j v) a j w = upI h a j w := by
  unfold upI
  show (h.1, zK h, zN h, va_up (va_up (zI h) a (upd (zI h a) j v)) a (upd (va_up (zI h) a (upd (zI h a) j v) a) j w), zJ h, zA h) = _
  rw [va_up_self, up_up]
  have : upd (upd (zI h a) j v) j w = upd (zI h a) j w := by
    funext i
    unfold upd
    split <;> rfl
  rw [this]
theorem c_takeRow (hs : Shp h) {a : Nat} (hk : zK h a = 5) (ln : Int32) : Cc sc 134 [.ref 1, .ref a, .int ln] h (some (.int (if zI h a 0 = -9 then -11 else if zI h a 0 = ln then 0 else -12))) (if zI h a 0 = -9 then upI h 1 7 1 else if zI h a 0 = ln then h else upI h 1 7 2) := by
  have k0 : kin 5 (zK h a) = true := by rw [hk]; rfl
  have k1 : zK h 1 = 10 := (hs.1 1 (by decide)).1
  refine cc_of 30 rfl rfl ?_
  refine And.intro ⟨rfl, hk⟩ (And.intro rfl (Exists.intro _ (Exists.intro _ (And.intro (c_isNothing hk) ?_))))
  by_cases q : zI h a 0 = -9
  · rw [if_pos q, if_pos q]
    refine br_f (by rw [bI_z, q]; decide) ?_
    refine And.intro ⟨rfl, k1⟩ (And.intro rfl (Exists.intro _ (Exists.intro _ (And.intro (c_faulty hs 1) ?_))))
    exact ⟨Or.inl rfl, rfl, rfl⟩
  · rw [if_neg q, if_neg q]
    refine br_t (by rw [bI_z]; exact decide_eq_false q) ?_
    refine And.intro (k0) ?_
    by_cases w : zI h a 0 = ln
    · rw [if_pos w, if_pos w]
      refine br_f (fun z => z w) ?_
      exact ⟨Or.inl rfl, rfl, rfl⟩
    · rw [if_neg w, if_neg w]
      refine br_t w ?_
      refine And.intro ⟨rfl, k1⟩ (And.intro rfl (Exists.intro _ (Exists.intro _ (And.intro (c_faulty hs 2) ?_))))
      exact ⟨Or.inl rfl, rfl, rfl⟩
def tk (sz ln : Nat → Int32) (k lane i n : Int32) : Int32 × Int32 :=
  if 0 ≤ k.toInt ∧ k.toInt < 4 then
    if 0 ≤ lane.toInt ∧ lane.toInt < 3 then
      if (sz k.toNatClampNeg).toInt < 0 then (-11, 1) else if ln k.toNatClampNeg = lane then
        if n.toInt < 0 then (-14, 4) else if i.toInt < 0 ∨ (sz k.toNatClampNeg).toInt < i.toInt + n.toInt then (-13, 3) else (0, 0)
      else (-12, 2)
    else (-2, 0)
  else (-1, 0)
theorem RowOK_ln {h : Hp} {k : Nat} (r : RowOK h k) : ((zI h 61 k).toInt < 0 ↔ zI h (31 + 2 * k) 0 = -9) ∧ (¬ (zI h 61 k).toInt < 0 → zI h (31 + 2 * k) 0 = zI h 62 k ∧ zI h (31 + 2 * k) 1 = zI h 61 k) := by
  rcases r with ⟨h1, h2⟩ | ⟨n, ln, h1, h2, h3, h4, h5, h6, h7⟩
  · rw [h1, h2]
    exact ⟨⟨fun _ => rfl, fun _ => by decide⟩, fun q => absurd (by decide) q⟩
  · rw [h3, h4, h5, h6, nI_toInt (by omega)]
    refine ⟨⟨fun q => absurd q (by omega), fun q => ?_⟩, fun _ => ⟨rfl, rfl⟩⟩
    exact absurd q (by first | assumption | (simp (discharger := omega) only [i_lt, i_le, i_eq, bI_tz, decide_eq_false_iff_not, Int32.reduceToInt, nI_toInt, tm1, tm2, tm3, tm4, tm9]; done) | (simp (discharger := omega) only [i_lt, i_le, i_eq, bI_tz, decide_eq_false_iff_not, Int32.reduceToInt, nI_toInt, tm1, tm2, tm3, tm4, tm9]; omega) | omega)
theorem c_takeCells (hs : Shp h) (hr : SimR h) (k lane i n : Int32) : Cc sc 135 [.ref 1, .int k, .int lane, .int i, .int n] h (some (.int (tk (zI h 61) (zI h 62) k lane i n).1)) (upI h 1 7 (tk (zI h 61) (zI h 62) k lane i n).2) := by
  unfold tk
  by_cases q1 : 0 ≤ k.toInt ∧ k.toInt < 4
  · rw [if_pos q1]
    obtain ⟨j, hj, rfl⟩ := i_of q1.1 (n := 4) q1.2 (by decide)
    have ij : inB (nI j) 4 = true := inB_nI hj (by decide)
    have ej : (nI j).toNatClampNeg = j := nI_clamp (by omega)
    rw [ej]
    by_cases q2 : 0 ≤ lane.toInt ∧ lane.toInt < 3
    · rw [if_pos q2]
      obtain rfl | rfl | rfl | rfl : j = 0 ∨ j = 1 ∨ j = 2 ∨ j = 3 := by omega
      · obtain ⟨r1, r2⟩ := RowOK_ln (hr 0 (by decide))
        have kr : zK (nh h) 31 = 5 := rfl
        by_cases q3 : (zI h 61 0).toInt < 0
        · rw [if_pos q3]
          have e0 : zI h 31 0 = -9 := r1.mp q3
          refine cc_nh (F := fun h => upI h 1 7 1) hs (cc_of 60 rfl rfl ?_)
          refine And.intro rfl ?_
          refine And.intro rfl (And.intro rfl (Exists.intro _ (Exists.intro _ (And.intro (c_isSheet _) ?_))))
          refine br_t (by first | assumption | (simp (discharger := omega) only [i_lt, i_le, i_eq, bI_tz, decide_eq_false_iff_not, Int32.reduceToInt, nI_toInt, tm1, tm2, tm3, tm4, tm9]; done) | (simp (discharger := omega) only [i_lt, i_le, i_eq, bI_tz, decide_eq_false_iff_not, Int32.reduceToInt, nI_toInt, tm1, tm2, tm3, tm4, tm9]; omega) | omega) ?_
          refine And.intro rfl (And.intro rfl (Exists.intro _ (Exists.intro _ (And.intro (c_isLane _) ?_))))
          refine br_t (by first | assumption | (simp (discharger := omega) only [i_lt, i_le, i_eq, bI_tz, decide_eq_false_iff_not, Int32.reduceToInt, nI_toInt, tm1, tm2, tm3, tm4, tm9]; done) | (simp (discharger := omega) only [i_lt, i_le, i_eq, bI_tz, decide_eq_false_iff_not, Int32.reduceToInt, nI_toInt, tm1, tm2, tm3, tm4, tm9]; omega) | omega) ?_
          refine And.intro rfl ?_
          refine And.intro (⟨rfl, ij⟩) ?_
          refine And.intro ⟨rfl, rfl⟩ (And.intro rfl (Exists.intro _ (Exists.intro _ (And.intro (c_takeRow (h := upI (nh h) 1 7 0) (a := 31) (shp_nh hs) kr lane) ?_))))
          have e1 : zI (upI (nh h) 1 7 0) 31 0 = -9 := e0
          rw [if_pos e1, if_pos e1, upI_upI]
          refine br_f (by decide) ?_
          exact ⟨Or.inl rfl, rfl, rfl⟩
        · rw [if_neg q3]
          obtain ⟨r3, r4⟩ := r2 q3
          have e9 : ¬ zI (upI (nh h) 1 7 0) 31 0 = -9 := fun z => q3 (r1.mpr z)
          by_cases q4 : zI h 62 0 = lane
          · rw [if_pos q4]
            have e0 : zI (upI (nh h) 1 7 0) 31 0 = lane := r3.trans q4
            have e8 : zI (upI (nh h) 1 7 0) 31 1 = zI h 61 0 := r4
            by_cases q5 : n.toInt < 0
            · rw [if_pos q5]
              refine cc_nh (F := fun h => upI h 1 7 4) hs (cc_of 60 rfl rfl ?_)
              refine And.intro rfl ?_
              refine And.intro rfl (And.intro rfl (Exists.intro _ (Exists.intro _ (And.intro (c_isSheet _) ?_))))
              refine br_t (by first | assumption | (simp (discharger := omega) only [i_lt, i_le, i_eq, bI_tz, decide_eq_false_iff_not, Int32.reduceToInt, nI_toInt, tm1, tm2, tm3, tm4, tm9]; done) | (simp (discharger := omega) only [i_lt, i_le, i_eq, bI_tz, decide_eq_false_iff_not, Int32.reduceToInt, nI_toInt, tm1, tm2, tm3, tm4, tm9]; omega) | omega) ?_
              refine And.intro rfl (And.intro rfl (Exists.intro _ (Exists.intro _ (And.intro (c_isLane _) ?_))))
              refine br_t (by first | assumption | (simp (discharger := omega) only [i_lt, i_le, i_eq, bI_tz, decide_eq_false_iff_not, Int32.reduceToInt, nI_toInt, tm1, tm2, tm3, tm4, tm9]; done) | (simp (discharger := omega) only [i_lt, i_le, i_eq, bI_tz, decide_eq_false_iff_not, Int32.reduceToInt, nI_toInt, tm1, tm2, tm3, tm4, tm9]; omega) | omega) ?_
              refine And.intro rfl ?_
              refine And.intro (⟨rfl, ij⟩) ?_
              refine And.intro ⟨rfl, rfl⟩ (And.intro rfl (Exists.intro _ (Exists.intro _ (And.intro (c_takeRow (h := upI (nh h) 1 7 0) (a := 31) (shp_nh hs) kr lane) ?_))))
              rw [if_neg e9, if_neg e9, if_pos e0, if_pos e0]
              refine br_t (by rfl) ?_
              refine br_f (show ¬ ((0 : Int32) ≤ n) by first | assumption | (simp (discharger := omega) only [i_lt, i_le, i_eq, bI_tz, decide_eq_false_iff_not, Int32.reduceToInt, nI_toInt, tm1, tm2, tm3, tm4, tm9]; done) | (simp (discharger := omega) only [i_lt, i_le, i_eq, bI_tz, decide_eq_false_iff_not, Int32.reduceToInt, nI_toInt, tm1, tm2, tm3, tm4, tm9]; omega) | omega) ?_
              refine And.intro ⟨rfl, rfl⟩ (And.intro rfl (Exists.intro _ (Exists.intro _ (And.intro (c_faulty (h := upI (nh h) 1 7 0) (shp_nh hs) 4) ?_))))
              rw [upI_upI]
              exact ⟨Or.inl rfl, rfl, rfl⟩
            · rw [if_neg q5]
              have hl := c_lacks (sc := sc) (h := upI (nh h) 1 7 0) (a := 31) kr i n (by omega) (by rw [e8]; omega)
              rw [e8] at hl
              by_cases q6 : i.toInt < 0 ∨ (zI h 61 0).toInt < i.toInt + n.toInt
              · rw [if_pos q6]
                refine cc_nh (F := fun h => upI h 1 7 3) hs (cc_of 60 rfl rfl ?_)
                refine And.intro rfl ?_
                refine And.intro rfl (And.intro rfl (Exists.intro _ (Exists.intro _ (And.intro (c_isSheet _) ?_))))
                refine br_t (by first | assumption | (simp (discharger := omega) only [i_lt, i_le, i_eq, bI_tz, decide_eq_false_iff_not, Int32.reduceToInt, nI_toInt, tm1, tm2, tm3, tm4, tm9]; done) | (simp (discharger := omega) only [i_lt, i_le, i_eq, bI_tz, decide_eq_false_iff_not, Int32.reduceToInt, nI_toInt, tm1, tm2, tm3, tm4, tm9]; omega) | omega) ?_
                refine And.intro rfl (And.intro rfl (Exists.intro _ (Exists.intro _ (And.intro (c_isLane _) ?_))))
                refine br_t (by first | assumption | (simp (discharger := omega) only [i_lt, i_le, i_eq, bI_tz, decide_eq_false_iff_not, Int32.reduceToInt, nI_toInt, tm1, tm2, tm3, tm4, tm9]; done) | (simp (discharger := omega) only [i_lt, i_le, i_eq, bI_tz, decide_eq_false_iff_not, Int32.reduceToInt, nI_toInt, tm1, tm2, tm3, tm4, tm9]; omega) | omega) ?_
                refine And.intro rfl ?_
                refine And.intro (⟨rfl, ij⟩) ?_
                refine And.intro ⟨rfl, rfl⟩ (And.intro rfl (Exists.intro _ (Exists.intro _ (And.intro (c_takeRow (h := upI (nh h) 1 7 0) (a := 31) (shp_nh hs) kr lane) ?_))))
                rw [if_neg e9, if_neg e9, if_pos e0, if_pos e0]
                refine br_t (by rfl) ?_
                refine br_t (show (0 : Int32) ≤ n by first | assumption | (simp (discharger := omega) only [i_lt, i_le, i_eq, bI_tz, decide_eq_false_iff_not, Int32.reduceToInt, nI_toInt, tm1, tm2, tm3, tm4, tm9]; done) | (simp (discharger := omega) only [i_lt, i_le, i_eq, bI_tz, decide_eq_false_iff_not, Int32.reduceToInt, nI_toInt, tm1, tm2, tm3, tm4, tm9]; omega) | omega) ?_
                refine And.intro rfl ?_
                refine And.intro (⟨rfl, ij⟩) ?_
                refine And.intro ⟨rfl, rfl⟩ (And.intro rfl (Exists.intro _ (Exists.intro _ (And.intro (hl) ?_))))
                refine br_f (by rw [decide_eq_true q6]; decide) ?_
                refine And.intro ⟨rfl, rfl⟩ (And.intro rfl (Exists.intro _ (Exists.intro _ (And.intro (c_faulty (h := upI (nh h) 1 7 0) (shp_nh hs) 3) ?_))))
                rw [upI_upI]
                exact ⟨Or.inl rfl, rfl, rfl⟩
              · rw [if_neg q6]
                refine cc_nh (F := fun h => upI h 1 7 0) hs (cc_of 60 rfl rfl ?_)
                refine And.intro rfl ?_
                refine And.intro rfl (And.intro rfl (Exists.intro _ (Exists.intro _ (And.intro (c_isSheet _) ?_))))
                refine br_t (by first | assumption | (simp (discharger := omega) only [i_lt, i_le, i_eq, bI_tz, decide_eq_false_iff_not, Int32.reduceToInt, nI_toInt, tm1, tm2, tm3, tm4, tm9]; done) | (simp (discharger := omega) only [i_lt, i_le, i_eq, bI_tz, decide_eq_false_iff_not, Int32.reduceToInt, nI_toInt, tm1, tm2, tm3, tm4, tm9]; omega) | omega) ?_
                refine And.intro rfl (And.intro rfl (Exists.intro _ (Exists.intro _ (And.intro (c_isLane _) ?_))))
                refine br_t (by first | assumption | (simp (discharger := omega) only [i_lt, i_le, i_eq, bI_tz, decide_eq_false_iff_not, Int32.reduceToInt, nI_toInt, tm1, tm2, tm3, tm4, tm9]; done) | (simp (discharger := omega) only [i_lt, i_le, i_eq, bI_tz, decide_eq_false_iff_not, Int32.reduceToInt, nI_toInt, tm1, tm2, tm3, tm4, tm9]; omega) | omega) ?_
                refine And.intro rfl ?_
                refine And.intro (⟨rfl, ij⟩) ?_
                refine And.intro ⟨rfl, rfl⟩ (And.intro rfl (Exists.intro _ (Exists.intro _ (And.intro (c_takeRow (h := upI (nh h) 1 7 0) (a := 31) (shp_nh hs) kr lane) ?_))))
                rw [if_neg e9, if_neg e9, if_pos e0, if_pos e0]
                refine br_t (by rfl) ?_
                refine br_t (show (0 : Int32) ≤ n by first | assumption | (simp (discharger := omega) only [i_lt, i_le, i_eq, bI_tz, decide_eq_false_iff_not, Int32.reduceToInt, nI_toInt, tm1, tm2, tm3, tm4, tm9]; done) | (simp (discharger := omega) only [i_lt, i_le, i_eq, bI_tz, decide_eq_false_iff_not, Int32.reduceToInt, nI_toInt, tm1, tm2, tm3, tm4, tm9]; omega) | omega) ?_
                refine And.intro rfl ?_
                refine And.intro (⟨rfl, ij⟩) ?_
                refine And.intro ⟨rfl, rfl⟩ (And.intro rfl (Exists.intro _ (Exists.intro _ (And.intro (hl) ?_))))
                refine br_t (by rw [decide_eq_false q6]; decide) ?_
                exact ⟨Or.inl rfl, rfl, rfl⟩
          · rw [if_neg q4]
            have e0 : ¬ zI (upI (nh h) 1 7 0) 31 0 = lane := fun z => q4 (r3.symm.trans z)
            refine cc_nh (F := fun h => upI h 1 7 2) hs (cc_of 60 rfl rfl ?_)
            refine And.intro rfl ?_
            refine And.intro rfl (And.intro rfl (Exists.intro _ (Exists.intro _ (And.intro (c_isSheet _) ?_))))
            refine br_t (by first | assumption | (simp (discharger := omega) only [i_lt, i_le, i_eq, bI_tz, decide_eq_false_iff_not, Int32.reduceToInt, nI_toInt, tm1, tm2, tm3, tm4, tm9]; done) | (simp (discharger := omega) only [i_lt, i_le, i_eq, bI_tz, decide_eq_false_iff_not, Int32.reduceToInt, nI_toInt, tm1, tm2, tm3, tm4, tm9]; omega) | omega) ?_
            refine And.intro rfl (And.intro rfl (Exists.intro _ (Exists.intro _ (And.intro (c_isLane _) ?_))))
            refine br_t (by first | assumption | (simp (discharger := omega) only [i_lt, i_le, i_eq, bI_tz, decide_eq_false_iff_not, Int32.reduceToInt, nI_toInt, tm1, tm2, tm3, tm4, tm9]; done) | (simp (discharger := omega) only [i_lt, i_le, i_eq, bI_tz, decide_eq_false_iff_not, Int32.reduceToInt, nI_toInt, tm1, tm2, tm3, tm4, tm9]; omega) | omega) ?_
            refine And.intro rfl ?_
            refine And.intro (⟨rfl, ij⟩) ?_
            refine And.intro ⟨rfl, rfl⟩ (And.intro rfl (Exists.intro _ (Exists.intro _ (And.intro (c_takeRow (h := upI (nh h) 1 7 0) (a := 31) (shp_nh hs) kr lane) ?_))))
            rw [if_neg e9, if_neg e9, if_neg e0, if_neg e0, upI_upI]
            refine br_f (by decide) ?_
            exact ⟨Or.inl rfl, rfl, rfl⟩
      · obtain ⟨r1, r2⟩ := RowOK_ln (hr 1 (by decide))
        have kr : zK (nh h) 33 = 5 := rfl
        by_cases q3 : (zI h 61 1).toInt < 0
        · rw [if_pos q3]
          have e0 : zI h 33 0 = -9 := r1.mp q3
          refine cc_nh (F := fun h => upI h 1 7 1) hs (cc_of 60 rfl rfl ?_)
          refine And.intro rfl ?_
          refine And.intro rfl (And.intro rfl (Exists.intro _ (Exists.intro _ (And.intro (c_isSheet _) ?_))))
          refine br_t (by first | assumption | (simp (discharger := omega) only [i_lt, i_le, i_eq, bI_tz, decide_eq_false_iff_not, Int32.reduceToInt, nI_toInt, tm1, tm2, tm3, tm4, tm9]; done) | (simp (discharger := omega) only [i_lt, i_le, i_eq, bI_tz, decide_eq_false_iff_not, Int32.reduceToInt, nI_toInt, tm1, tm2, tm3, tm4, tm9]; omega) | omega) ?_
          refine And.intro rfl (And.intro rfl (Exists.intro _ (Exists.intro _ (And.intro (c_isLane _) ?_))))
          refine br_t (by first | assumption | (simp (discharger := omega) only [i_lt, i_le, i_eq, bI_tz, decide_eq_false_iff_not, Int32.reduceToInt, nI_toInt, tm1, tm2, tm3, tm4, tm9]; done) | (simp (discharger := omega) only [i_lt, i_le, i_eq, bI_tz, decide_eq_false_iff_not, Int32.reduceToInt, nI_toInt, tm1, tm2, tm3, tm4, tm9]; omega) | omega) ?_
          refine And.intro rfl ?_
          refine And.intro (⟨rfl, ij⟩) ?_
          refine And.intro ⟨rfl, rfl⟩ (And.intro rfl (Exists.intro _ (Exists.intro _ (And.intro (c_takeRow (h := upI (nh h) 1 7 0) (a := 33) (shp_nh hs) kr lane) ?_))))
          have e1 : zI (upI (nh h) 1 7 0) 33 0 = -9 := e0
          rw [if_pos e1, if_pos e1, upI_upI]
          refine br_f (by decide) ?_
          exact ⟨Or.inl rfl, rfl, rfl⟩
        · rw [if_neg q3]
          obtain ⟨r3, r4⟩ := r2 q3
          have e9 : ¬ zI (upI (nh h) 1 7 0) 33 0 = -9 := fun z => q3 (r1.mpr z)
          by_cases q4 : zI h 62 1 = lane
          · rw [if_pos q4]
            have e0 : zI (upI (nh h) 1 7 0) 33 0 = lane := r3.trans q4
            have e8 : zI (upI (nh h) 1 7 0) 33 1 = zI h 61 1 := r4
            by_cases q5 : n.toInt < 0
            · rw [if_pos q5]
              refine cc_nh (F := fun h => upI h 1 7 4) hs (cc_of 60 rfl rfl ?_)
              refine And.intro rfl ?_
              refine And.intro rfl (And.intro rfl (Exists.intro _ (Exists.intro _ (And.intro (c_isSheet _) ?_))))
              refine br_t (by first | assumption | (simp (discharger := omega) only [i_lt, i_le, i_eq, bI_tz, decide_eq_false_iff_not, Int32.reduceToInt, nI_toInt, tm1, tm2, tm3, tm4, tm9]; done) | (simp (discharger := omega) only [i_lt, i_le, i_eq, bI_tz, decide_eq_false_iff_not, Int32.reduceToInt, nI_toInt, tm1, tm2, tm3, tm4, tm9]; omega) | omega) ?_
              refine And.intro rfl (And.intro rfl (Exists.intro _ (Exists.intro _ (And.intro (c_isLane _) ?_))))
              refine br_t (by first | assumption | (simp (discharger := omega) only [i_lt, i_le, i_eq, bI_tz, decide_eq_false_iff_not, Int32.reduceToInt, nI_toInt, tm1, tm2, tm3, tm4, tm9]; done) | (simp (discharger := omega) only [i_lt, i_le, i_eq, bI_tz, decide_eq_false_iff_not, Int32.reduceToInt, nI_toInt, tm1, tm2, tm3, tm4, tm9]; omega) | omega) ?_
              refine And.intro rfl ?_
              refine And.intro (⟨rfl, ij⟩) ?_
              refine And.intro ⟨rfl, rfl⟩ (And.intro rfl (Exists.intro _ (Exists.intro _ (And.intro (c_takeRow (h := upI (nh h) 1 7 0) (a := 33) (shp_nh hs) kr lane) ?_))))
              rw [if_neg e9, if_neg e9, if_pos e0, if_pos e0]
              refine br_t (by rfl) ?_
              refine br_f (show ¬ ((0 : Int32) ≤ n) by first | assumption | (simp (discharger := omega) only [i_lt, i_le, i_eq, bI_tz, decide_eq_false_iff_not, Int32.reduceToInt, nI_toInt, tm1, tm2, tm3, tm4, tm9]; done) | (simp (discharger := omega) only [i_lt, i_le, i_eq, bI_tz, decide_eq_false_iff_not, Int32.reduceToInt, nI_toInt, tm1, tm2, tm3, tm4, tm9]; omega) | omega) ?_
              refine And.intro ⟨rfl, rfl⟩ (And.intro rfl (Exists.intro _ (Exists.intro _ (And.intro (c_faulty (h := upI (nh h) 1 7 0) (shp_nh hs) 4) ?_))))
              rw [upI_upI]
              exact ⟨Or.inl rfl, rfl, rfl⟩
            · rw [if_neg q5]
              have hl := c_lacks (sc := sc) (h := upI (nh h) 1 7 0) (a := 33) kr i n (by omega) (by rw [e8]; omega)
              rw [e8] at hl
              by_cases q6 : i.toInt < 0 ∨ (zI h 61 1).toInt < i.toInt + n.toInt
              · rw [if_pos q6]
                refine cc_nh (F := fun h => upI h 1 7 3) hs (cc_of 60 rfl rfl ?_)
                refine And.intro rfl ?_
                refine And.intro rfl (And.intro rfl (Exists.intro _ (Exists.intro _ (And.intro (c_isSheet _) ?_))))
                refine br_t (by first | assumption | (simp (discharger := omega) only [i_lt, i_le, i_eq, bI_tz, decide_eq_false_iff_not, Int32.reduceToInt, nI_toInt, tm1, tm2, tm3, tm4, tm9]; done) | (simp (discharger := omega) only [i_lt, i_le, i_eq, bI_tz, decide_eq_false_iff_not, Int32.reduceToInt, nI_toInt, tm1, tm2, tm3, tm4, tm9]; omega) | omega) ?_
                refine And.intro rfl (And.intro rfl (Exists.intro _ (Exists.intro _ (And.intro (c_isLane _) ?_))))
                refine br_t (by first | assumption | (simp (discharger := omega) only [i_lt, i_le, i_eq, bI_tz, decide_eq_false_iff_not, Int32.reduceToInt, nI_toInt, tm1, tm2, tm3, tm4, tm9]; done) | (simp (discharger := omega) only [i_lt, i_le, i_eq, bI_tz, decide_eq_false_iff_not, Int32.reduceToInt, nI_toInt, tm1, tm2, tm3, tm4, tm9]; omega) | omega) ?_
                refine And.intro rfl ?_
                refine And.intro (⟨rfl, ij⟩) ?_
                refine And.intro ⟨rfl, rfl⟩ (And.intro rfl (Exists.intro _ (Exists.intro _ (And.intro (c_takeRow (h := upI (nh h) 1 7 0) (a := 33) (shp_nh hs) kr lane) ?_))))
                rw [if_neg e9, if_neg e9, if_pos e0, if_pos e0]
                refine br_t (by rfl) ?_
                refine br_t (show (0 : Int32) ≤ n by first | assumption | (simp (discharger := omega) only [i_lt, i_le, i_eq, bI_tz, decide_eq_false_iff_not, Int32.reduceToInt, nI_toInt, tm1, tm2, tm3, tm4, tm9]; done) | (simp (discharger := omega) only [i_lt, i_le, i_eq, bI_tz, decide_eq_false_iff_not, Int32.reduceToInt, nI_toInt, tm1, tm2, tm3, tm4, tm9]; omega) | omega) ?_
                refine And.intro rfl ?_
                refine And.intro (⟨rfl, ij⟩) ?_
                refine And.intro ⟨rfl, rfl⟩ (And.intro rfl (Exists.intro _ (Exists.intro _ (And.intro (hl) ?_))))
                refine br_f (by rw [decide_eq_true q6]; decide) ?_
                refine And.intro ⟨rfl, rfl⟩ (And.intro rfl (Exists.intro _ (Exists.intro _ (And.intro (c_faulty (h := upI (nh h) 1 7 0) (shp_nh hs) 3) ?_))))
                rw [upI_upI]
                exact ⟨Or.inl rfl, rfl, rfl⟩
              · rw [if_neg q6]
                refine cc_nh (F := fun h => upI h 1 7 0) hs (cc_of 60 rfl rfl ?_)
                refine And.intro rfl ?_
                refine And.intro rfl (And.intro rfl (Exists.intro _ (Exists.intro _ (And.intro (c_isSheet _) ?_))))
                refine br_t (by first | assumption | (simp (discharger := omega) only [i_lt, i_le, i_eq, bI_tz, decide_eq_false_iff_not, Int32.reduceToInt, nI_toInt, tm1, tm2, tm3, tm4, tm9]; done) | (simp (discharger := omega) only [i_lt, i_le, i_eq, bI_tz, decide_eq_false_iff_not, Int32.reduceToInt, nI_toInt, tm1, tm2, tm3, tm4, tm9]; omega) | omega) ?_
                refine And.intro rfl (And.intro rfl (Exists.intro _ (Exists.intro _ (And.intro (c_isLane _) ?_))))
                refine br_t (by first | assumption | (simp (discharger := omega) only [i_lt, i_le, i_eq, bI_tz, decide_eq_false_iff_not, Int32.reduceToInt, nI_toInt, tm1, tm2, tm3, tm4, tm9]; done) | (simp (discharger := omega) only [i_lt, i_le, i_eq, bI_tz, decide_eq_false_iff_not, Int32.reduceToInt, nI_toInt, tm1, tm2, tm3, tm4, tm9]; omega) | omega) ?_
                refine And.intro rfl ?_
                refine And.intro (⟨rfl, ij⟩) ?_
                refine And.intro ⟨rfl, rfl⟩ (And.intro rfl (Exists.intro _ (Exists.intro _ (And.intro (c_takeRow (h := upI (nh h) 1 7 0) (a := 33) (shp_nh hs) kr lane) ?_))))
                rw [if_neg e9, if_neg e9, if_pos e0, if_pos e0]
                refine br_t (by rfl) ?_
                refine br_t (show (0 : Int32) ≤ n by first | assumption | (simp (discharger := omega) only [i_lt, i_le, i_eq, bI_tz, decide_eq_false_iff_not, Int32.reduceToInt, nI_toInt, tm1, tm2, tm3, tm4, tm9]; done) | (simp (discharger := omega) only [i_lt, i_le, i_eq, bI_tz, decide_eq_false_iff_not, Int32.reduceToInt, nI_toInt, tm1, tm2, tm3, tm4, tm9]; omega) | omega) ?_
                refine And.intro rfl ?_
                refine And.intro (⟨rfl, ij⟩) ?_
                refine And.intro ⟨rfl, rfl⟩ (And.intro rfl (Exists.intro _ (Exists.intro _ (And.intro (hl) ?_))))
                refine br_t (by rw [decide_eq_false q6]; decide) ?_
                exact ⟨Or.inl rfl, rfl, rfl⟩
          · rw [if_neg q4]
            have e0 : ¬ zI (upI (nh h) 1 7 0) 33 0 = lane := fun z => q4 (r3.symm.trans z)
            refine cc_nh (F := fun h => upI h 1 7 2) hs (cc_of 60 rfl rfl ?_)
            refine And.intro rfl ?_
            refine And.intro rfl (And.intro rfl (Exists.intro _ (Exists.intro _ (And.intro (c_isSheet _) ?_))))
            refine br_t (by first | assumption | (simp (discharger := omega) only [i_lt, i_le, i_eq, bI_tz, decide_eq_false_iff_not, Int32.reduceToInt, nI_toInt, tm1, tm2, tm3, tm4, tm9]; done) | (simp (discharger := omega) only [i_lt, i_le, i_eq, bI_tz, decide_eq_false_iff_not, Int32.reduceToInt, nI_toInt, tm1, tm2, tm3, tm4, tm9]; omega) | omega) ?_
            refine And.intro rfl (And.intro rfl (Exists.intro _ (Exists.intro _ (And.intro (c_isLane _) ?_))))
            refine br_t (by first | assumption | (simp (discharger := omega) only [i_lt, i_le, i_eq, bI_tz, decide_eq_false_iff_not, Int32.reduceToInt, nI_toInt, tm1, tm2, tm3, tm4, tm9]; done) | (simp (discharger := omega) only [i_lt, i_le, i_eq, bI_tz, decide_eq_false_iff_not, Int32.reduceToInt, nI_toInt, tm1, tm2, tm3, tm4, tm9]; omega) | omega) ?_
            refine And.intro rfl ?_
            refine And.intro (⟨rfl, ij⟩) ?_
            refine And.intro ⟨rfl, rfl⟩ (And.intro rfl (Exists.intro _ (Exists.intro _ (And.intro (c_takeRow (h := upI (nh h) 1 7 0) (a := 33) (shp_nh hs) kr lane) ?_))))
            rw [if_neg e9, if_neg e9, if_neg e0, if_neg e0, upI_upI]
            refine br_f (by decide) ?_
            exact ⟨Or.inl rfl, rfl, rfl⟩
      · obtain ⟨r1, r2⟩ := RowOK_ln (hr 2 (by decide))
        have kr : zK (nh h) 35 = 5 := rfl
        by_cases q3 : (zI h 61 2).toInt < 0
        · rw [if_pos q3]
          have e0 : zI h 35 0 = -9 := r1.mp q3
          refine cc_nh (F := fun h => upI h 1 7 1) hs (cc_of 60 rfl rfl ?_)
          refine And.intro rfl ?_
          refine And.intro rfl (And.intro rfl (Exists.intro _ (Exists.intro _ (And.intro (c_isSheet _) ?_))))
          refine br_t (by first | assumption | (simp (discharger := omega) only [i_lt, i_le, i_eq, bI_tz, decide_eq_false_iff_not, Int32.reduceToInt, nI_toInt, tm1, tm2, tm3, tm4, tm9]; done) | (simp (discharger := omega) only [i_lt, i_le, i_eq, bI_tz, decide_eq_false_iff_not, Int32.reduceToInt, nI_toInt, tm1, tm2, tm3, tm4, tm9]; omega) | omega) ?_
          refine And.intro rfl (And.intro rfl (Exists.intro _ (Exists.intro _ (And.intro (c_isLane _) ?_))))
          refine br_t (by first | assumption | (simp (discharger := omega) only [i_lt, i_le, i_eq, bI_tz, decide_eq_false_iff_not, Int32.reduceToInt, nI_toInt, tm1, tm2, tm3, tm4, tm9]; done) | (simp (discharger := omega) only [i_lt, i_le, i_eq, bI_tz, decide_eq_false_iff_not, Int32.reduceToInt, nI_toInt, tm1, tm2, tm3, tm4, tm9]; omega) | omega) ?_
          refine And.intro rfl ?_
          refine And.intro (⟨rfl, ij⟩) ?_
          refine And.intro ⟨rfl, rfl⟩ (And.intro rfl (Exists.intro _ (Exists.intro _ (And.intro (c_takeRow (h := upI (nh h) 1 7 0) (a := 35) (shp_nh hs) kr lane) ?_))))
          have e1 : zI (upI (nh h) 1 7 0) 35 0 = -9 := e0
          rw [if_pos e1, if_pos e1, upI_upI]
          refine br_f (by decide) ?_
          exact ⟨Or.inl rfl, rfl, rfl⟩
        · rw [if_neg q3]
          obtain ⟨r3, r4⟩ := r2 q3
          have e9 : ¬ zI (upI (nh h) 1 7 0) 35 0 = -9 := fun z => q3 (r1.mpr z)
          by_cases q4 : zI h 62 2 = lane
          · rw [if_pos q4]
            have e0 : zI (upI (nh h) 1 7 0) 35 0 = lane := r3.trans q4
            have e8 : zI (upI (nh h) 1 7 0) 35 1 = zI h 61 2 := r4
            by_cases q5 : n.toInt < 0
            · rw [if_pos q5]
              refine cc_nh (F := fun h => upI h 1 7 4) hs (cc_of 60 rfl rfl ?_)
              refine And.intro rfl ?_
              refine And.intro rfl (And.intro rfl (Exists.intro _ (Exists.intro _ (And.intro (c_isSheet _) ?_))))
              refine br_t (by first | assumption | (simp (discharger := omega) only [i_lt, i_le, i_eq, bI_tz, decide_eq_false_iff_not, Int32.reduceToInt, nI_toInt, tm1, tm2, tm3, tm4, tm9]; done) | (simp (discharger := omega) only [i_lt, i_le, i_eq, bI_tz, decide_eq_false_iff_not, Int32.reduceToInt, nI_toInt, tm1, tm2, tm3, tm4, tm9]; omega) | omega) ?_
              refine And.intro rfl (And.intro rfl (Exists.intro _ (Exists.intro _ (And.intro (c_isLane _) ?_))))
              refine br_t (by first | assumption | (simp (discharger := omega) only [i_lt, i_le, i_eq, bI_tz, decide_eq_false_iff_not, Int32.reduceToInt, nI_toInt, tm1, tm2, tm3, tm4, tm9]; done) | (simp (discharger := omega) only [i_lt, i_le, i_eq, bI_tz, decide_eq_false_iff_not, Int32.reduceToInt, nI_toInt, tm1, tm2, tm3, tm4, tm9]; omega) | omega) ?_
              refine And.intro rfl ?_
              refine And.intro (⟨rfl, ij⟩) ?_
              refine And.intro ⟨rfl, rfl⟩ (And.intro rfl (Exists.intro _ (Exists.intro _ (And.intro (c_takeRow (h := upI (nh h) 1 7 0) (a := 35) (shp_nh hs) kr lane) ?_))))
              rw [if_neg e9, if_neg e9, if_pos e0, if_pos e0]
              refine br_t (by rfl) ?_
              refine br_f (show ¬ ((0 : Int32) ≤ n) by first | assumption | (simp (discharger := omega) only [i_lt, i_le, i_eq, bI_tz, decide_eq_false_iff_not, Int32.reduceToInt, nI_toInt, tm1, tm2, tm3, tm4, tm9]; done) | (simp (discharger := omega) only [i_lt, i_le, i_eq, bI_tz, decide_eq_false_iff_not, Int32.reduceToInt, nI_toInt, tm1, tm2, tm3, tm4, tm9]; omega) | omega) ?_
              refine And.intro ⟨rfl, rfl⟩ (And.intro rfl (Exists.intro _ (Exists.intro _ (And.intro (c_faulty (h := upI (nh h) 1 7 0) (shp_nh hs) 4) ?_))))
              rw [upI_upI]
              exact ⟨Or.inl rfl, rfl, rfl⟩
            · rw [if_neg q5]
              have hl := c_lacks (sc := sc) (h := upI (nh h) 1 7 0) (a := 35) kr i n (by omega) (by rw [e8]; omega)
              rw [e8] at hl
              by_cases q6 : i.toInt < 0 ∨ (zI h 61 2).toInt < i.toInt + n.toInt
              · rw [if_pos q6]
                refine cc_nh (F := fun h => upI h 1 7 3) hs (cc_of 60 rfl rfl ?_)
                refine And.intro rfl ?_
                refine And.intro rfl (And.intro rfl (Exists.intro _ (Exists.intro _ (And.intro (c_isSheet _) ?_))))
                refine br_t (by first | assumption | (simp (discharger := omega) only [i_lt, i_le, i_eq, bI_tz, decide_eq_false_iff_not, Int32.reduceToInt, nI_toInt, tm1, tm2, tm3, tm4, tm9]; done) | (simp (discharger := omega) only [i_lt, i_le, i_eq, bI_tz, decide_eq_false_iff_not, Int32.reduceToInt, nI_toInt, tm1, tm2, tm3, tm4, tm9]; omega) | omega) ?_
                refine And.intro rfl (And.intro rfl (Exists.intro _ (Exists.intro _ (And.intro (c_isLane _) ?_))))
                refine br_t (by first | assumption | (simp (discharger := omega) only [i_lt, i_le, i_eq, bI_tz, decide_eq_false_iff_not, Int32.reduceToInt, nI_toInt, tm1, tm2, tm3, tm4, tm9]; done) | (simp (discharger := omega) only [i_lt, i_le, i_eq, bI_tz, decide_eq_false_iff_not, Int32.reduceToInt, nI_toInt, tm1, tm2, tm3, tm4, tm9]; omega) | omega) ?_
                refine And.intro rfl ?_
                refine And.intro (⟨rfl, ij⟩) ?_
                refine And.intro ⟨rfl, rfl⟩ (And.intro rfl (Exists.intro _ (Exists.intro _ (And.intro (c_takeRow (h := upI (nh h) 1 7 0) (a := 35) (shp_nh hs) kr lane) ?_))))
                rw [if_neg e9, if_neg e9, if_pos e0, if_pos e0]
                refine br_t (by rfl) ?_
                refine br_t (show (0 : Int32) ≤ n by first | assumption | (simp (discharger := omega) only [i_lt, i_le, i_eq, bI_tz, decide_eq_false_iff_not, Int32.reduceToInt, nI_toInt, tm1, tm2, tm3, tm4, tm9]; done) | (simp (discharger := omega) only [i_lt, i_le, i_eq, bI_tz, decide_eq_false_iff_not, Int32.reduceToInt, nI_toInt, tm1, tm2, tm3, tm4, tm9]; omega) | omega) ?_
                refine And.intro rfl ?_
                refine And.intro (⟨rfl, ij⟩) ?_
                refine And.intro ⟨rfl, rfl⟩ (And.intro rfl (Exists.intro _ (Exists.intro _ (And.intro (hl) ?_))))
                refine br_f (by rw [decide_eq_true q6]; decide) ?_
                refine And.intro ⟨rfl, rfl⟩ (And.intro rfl (Exists.intro _ (Exists.intro _ (And.intro (c_faulty (h := upI (nh h) 1 7 0) (shp_nh hs) 3) ?_))))
                rw [upI_upI]
                exact ⟨Or.inl rfl, rfl, rfl⟩
              · rw [if_neg q6]
                refine cc_nh (F := fun h => upI h 1 7 0) hs (cc_of 60 rfl rfl ?_)
                refine And.intro rfl ?_
                refine And.intro rfl (And.intro rfl (Exists.intro _ (Exists.intro _ (And.intro (c_isSheet _) ?_))))
                refine br_t (by first | assumption | (simp (discharger := omega) only [i_lt, i_le, i_eq, bI_tz, decide_eq_false_iff_not, Int32.reduceToInt, nI_toInt, tm1, tm2, tm3, tm4, tm9]; done) | (simp (discharger := omega) only [i_lt, i_le, i_eq, bI_tz, decide_eq_false_iff_not, Int32.reduceToInt, nI_toInt, tm1, tm2, tm3, tm4, tm9]; omega) | omega) ?_
                refine And.intro rfl (And.intro rfl (Exists.intro _ (Exists.intro _ (And.intro (c_isLane _) ?_))))
                refine br_t (by first | assumption | (simp (discharger := omega) only [i_lt, i_le, i_eq, bI_tz, decide_eq_false_iff_not, Int32.reduceToInt, nI_toInt, tm1, tm2, tm3, tm4, tm9]; done) | (simp (discharger := omega) only [i_lt, i_le, i_eq, bI_tz, decide_eq_false_iff_not, Int32.reduceToInt, nI_toInt, tm1, tm2, tm3, tm4, tm9]; omega) | omega) ?_
                refine And.intro rfl ?_
                refine And.intro (⟨rfl, ij⟩) ?_
                refine And.intro ⟨rfl, rfl⟩ (And.intro rfl (Exists.intro _ (Exists.intro _ (And.intro (c_takeRow (h := upI (nh h) 1 7 0) (a := 35) (shp_nh hs) kr lane) ?_))))
                rw [if_neg e9, if_neg e9, if_pos e0, if_pos e0]
                refine br_t (by rfl) ?_
                refine br_t (show (0 : Int32) ≤ n by first | assumption | (simp (discharger := omega) only [i_lt, i_le, i_eq, bI_tz, decide_eq_false_iff_not, Int32.reduceToInt, nI_toInt, tm1, tm2, tm3, tm4, tm9]; done) | (simp (discharger := omega) only [i_lt, i_le, i_eq, bI_tz, decide_eq_false_iff_not, Int32.reduceToInt, nI_toInt, tm1, tm2, tm3, tm4, tm9]; omega) | omega) ?_
                refine And.intro rfl ?_
                refine And.intro (⟨rfl, ij⟩) ?_
                refine And.intro ⟨rfl, rfl⟩ (And.intro rfl (Exists.intro _ (Exists.intro _ (And.intro (hl) ?_))))
                refine br_t (by rw [decide_eq_false q6]; decide) ?_
                exact ⟨Or.inl rfl, rfl, rfl⟩
          · rw [if_neg q4]
            have e0 : ¬ zI (upI (nh h) 1 7 0) 35 0 = lane := fun z => q4 (r3.symm.trans z)
            refine cc_nh (F := fun h => upI h 1 7 2) hs (cc_of 60 rfl rfl ?_)
            refine And.intro rfl ?_
            refine And.intro rfl (And.intro rfl (Exists.intro _ (Exists.intro _ (And.intro (c_isSheet _) ?_))))
            refine br_t (by first | assumption | (simp (discharger := omega) only [i_lt, i_le, i_eq, bI_tz, decide_eq_false_iff_not, Int32.reduceToInt, nI_toInt, tm1, tm2, tm3, tm4, tm9]; done) | (simp (discharger := omega) only [i_lt, i_le, i_eq, bI_tz, decide_eq_false_iff_not, Int32.reduceToInt, nI_toInt, tm1, tm2, tm3, tm4, tm9]; omega) | omega) ?_
            refine And.intro rfl (And.intro rfl (Exists.intro _ (Exists.intro _ (And.intro (c_isLane _) ?_))))
            refine br_t (by first | assumption | (simp (discharger := omega) only [i_lt, i_le, i_eq, bI_tz, decide_eq_false_iff_not, Int32.reduceToInt, nI_toInt, tm1, tm2, tm3, tm4, tm9]; done) | (simp (discharger := omega) only [i_lt, i_le, i_eq, bI_tz, decide_eq_false_iff_not, Int32.reduceToInt, nI_toInt, tm1, tm2, tm3, tm4, tm9]; omega) | omega) ?_
            refine And.intro rfl ?_
            refine And.intro (⟨rfl, ij⟩) ?_
            refine And.intro ⟨rfl, rfl⟩ (And.intro rfl (Exists.intro _ (Exists.intro _ (And.intro (c_takeRow (h := upI (nh h) 1 7 0) (a := 35) (shp_nh hs) kr lane) ?_))))
            rw [if_neg e9, if_neg e9, if_neg e0, if_neg e0, upI_upI]
            refine br_f (by decide) ?_
            exact ⟨Or.inl rfl, rfl, rfl⟩
      · obtain ⟨r1, r2⟩ := RowOK_ln (hr 3 (by decide))
        have kr : zK (nh h) 37 = 5 := rfl
        by_cases q3 : (zI h 61 3).toInt < 0
        · rw [if_pos q3]
          have e0 : zI h 37 0 = -9 := r1.mp q3
          refine cc_nh (F := fun h => upI h 1 7 1) hs (cc_of 60 rfl rfl ?_)
          refine And.intro rfl ?_
          refine And.intro rfl (And.intro rfl (Exists.intro _ (Exists.intro _ (And.intro (c_isSheet _) ?_))))
          refine br_t (by first | assumption | (simp (discharger := omega) only [i_lt, i_le, i_eq, bI_tz, decide_eq_false_iff_not, Int32.reduceToInt, nI_toInt, tm1, tm2, tm3, tm4, tm9]; done) | (simp (discharger := omega) only [i_lt, i_le, i_eq, bI_tz, decide_eq_false_iff_not, Int32.reduceToInt, nI_toInt, tm1, tm2, tm3, tm4, tm9]; omega) | omega) ?_
          refine And.intro rfl (And.intro rfl (Exists.intro _ (Exists.intro _ (And.intro (c_isLane _) ?_))))
          refine br_t (by first | assumption | (simp (discharger := omega) only [i_lt, i_le, i_eq, bI_tz, decide_eq_false_iff_not, Int32.reduceToInt, nI_toInt, tm1, tm2, tm3, tm4, tm9]; done) | (simp (discharger := omega) only [i_lt, i_le, i_eq, bI_tz, decide_eq_false_iff_not, Int32.reduceToInt, nI_toInt, tm1, tm2, tm3, tm4, tm9]; omega) | omega) ?_
          refine And.intro rfl ?_
          refine And.intro (⟨rfl, ij⟩) ?_
          refine And.intro ⟨rfl, rfl⟩ (And.intro rfl (Exists.intro _ (Exists.intro _ (And.intro (c_takeRow (h := upI (nh h) 1 7 0) (a := 37) (shp_nh hs) kr lane) ?_))))
          have e1 : zI (upI (nh h) 1 7 0) 37 0 = -9 := e0
          rw [if_pos e1, if_pos e1, upI_upI]
          refine br_f (by decide) ?_
          exact ⟨Or.inl rfl, rfl, rfl⟩
        · rw [if_neg q3]
          obtain ⟨r3, r4⟩ := r2 q3
          have e9 : ¬ zI (upI (nh h) 1 7 0) 37 0 = -9 := fun z => q3 (r1.mpr z)
          by_cases q4 : zI h 62 3 = lane
          · rw [if_pos q4]
            have e0 : zI (upI (nh h) 1 7 0) 37 0 = lane := r3.trans q4
            have e8 : zI (upI (nh h) 1 7 0) 37 1 = zI h 61 3 := r4
            by_cases q5 : n.toInt < 0
            · rw [if_pos q5]
              refine cc_nh (F := fun h => upI h 1 7 4) hs (cc_of 60 rfl rfl ?_)
              refine And.intro rfl ?_
              refine And.intro rfl (And.intro rfl (Exists.intro _ (Exists.intro _ (And.intro (c_isSheet _) ?_))))
              refine br_t (by first | assumption | (simp (discharger := omega) only [i_lt, i_le, i_eq, bI_tz, decide_eq_false_iff_not, Int32.reduceToInt, nI_toInt, tm1, tm2, tm3, tm4, tm9]; done) | (simp (discharger := omega) only [i_lt, i_le, i_eq, bI_tz, decide_eq_false_iff_not, Int32.reduceToInt, nI_toInt, tm1, tm2, tm3, tm4, tm9]; omega) | omega) ?_
              refine And.intro rfl (And.intro rfl (Exists.intro _ (Exists.intro _ (And.intro (c_isLane _) ?_))))
              refine br_t (by first | assumption | (simp (discharger := omega) only [i_lt, i_le, i_eq, bI_tz, decide_eq_false_iff_not, Int32.reduceToInt, nI_toInt, tm1, tm2, tm3, tm4, tm9]; done) | (simp (discharger := omega) only [i_lt, i_le, i_eq, bI_tz, decide_eq_false_iff_not, Int32.reduceToInt, nI_toInt, tm1, tm2, tm3, tm4, tm9]; omega) | omega) ?_
              refine And.intro rfl ?_
              refine And.intro (⟨rfl, ij⟩) ?_
              refine And.intro ⟨rfl, rfl⟩ (And.intro rfl (Exists.intro _ (Exists.intro _ (And.intro (c_takeRow (h := upI (nh h) 1 7 0) (a := 37) (shp_nh hs) kr lane) ?_))))
              rw [if_neg e9, if_neg e9, if_pos e0, if_pos e0]
              refine br_t (by rfl) ?_
              refine br_f (show ¬ ((0 : Int32) ≤ n) by first | assumption | (simp (discharger := omega) only [i_lt, i_le, i_eq, bI_tz, decide_eq_false_iff_not, Int32.reduceToInt, nI_toInt, tm1, tm2, tm3, tm4, tm9]; done) | (simp (discharger := omega) only [i_lt, i_le, i_eq, bI_tz, decide_eq_false_iff_not, Int32.reduceToInt, nI_toInt, tm1, tm2, tm3, tm4, tm9]; omega) | omega) ?_
              refine And.intro ⟨rfl, rfl⟩ (And.intro rfl (Exists.intro _ (Exists.intro _ (And.intro (c_faulty (h := upI (nh h) 1 7 0) (shp_nh hs) 4) ?_))))
              rw [upI_upI]
              exact ⟨Or.inl rfl, rfl, rfl⟩
            · rw [if_neg q5]
              have hl := c_lacks (sc := sc) (h := upI (nh h) 1 7 0) (a := 37) kr i n (by omega) (by rw [e8]; omega)
              rw [e8] at hl
              by_cases q6 : i.toInt < 0 ∨ (zI h 61 3).toInt < i.toInt + n.toInt
              · rw [if_pos q6]
                refine cc_nh (F := fun h => upI h 1 7 3) hs (cc_of 60 rfl rfl ?_)
                refine And.intro rfl ?_
                refine And.intro rfl (And.intro rfl (Exists.intro _ (Exists.intro _ (And.intro (c_isSheet _) ?_))))
                refine br_t (by first | assumption | (simp (discharger := omega) only [i_lt, i_le, i_eq, bI_tz, decide_eq_false_iff_not, Int32.reduceToInt, nI_toInt, tm1, tm2, tm3, tm4, tm9]; done) | (simp (discharger := omega) only [i_lt, i_le, i_eq, bI_tz, decide_eq_false_iff_not, Int32.reduceToInt, nI_toInt, tm1, tm2, tm3, tm4, tm9]; omega) | omega) ?_
                refine And.intro rfl (And.intro rfl (Exists.intro _ (Exists.intro _ (And.intro (c_isLane _) ?_))))
                refine br_t (by first | assumption | (simp (discharger := omega) only [i_lt, i_le, i_eq, bI_tz, decide_eq_false_iff_not, Int32.reduceToInt, nI_toInt, tm1, tm2, tm3, tm4, tm9]; done) | (simp (discharger := omega) only [i_lt, i_le, i_eq, bI_tz, decide_eq_false_iff_not, Int32.reduceToInt, nI_toInt, tm1, tm2, tm3, tm4, tm9]; omega) | omega) ?_
                refine And.intro rfl ?_
                refine And.intro (⟨rfl, ij⟩) ?_
                refine And.intro ⟨rfl, rfl⟩ (And.intro rfl (Exists.intro _ (Exists.intro _ (And.intro (c_takeRow (h := upI (nh h) 1 7 0) (a := 37) (shp_nh hs) kr lane) ?_))))
                rw [if_neg e9, if_neg e9, if_pos e0, if_pos e0]
                refine br_t (by rfl) ?_
                refine br_t (show (0 : Int32) ≤ n by first | assumption | (simp (discharger := omega) only [i_lt, i_le, i_eq, bI_tz, decide_eq_false_iff_not, Int32.reduceToInt, nI_toInt, tm1, tm2, tm3, tm4, tm9]; done) | (simp (discharger := omega) only [i_lt, i_le, i_eq, bI_tz, decide_eq_false_iff_not, Int32.reduceToInt, nI_toInt, tm1, tm2, tm3, tm4, tm9]; omega) | omega) ?_
                refine And.intro rfl ?_
                refine And.intro (⟨rfl, ij⟩) ?_
                refine And.intro ⟨rfl, rfl⟩ (And.intro rfl (Exists.intro _ (Exists.intro _ (And.intro (hl) ?_))))
                refine br_f (by rw [decide_eq_true q6]; decide) ?_
                refine And.intro ⟨rfl, rfl⟩ (And.intro rfl (Exists.intro _ (Exists.intro _ (And.intro (c_faulty (h := upI (nh h) 1 7 0) (shp_nh hs) 3) ?_))))
                rw [upI_upI]
                exact ⟨Or.inl rfl, rfl, rfl⟩
              · rw [if_neg q6]
                refine cc_nh (F := fun h => upI h 1 7 0) hs (cc_of 60 rfl rfl ?_)
                refine And.intro rfl ?_
                refine And.intro rfl (And.intro rfl (Exists.intro _ (Exists.intro _ (And.intro (c_isSheet _) ?_))))
                refine br_t (by first | assumption | (simp (discharger := omega) only [i_lt, i_le, i_eq, bI_tz, decide_eq_false_iff_not, Int32.reduceToInt, nI_toInt, tm1, tm2, tm3, tm4, tm9]; done) | (simp (discharger := omega) only [i_lt, i_le, i_eq, bI_tz, decide_eq_false_iff_not, Int32.reduceToInt, nI_toInt, tm1, tm2, tm3, tm4, tm9]; omega) | omega) ?_
                refine And.intro rfl (And.intro rfl (Exists.intro _ (Exists.intro _ (And.intro (c_isLane _) ?_))))
                refine br_t (by first | assumption | (simp (discharger := omega) only [i_lt, i_le, i_eq, bI_tz, decide_eq_false_iff_not, Int32.reduceToInt, nI_toInt, tm1, tm2, tm3, tm4, tm9]; done) | (simp (discharger := omega) only [i_lt, i_le, i_eq, bI_tz, decide_eq_false_iff_not, Int32.reduceToInt, nI_toInt, tm1, tm2, tm3, tm4, tm9]; omega) | omega) ?_
                refine And.intro rfl ?_
                refine And.intro (⟨rfl, ij⟩) ?_
                refine And.intro ⟨rfl, rfl⟩ (And.intro rfl (Exists.intro _ (Exists.intro _ (And.intro (c_takeRow (h := upI (nh h) 1 7 0) (a := 37) (shp_nh hs) kr lane) ?_))))
                rw [if_neg e9, if_neg e9, if_pos e0, if_pos e0]
                refine br_t (by rfl) ?_
                refine br_t (show (0 : Int32) ≤ n by first | assumption | (simp (discharger := omega) only [i_lt, i_le, i_eq, bI_tz, decide_eq_false_iff_not, Int32.reduceToInt, nI_toInt, tm1, tm2, tm3, tm4, tm9]; done) | (simp (discharger := omega) only [i_lt, i_le, i_eq, bI_tz, decide_eq_false_iff_not, Int32.reduceToInt, nI_toInt, tm1, tm2, tm3, tm4, tm9]; omega) | omega) ?_
                refine And.intro rfl ?_
                refine And.intro (⟨rfl, ij⟩) ?_
                refine And.intro ⟨rfl, rfl⟩ (And.intro rfl (Exists.intro _ (Exists.intro _ (And.intro (hl) ?_))))
                refine br_t (by rw [decide_eq_false q6]; decide) ?_
                exact ⟨Or.inl rfl, rfl, rfl⟩
          · rw [if_neg q4]
            have e0 : ¬ zI (upI (nh h) 1 7 0) 37 0 = lane := fun z => q4 (r3.symm.trans z)
            refine cc_nh (F := fun h => upI h 1 7 2) hs (cc_of 60 rfl rfl ?_)
            refine And.intro rfl ?_
            refine And.intro rfl (And.intro rfl (Exists.intro _ (Exists.intro _ (And.intro (c_isSheet _) ?_))))
            refine br_t (by first | assumption | (simp (discharger := omega) only [i_lt, i_le, i_eq, bI_tz, decide_eq_false_iff_not, Int32.reduceToInt, nI_toInt, tm1, tm2, tm3, tm4, tm9]; done) | (simp (discharger := omega) only [i_lt, i_le, i_eq, bI_tz, decide_eq_false_iff_not, Int32.reduceToInt, nI_toInt, tm1, tm2, tm3, tm4, tm9]; omega) | omega) ?_
            refine And.intro rfl (And.intro rfl (Exists.intro _ (Exists.intro _ (And.intro (c_isLane _) ?_))))
            refine br_t (by first | assumption | (simp (discharger := omega) only [i_lt, i_le, i_eq, bI_tz, decide_eq_false_iff_not, Int32.reduceToInt, nI_toInt, tm1, tm2, tm3, tm4, tm9]; done) | (simp (discharger := omega) only [i_lt, i_le, i_eq, bI_tz, decide_eq_false_iff_not, Int32.reduceToInt, nI_toInt, tm1, tm2, tm3, tm4, tm9]; omega) | omega) ?_
            refine And.intro rfl ?_
            refine And.intro (⟨rfl, ij⟩) ?_
            refine And.intro ⟨rfl, rfl⟩ (And.intro rfl (Exists.intro _ (Exists.intro _ (And.intro (c_takeRow (h := upI (nh h) 1 7 0) (a := 37) (shp_nh hs) kr lane) ?_))))
            rw [if_neg e9, if_neg e9, if_neg e0, if_neg e0, upI_upI]
            refine br_f (by decide) ?_
            exact ⟨Or.inl rfl, rfl, rfl⟩
    · rw [if_neg q2]
      refine cc_nh (F := fun h => upI h 1 7 0) hs (cc_of 60 rfl rfl ?_)
      refine And.intro rfl ?_
      refine And.intro rfl (And.intro rfl (Exists.intro _ (Exists.intro _ (And.intro (c_isSheet _) ?_))))
      refine br_t (by first | assumption | (simp (discharger := omega) only [i_lt, i_le, i_eq, bI_tz, decide_eq_false_iff_not, Int32.reduceToInt, nI_toInt, tm1, tm2, tm3, tm4, tm9]; done) | (simp (discharger := omega) only [i_lt, i_le, i_eq, bI_tz, decide_eq_false_iff_not, Int32.reduceToInt, nI_toInt, tm1, tm2, tm3, tm4, tm9]; omega) | omega) ?_
      refine And.intro rfl (And.intro rfl (Exists.intro _ (Exists.intro _ (And.intro (c_isLane _) ?_))))
      refine br_f (by first | assumption | (simp (discharger := omega) only [i_lt, i_le, i_eq, bI_tz, decide_eq_false_iff_not, Int32.reduceToInt, nI_toInt, tm1, tm2, tm3, tm4, tm9]; done) | (simp (discharger := omega) only [i_lt, i_le, i_eq, bI_tz, decide_eq_false_iff_not, Int32.reduceToInt, nI_toInt, tm1, tm2, tm3, tm4, tm9]; omega) | omega) ?_
      exact ⟨Or.inl rfl, rfl, rfl⟩
  · rw [if_neg q1]
    refine cc_nh (F := fun h => upI h 1 7 0) hs (cc_of 60 rfl rfl ?_)
    refine And.intro rfl ?_
    refine And.intro rfl (And.intro rfl (Exists.intro _ (Exists.intro _ (And.intro (c_isSheet _) ?_))))
    refine br_f (by first | assumption | (simp (discharger := omega) only [i_lt, i_le, i_eq, bI_tz, decide_eq_false_iff_not, Int32.reduceToInt, nI_toInt, tm1, tm2, tm3, tm4, tm9]; done) | (simp (discharger := omega) only [i_lt, i_le, i_eq, bI_tz, decide_eq_false_iff_not, Int32.reduceToInt, nI_toInt, tm1, tm2, tm3, tm4, tm9]; omega) | omega) ?_
    exact ⟨Or.inl rfl, rfl, rfl⟩
end
