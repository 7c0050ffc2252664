section
variable {sc : Nat × (Nat → Int32)} {h : Hp}
theorem op_fits (hS : Sim0 h) (p s : Int32) : Op0 sc 104 190 [.int p, .int s] h := by
  refine on_nh (P := fun h => Op0 sc 104 190 [.int p, .int s] h) hS (fun hS => ?_)
  have hs := hS.1
  obtain ⟨np, c1, c2, c3, c4, c5, c6, c7⟩ := hS.2.2.2.2.1
  by_cases q : (0 ≤ p.toInt ∧ p.toInt < np) ∧ (0 ≤ s.toInt ∧ s.toInt < 3)
  · obtain ⟨q1, q2⟩ := q
    obtain ⟨p, hp, rfl⟩ := i_of q1.1 (n := np) q1.2 (by omega)
    obtain ⟨t, ht, rfl⟩ := i_of q2.1 (n := 3) q2.2 (by decide)
    obtain ⟨a, kd, st, hr, gd, hd, pl, z1, z2, z3, z4, z5, z6, z7, z8, z9, z10, z11, z12, z13, z14, z15, z16, z17, z18, z19, z20⟩ := c4 p hp
    have ip : inB (nI p) 12 = true := inB_nI (by omega) (by decide)
    have ep : (nI p).toNatClampNeg = p := nI_clamp (by omega)
    refine ⟨.int (hF kd st hr t), nh h, nh h, ?_, ?_, fin_same hS⟩
    · refine cc_of 60 rfl rfl ?_
      refine And.intro ⟨rfl, rfl⟩ (And.intro rfl (Exists.intro _ (Exists.intro _ (And.intro (c_isPart hs c1 c2 (nI p)) ?_))))
      refine br_f (by first | assumption | (simp (discharger := omega) only [i_lt, i_le, i_eq, bI_tz, decide_eq_false_iff_not, Int32.reduceToInt, nI_toInt, tm1, tm2, tm3, tm4, tm9]; done) | (simp (discharger := omega) only [i_lt, i_le, i_eq, bI_tz, decide_eq_false_iff_not, Int32.reduceToInt, nI_toInt, tm1, tm2, tm3, tm4, tm9]; omega) | omega) ?_
      refine And.intro rfl (And.intro rfl (Exists.intro _ (Exists.intro _ (And.intro (c_isYardSort _) ?_))))
      refine br_t (by first | assumption | (simp (discharger := omega) only [i_lt, i_le, i_eq, bI_tz, decide_eq_false_iff_not, Int32.reduceToInt, nI_toInt, tm1, tm2, tm3, tm4, tm9]; done) | (simp (discharger := omega) only [i_lt, i_le, i_eq, bI_tz, decide_eq_false_iff_not, Int32.reduceToInt, nI_toInt, tm1, tm2, tm3, tm4, tm9]; omega) | omega) ?_
      refine And.intro rfl ?_
      refine And.intro rfl ?_
      refine And.intro (⟨rfl, ip⟩) ?_
      rw [ep, show zA (nh h) (zA (nh h) (zA (nh h) 1 4) 0) p = a from z1]
      have hc := c_hoursFor (sc := sc) z3 z4 z7 z10 z6 z9 (by omega : t ≤ 2)
      rw [← z4] at hc
      obtain rfl | rfl | rfl : kd = 0 ∨ kd = 1 ∨ kd = 2 := by omega
      · refine And.intro (v_ok (show zK (nh h) a = 4 from z4) ⟨rfl, rfl, by decide⟩) (And.intro (v_ary (show zK (nh h) a = 4 from z4) rfl) (Exists.intro _ (Exists.intro _ (And.intro (hc) ?_))))
        exact ⟨Or.inl rfl, rfl, rfl⟩
      · refine And.intro (v_ok (show zK (nh h) a = 2 from z4) ⟨rfl, rfl, by decide⟩) (And.intro (v_ary (show zK (nh h) a = 2 from z4) rfl) (Exists.intro _ (Exists.intro _ (And.intro (hc) ?_))))
        exact ⟨Or.inl rfl, rfl, rfl⟩
      · refine And.intro (v_ok (show zK (nh h) a = 1 from z4) ⟨rfl, rfl, by decide⟩) (And.intro (v_ary (show zK (nh h) a = 1 from z4) rfl) (Exists.intro _ (Exists.intro _ (And.intro (hc) ?_))))
        exact ⟨Or.inl rfl, rfl, rfl⟩
    · refine cc_of 60 rfl rfl ?_
      refine And.intro ⟨rfl, rfl⟩ (And.intro rfl (Exists.intro _ (Exists.intro _ (And.intro (c_noPart hs c1 c3 (nI p)) ?_))))
      refine br_f (by first | assumption | (simp (discharger := omega) only [i_lt, i_le, i_eq, bI_tz, decide_eq_false_iff_not, Int32.reduceToInt, nI_toInt, tm1, tm2, tm3, tm4, tm9]; done) | (simp (discharger := omega) only [i_lt, i_le, i_eq, bI_tz, decide_eq_false_iff_not, Int32.reduceToInt, nI_toInt, tm1, tm2, tm3, tm4, tm9]; omega) | omega) ?_
      refine And.intro rfl (And.intro rfl (Exists.intro _ (Exists.intro _ (And.intro (c_noYardSort _) ?_))))
      refine br_t (by first | assumption | (simp (discharger := omega) only [i_lt, i_le, i_eq, bI_tz, decide_eq_false_iff_not, Int32.reduceToInt, nI_toInt, tm1, tm2, tm3, tm4, tm9]; done) | (simp (discharger := omega) only [i_lt, i_le, i_eq, bI_tz, decide_eq_false_iff_not, Int32.reduceToInt, nI_toInt, tm1, tm2, tm3, tm4, tm9]; omega) | omega) ?_
      refine And.intro ⟨rfl, rfl⟩ (And.intro rfl (Exists.intro _ (Exists.intro _ (And.intro (c_hoursFor_m hs (by omega) z3 z14 z15 z16 z6 z9 (by omega : t ≤ 2)) ?_))))
      exact ⟨Or.inl rfl, rfl, rfl⟩
  · refine ⟨.int (-1), nh h, nh h, ?_, ?_, fin_same hS⟩
    · refine cc_of 60 rfl rfl ?_
      refine And.intro ⟨rfl, rfl⟩ (And.intro rfl (Exists.intro _ (Exists.intro _ (And.intro (c_isPart hs c1 c2 p) ?_))))
      by_cases q2 : 0 ≤ p.toInt ∧ p.toInt < np
      · refine br_f (by first | assumption | (simp (discharger := omega) only [i_lt, i_le, i_eq, bI_tz, decide_eq_false_iff_not, Int32.reduceToInt, nI_toInt, tm1, tm2, tm3, tm4, tm9]; done) | (simp (discharger := omega) only [i_lt, i_le, i_eq, bI_tz, decide_eq_false_iff_not, Int32.reduceToInt, nI_toInt, tm1, tm2, tm3, tm4, tm9]; omega) | omega) ?_
        refine And.intro rfl (And.intro rfl (Exists.intro _ (Exists.intro _ (And.intro (c_isYardSort _) ?_))))
        refine br_f (by first | assumption | (simp (discharger := omega) only [i_lt, i_le, i_eq, bI_tz, decide_eq_false_iff_not, Int32.reduceToInt, nI_toInt, tm1, tm2, tm3, tm4, tm9]; done) | (simp (discharger := omega) only [i_lt, i_le, i_eq, bI_tz, decide_eq_false_iff_not, Int32.reduceToInt, nI_toInt, tm1, tm2, tm3, tm4, tm9]; omega) | omega) ?_
        exact ⟨Or.inl rfl, rfl, rfl⟩
      · refine br_t (by first | assumption | (simp (discharger := omega) only [i_lt, i_le, i_eq, bI_tz, decide_eq_false_iff_not, Int32.reduceToInt, nI_toInt, tm1, tm2, tm3, tm4, tm9]; done) | (simp (discharger := omega) only [i_lt, i_le, i_eq, bI_tz, decide_eq_false_iff_not, Int32.reduceToInt, nI_toInt, tm1, tm2, tm3, tm4, tm9]; omega) | omega) ?_
        exact ⟨Or.inl rfl, rfl, rfl⟩
    · refine cc_of 60 rfl rfl ?_
      refine And.intro ⟨rfl, rfl⟩ (And.intro rfl (Exists.intro _ (Exists.intro _ (And.intro (c_noPart hs c1 c3 p) ?_))))
      by_cases q2 : 0 ≤ p.toInt ∧ p.toInt < np
      · refine br_f (by first | assumption | (simp (discharger := omega) only [i_lt, i_le, i_eq, bI_tz, decide_eq_false_iff_not, Int32.reduceToInt, nI_toInt, tm1, tm2, tm3, tm4, tm9]; done) | (simp (discharger := omega) only [i_lt, i_le, i_eq, bI_tz, decide_eq_false_iff_not, Int32.reduceToInt, nI_toInt, tm1, tm2, tm3, tm4, tm9]; omega) | omega) ?_
        refine And.intro rfl (And.intro rfl (Exists.intro _ (Exists.intro _ (And.intro (c_noYardSort _) ?_))))
        refine br_f (by first | assumption | (simp (discharger := omega) only [i_lt, i_le, i_eq, bI_tz, decide_eq_false_iff_not, Int32.reduceToInt, nI_toInt, tm1, tm2, tm3, tm4, tm9]; done) | (simp (discharger := omega) only [i_lt, i_le, i_eq, bI_tz, decide_eq_false_iff_not, Int32.reduceToInt, nI_toInt, tm1, tm2, tm3, tm4, tm9]; omega) | omega) ?_
        exact ⟨Or.inl rfl, rfl, rfl⟩
      · refine br_t (by first | assumption | (simp (discharger := omega) only [i_lt, i_le, i_eq, bI_tz, decide_eq_false_iff_not, Int32.reduceToInt, nI_toInt, tm1, tm2, tm3, tm4, tm9]; done) | (simp (discharger := omega) only [i_lt, i_le, i_eq, bI_tz, decide_eq_false_iff_not, Int32.reduceToInt, nI_toInt, tm1, tm2, tm3, tm4, tm9]; omega) | omega) ?_
        exact ⟨Or.inl rfl, rfl, rfl⟩
theorem nh_idem (h : Hp) (hs : Shp h) : nh (nh h) = nh h := nh_eq (shp_nh hs)
/-- a call on a part that isn't there -/
theorem tr_leave {a : Nat} (hk : zK h a = 7) (v : Int32) : Cc sc 64 [.ref a, .int v] h none (upI h a 0 (31 * zI h a 0 + v)) := by
  have k0 : kin 7 (zK h a) = true := by rw [hk]; rfl
  refine cc_of 60 rfl rfl ?_
  refine And.intro (k0) ?_
  refine And.intro (k0) ?_
  exact ⟨trivial, rfl, rfl⟩
theorem c_traced (hs : Shp h) (v : Int32) : Cc sc 214 [.ref 39, .int v] h none (upI h 39 37 (31 * zI h 39 37 + v)) := by
  refine cc_nh (F := fun h => upI h 39 37 (31 * zI h 39 37 + v)) hs (cc_of 60 rfl rfl ?_)
  refine And.intro rfl ?_
  refine And.intro rfl ?_
  exact ⟨trivial, rfl, rfl⟩
theorem zI_up_self (h : Hp) (a j : Nat) (v : Int32) : zI (upI h a j v) a j = v := by rw [zI_upI, if_pos rfl, if_pos rfl]
theorem op_list (hS : Sim0 h) (p : Int32) : Op0 sc 120 216 [.int p] h := by
  refine on_nh (P := fun h => Op0 sc 120 216 [.int p] h) hS (fun hS => ?_)
  have hs := hS.1
  obtain ⟨np, c1, c2, c3, c4, c5, c6, c7⟩ := hS.2.2.2.2.1
  by_cases q1 : 0 ≤ p.toInt ∧ p.toInt < np
  · obtain ⟨p, hp, rfl⟩ := i_of q1.1 (n := np) q1.2 (by omega)
    obtain ⟨a, kd, st, hr, gd, hd, pl, z1, z2, z3, z4, z5, z6, z7, z8, z9, z10, z11, z12, z13, z14, z15, z16, z17, z18, z19, z20⟩ := c4 p hp
    have ip : inB (nI p) 12 = true := inB_nI (by omega) (by decide)
    have ep : (nI p).toNatClampNeg = p := nI_clamp (by omega)
    have k4 : kin 4 (zK (nh h) a) = true := by rw [z4]; exact kin_part z3
    have e30 : zI (nh h) 30 0 = zI (nh h) 39 37 := hS.2.1.2.1
    have fin : ∀ v, Sim0 (upI (upI (nh h) 30 0 v) 39 37 v) ∧ Kp (nh h) (upI (upI (nh h) 30 0 v) 39 37 v) := fun v => by
      have f : Fr [(30, 0), (39, 37)] (nh h) (upI (upI (nh h) 30 0 v) 39 37 v) := ((Fr.refl _ _).upI rfl).upI rfl
      exact fin0 hS f rfl rfl ⟨hS.2.1.1, rfl, hS.2.1.2.2⟩ (f.simR rfl hS.2.2.1)
    have hl : ∀ a, a ≥ 65 → zI (upI (nh h) 30 0 (31 * zI (nh h) 30 0 + 4)) a = zI (nh h) a := fun a ha => va_up_ne _ _ (by omega)
    have c44 : Cc sc 44 [.ref a, .ref 30] (nh h) (some (.int (nI p))) (upI (nh h) 30 0 (31 * zI (nh h) 30 0 + 4)) := by
      refine cc_of 60 rfl rfl ?_
      refine And.intro ⟨rfl, rfl⟩ (And.intro rfl (Exists.intro _ (Exists.intro _ (And.intro (tr_leave (h := nh h) (a := 30) rfl 4) ?_))))
      refine And.intro (k4) ?_
      rw [hl a z2, z5]
      exact ⟨Or.inl rfl, rfl, rfl⟩
    by_cases k2 : kd = 2
    · subst k2
      refine ⟨.int 60, upI (nh h) 30 0 (31 * zI (nh h) 30 0 + 5), upI (upI (nh h) 30 0 (31 * zI (nh h) 30 0 + 5)) 39 37 (31 * zI (nh h) 30 0 + 5), ?_, ?_, fin _⟩
      · refine cc_of 60 rfl rfl ?_
        refine And.intro ⟨rfl, rfl⟩ (And.intro rfl (Exists.intro _ (Exists.intro _ (And.intro (c_isPart hs c1 c2 (nI p)) ?_))))
        refine br_t (by first | assumption | (simp (discharger := omega) only [i_lt, i_le, i_eq, bI_tz, decide_eq_false_iff_not, Int32.reduceToInt, nI_toInt, tm1, tm2, tm3, tm4, tm9]; done) | (simp (discharger := omega) only [i_lt, i_le, i_eq, bI_tz, decide_eq_false_iff_not, Int32.reduceToInt, nI_toInt, tm1, tm2, tm3, tm4, tm9]; omega) | omega) ?_
        refine And.intro rfl ?_
        refine And.intro rfl ?_
        refine And.intro (⟨rfl, ip⟩) ?_
        rw [ep, show zA (nh h) (zA (nh h) (zA (nh h) 1 4) 0) p = a from z1]
        refine And.intro rfl ?_
        have hc : Cc sc (pck 1 44 44 12) [.ref a, .ref 30] (nh h) (some (.int 60)) (upI (nh h) 30 0 (31 * zI (nh h) 30 0 + 5)) := by
          refine cc_of (k := 12) 60 rfl rfl ?_
          refine And.intro ⟨rfl, rfl⟩ (And.intro rfl (Exists.intro _ (Exists.intro _ (And.intro (tr_leave (h := nh h) (a := 30) rfl 5) ?_))))
          exact ⟨Or.inl rfl, rfl, rfl⟩
        rw [← show zK (nh h) a = 1 from z4] at hc
        refine And.intro (v_ok (show zK (nh h) a = 1 from z4) ⟨rfl, rfl, by decide⟩) (And.intro (v_ary (show zK (nh h) a = 1 from z4) rfl) (Exists.intro _ (Exists.intro _ (And.intro (hc) ?_))))
        exact ⟨Or.inl rfl, rfl, rfl⟩
      · refine cc_of 60 rfl rfl ?_
        refine And.intro ⟨rfl, rfl⟩ (And.intro rfl (Exists.intro _ (Exists.intro _ (And.intro (c_noPart (h := upI (nh h) 30 0 (31 * zI (nh h) 30 0 + 5)) hs c1 c3 (nI p)) ?_))))
        refine br_t (by first | assumption | (simp (discharger := omega) only [i_lt, i_le, i_eq, bI_tz, decide_eq_false_iff_not, Int32.reduceToInt, nI_toInt, tm1, tm2, tm3, tm4, tm9]; done) | (simp (discharger := omega) only [i_lt, i_le, i_eq, bI_tz, decide_eq_false_iff_not, Int32.reduceToInt, nI_toInt, tm1, tm2, tm3, tm4, tm9]; omega) | omega) ?_
        refine And.intro rfl ?_
        refine And.intro (⟨rfl, ip⟩) ?_
        rw [ep]
        refine br_f (show ¬ ¬ zI (nh h) 51 p = 2 from fun z => z z14) ?_
        refine And.intro ⟨rfl, rfl⟩ (And.intro rfl (Exists.intro _ (Exists.intro _ (And.intro (c_traced (h := upI (nh h) 30 0 (31 * zI (nh h) 30 0 + 5)) hs 5) ?_))))
        refine And.intro rfl ?_
        refine And.intro (⟨rfl, ip⟩) ?_
        rw [ep]
        refine br_f (show ¬ ¬ zI (nh h) 51 p = 2 from fun z => z z14) ?_
        exact ⟨Or.inl rfl, rfl, by rw [e30]; rfl⟩
    · refine ⟨.int (nI p), upI (nh h) 30 0 (31 * zI (nh h) 30 0 + 4), upI (upI (nh h) 30 0 (31 * zI (nh h) 30 0 + 4)) 39 37 (31 * zI (nh h) 30 0 + 4), ?_, ?_, fin _⟩
      · refine cc_of 60 rfl rfl ?_
        refine And.intro ⟨rfl, rfl⟩ (And.intro rfl (Exists.intro _ (Exists.intro _ (And.intro (c_isPart hs c1 c2 (nI p)) ?_))))
        refine br_t (by first | assumption | (simp (discharger := omega) only [i_lt, i_le, i_eq, bI_tz, decide_eq_false_iff_not, Int32.reduceToInt, nI_toInt, tm1, tm2, tm3, tm4, tm9]; done) | (simp (discharger := omega) only [i_lt, i_le, i_eq, bI_tz, decide_eq_false_iff_not, Int32.reduceToInt, nI_toInt, tm1, tm2, tm3, tm4, tm9]; omega) | omega) ?_
        refine And.intro rfl ?_
        refine And.intro rfl ?_
        refine And.intro (⟨rfl, ip⟩) ?_
        rw [ep, show zA (nh h) (zA (nh h) (zA (nh h) 1 4) 0) p = a from z1]
        refine And.intro rfl ?_
        obtain rfl | rfl : kd = 0 ∨ kd = 1 := by omega
        · have hc : Cc sc (pck (zK (nh h) a) 44 44 12) [.ref a, .ref 30] (nh h) (some (.int (nI p))) (upI (nh h) 30 0 (31 * zI (nh h) 30 0 + 4)) := by rw [show zK (nh h) a = 4 from z4]; exact c44
          refine And.intro (v_ok (show zK (nh h) a = 4 from z4) ⟨rfl, rfl, by decide⟩) (And.intro (v_ary (show zK (nh h) a = 4 from z4) rfl) (Exists.intro _ (Exists.intro _ (And.intro (hc) ?_))))
          exact ⟨Or.inl rfl, rfl, rfl⟩
        · have hc : Cc sc (pck (zK (nh h) a) 44 44 12) [.ref a, .ref 30] (nh h) (some (.int (nI p))) (upI (nh h) 30 0 (31 * zI (nh h) 30 0 + 4)) := by rw [show zK (nh h) a = 2 from z4]; exact c44
          refine And.intro (v_ok (show zK (nh h) a = 2 from z4) ⟨rfl, rfl, by decide⟩) (And.intro (v_ary (show zK (nh h) a = 2 from z4) rfl) (Exists.intro _ (Exists.intro _ (And.intro (hc) ?_))))
          exact ⟨Or.inl rfl, rfl, rfl⟩
      · have n2 : ¬ zI (nh h) 51 p = 2 := by rw [z14, show (2 : Int32) = nI 2 from rfl, nI_eq (by omega) (by omega)]; exact k2
        refine cc_of 60 rfl rfl ?_
        refine And.intro ⟨rfl, rfl⟩ (And.intro rfl (Exists.intro _ (Exists.intro _ (And.intro (c_noPart (h := upI (nh h) 30 0 (31 * zI (nh h) 30 0 + 4)) hs c1 c3 (nI p)) ?_))))
        refine br_t (by first | assumption | (simp (discharger := omega) only [i_lt, i_le, i_eq, bI_tz, decide_eq_false_iff_not, Int32.reduceToInt, nI_toInt, tm1, tm2, tm3, tm4, tm9]; done) | (simp (discharger := omega) only [i_lt, i_le, i_eq, bI_tz, decide_eq_false_iff_not, Int32.reduceToInt, nI_toInt, tm1, tm2, tm3, tm4, tm9]; omega) | omega) ?_
        refine And.intro rfl ?_
        refine And.intro (⟨rfl, ip⟩) ?_
        rw [ep]
        refine br_t n2 ?_
        refine And.intro ⟨rfl, rfl⟩ (And.intro rfl (Exists.intro _ (Exists.intro _ (And.intro (c_traced (h := upI (nh h) 30 0 (31 * zI (nh h) 30 0 + 4)) hs 4) ?_))))
        refine And.intro rfl ?_
        refine And.intro (⟨rfl, ip⟩) ?_
        rw [ep]
        refine br_t n2 ?_
        exact ⟨Or.inl rfl, rfl, by rw [e30]; rfl⟩
  · refine ⟨.int (-1), nh h, nh h, ?_, ?_, fin_same hS⟩
    · refine cc_of 60 rfl rfl ?_
      refine And.intro ⟨rfl, rfl⟩ (And.intro rfl (Exists.intro _ (Exists.intro _ (And.intro (c_isPart hs c1 c2 p) ?_))))
      refine br_f (by first | assumption | (simp (discharger := omega) only [i_lt, i_le, i_eq, bI_tz, decide_eq_false_iff_not, Int32.reduceToInt, nI_toInt, tm1, tm2, tm3, tm4, tm9]; done) | (simp (discharger := omega) only [i_lt, i_le, i_eq, bI_tz, decide_eq_false_iff_not, Int32.reduceToInt, nI_toInt, tm1, tm2, tm3, tm4, tm9]; omega) | omega) ?_
      exact ⟨Or.inl rfl, rfl, rfl⟩
    · refine cc_of 60 rfl rfl ?_
      refine And.intro ⟨rfl, rfl⟩ (And.intro rfl (Exists.intro _ (Exists.intro _ (And.intro (c_noPart hs c1 c3 p) ?_))))
      refine br_f (by first | assumption | (simp (discharger := omega) only [i_lt, i_le, i_eq, bI_tz, decide_eq_false_iff_not, Int32.reduceToInt, nI_toInt, tm1, tm2, tm3, tm4, tm9]; done) | (simp (discharger := omega) only [i_lt, i_le, i_eq, bI_tz, decide_eq_false_iff_not, Int32.reduceToInt, nI_toInt, tm1, tm2, tm3, tm4, tm9]; omega) | omega) ?_
      exact ⟨Or.inl rfl, rfl, rfl⟩
theorem op_tell (hS : Sim0 h) (p : Int32) : Op0 sc 119 215 [.int p] h := by
  refine on_nh (P := fun h => Op0 sc 119 215 [.int p] h) hS (fun hS => ?_)
  have hs := hS.1
  obtain ⟨np, c1, c2, c3, c4, c5, c6, c7⟩ := hS.2.2.2.2.1
  by_cases q1 : 0 ≤ p.toInt ∧ p.toInt < np
  · obtain ⟨p, hp, rfl⟩ := i_of q1.1 (n := np) q1.2 (by omega)
    obtain ⟨a, kd, st, hr, gd, hd, pl, z1, z2, z3, z4, z5, z6, z7, z8, z9, z10, z11, z12, z13, z14, z15, z16, z17, z18, z19, z20⟩ := c4 p hp
    have ip : inB (nI p) 12 = true := inB_nI (by omega) (by decide)
    have ep : (nI p).toNatClampNeg = p := nI_clamp (by omega)
    have k4 : kin 4 (zK (nh h) a) = true := by rw [z4]; exact kin_part z3
    have e30 : zI (nh h) 30 0 = zI (nh h) 39 37 := hS.2.1.2.1
    have fin : ∀ v, Sim0 (upI (upI (nh h) 30 0 v) 39 37 v) ∧ Kp (nh h) (upI (upI (nh h) 30 0 v) 39 37 v) := fun v => by
      have f : Fr [(30, 0), (39, 37)] (nh h) (upI (upI (nh h) 30 0 v) 39 37 v) := ((Fr.refl _ _).upI rfl).upI rfl
      exact fin0 hS f rfl rfl ⟨hS.2.1.1, rfl, hS.2.1.2.2⟩ (f.simR rfl hS.2.2.1)
    have hl : ∀ v a, a ≥ 65 → zI (upI (nh h) 30 0 v) a = zI (nh h) a := fun v a ha => va_up_ne _ _ (by omega)
    have c43 : ∀ v, Cc sc 43 [.ref a, .ref 30] (upI (nh h) 30 0 v) (some (.int (nI hr))) (upI (nh h) 30 0 (31 * v + 1)) := fun v => by
      refine cc_of 60 rfl rfl ?_
      refine And.intro ⟨rfl, rfl⟩ (And.intro rfl (Exists.intro _ (Exists.intro _ (And.intro (tr_leave (h := upI (nh h) 30 0 v) (a := 30) rfl 1) ?_))))
      refine And.intro (k4) ?_
      rw [zI_up_self, upI_upI, hl _ a z2, z10]
      exact ⟨Or.inl rfl, rfl, rfl⟩
    have c42 : ∀ v, Cc sc 42 [.ref a, .ref 30] (upI (nh h) 30 0 v) (some (.int (nI hr))) (upI (nh h) 30 0 (31 * v + 1)) := fun v => by
      refine cc_of 60 rfl rfl ?_
      obtain rfl | rfl | rfl : kd = 0 ∨ kd = 1 ∨ kd = 2 := by omega
      · have hc : Cc sc (pck (zK (upI (nh h) 30 0 v) a) 43 43 43) [.ref a, .ref 30] (upI (nh h) 30 0 v) (some (.int (nI hr))) (upI (nh h) 30 0 (31 * v + 1)) := by rw [show zK (upI (nh h) 30 0 v) a = 4 from z4]; exact c43 v
        refine And.intro (v_ok (show zK (nh h) a = 4 from z4) ⟨rfl, rfl, by decide⟩) (And.intro (v_ary (show zK (nh h) a = 4 from z4) rfl) (Exists.intro _ (Exists.intro _ (And.intro (hc) ?_))))
        exact ⟨Or.inl rfl, rfl, rfl⟩
      · have hc : Cc sc (pck (zK (upI (nh h) 30 0 v) a) 43 43 43) [.ref a, .ref 30] (upI (nh h) 30 0 v) (some (.int (nI hr))) (upI (nh h) 30 0 (31 * v + 1)) := by rw [show zK (upI (nh h) 30 0 v) a = 2 from z4]; exact c43 v
        refine And.intro (v_ok (show zK (nh h) a = 2 from z4) ⟨rfl, rfl, by decide⟩) (And.intro (v_ary (show zK (nh h) a = 2 from z4) rfl) (Exists.intro _ (Exists.intro _ (And.intro (hc) ?_))))
        exact ⟨Or.inl rfl, rfl, rfl⟩
      · have hc : Cc sc (pck (zK (upI (nh h) 30 0 v) a) 43 43 43) [.ref a, .ref 30] (upI (nh h) 30 0 v) (some (.int (nI hr))) (upI (nh h) 30 0 (31 * v + 1)) := by rw [show zK (upI (nh h) 30 0 v) a = 1 from z4]; exact c43 v
        refine And.intro (v_ok (show zK (nh h) a = 1 from z4) ⟨rfl, rfl, by decide⟩) (And.intro (v_ary (show zK (nh h) a = 1 from z4) rfl) (Exists.intro _ (Exists.intro _ (And.intro (hc) ?_))))
        exact ⟨Or.inl rfl, rfl, rfl⟩
    have c16 : ∀ v, Cc sc 16 [.ref a, .ref 30] (upI (nh h) 30 0 v) (some (.int (nI hr + 100))) (upI (nh h) 30 0 (31 * (31 * v + 2) + 1)) := fun v => by
      refine cc_of 60 rfl rfl ?_
      refine And.intro ⟨rfl, rfl⟩ (And.intro rfl (Exists.intro _ (Exists.intro _ (And.intro (tr_leave (h := upI (nh h) 30 0 v) (a := 30) rfl 2) ?_))))
      rw [zI_up_self, upI_upI]
      refine And.intro ⟨rfl, k4⟩ (And.intro rfl (Exists.intro _ (Exists.intro _ (And.intro (c42 (31 * v + 2)) ?_))))
      exact ⟨Or.inl rfl, rfl, rfl⟩
    have u0 : upI (nh h) 30 0 (zI (nh h) 30 0) = nh h := by
      have := rwI_id (nh h) 30
      rw [← this]
      show upI (rwI (nh h) 30 (zI (nh h) 30)) 30 0 _ = _
      rw [upI_rwI]
      congr 1
      funext i
      unfold upd
      split
      · rename_i e
        rw [e]
        rfl
      · rfl
    obtain rfl | rfl | rfl : kd = 0 ∨ kd = 1 ∨ kd = 2 := by omega
    · refine ⟨.int (nI hr), upI (nh h) 30 0 (31 * zI (nh h) 30 0 + 1), upI (upI (nh h) 30 0 (31 * zI (nh h) 30 0 + 1)) 39 37 (31 * zI (nh h) 30 0 + 1), ?_, ?_, fin _⟩
      · refine cc_of 60 rfl rfl ?_
        refine And.intro ⟨rfl, rfl⟩ (And.intro rfl (Exists.intro _ (Exists.intro _ (And.intro (c_isPart hs c1 c2 (nI p)) ?_))))
        refine br_t (by first | assumption | (simp (discharger := omega) only [i_lt, i_le, i_eq, bI_tz, decide_eq_false_iff_not, Int32.reduceToInt, nI_toInt, tm1, tm2, tm3, tm4, tm9]; done) | (simp (discharger := omega) only [i_lt, i_le, i_eq, bI_tz, decide_eq_false_iff_not, Int32.reduceToInt, nI_toInt, tm1, tm2, tm3, tm4, tm9]; omega) | omega) ?_
        refine And.intro rfl ?_
        refine And.intro rfl ?_
        refine And.intro (⟨rfl, ip⟩) ?_
        rw [ep, show zA (nh h) (zA (nh h) (zA (nh h) 1 4) 0) p = a from z1]
        refine And.intro rfl ?_
        have hc : Cc sc (pck (zK (nh h) a) 42 16 11) [.ref a, .ref 30] (nh h) (some (.int (nI hr))) (upI (nh h) 30 0 (31 * zI (nh h) 30 0 + 1)) := by
          rw [show zK (nh h) a = 4 from z4]
          have := c42 (zI (nh h) 30 0)
          rw [u0] at this
          exact this
        refine And.intro (v_ok (show zK (nh h) a = 4 from z4) ⟨rfl, rfl, by decide⟩) (And.intro (v_ary (show zK (nh h) a = 4 from z4) rfl) (Exists.intro _ (Exists.intro _ (And.intro (hc) ?_))))
        exact ⟨Or.inl rfl, rfl, rfl⟩
      · refine cc_of 80 rfl rfl ?_
        refine And.intro ⟨rfl, rfl⟩ (And.intro rfl (Exists.intro _ (Exists.intro _ (And.intro (c_noPart (h := upI (nh h) 30 0 (31 * zI (nh h) 30 0 + 1)) hs c1 c3 (nI p)) ?_))))
        refine br_t (by first | assumption | (simp (discharger := omega) only [i_lt, i_le, i_eq, bI_tz, decide_eq_false_iff_not, Int32.reduceToInt, nI_toInt, tm1, tm2, tm3, tm4, tm9]; done) | (simp (discharger := omega) only [i_lt, i_le, i_eq, bI_tz, decide_eq_false_iff_not, Int32.reduceToInt, nI_toInt, tm1, tm2, tm3, tm4, tm9]; omega) | omega) ?_
        refine And.intro rfl ?_
        refine And.intro (⟨rfl, ip⟩) ?_
        rw [ep, show zI (upI (nh h) 30 0 (31 * zI (nh h) 30 0 + 1)) (zA (upI (nh h) 30 0 (31 * zI (nh h) 30 0 + 1)) 39 19) p = 0 from z14]
        refine br_t (by decide) ?_
        refine br_t (by decide) ?_
        refine And.intro ⟨rfl, rfl⟩ (And.intro rfl (Exists.intro _ (Exists.intro _ (And.intro (c_traced (h := upI (nh h) 30 0 (31 * zI (nh h) 30 0 + 1)) hs 1) ?_))))
        refine br_t (by decide) ?_
        refine And.intro rfl ?_
        refine And.intro (⟨rfl, ip⟩) ?_
        rw [ep]
        refine br_f (by decide) ?_
        exact ⟨Or.inl rfl, congrArg (fun v => some (Value.int v)) z16, by rw [e30]; rfl⟩
    · refine ⟨.int (nI hr + 100), upI (nh h) 30 0 (31 * (31 * zI (nh h) 30 0 + 2) + 1), upI (upI (nh h) 30 0 (31 * (31 * zI (nh h) 30 0 + 2) + 1)) 39 37 (31 * (31 * zI (nh h) 30 0 + 2) + 1), ?_, ?_, fin _⟩
      · refine cc_of 60 rfl rfl ?_
        refine And.intro ⟨rfl, rfl⟩ (And.intro rfl (Exists.intro _ (Exists.intro _ (And.intro (c_isPart hs c1 c2 (nI p)) ?_))))
        refine br_t (by first | assumption | (simp (discharger := omega) only [i_lt, i_le, i_eq, bI_tz, decide_eq_false_iff_not, Int32.reduceToInt, nI_toInt, tm1, tm2, tm3, tm4, tm9]; done) | (simp (discharger := omega) only [i_lt, i_le, i_eq, bI_tz, decide_eq_false_iff_not, Int32.reduceToInt, nI_toInt, tm1, tm2, tm3, tm4, tm9]; omega) | omega) ?_
        refine And.intro rfl ?_
        refine And.intro rfl ?_
        refine And.intro (⟨rfl, ip⟩) ?_
        rw [ep, show zA (nh h) (zA (nh h) (zA (nh h) 1 4) 0) p = a from z1]
        refine And.intro rfl ?_
        have hc : Cc sc (pck (zK (nh h) a) 42 16 11) [.ref a, .ref 30] (nh h) (some (.int (nI hr + 100))) (upI (nh h) 30 0 (31 * (31 * zI (nh h) 30 0 + 2) + 1)) := by
          rw [show zK (nh h) a = 2 from z4]
          have := c16 (zI (nh h) 30 0)
          rw [u0] at this
          exact this
        refine And.intro (v_ok (show zK (nh h) a = 2 from z4) ⟨rfl, rfl, by decide⟩) (And.intro (v_ary (show zK (nh h) a = 2 from z4) rfl) (Exists.intro _ (Exists.intro _ (And.intro (hc) ?_))))
        exact ⟨Or.inl rfl, rfl, rfl⟩
      · generalize hv : 31 * (31 * zI (nh h) 30 0 + 2) + 1 = v
        refine cc_of 80 rfl rfl ?_
        refine And.intro ⟨rfl, rfl⟩ (And.intro rfl (Exists.intro _ (Exists.intro _ (And.intro (c_noPart (h := upI (nh h) 30 0 v) hs c1 c3 (nI p)) ?_))))
        refine br_t (by first | assumption | (simp (discharger := omega) only [i_lt, i_le, i_eq, bI_tz, decide_eq_false_iff_not, Int32.reduceToInt, nI_toInt, tm1, tm2, tm3, tm4, tm9]; done) | (simp (discharger := omega) only [i_lt, i_le, i_eq, bI_tz, decide_eq_false_iff_not, Int32.reduceToInt, nI_toInt, tm1, tm2, tm3, tm4, tm9]; omega) | omega) ?_
        refine And.intro rfl ?_
        refine And.intro (⟨rfl, ip⟩) ?_
        rw [ep, show zI (upI (nh h) 30 0 v) (zA (upI (nh h) 30 0 v) 39 19) p = 1 from z14]
        refine br_t (by decide) ?_
        refine br_f (by decide) ?_
        refine And.intro ⟨rfl, rfl⟩ (And.intro rfl (Exists.intro _ (Exists.intro _ (And.intro (c_traced (h := upI (nh h) 30 0 v) hs 2) ?_))))
        refine And.intro ⟨rfl, rfl⟩ (And.intro rfl (Exists.intro _ (Exists.intro _ (And.intro (c_traced (h := upI (upI (nh h) 30 0 v) 39 37 (31 * zI (upI (nh h) 30 0 v) 39 37 + 2)) hs 1) ?_))))
        refine br_t (by decide) ?_
        refine And.intro rfl ?_
        refine And.intro (⟨rfl, ip⟩) ?_
        rw [ep, show zI (upI (upI (upI (nh h) 30 0 v) 39 37 (31 * zI (upI (nh h) 30 0 v) 39 37 + 2)) 39 37 (31 * zI (upI (upI (nh h) 30 0 v) 39 37 (31 * zI (upI (nh h) 30 0 v) 39 37 + 2)) 39 37 + 1)) (zA (upI (upI (upI (nh h) 30 0 v) 39 37 (31 * zI (upI (nh h) 30 0 v) 39 37 + 2)) 39 37 (31 * zI (upI (upI (nh h) 30 0 v) 39 37 (31 * zI (upI (nh h) 30 0 v) 39 37 + 2)) 39 37 + 1)) 39 21) p = nI hr from z16]
        refine br_t (by decide) ?_
        refine br_f (by decide) ?_
        refine ⟨Or.inl rfl, rfl, ?_⟩
        rw [zI_up_self, upI_upI]
        rw [← hv, e30]
        rfl
    · refine ⟨.int (nI hr + 100 + nI hr), upI (nh h) 30 0 (31 * (31 * (31 * (31 * zI (nh h) 30 0 + 3) + 2) + 1) + 1), upI (upI (nh h) 30 0 (31 * (31 * (31 * (31 * zI (nh h) 30 0 + 3) + 2) + 1) + 1)) 39 37 (31 * (31 * (31 * (31 * zI (nh h) 30 0 + 3) + 2) + 1) + 1), ?_, ?_, fin _⟩
      · refine cc_of 60 rfl rfl ?_
        refine And.intro ⟨rfl, rfl⟩ (And.intro rfl (Exists.intro _ (Exists.intro _ (And.intro (c_isPart hs c1 c2 (nI p)) ?_))))
        refine br_t (by first | assumption | (simp (discharger := omega) only [i_lt, i_le, i_eq, bI_tz, decide_eq_false_iff_not, Int32.reduceToInt, nI_toInt, tm1, tm2, tm3, tm4, tm9]; done) | (simp (discharger := omega) only [i_lt, i_le, i_eq, bI_tz, decide_eq_false_iff_not, Int32.reduceToInt, nI_toInt, tm1, tm2, tm3, tm4, tm9]; omega) | omega) ?_
        refine And.intro rfl ?_
        refine And.intro rfl ?_
        refine And.intro (⟨rfl, ip⟩) ?_
        rw [ep, show zA (nh h) (zA (nh h) (zA (nh h) 1 4) 0) p = a from z1]
        refine And.intro rfl ?_
        have hc : Cc sc (pck (zK (nh h) a) 42 16 11) [.ref a, .ref 30] (nh h) (some (.int (nI hr + 100 + nI hr))) (upI (nh h) 30 0 (31 * (31 * (31 * (31 * zI (nh h) 30 0 + 3) + 2) + 1) + 1)) := by
          rw [show zK (nh h) a = 1 from z4]
          refine cc_of (k := 11) 60 rfl rfl ?_
          refine And.intro ⟨rfl, rfl⟩ (And.intro rfl (Exists.intro _ (Exists.intro _ (And.intro (tr_leave (h := nh h) (a := 30) rfl 3) ?_))))
          refine And.intro ⟨rfl, k4⟩ (And.intro rfl (Exists.intro _ (Exists.intro _ (And.intro (c16 (31 * zI (nh h) 30 0 + 3)) ?_))))
          have hd : Cc sc (pck (zK (upI (nh h) 30 0 (31 * (31 * (31 * zI (nh h) 30 0 + 3) + 2) + 1)) a) 999 999 43) [.ref a, .ref 30] (upI (nh h) 30 0 (31 * (31 * (31 * zI (nh h) 30 0 + 3) + 2) + 1)) (some (.int (nI hr))) (upI (nh h) 30 0 (31 * (31 * (31 * (31 * zI (nh h) 30 0 + 3) + 2) + 1) + 1)) := by rw [show zK (upI (nh h) 30 0 (31 * (31 * (31 * zI (nh h) 30 0 + 3) + 2) + 1)) a = 1 from z4]; exact c43 _
          refine And.intro (v_ok (show zK (nh h) a = 1 from z4) ⟨rfl, rfl, by decide⟩) (And.intro (v_ary (show zK (nh h) a = 1 from z4) rfl) (Exists.intro _ (Exists.intro _ (And.intro (hd) ?_))))
          exact ⟨Or.inl rfl, rfl, rfl⟩
        refine And.intro (v_ok (show zK (nh h) a = 1 from z4) ⟨rfl, rfl, by decide⟩) (And.intro (v_ary (show zK (nh h) a = 1 from z4) rfl) (Exists.intro _ (Exists.intro _ (And.intro (hc) ?_))))
        exact ⟨Or.inl rfl, rfl, rfl⟩
      · generalize hv : 31 * (31 * (31 * (31 * zI (nh h) 30 0 + 3) + 2) + 1) + 1 = v
        have hm : ∀ w u : Int32, Cc sc 214 [.ref 39, .int w] (upI (upI (nh h) 30 0 v) 39 37 u) none (upI (upI (nh h) 30 0 v) 39 37 (31 * u + w)) := fun w u => by
          have := c_traced (sc := sc) (h := upI (upI (nh h) 30 0 v) 39 37 u) hs w
          rw [zI_up_self, upI_upI] at this
          exact this
        refine cc_of 80 rfl rfl ?_
        refine And.intro ⟨rfl, rfl⟩ (And.intro rfl (Exists.intro _ (Exists.intro _ (And.intro (c_noPart (h := upI (nh h) 30 0 v) hs c1 c3 (nI p)) ?_))))
        refine br_t (by first | assumption | (simp (discharger := omega) only [i_lt, i_le, i_eq, bI_tz, decide_eq_false_iff_not, Int32.reduceToInt, nI_toInt, tm1, tm2, tm3, tm4, tm9]; done) | (simp (discharger := omega) only [i_lt, i_le, i_eq, bI_tz, decide_eq_false_iff_not, Int32.reduceToInt, nI_toInt, tm1, tm2, tm3, tm4, tm9]; omega) | omega) ?_
        refine And.intro rfl ?_
        refine And.intro (⟨rfl, ip⟩) ?_
        rw [ep, show zI (upI (nh h) 30 0 v) (zA (upI (nh h) 30 0 v) 39 19) p = 2 from z14]
        refine br_f (by decide) ?_
        refine And.intro ⟨rfl, rfl⟩ (And.intro rfl (Exists.intro _ (Exists.intro _ (And.intro (c_traced (h := upI (nh h) 30 0 v) hs 3) ?_))))
        refine br_f (by decide) ?_
        refine And.intro ⟨rfl, rfl⟩ (And.intro rfl (Exists.intro _ (Exists.intro _ (And.intro (hm 2 _) ?_))))
        refine And.intro ⟨rfl, rfl⟩ (And.intro rfl (Exists.intro _ (Exists.intro _ (And.intro (hm 1 _) ?_))))
        refine br_f (by decide) ?_
        refine And.intro ⟨rfl, rfl⟩ (And.intro rfl (Exists.intro _ (Exists.intro _ (And.intro (hm 1 _) ?_))))
        refine And.intro rfl ?_
        refine And.intro (⟨rfl, ip⟩) ?_
        refine br_t (by decide) ?_
        refine br_t (by decide) ?_
        refine ⟨Or.inl rfl, ?_, ?_⟩
        · rw [ep]
          refine congrArg (fun v => some (Value.int v)) (show 2 * zI (nh h) 53 p + 100 = nI hr + 100 + nI hr from ?_)
          rw [z16, show (2 : Int32) = nI 2 from rfl, pk_mul, show (100 : Int32) = nI 100 from rfl, nI_add, nI_add, nI_add]
          congr 1
          omega
        · rw [← hv, e30]
          rfl
  · refine ⟨.int (-1), nh h, nh h, ?_, ?_, fin_same hS⟩
    · refine cc_of 60 rfl rfl ?_
      refine And.intro ⟨rfl, rfl⟩ (And.intro rfl (Exists.intro _ (Exists.intro _ (And.intro (c_isPart hs c1 c2 p) ?_))))
      refine br_f (by first | assumption | (simp (discharger := omega) only [i_lt, i_le, i_eq, bI_tz, decide_eq_false_iff_not, Int32.reduceToInt, nI_toInt, tm1, tm2, tm3, tm4, tm9]; done) | (simp (discharger := omega) only [i_lt, i_le, i_eq, bI_tz, decide_eq_false_iff_not, Int32.reduceToInt, nI_toInt, tm1, tm2, tm3, tm4, tm9]; omega) | omega) ?_
      exact ⟨Or.inl rfl, rfl, rfl⟩
    · refine cc_of 60 rfl rfl ?_
      refine And.intro ⟨rfl, rfl⟩ (And.intro rfl (Exists.intro _ (Exists.intro _ (And.intro (c_noPart hs c1 c3 p) ?_))))
      refine br_f (by first | assumption | (simp (discharger := omega) only [i_lt, i_le, i_eq, bI_tz, decide_eq_false_iff_not, Int32.reduceToInt, nI_toInt, tm1, tm2, tm3, tm4, tm9]; done) | (simp (discharger := omega) only [i_lt, i_le, i_eq, bI_tz, decide_eq_false_iff_not, Int32.reduceToInt, nI_toInt, tm1, tm2, tm3, tm4, tm9]; omega) | omega) ?_
      exact ⟨Or.inl rfl, rfl, rfl⟩
end
