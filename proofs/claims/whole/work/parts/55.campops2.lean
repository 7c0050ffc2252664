section
variable {sc : Nat × (Nat → Int32)} {h : Hp}
def Op2 (sc : Nat × (Nat → Int32)) (kx km : Nat) (as : List Value) (h : Hp) : Prop := ∃ r h1 h2, Cc sc kx (.ref 1 :: as) h (some r) h1 ∧ Cc sc km (.ref 39 :: as) h1 (some r) h2 ∧ Sim0 h2 ∧ (KpO h h2 ∨ zA h2 6 0 = 0) ∧ KpW h h2
theorem Op1.two {kx km : Nat} {as : List Value} (o : Op1 sc kx km as h) : Op2 sc kx km as h := by
  obtain ⟨r, h1, h2, a, b, c, d, e⟩ := o
  exact ⟨r, h1, h2, a, b, c, Or.inl d, e⟩
theorem op_ofCamp (hS : Sim0 h) (x w : Int32) : Op0 sc 92 161 [.int x, .int w] h := by
  refine on_nh (P := fun h => Op0 sc 92 161 [.int x, .int w] h) hS (fun hS => ?_)
  have hs := hS.1
  obtain ⟨nc, d1, d2, d3, d4, d5⟩ := hS.2.2.2.1
  by_cases q1 : 0 ≤ x.toInt ∧ x.toInt < nc
  · obtain ⟨j, hj, rfl⟩ := i_of q1.1 (n := nc) q1.2 (by omega)
    obtain ⟨c, nb, br, D⟩ := (d4 j hj).cd
    have b := D.B
    have ij : inB (nI j) 3 = true := inB_nI (by omega) (by decide)
    have ej : (nI j).toNatClampNeg = j := nI_clamp (by omega)
    have k0 : kin 0 (zK (nh h) c) = true := by rw [D.K.1]; rfl
    have X : ∀ r : Int32, bk sc [] (some (.int r)) (nh h) (fun pc ls st h' => Rn sc (mtk 92) pc ls st h' (some (.int r)) (nh h)) (mtk 92) 40 17 [some (.ref 1), some (.int (nI j)), some (.int w), some (.ref c)] [] (nh h) → Cc sc 92 [.ref 1, .int (nI j), .int w] (nh h) (some (.int r)) (nh h) := fun r H => by
      refine cc_cut [17] 40 rfl rfl ?_
      refine And.intro ⟨rfl, rfl⟩ (And.intro rfl (Exists.intro _ (Exists.intro _ (And.intro (c_isCamp hs d1 d2 (nI j)) ?_))))
      refine br_t (by first | assumption | (simp (discharger := omega) only [i_lt, i_le, i_eq, bI_tz, decide_eq_false_iff_not, Int32.reduceToInt, nI_toInt, tm1, tm2, tm3, tm4, tm9]; done) | (simp (discharger := omega) only [i_lt, i_le, i_eq, bI_tz, decide_eq_false_iff_not, Int32.reduceToInt, nI_toInt, tm1, tm2, tm3, tm4, tm9]; omega) | omega) ?_
      refine And.intro rfl ?_
      refine And.intro (⟨rfl, ij⟩) ?_
      rw [ej, show zA (nh h) (zA (nh h) 1 0) j = c from D.A.1]
      exact bk_sound (cuts := []) 40 _ _ _ _ H
    have M : ∀ r : Int32, Rn sc (mtk 161) 11 [some (.ref 39), some (.int (nI j)), some (.int w)] [.int w] (nh h) (some (.int r)) (nh h) → Cc sc 161 [.ref 39, .int (nI j), .int w] (nh h) (some (.int r)) (nh h) := fun r H => by
      refine cc_cut [11] 40 rfl rfl ?_
      refine And.intro ⟨rfl, rfl⟩ (And.intro rfl (Exists.intro _ (Exists.intro _ (And.intro (c_noCamp hs d1 d3 (nI j)) ?_))))
      refine br_t (by first | assumption | (simp (discharger := omega) only [i_lt, i_le, i_eq, bI_tz, decide_eq_false_iff_not, Int32.reduceToInt, nI_toInt, tm1, tm2, tm3, tm4, tm9]; done) | (simp (discharger := omega) only [i_lt, i_le, i_eq, bI_tz, decide_eq_false_iff_not, Int32.reduceToInt, nI_toInt, tm1, tm2, tm3, tm4, tm9]; omega) | omega) ?_
      exact H
    by_cases qo : w.toInt < 0 ∨ 3 < w.toInt
    · -- the class's and the model's last case
      have MO : ∀ r : Int32, Rn sc (mtk 161) 78 [some (.ref 39), some (.int (nI j)), some (.int w)] [] (nh h) (some (.int r)) (nh h) → Cc sc 161 [.ref 39, .int (nI j), .int w] (nh h) (some (.int r)) (nh h) := fun r H => M r (by
        refine bk_sound (cuts := []) 1 _ _ _ _ ?_
        show Rn sc (mtk 161) (tsw 11 67 0 3 #[29, 36, 43, 50] w) [some (.ref 39), some (.int (nI j)), some (.int w)] [] (nh h) (some (.int r)) (nh h)
        rw [tsw_out qo]
        exact H)
      have eL : ((10 : Int64) + (nI (cL (nh h) j)).toInt64).toInt = 10 + (cL (nh h) j : Int) := by
        rw [l_add] <;> rw [wide, show (10 : Int64).toInt = 10 by decide, nI_toInt (by omega)] <;> omega
      by_cases q2 : 10 ≤ w.toInt ∧ w.toInt ≤ 10 + cL (nh h) j
      · obtain ⟨v, hv, rfl⟩ := i_of (a := w) (n := 15) (by omega) (by omega) (by decide)
        have q2' := q2
        rw [nI_toInt (by omega)] at q2'
        obtain ⟨k, rfl⟩ : ∃ k, v = 10 + k := ⟨v - 10, by omega⟩
        have hk : k ≤ cL (nh h) j := by omega
        have eR := D.R hk
        have e10 : nI (10 + k) - 10 = nI k := by
          rw [show (10 : Int32) = nI 10 from rfl, pk_sub (by omega), show 10 + k - 10 = k by omega]
        refine ⟨.int (nI (cB (nh h) j k)), nh h, nh h, X _ ?_, MO _ ?_, fin_same hS⟩
        · refine br_f (show ¬ (nI (10 + k) < 10) by first | assumption | (simp (discharger := omega) only [i_lt, i_le, i_eq, bI_tz, decide_eq_false_iff_not, Int32.reduceToInt, nI_toInt, tm1, tm2, tm3, tm4, tm9]; done) | (simp (discharger := omega) only [i_lt, i_le, i_eq, bI_tz, decide_eq_false_iff_not, Int32.reduceToInt, nI_toInt, tm1, tm2, tm3, tm4, tm9]; omega) | omega) ?_
          refine And.intro (k0) ?_
          refine br_f (show ¬ zI (nh h) c 0 < nI (10 + k) - 10 by rw [D.F.1, e10]; exact nI_nlt hk (by omega)) ?_
          refine And.intro (k0) ?_
          rw [show zA (nh h) c 4 = br from D.A.2.2.1]
          refine And.intro (⟨D.K.2.2.2.1, by rw [D.K.2.2.2.2, e10]; exact inB_nI (n := 5) (by omega) (by decide)⟩) ?_
          rw [e10, nI_clamp (by omega), eR.2.2.1]
          exact ⟨Or.inl rfl, rfl, rfl⟩
        · refine bk_sound (cuts := []) 40 _ _ _ _ ?_
          refine And.intro rfl ?_
          refine And.intro (⟨rfl, ij⟩) ?_
          rw [ej, show zI (nh h) (zA (nh h) 39 2) j = nI (cL (nh h) j) from D.F.2.1]
          refine And.intro rfl (And.intro rfl (Exists.intro _ (Exists.intro _ (And.intro (c_inMN _ (l := 10) (n0 := 10) (by decide) eL) ?_))))
          refine br_f (by rw [bI_z, decide_eq_false_iff_not]; omega) ?_
          refine And.intro rfl ?_
          have e5 : 5 * nI j + nI (10 + k) - 10 = nI (5 * j + k) := by
            rw [show (5 : Int32) = nI 5 from rfl, show (10 : Int32) = nI 10 from rfl, pk_mul, nI_add, pk_sub (by omega), show 5 * j + (10 + k) - 10 = 5 * j + k by omega]
          refine And.intro (⟨rfl, by rw [e5]; exact inB_nI (n := 15) (by omega) (by decide)⟩) ?_
          rw [e5, nI_clamp (by omega)]
          exact ⟨Or.inl rfl, congrArg (fun v => some (Value.int v)) eR.2.2.2, rfl⟩
      · refine ⟨.int (-2), nh h, nh h, ?_, MO _ ?_, fin_same hS⟩
        · have fin : Rn sc (mtk 92) 44 [some (.ref 1), some (.int (nI j)), some (.int w), some (.ref c)] [] (nh h) (some (.int (-2))) (nh h) := by
            refine bk_sound (cuts := [45]) 10 _ _ _ _ ?_
            refine bk_sound (cuts := []) 1 _ _ _ _ ?_
            show Rn sc (mtk 92) (tsw 45 51 0 3 #[31, 36, 41, 46] w) [some (.ref 1), some (.int (nI j)), some (.int w), some (.ref c)] [] (nh h) (some (.int (-2))) (nh h)
            rw [tsw_out qo]
            refine bk_sound (cuts := []) 20 _ _ _ _ ?_
            exact ⟨Or.inl rfl, rfl, rfl⟩
          refine cc_cut [44] 40 rfl rfl ?_
          refine And.intro ⟨rfl, rfl⟩ (And.intro rfl (Exists.intro _ (Exists.intro _ (And.intro (c_isCamp hs d1 d2 (nI j)) ?_))))
          refine br_t (by first | assumption | (simp (discharger := omega) only [i_lt, i_le, i_eq, bI_tz, decide_eq_false_iff_not, Int32.reduceToInt, nI_toInt, tm1, tm2, tm3, tm4, tm9]; done) | (simp (discharger := omega) only [i_lt, i_le, i_eq, bI_tz, decide_eq_false_iff_not, Int32.reduceToInt, nI_toInt, tm1, tm2, tm3, tm4, tm9]; omega) | omega) ?_
          refine And.intro rfl ?_
          refine And.intro (⟨rfl, ij⟩) ?_
          rw [ej, show zA (nh h) (zA (nh h) 1 0) j = c from D.A.1]
          by_cases q3 : w.toInt < 10
          · refine br_t (show w < 10 by first | assumption | (simp (discharger := omega) only [i_lt, i_le, i_eq, bI_tz, decide_eq_false_iff_not, Int32.reduceToInt, nI_toInt, tm1, tm2, tm3, tm4, tm9]; done) | (simp (discharger := omega) only [i_lt, i_le, i_eq, bI_tz, decide_eq_false_iff_not, Int32.reduceToInt, nI_toInt, tm1, tm2, tm3, tm4, tm9]; omega) | omega) ?_
            exact fin
          · refine br_f (show ¬ (w < 10) by first | assumption | (simp (discharger := omega) only [i_lt, i_le, i_eq, bI_tz, decide_eq_false_iff_not, Int32.reduceToInt, nI_toInt, tm1, tm2, tm3, tm4, tm9]; done) | (simp (discharger := omega) only [i_lt, i_le, i_eq, bI_tz, decide_eq_false_iff_not, Int32.reduceToInt, nI_toInt, tm1, tm2, tm3, tm4, tm9]; omega) | omega) ?_
            refine And.intro (k0) ?_
            have wb := i_bd w
            have e10 : (w - 10).toInt = w.toInt - 10 := by
              rw [i_sub] <;> rw [show (10 : Int32).toInt = 10 by decide] <;> omega
            refine br_t (show zI (nh h) c 0 < w - 10 by rw [D.F.1, i_lt, e10, nI_toInt (by omega)]; omega) ?_
            exact fin
        · refine bk_sound (cuts := []) 40 _ _ _ _ ?_
          refine And.intro rfl ?_
          refine And.intro (⟨rfl, ij⟩) ?_
          rw [ej, show zI (nh h) (zA (nh h) 39 2) j = nI (cL (nh h) j) from D.F.2.1]
          refine And.intro rfl (And.intro rfl (Exists.intro _ (Exists.intro _ (And.intro (c_inMN _ (l := 10) (n0 := 10) (by decide) eL) ?_))))
          refine br_t (by rw [bI_z, decide_eq_false_iff_not]; omega) ?_
          exact ⟨Or.inl rfl, rfl, rfl⟩
    · obtain ⟨w, hw, rfl⟩ := i_of (a := w) (n := 4) (by omega) (by omega) (by decide)
      obtain rfl | rfl | rfl | rfl : w = 0 ∨ w = 1 ∨ w = 2 ∨ w = 3 := by omega
      · refine ⟨.int (nI (cL (nh h) j)), nh h, nh h, X _ ?_, M _ ?_, fin_same hS⟩
        · refine br_t (by decide) ?_
          refine And.intro (k0) ?_
          exact ⟨Or.inl rfl, congrArg (fun v => some (Value.int v)) D.F.1, rfl⟩
        · refine bk_sound (cuts := []) 20 _ _ _ _ ?_
          refine And.intro rfl ?_
          refine And.intro (⟨rfl, ij⟩) ?_
          rw [ej]
          exact ⟨Or.inl rfl, congrArg (fun v => some (Value.int v)) D.F.2.1, rfl⟩
      · refine ⟨.int (nI (cS (nh h) j)), nh h, nh h, X _ ?_, M _ ?_, fin_same hS⟩
        · refine br_t (by decide) ?_
          refine And.intro (k0) ?_
          exact ⟨Or.inl rfl, congrArg (fun v => some (Value.int v)) D.F.2.2.1, rfl⟩
        · refine bk_sound (cuts := []) 20 _ _ _ _ ?_
          refine And.intro rfl ?_
          refine And.intro (⟨rfl, ij⟩) ?_
          rw [ej]
          exact ⟨Or.inl rfl, congrArg (fun v => some (Value.int v)) D.F.2.2.2.1, rfl⟩
      · refine ⟨.int (nI (cP (nh h) j)), nh h, nh h, X _ ?_, M _ ?_, fin_same hS⟩
        · refine br_t (by decide) ?_
          refine And.intro (k0) ?_
          exact ⟨Or.inl rfl, congrArg (fun v => some (Value.int v)) D.F.2.2.2.2.1, rfl⟩
        · refine bk_sound (cuts := []) 20 _ _ _ _ ?_
          refine And.intro rfl ?_
          refine And.intro (⟨rfl, ij⟩) ?_
          rw [ej]
          exact ⟨Or.inl rfl, congrArg (fun v => some (Value.int v)) D.F.2.2.2.2.2, rfl⟩
      · refine ⟨.int (nI (canR (nh h) j)), nh h, nh h, X _ ?_, M _ ?_, fin_same hS⟩
        · refine br_t (by decide) ?_
          refine And.intro ⟨rfl, D.K.1⟩ (And.intro rfl (Exists.intro _ (Exists.intro _ (And.intro (c_canRun D) ?_))))
          exact ⟨Or.inl rfl, rfl, rfl⟩
        · refine bk_sound (cuts := []) 20 _ _ _ _ ?_
          refine And.intro ⟨rfl, rfl⟩ (And.intro rfl (Exists.intro _ (Exists.intro _ (And.intro (c_stateOf D hs (by omega)) ?_))))
          refine And.intro rfl ?_
          refine And.intro (⟨rfl, ij⟩) ?_
          rw [ej, show zI (nh h) (zA (nh h) 39 2) j = nI (cL (nh h) j) from D.F.2.1]
          have sl := stO_lt D
          have s6 := six_le b.2.2.2.1
          have hc := c_canRunM (sc := sc) D hs (by omega) (g := stO (nh h) j) (l := cL (nh h) j) (by omega) (by omega)
          rw [canR_st D] at hc
          refine And.intro ⟨rfl, rfl⟩ (And.intro rfl (Exists.intro _ (Exists.intro _ (And.intro (hc) ?_))))
          exact ⟨Or.inl rfl, rfl, rfl⟩
  · refine ⟨.int (-1), nh h, nh h, ?_, ?_, fin_same hS⟩
    · refine cc_of 60 rfl rfl ?_
      refine And.intro ⟨rfl, rfl⟩ (And.intro rfl (Exists.intro _ (Exists.intro _ (And.intro (c_isCamp hs d1 d2 x) ?_))))
      refine br_f (by first | assumption | (simp (discharger := omega) only [i_lt, i_le, i_eq, bI_tz, decide_eq_false_iff_not, Int32.reduceToInt, nI_toInt, tm1, tm2, tm3, tm4, tm9]; done) | (simp (discharger := omega) only [i_lt, i_le, i_eq, bI_tz, decide_eq_false_iff_not, Int32.reduceToInt, nI_toInt, tm1, tm2, tm3, tm4, tm9]; omega) | omega) ?_
      exact ⟨Or.inl rfl, rfl, rfl⟩
    · refine cc_of 60 rfl rfl ?_
      refine And.intro ⟨rfl, rfl⟩ (And.intro rfl (Exists.intro _ (Exists.intro _ (And.intro (c_noCamp hs d1 d3 x) ?_))))
      refine br_f (by first | assumption | (simp (discharger := omega) only [i_lt, i_le, i_eq, bI_tz, decide_eq_false_iff_not, Int32.reduceToInt, nI_toInt, tm1, tm2, tm3, tm4, tm9]; done) | (simp (discharger := omega) only [i_lt, i_le, i_eq, bI_tz, decide_eq_false_iff_not, Int32.reduceToInt, nI_toInt, tm1, tm2, tm3, tm4, tm9]; omega) | omega) ?_
      exact ⟨Or.inl rfl, rfl, rfl⟩
/-- which sort of which camp; or none -/
theorem sort_cases (hC : SimC h) (x s : Int32) : (∃ b : Bool, (b = true ↔ ∃ j t nc : Nat, nc ≤ 3 ∧ zI h 1 1 = nI nc ∧ j < nc ∧ x = nI j ∧ s = nI t ∧ t < cS h j) ∧ (b = true → ∃ j t nc c nb br : Nat, nc ≤ 3 ∧ zI h 1 1 = nI nc ∧ zI h 39 1 = nI nc ∧ j < nc ∧ x = nI j ∧ s = nI t ∧ t < cS h j ∧ CD h j c nb br)) := by
  have hC' := hC
  obtain ⟨nc, d1, d2, d3, d4, d5⟩ := hC
  refine ⟨@decide (∃ j t nc : Nat, nc ≤ 3 ∧ zI h 1 1 = nI nc ∧ j < nc ∧ x = nI j ∧ s = nI t ∧ t < cS h j) (Classical.propDecidable _), ?_, ?_⟩
  · exact @decide_eq_true_iff _ (Classical.propDecidable _)
  · intro hb
    have hb := (@decide_eq_true_iff _ (Classical.propDecidable _)).mp hb
    obtain ⟨j, t, nc', m1, m2, m3, m4, m5, m6⟩ := hb
    have hn' : nc' = nc := (nI_eq (by omega) (by omega)).mp (m2.symm.trans d2)
    subst hn'
    obtain ⟨c, nb, br, D⟩ := (d4 j m3).cd
    exact ⟨j, t, nc', c, nb, br, m1, m2, d3, m3, m4, m5, m6, D⟩
theorem op_ofSort (hS : Sim0 h) (x s w : Int32) : Op0 sc 93 162 [.int x, .int s, .int w] h := by
  refine on_nh (P := fun h => Op0 sc 93 162 [.int x, .int s, .int w] h) hS (fun hS => ?_)
  have hs := hS.1
  have hC := hS.2.2.2.1
  obtain ⟨b, hb1, hb2⟩ := sort_cases hC x s
  have hX := c_isSortOf (sc := sc) hs hC x s hb1
  have hM := c_noSort (sc := sc) hs hC x s hb1
  cases b with
  | false =>
    refine ⟨.int (-1), nh h, nh h, ?_, ?_, fin_same hS⟩
    · refine cc_of 60 rfl rfl ?_
      refine And.intro ⟨rfl, rfl⟩ (And.intro rfl (Exists.intro _ (Exists.intro _ (And.intro (hX) ?_))))
      refine br_f (by exact fun z => z rfl) ?_
      exact ⟨Or.inl rfl, rfl, rfl⟩
    · refine cc_of 60 rfl rfl ?_
      refine And.intro ⟨rfl, rfl⟩ (And.intro rfl (Exists.intro _ (Exists.intro _ (And.intro (hM) ?_))))
      refine br_f (by decide) ?_
      exact ⟨Or.inl rfl, rfl, rfl⟩
  | true =>
    obtain ⟨j, t, nc, c, nb, br, m1, m2, m3, m4, rfl, rfl, m7, D⟩ := hb2 rfl
    have ij : inB (nI j) 3 = true := inB_nI (by omega) (by decide)
    have ej : (nI j).toNatClampNeg = j := nI_clamp (by omega)
    by_cases q : 0 ≤ w.toInt ∧ w.toInt < 5
    · obtain ⟨w, hw, rfl⟩ := i_of q.1 (n := 5) q.2 (by decide)
      refine ⟨.int (nI (cV (nh h) j t w)), nh h, nh h, ?_, ?_, fin_same hS⟩
      · refine cc_of 60 rfl rfl ?_
        refine And.intro ⟨rfl, rfl⟩ (And.intro rfl (Exists.intro _ (Exists.intro _ (And.intro (hX) ?_))))
        refine br_t (by decide) ?_
        refine br_f (show ¬ (nI w < 0) by first | assumption | (simp (discharger := omega) only [i_lt, i_le, i_eq, bI_tz, decide_eq_false_iff_not, Int32.reduceToInt, nI_toInt, tm1, tm2, tm3, tm4, tm9]; done) | (simp (discharger := omega) only [i_lt, i_le, i_eq, bI_tz, decide_eq_false_iff_not, Int32.reduceToInt, nI_toInt, tm1, tm2, tm3, tm4, tm9]; omega) | omega) ?_
        refine br_t (show nI w < 5 by first | assumption | (simp (discharger := omega) only [i_lt, i_le, i_eq, bI_tz, decide_eq_false_iff_not, Int32.reduceToInt, nI_toInt, tm1, tm2, tm3, tm4, tm9]; done) | (simp (discharger := omega) only [i_lt, i_le, i_eq, bI_tz, decide_eq_false_iff_not, Int32.reduceToInt, nI_toInt, tm1, tm2, tm3, tm4, tm9]; omega) | omega) ?_
        refine And.intro rfl ?_
        refine And.intro (⟨rfl, ij⟩) ?_
        rw [ej, show zA (nh h) (zA (nh h) 1 0) j = c from D.A.1]
        refine And.intro ⟨rfl, D.K.1⟩ (And.intro rfl (Exists.intro _ (Exists.intro _ (And.intro (D.num m7 hw) ?_))))
        exact ⟨Or.inl rfl, rfl, rfl⟩
      · refine cc_of 60 rfl rfl ?_
        refine And.intro ⟨rfl, rfl⟩ (And.intro rfl (Exists.intro _ (Exists.intro _ (And.intro (hM) ?_))))
        refine br_t (by rfl) ?_
        refine And.intro rfl (And.intro rfl (Exists.intro _ (Exists.intro _ (And.intro (c_inN _ (m := 4) (n := 4) (by decide)) ?_))))
        refine br_f (by first | assumption | (simp (discharger := omega) only [i_lt, i_le, i_eq, bI_tz, decide_eq_false_iff_not, Int32.reduceToInt, nI_toInt, tm1, tm2, tm3, tm4, tm9]; done) | (simp (discharger := omega) only [i_lt, i_le, i_eq, bI_tz, decide_eq_false_iff_not, Int32.reduceToInt, nI_toInt, tm1, tm2, tm3, tm4, tm9]; omega) | omega) ?_
        refine And.intro ⟨rfl, rfl⟩ (And.intro rfl (Exists.intro _ (Exists.intro _ (And.intro (D.of hs (by omega) m7 hw) ?_))))
        exact ⟨Or.inl rfl, rfl, rfl⟩
    · refine ⟨.int (-2), nh h, nh h, ?_, ?_, fin_same hS⟩
      · refine cc_of 60 rfl rfl ?_
        refine And.intro ⟨rfl, rfl⟩ (And.intro rfl (Exists.intro _ (Exists.intro _ (And.intro (hX) ?_))))
        refine br_t (by decide) ?_
        by_cases q2 : w.toInt < 0
        · refine br_t (show w < 0 by first | assumption | (simp (discharger := omega) only [i_lt, i_le, i_eq, bI_tz, decide_eq_false_iff_not, Int32.reduceToInt, nI_toInt, tm1, tm2, tm3, tm4, tm9]; done) | (simp (discharger := omega) only [i_lt, i_le, i_eq, bI_tz, decide_eq_false_iff_not, Int32.reduceToInt, nI_toInt, tm1, tm2, tm3, tm4, tm9]; omega) | omega) ?_
          exact ⟨Or.inl rfl, rfl, rfl⟩
        · refine br_f (show ¬ (w < 0) by first | assumption | (simp (discharger := omega) only [i_lt, i_le, i_eq, bI_tz, decide_eq_false_iff_not, Int32.reduceToInt, nI_toInt, tm1, tm2, tm3, tm4, tm9]; done) | (simp (discharger := omega) only [i_lt, i_le, i_eq, bI_tz, decide_eq_false_iff_not, Int32.reduceToInt, nI_toInt, tm1, tm2, tm3, tm4, tm9]; omega) | omega) ?_
          refine br_f (show ¬ (w < 5) by first | assumption | (simp (discharger := omega) only [i_lt, i_le, i_eq, bI_tz, decide_eq_false_iff_not, Int32.reduceToInt, nI_toInt, tm1, tm2, tm3, tm4, tm9]; done) | (simp (discharger := omega) only [i_lt, i_le, i_eq, bI_tz, decide_eq_false_iff_not, Int32.reduceToInt, nI_toInt, tm1, tm2, tm3, tm4, tm9]; omega) | omega) ?_
          exact ⟨Or.inl rfl, rfl, rfl⟩
      · refine cc_of 60 rfl rfl ?_
        refine And.intro ⟨rfl, rfl⟩ (And.intro rfl (Exists.intro _ (Exists.intro _ (And.intro (hM) ?_))))
        refine br_t (by rfl) ?_
        refine And.intro rfl (And.intro rfl (Exists.intro _ (Exists.intro _ (And.intro (c_inN _ (m := 4) (n := 4) (by decide)) ?_))))
        refine br_t (by first | assumption | (simp (discharger := omega) only [i_lt, i_le, i_eq, bI_tz, decide_eq_false_iff_not, Int32.reduceToInt, nI_toInt, tm1, tm2, tm3, tm4, tm9]; done) | (simp (discharger := omega) only [i_lt, i_le, i_eq, bI_tz, decide_eq_false_iff_not, Int32.reduceToInt, nI_toInt, tm1, tm2, tm3, tm4, tm9]; omega) | omega) ?_
        exact ⟨Or.inl rfl, rfl, rfl⟩
end
