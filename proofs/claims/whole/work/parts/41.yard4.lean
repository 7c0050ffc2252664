section
variable {sc : Nat × (Nat → Int32)} {h : Hp}
theorem tsw_out {pc : Nat} {d lo hi : Int} {offs : Array Int} {x : Int32} (q : x.toInt < lo ∨ hi < x.toInt) : tsw pc d lo hi offs x = ((pc : Int) + d).toNat := by
  unfold tsw
  rw [if_pos q]
theorem c_kind {a kd : Nat} (hkd : kd ≤ 2) : Cc sc (pck (pkd kd) 39 14 9) [.ref a] h (some (.int (nI kd))) h := by
  obtain rfl | rfl | rfl : kd = 0 ∨ kd = 1 ∨ kd = 2 := by omega
  · exact cc_of (k := 39) 20 rfl rfl ⟨Or.inl rfl, rfl, rfl⟩
  · exact cc_of (k := 14) 20 rfl rfl ⟨Or.inl rfl, rfl, rfl⟩
  · exact cc_of (k := 9) 20 rfl rfl ⟨Or.inl rfl, rfl, rfl⟩
def plq (pl : Option Nat) (d : Bool) : Int32 := match pl with
  | none => -9
  | some x => if d then nI (x / 3) else nI (x % 3)
theorem op_ofPart (hS : Sim0 h) (p w : Int32) : Op0 sc 102 186 [.int p, .int w] h := by
  refine on_nh (P := fun h => Op0 sc 102 186 [.int p, .int w] h) hS (fun hS => ?_)
  have hs := hS.1
  obtain ⟨np, c1, c2, c3, c4, c5, c6, c7⟩ := hS.2.2.2.2.1
  by_cases q1 : 0 ≤ p.toInt ∧ p.toInt < np
  · obtain ⟨p, hp, rfl⟩ := i_of q1.1 (n := np) q1.2 (by omega)
    obtain ⟨a, kd, st, hr, gd, hd, pl, z1, z2, z3, z4, z5, z6, z7, z8, z9, z10, z11, z12, z13, z14, z15, z16, z17, z18, z19, z20⟩ := c4 p hp
    have ip : inB (nI p) 12 = true := inB_nI (by omega) (by decide)
    have ep : (nI p).toNatClampNeg = p := nI_clamp (by omega)
    have k4 : kin 4 (zK (nh h) a) = true := by rw [z4]; exact kin_part z3
    have pn : pl = none ∨ ∃ x, x < 12 ∧ pl = some x := by
      cases pl with
      | none => exact Or.inl rfl
      | some x => exact Or.inr ⟨x, (z20 x rfl).1, rfl⟩
    -- the class comes to the switch
    have X : ∀ r : Int32, Rn sc (mtk 102) 21 [some (.ref 1), some (.int (nI p)), some (.int w), some (.ref a)] [.int w] (nh h) (some (.int r)) (nh h) → Cc sc 102 [.ref 1, .int (nI p), .int w] (nh h) (some (.int r)) (nh h) := fun r H => by
      refine cc_cut [21] 60 rfl rfl ?_
      refine And.intro ⟨rfl, rfl⟩ (And.intro rfl (Exists.intro _ (Exists.intro _ (And.intro (c_isPart hs c1 c2 (nI p)) ?_))))
      refine br_t (by first | assumption | (simp (discharger := omega) only [i_lt, i_le, i_eq, bI_tz, decide_eq_false_iff_not, Int32.reduceToInt, nI_toInt, tm1, tm2, tm3, tm4, tm9]; done) | (simp (discharger := omega) only [i_lt, i_le, i_eq, bI_tz, decide_eq_false_iff_not, Int32.reduceToInt, nI_toInt, tm1, tm2, tm3, tm4, tm9]; omega) | omega) ?_
      refine And.intro rfl ?_
      refine And.intro rfl ?_
      refine And.intro (⟨rfl, ip⟩) ?_
      rw [ep, show zA (nh h) (zA (nh h) (zA (nh h) 1 4) 0) p = a from z1]
      exact H
    have M : ∀ r : Int32, (∀ b : Int32, b = bI (decide (pl = none)) → Rn sc (mtk 186) 26 [some (.ref 39), some (.int (nI p)), some (.int w), some (.int b)] [.int w] (nh h) (some (.int r)) (nh h)) → Cc sc 186 [.ref 39, .int (nI p), .int w] (nh h) (some (.int r)) (nh h) := fun r H => by
      refine cc_cut [26] 60 rfl rfl ?_
      refine And.intro ⟨rfl, rfl⟩ (And.intro rfl (Exists.intro _ (Exists.intro _ (And.intro (c_noPart hs c1 c3 (nI p)) ?_))))
      refine br_t (by first | assumption | (simp (discharger := omega) only [i_lt, i_le, i_eq, bI_tz, decide_eq_false_iff_not, Int32.reduceToInt, nI_toInt, tm1, tm2, tm3, tm4, tm9]; done) | (simp (discharger := omega) only [i_lt, i_le, i_eq, bI_tz, decide_eq_false_iff_not, Int32.reduceToInt, nI_toInt, tm1, tm2, tm3, tm4, tm9]; omega) | omega) ?_
      refine And.intro rfl ?_
      refine And.intro (⟨rfl, ip⟩) ?_
      rw [ep]
      rcases pn with e | ⟨x, hx, e⟩
      · refine br_f (show ¬ (0 : Int32) ≤ zI (nh h) 56 p by rw [z19, e]; decide) ?_
        exact H 1 (by rw [decide_eq_true e]; rfl)
      · refine br_t (show (0 : Int32) ≤ zI (nh h) 56 p by rw [z19, e]; exact nI_pos' (by omega)) ?_
        exact H 0 (by rw [decide_eq_false (by rw [e]; exact fun z => nomatch z)]; rfl)
    by_cases qo : w.toInt < 0 ∨ 6 < w.toInt
    · refine ⟨.int (-2), nh h, nh h, X _ ?_, M _ (fun b _ => ?_), fin_same hS⟩
      · refine bk_sound (cuts := []) 1 _ _ _ _ ?_
        show Rn sc (mtk 102) (tsw 21 126 0 6 #[43, 48, 53, 58, 71, 92, 113] w) [some (.ref 1), some (.int (nI p)), some (.int w), some (.ref a)] [] (nh h) (some (.int (-2))) (nh h)
        rw [tsw_out qo]
        refine bk_sound (cuts := []) 20 _ _ _ _ ?_
        exact ⟨Or.inl rfl, rfl, rfl⟩
      · refine bk_sound (cuts := []) 1 _ _ _ _ ?_
        show Rn sc (mtk 186) (tsw 26 129 0 6 #[42, 49, 56, 63, 78, 96, 114] w) [some (.ref 39), some (.int (nI p)), some (.int w), some (.int b)] [] (nh h) (some (.int (-2))) (nh h)
        rw [tsw_out qo]
        refine bk_sound (cuts := []) 20 _ _ _ _ ?_
        exact ⟨Or.inl rfl, rfl, rfl⟩
    · obtain ⟨w, hw, rfl⟩ := i_of (a := w) (n := 7) (by omega) (by omega) (by decide)
      obtain rfl | rfl | rfl | rfl | rfl | rfl | rfl : w = 0 ∨ w = 1 ∨ w = 2 ∨ w = 3 ∨ w = 4 ∨ w = 5 ∨ w = 6 := by omega
      · refine ⟨.int (nI kd), nh h, nh h, X _ ?_, M _ (fun b _ => ?_), fin_same hS⟩
        · refine bk_sound (cuts := []) 20 _ _ _ _ ?_
          have hc := c_kind (sc := sc) (h := nh h) (a := a) z3
          rw [← z4] at hc
          obtain rfl | rfl | rfl : kd = 0 ∨ kd = 1 ∨ kd = 2 := by omega
          · refine And.intro (v_ok (show zK (nh h) a = 4 from z4) ⟨rfl, rfl, by decide⟩) (And.intro (v_ary (show zK (nh h) a = 4 from z4) rfl) (Exists.intro _ (Exists.intro _ (And.intro (hc) ?_))))
            exact ⟨Or.inl rfl, rfl, rfl⟩
          · refine And.intro (v_ok (show zK (nh h) a = 2 from z4) ⟨rfl, rfl, by decide⟩) (And.intro (v_ary (show zK (nh h) a = 2 from z4) rfl) (Exists.intro _ (Exists.intro _ (And.intro (hc) ?_))))
            exact ⟨Or.inl rfl, rfl, rfl⟩
          · refine And.intro (v_ok (show zK (nh h) a = 1 from z4) ⟨rfl, rfl, by decide⟩) (And.intro (v_ary (show zK (nh h) a = 1 from z4) rfl) (Exists.intro _ (Exists.intro _ (And.intro (hc) ?_))))
            exact ⟨Or.inl rfl, rfl, rfl⟩
        · refine bk_sound (cuts := []) 20 _ _ _ _ ?_
          refine And.intro rfl ?_
          refine And.intro (⟨rfl, ip⟩) ?_
          rw [ep]
          exact ⟨Or.inl rfl, congrArg (fun v => some (Value.int v)) z14, rfl⟩
      · refine ⟨.int (nI st), nh h, nh h, X _ ?_, M _ (fun b _ => ?_), fin_same hS⟩
        · refine bk_sound (cuts := []) 20 _ _ _ _ ?_
          refine And.intro (k4) ?_
          exact ⟨Or.inl rfl, congrArg (fun v => some (Value.int v)) z7, rfl⟩
        · refine bk_sound (cuts := []) 20 _ _ _ _ ?_
          refine And.intro rfl ?_
          refine And.intro (⟨rfl, ip⟩) ?_
          rw [ep]
          exact ⟨Or.inl rfl, congrArg (fun v => some (Value.int v)) z15, rfl⟩
      · refine ⟨.int (nI hr), nh h, nh h, X _ ?_, M _ (fun b _ => ?_), fin_same hS⟩
        · refine bk_sound (cuts := []) 20 _ _ _ _ ?_
          refine And.intro (k4) ?_
          exact ⟨Or.inl rfl, congrArg (fun v => some (Value.int v)) z10, rfl⟩
        · refine bk_sound (cuts := []) 20 _ _ _ _ ?_
          refine And.intro rfl ?_
          refine And.intro (⟨rfl, ip⟩) ?_
          rw [ep]
          exact ⟨Or.inl rfl, congrArg (fun v => some (Value.int v)) z16, rfl⟩
      · refine ⟨.int (bI gd), nh h, nh h, X _ ?_, M _ (fun b _ => ?_), fin_same hS⟩
        · refine bk_sound (cuts := []) 20 _ _ _ _ ?_
          refine And.intro (k4) ?_
          cases gd with
          | false =>
            refine br_t (show zI (nh h) a 3 = 0 from z11) ?_
            exact ⟨Or.inl rfl, rfl, rfl⟩
          | true =>
            refine br_f (show ¬ zI (nh h) a 3 = 0 by rw [z11]; decide) ?_
            exact ⟨Or.inl rfl, rfl, rfl⟩
        · refine bk_sound (cuts := []) 20 _ _ _ _ ?_
          refine And.intro rfl ?_
          refine And.intro (⟨rfl, ip⟩) ?_
          rw [ep]
          cases gd with
          | false =>
            refine br_t (show zI (nh h) 54 p = 0 from z17) ?_
            exact ⟨Or.inl rfl, rfl, rfl⟩
          | true =>
            refine br_f (show ¬ zI (nh h) 54 p = 0 by rw [z17]; decide) ?_
            exact ⟨Or.inl rfl, rfl, rfl⟩
      · refine ⟨.int (plq pl true), nh h, nh h, X _ ?_, M _ (fun b hb => ?_), fin_same hS⟩
        · refine bk_sound (cuts := []) 20 _ _ _ _ ?_
          refine And.intro (k4) ?_
          rcases pn with e | ⟨x, hx, e⟩
          · subst e
            refine br_f (show ¬ ¬ zI (nh h) a 5 = -9 from fun z => z z13) ?_
            exact ⟨Or.inl rfl, rfl, rfl⟩
          · subst e
            refine br_t (show ¬ zI (nh h) a 5 = -9 by rw [z13]; show ¬ nI x = -9; first | assumption | (simp (discharger := omega) only [i_lt, i_le, i_eq, bI_tz, decide_eq_false_iff_not, Int32.reduceToInt, nI_toInt, tm1, tm2, tm3, tm4, tm9]; done) | (simp (discharger := omega) only [i_lt, i_le, i_eq, bI_tz, decide_eq_false_iff_not, Int32.reduceToInt, nI_toInt, tm1, tm2, tm3, tm4, tm9]; omega) | omega) ?_
            refine And.intro (k4) ?_
            refine And.intro (by decide) ?_
            exact ⟨Or.inl rfl, congrArg (fun v => some (Value.int v)) (show zI (nh h) a 5 / 3 = nI (x / 3) by rw [z13]; exact pk_div (a := x) (d := 3) (by omega) (by decide) (by decide)), rfl⟩
        · subst hb
          refine bk_sound (cuts := []) 20 _ _ _ _ ?_
          rcases pn with e | ⟨x, hx, e⟩
          · subst e
            refine br_f (by decide) ?_
            exact ⟨Or.inl rfl, rfl, rfl⟩
          · subst e
            refine br_t (by rw [bI_z]; exact decide_eq_false (fun z => nomatch z)) ?_
            refine And.intro rfl ?_
            refine And.intro (⟨rfl, ip⟩) ?_
            rw [ep]
            refine And.intro (by decide) ?_
            exact ⟨Or.inl rfl, congrArg (fun v => some (Value.int v)) (show zI (nh h) 56 p / 3 = nI (x / 3) by rw [z19]; exact pk_div (a := x) (d := 3) (by omega) (by decide) (by decide)), rfl⟩
      · refine ⟨.int (plq pl false), nh h, nh h, X _ ?_, M _ (fun b hb => ?_), fin_same hS⟩
        · refine bk_sound (cuts := []) 20 _ _ _ _ ?_
          refine And.intro (k4) ?_
          rcases pn with e | ⟨x, hx, e⟩
          · subst e
            refine br_f (show ¬ ¬ zI (nh h) a 5 = -9 from fun z => z z13) ?_
            exact ⟨Or.inl rfl, rfl, rfl⟩
          · subst e
            refine br_t (show ¬ zI (nh h) a 5 = -9 by rw [z13]; show ¬ nI x = -9; first | assumption | (simp (discharger := omega) only [i_lt, i_le, i_eq, bI_tz, decide_eq_false_iff_not, Int32.reduceToInt, nI_toInt, tm1, tm2, tm3, tm4, tm9]; done) | (simp (discharger := omega) only [i_lt, i_le, i_eq, bI_tz, decide_eq_false_iff_not, Int32.reduceToInt, nI_toInt, tm1, tm2, tm3, tm4, tm9]; omega) | omega) ?_
            refine And.intro (k4) ?_
            refine And.intro (by decide) ?_
            exact ⟨Or.inl rfl, congrArg (fun v => some (Value.int v)) (show zI (nh h) a 5 - zI (nh h) a 5 / 3 * 3 = nI (x % 3) by rw [z13]; exact pk_rem (a := x) (d := 3) (by omega) (by decide) (by decide)), rfl⟩
        · subst hb
          refine bk_sound (cuts := []) 20 _ _ _ _ ?_
          rcases pn with e | ⟨x, hx, e⟩
          · subst e
            refine br_f (by decide) ?_
            exact ⟨Or.inl rfl, rfl, rfl⟩
          · subst e
            refine br_t (by rw [bI_z]; exact decide_eq_false (fun z => nomatch z)) ?_
            refine And.intro rfl ?_
            refine And.intro (⟨rfl, ip⟩) ?_
            rw [ep]
            refine And.intro (by decide) ?_
            exact ⟨Or.inl rfl, congrArg (fun v => some (Value.int v)) (show zI (nh h) 56 p - zI (nh h) 56 p / 3 * 3 = nI (x % 3) by rw [z19]; exact pk_rem (a := x) (d := 3) (by omega) (by decide) (by decide)), rfl⟩
      · refine ⟨.int (bI hd), nh h, nh h, X _ ?_, M _ (fun b _ => ?_), fin_same hS⟩
        · refine bk_sound (cuts := []) 20 _ _ _ _ ?_
          refine And.intro (k4) ?_
          cases hd with
          | false =>
            refine br_t (show zI (nh h) a 4 = 0 from z12) ?_
            exact ⟨Or.inl rfl, rfl, rfl⟩
          | true =>
            refine br_f (show ¬ zI (nh h) a 4 = 0 by rw [z12]; decide) ?_
            exact ⟨Or.inl rfl, rfl, rfl⟩
        · refine bk_sound (cuts := []) 20 _ _ _ _ ?_
          refine And.intro rfl ?_
          refine And.intro (⟨rfl, ip⟩) ?_
          rw [ep]
          cases hd with
          | false =>
            refine br_t (show zI (nh h) 55 p = 0 from z18) ?_
            exact ⟨Or.inl rfl, rfl, rfl⟩
          | true =>
            refine br_f (show ¬ zI (nh h) 55 p = 0 by rw [z18]; decide) ?_
            exact ⟨Or.inl rfl, rfl, rfl⟩
  · refine ⟨.int (-1), nh h, nh h, ?_, ?_, fin_same hS⟩
    · refine cc_of 60 rfl rfl ?_
      refine And.intro ⟨rfl, rfl⟩ (And.intro rfl (Exists.intro _ (Exists.intro _ (And.intro (c_isPart hs c1 c2 p) ?_))))
      refine br_f (by first | assumption | (simp (discharger := omega) only [i_lt, i_le, i_eq, bI_tz, decide_eq_false_iff_not, Int32.reduceToInt, nI_toInt, tm1, tm2, tm3, tm4, tm9]; done) | (simp (discharger := omega) only [i_lt, i_le, i_eq, bI_tz, decide_eq_false_iff_not, Int32.reduceToInt, nI_toInt, tm1, tm2, tm3, tm4, tm9]; omega) | omega) ?_
      exact ⟨Or.inl rfl, rfl, rfl⟩
    · refine cc_of 60 rfl rfl ?_
      refine And.intro ⟨rfl, rfl⟩ (And.intro rfl (Exists.intro _ (Exists.intro _ (And.intro (c_noPart hs c1 c3 p) ?_))))
      refine br_f (by first | assumption | (simp (discharger := omega) only [i_lt, i_le, i_eq, bI_tz, decide_eq_false_iff_not, Int32.reduceToInt, nI_toInt, tm1, tm2, tm3, tm4, tm9]; done) | (simp (discharger := omega) only [i_lt, i_le, i_eq, bI_tz, decide_eq_false_iff_not, Int32.reduceToInt, nI_toInt, tm1, tm2, tm3, tm4, tm9]; omega) | omega) ?_
      exact ⟨Or.inl rfl, rfl, rfl⟩
theorem op_as (hS : Sim0 h) (p w : Int32) : Op0 sc 121 217 [.int p, .int w] h := by
  refine on_nh (P := fun h => Op0 sc 121 217 [.int p, .int w] h) hS (fun hS => ?_)
  have hs := hS.1
  obtain ⟨np, c1, c2, c3, c4, c5, c6, c7⟩ := hS.2.2.2.2.1
  by_cases q1 : 0 ≤ p.toInt ∧ p.toInt < np
  · by_cases q2 : 0 ≤ w.toInt ∧ w.toInt < 3
    · obtain ⟨p, hp, rfl⟩ := i_of q1.1 (n := np) q1.2 (by omega)
      obtain ⟨w, hw, rfl⟩ := i_of q2.1 (n := 3) q2.2 (by decide)
      obtain ⟨a, kd, st, hr, gd, hd, pl, z1, z2, z3, z4, z5, z6, z7, z8, z9, z10, z11, z12, z13, z14, z15, z16, z17, z18, z19, z20⟩ := c4 p hp
      have ip : inB (nI p) 12 = true := inB_nI (by omega) (by decide)
      have ep : (nI p).toNatClampNeg = p := nI_clamp (by omega)
      have k4 : kin 4 (zK (nh h) a) = true := by rw [z4]; exact kin_part z3
      have M : ∀ v : Int32, (w ≤ kd → v = 0) → (¬ w ≤ kd → v = 2) → Cc sc 217 [.ref 39, .int (nI p), .int (nI w)] (upI (nh h) 1 7 v) (some (.int (if w ≤ kd then 1 else -12))) (upI (upI (nh h) 1 7 v) 39 0 v) := fun v v1 v2 => by
        refine cc_of 60 rfl rfl ?_
        refine And.intro ⟨rfl, rfl⟩ (And.intro rfl (Exists.intro _ (Exists.intro _ (And.intro (c_noPart (h := upI (nh h) 1 7 v) hs c1 c3 (nI p)) ?_))))
        refine br_t (by first | assumption | (simp (discharger := omega) only [i_lt, i_le, i_eq, bI_tz, decide_eq_false_iff_not, Int32.reduceToInt, nI_toInt, tm1, tm2, tm3, tm4, tm9]; done) | (simp (discharger := omega) only [i_lt, i_le, i_eq, bI_tz, decide_eq_false_iff_not, Int32.reduceToInt, nI_toInt, tm1, tm2, tm3, tm4, tm9]; omega) | omega) ?_
        refine And.intro rfl (And.intro rfl (Exists.intro _ (Exists.intro _ (And.intro (c_in02 _) ?_))))
        refine br_t (by first | assumption | (simp (discharger := omega) only [i_lt, i_le, i_eq, bI_tz, decide_eq_false_iff_not, Int32.reduceToInt, nI_toInt, tm1, tm2, tm3, tm4, tm9]; done) | (simp (discharger := omega) only [i_lt, i_le, i_eq, bI_tz, decide_eq_false_iff_not, Int32.reduceToInt, nI_toInt, tm1, tm2, tm3, tm4, tm9]; omega) | omega) ?_
        refine And.intro rfl ?_
        refine And.intro (⟨rfl, ip⟩) ?_
        rw [ep]
        by_cases q : w ≤ kd
        · rw [if_pos q, v1 q]
          refine br_f (show ¬ zI (nh h) 51 p < nI w by rw [z14]; exact nI_nlt q (by omega)) ?_
          refine And.intro ⟨rfl, rfl⟩ (And.intro rfl (Exists.intro _ (Exists.intro _ (And.intro (c_refused (h := upI (nh h) 1 7 0) hs 1) ?_))))
          exact ⟨Or.inl rfl, rfl, rfl⟩
        · rw [if_neg q, v2 q]
          refine br_t (show zI (nh h) 51 p < nI w by rw [z14]; exact nI_lt (by omega) (by omega)) ?_
          refine And.intro ⟨rfl, rfl⟩ (And.intro rfl (Exists.intro _ (Exists.intro _ (And.intro (c_failed (h := upI (nh h) 1 7 2) hs 2) ?_))))
          exact ⟨Or.inl rfl, rfl, rfl⟩
      have X : ∀ v : Int32, (w ≤ kd → v = 0) → (¬ w ≤ kd → v = 2) → Cc sc 121 [.ref 1, .int (nI p), .int (nI w)] (nh h) (some (.int (if w ≤ kd then 1 else -12))) (upI (nh h) 1 7 v) := fun v v1 v2 => by
        refine cc_of 60 rfl rfl ?_
        refine And.intro rfl ?_
        refine And.intro ⟨rfl, rfl⟩ (And.intro rfl (Exists.intro _ (Exists.intro _ (And.intro (c_isPart (h := upI (nh h) 1 7 0) hs c1 c2 (nI p)) ?_))))
        refine br_t (by first | assumption | (simp (discharger := omega) only [i_lt, i_le, i_eq, bI_tz, decide_eq_false_iff_not, Int32.reduceToInt, nI_toInt, tm1, tm2, tm3, tm4, tm9]; done) | (simp (discharger := omega) only [i_lt, i_le, i_eq, bI_tz, decide_eq_false_iff_not, Int32.reduceToInt, nI_toInt, tm1, tm2, tm3, tm4, tm9]; omega) | omega) ?_
        refine br_f (show ¬ (nI w < 0) by first | assumption | (simp (discharger := omega) only [i_lt, i_le, i_eq, bI_tz, decide_eq_false_iff_not, Int32.reduceToInt, nI_toInt, tm1, tm2, tm3, tm4, tm9]; done) | (simp (discharger := omega) only [i_lt, i_le, i_eq, bI_tz, decide_eq_false_iff_not, Int32.reduceToInt, nI_toInt, tm1, tm2, tm3, tm4, tm9]; omega) | omega) ?_
        refine br_t (show nI w < 3 by first | assumption | (simp (discharger := omega) only [i_lt, i_le, i_eq, bI_tz, decide_eq_false_iff_not, Int32.reduceToInt, nI_toInt, tm1, tm2, tm3, tm4, tm9]; done) | (simp (discharger := omega) only [i_lt, i_le, i_eq, bI_tz, decide_eq_false_iff_not, Int32.reduceToInt, nI_toInt, tm1, tm2, tm3, tm4, tm9]; omega) | omega) ?_
        refine And.intro rfl ?_
        refine And.intro rfl ?_
        refine And.intro (⟨rfl, ip⟩) ?_
        rw [ep, show zA (upI (nh h) 1 7 0) (zA (upI (nh h) 1 7 0) (zA (upI (nh h) 1 7 0) 1 4) 0) p = a from z1]
        obtain rfl | rfl | rfl : w = 0 ∨ w = 1 ∨ w = 2 := by omega
        · rw [if_pos (Nat.zero_le _), v1 (Nat.zero_le _)]
          refine br_t (by rfl) ?_
          refine br_f (by decide) ?_
          exact ⟨Or.inl rfl, rfl, rfl⟩
        · refine br_f (by decide) ?_
          refine br_f (by decide) ?_
          refine And.intro (k4) ?_
          obtain rfl | rfl | rfl : kd = 0 ∨ kd = 1 ∨ kd = 2 := by omega
          · rw [show zK (upI (nh h) 1 7 0) a = 4 from z4, v2 (by decide)]
            refine br_f (by decide) ?_
            refine br_t (by decide) ?_
            refine br_t (by rfl) ?_
            refine And.intro ⟨rfl, rfl⟩ (And.intro rfl (Exists.intro _ (Exists.intro _ (And.intro (c_faulty (h := upI (nh h) 1 7 0) hs 2) ?_))))
            rw [upI_upI]
            exact ⟨Or.inl rfl, rfl, rfl⟩
          · rw [show zK (upI (nh h) 1 7 0) a = 2 from z4, v1 (by decide)]
            refine br_t (by decide) ?_
            refine br_f (by decide) ?_
            exact ⟨Or.inl rfl, rfl, rfl⟩
          · rw [show zK (upI (nh h) 1 7 0) a = 1 from z4, v1 (by decide)]
            refine br_t (by decide) ?_
            refine br_f (by decide) ?_
            exact ⟨Or.inl rfl, rfl, rfl⟩
        · refine br_f (by decide) ?_
          refine br_t (by decide) ?_
          refine br_f (by decide) ?_
          refine And.intro (k4) ?_
          obtain rfl | rfl | rfl : kd = 0 ∨ kd = 1 ∨ kd = 2 := by omega
          · rw [show zK (upI (nh h) 1 7 0) a = 4 from z4, v2 (by decide)]
            refine br_t (by decide) ?_
            refine br_t (by rfl) ?_
            refine And.intro ⟨rfl, rfl⟩ (And.intro rfl (Exists.intro _ (Exists.intro _ (And.intro (c_faulty (h := upI (nh h) 1 7 0) hs 2) ?_))))
            rw [upI_upI]
            exact ⟨Or.inl rfl, rfl, rfl⟩
          · rw [show zK (upI (nh h) 1 7 0) a = 2 from z4, v2 (by decide)]
            refine br_t (by decide) ?_
            refine br_t (by rfl) ?_
            refine And.intro ⟨rfl, rfl⟩ (And.intro rfl (Exists.intro _ (Exists.intro _ (And.intro (c_faulty (h := upI (nh h) 1 7 0) hs 2) ?_))))
            rw [upI_upI]
            exact ⟨Or.inl rfl, rfl, rfl⟩
          · rw [show zK (upI (nh h) 1 7 0) a = 1 from z4, v1 (by decide)]
            refine br_f (by decide) ?_
            refine br_f (by decide) ?_
            exact ⟨Or.inl rfl, rfl, rfl⟩
      by_cases q : w ≤ kd
      · exact ⟨_, _, _, X 0 (fun _ => rfl) (fun z => absurd q z), M 0 (fun _ => rfl) (fun z => absurd q z), fin_flt hS 0⟩
      · exact ⟨_, _, _, X 2 (fun z => absurd z q) (fun _ => rfl), M 2 (fun z => absurd z q) (fun _ => rfl), fin_flt hS 2⟩
    · refine ⟨.int (-2), upI (nh h) 1 7 0, upI (upI (nh h) 1 7 0) 39 0 0, ?_, ?_, fin_flt hS 0⟩
      · refine cc_of 60 rfl rfl ?_
        refine And.intro rfl ?_
        refine And.intro ⟨rfl, rfl⟩ (And.intro rfl (Exists.intro _ (Exists.intro _ (And.intro (c_isPart (h := upI (nh h) 1 7 0) hs c1 c2 p) ?_))))
        refine br_t (by first | assumption | (simp (discharger := omega) only [i_lt, i_le, i_eq, bI_tz, decide_eq_false_iff_not, Int32.reduceToInt, nI_toInt, tm1, tm2, tm3, tm4, tm9]; done) | (simp (discharger := omega) only [i_lt, i_le, i_eq, bI_tz, decide_eq_false_iff_not, Int32.reduceToInt, nI_toInt, tm1, tm2, tm3, tm4, tm9]; omega) | omega) ?_
        by_cases q3 : w.toInt < 0
        · refine br_t (show w < 0 by first | assumption | (simp (discharger := omega) only [i_lt, i_le, i_eq, bI_tz, decide_eq_false_iff_not, Int32.reduceToInt, nI_toInt, tm1, tm2, tm3, tm4, tm9]; done) | (simp (discharger := omega) only [i_lt, i_le, i_eq, bI_tz, decide_eq_false_iff_not, Int32.reduceToInt, nI_toInt, tm1, tm2, tm3, tm4, tm9]; omega) | omega) ?_
          exact ⟨Or.inl rfl, rfl, rfl⟩
        · refine br_f (show ¬ (w < 0) by first | assumption | (simp (discharger := omega) only [i_lt, i_le, i_eq, bI_tz, decide_eq_false_iff_not, Int32.reduceToInt, nI_toInt, tm1, tm2, tm3, tm4, tm9]; done) | (simp (discharger := omega) only [i_lt, i_le, i_eq, bI_tz, decide_eq_false_iff_not, Int32.reduceToInt, nI_toInt, tm1, tm2, tm3, tm4, tm9]; omega) | omega) ?_
          refine br_f (show ¬ (w < 3) by first | assumption | (simp (discharger := omega) only [i_lt, i_le, i_eq, bI_tz, decide_eq_false_iff_not, Int32.reduceToInt, nI_toInt, tm1, tm2, tm3, tm4, tm9]; done) | (simp (discharger := omega) only [i_lt, i_le, i_eq, bI_tz, decide_eq_false_iff_not, Int32.reduceToInt, nI_toInt, tm1, tm2, tm3, tm4, tm9]; omega) | omega) ?_
          exact ⟨Or.inl rfl, rfl, rfl⟩
      · refine cc_of 60 rfl rfl ?_
        refine And.intro ⟨rfl, rfl⟩ (And.intro rfl (Exists.intro _ (Exists.intro _ (And.intro (c_noPart (h := upI (nh h) 1 7 0) hs c1 c3 p) ?_))))
        refine br_t (by first | assumption | (simp (discharger := omega) only [i_lt, i_le, i_eq, bI_tz, decide_eq_false_iff_not, Int32.reduceToInt, nI_toInt, tm1, tm2, tm3, tm4, tm9]; done) | (simp (discharger := omega) only [i_lt, i_le, i_eq, bI_tz, decide_eq_false_iff_not, Int32.reduceToInt, nI_toInt, tm1, tm2, tm3, tm4, tm9]; omega) | omega) ?_
        refine And.intro rfl (And.intro rfl (Exists.intro _ (Exists.intro _ (And.intro (c_in02 _) ?_))))
        refine br_f (by first | assumption | (simp (discharger := omega) only [i_lt, i_le, i_eq, bI_tz, decide_eq_false_iff_not, Int32.reduceToInt, nI_toInt, tm1, tm2, tm3, tm4, tm9]; done) | (simp (discharger := omega) only [i_lt, i_le, i_eq, bI_tz, decide_eq_false_iff_not, Int32.reduceToInt, nI_toInt, tm1, tm2, tm3, tm4, tm9]; omega) | omega) ?_
        refine And.intro ⟨rfl, rfl⟩ (And.intro rfl (Exists.intro _ (Exists.intro _ (And.intro (c_refused (h := upI (nh h) 1 7 0) hs (-2)) ?_))))
        exact ⟨Or.inl rfl, rfl, rfl⟩
  · refine ⟨.int (-1), upI (nh h) 1 7 0, upI (upI (nh h) 1 7 0) 39 0 0, ?_, ?_, fin_flt hS 0⟩
    · refine cc_of 60 rfl rfl ?_
      refine And.intro rfl ?_
      refine And.intro ⟨rfl, rfl⟩ (And.intro rfl (Exists.intro _ (Exists.intro _ (And.intro (c_isPart (h := upI (nh h) 1 7 0) hs c1 c2 p) ?_))))
      refine br_f (by first | assumption | (simp (discharger := omega) only [i_lt, i_le, i_eq, bI_tz, decide_eq_false_iff_not, Int32.reduceToInt, nI_toInt, tm1, tm2, tm3, tm4, tm9]; done) | (simp (discharger := omega) only [i_lt, i_le, i_eq, bI_tz, decide_eq_false_iff_not, Int32.reduceToInt, nI_toInt, tm1, tm2, tm3, tm4, tm9]; omega) | omega) ?_
      exact ⟨Or.inl rfl, rfl, rfl⟩
    · refine cc_of 60 rfl rfl ?_
      refine And.intro ⟨rfl, rfl⟩ (And.intro rfl (Exists.intro _ (Exists.intro _ (And.intro (c_noPart (h := upI (nh h) 1 7 0) hs c1 c3 p) ?_))))
      refine br_f (by first | assumption | (simp (discharger := omega) only [i_lt, i_le, i_eq, bI_tz, decide_eq_false_iff_not, Int32.reduceToInt, nI_toInt, tm1, tm2, tm3, tm4, tm9]; done) | (simp (discharger := omega) only [i_lt, i_le, i_eq, bI_tz, decide_eq_false_iff_not, Int32.reduceToInt, nI_toInt, tm1, tm2, tm3, tm4, tm9]; omega) | omega) ?_
      refine And.intro ⟨rfl, rfl⟩ (And.intro rfl (Exists.intro _ (Exists.intro _ (And.intro (c_refused (h := upI (nh h) 1 7 0) hs (-1)) ?_))))
      exact ⟨Or.inl rfl, rfl, rfl⟩
end
