/-- what the class's table of states rests on is as it was -/
def KpO (h g : Hp) : Prop := zA g 6 0 = zA h 6 0 ∧ (∀ a, a = 6 ∨ a = 7 ∨ a = 8 ∨ a = 11 → zI g a = zI h a) ∧ zJ g 10 = zJ h 10 ∧ (zI h 1 1).toNatClampNeg ≤ (zI g 1 1).toNatClampNeg ∧ ∀ x, x < (zI h 1 1).toNatClampNeg → zA g 2 x = zA h 2 x ∧ zI g 40 x = zI h 40 x ∧ zI g 41 x = zI h 41 x ∧ zI g 42 x = zI h 42 x ∧ (∀ k, k < 5 → zI g 43 (5 * x + k) = zI h 43 (5 * x + k)) ∧ ∀ k, k < 15 → zI g 44 (15 * x + k) = zI h 44 (15 * x + k)
/-- what the way rests on is as it was, or it is forgotten -/
def KpW (h g : Hp) : Prop := zI g 15 6 = 0 ∨ (zI g 15 6 = zI h 15 6 ∧ zI g 15 1 = zI h 15 1 ∧ zI g 39 18 = zI h 39 18 ∧ ∀ a, a = 19 ∨ a = 20 ∨ a = 51 ∨ a = 52 ∨ a = 53 ∨ a = 54 ∨ a = 55 ∨ a = 56 → zI g a = zI h a)
def Op1 (sc : Nat × (Nat → Int32)) (kx km : Nat) (as : List Value) (h : Hp) : Prop := ∃ r h1 h2, Cc sc kx (.ref 1 :: as) h (some r) h1 ∧ Cc sc km (.ref 39 :: as) h1 (some r) h2 ∧ Sim0 h2 ∧ KpO h h2 ∧ KpW h h2
theorem KpO_of {h g : Hp} (eA : zA g = zA h) (e : ∀ a, a = 6 ∨ a = 7 ∨ a = 8 ∨ a = 11 ∨ a = 40 ∨ a = 41 ∨ a = 42 ∨ a = 43 ∨ a = 44 → zI g a = zI h a) (eJ : zJ g 10 = zJ h 10) (e1 : zI g 1 1 = zI h 1 1) : KpO h g := by
  refine ⟨by rw [eA], fun a ha => e a (by omega), eJ, by rw [e1]; exact Nat.le_refl _, fun x hx => ?_⟩
  rw [eA, e 40 (by omega), e 41 (by omega), e 42 (by omega), e 43 (by omega), e 44 (by omega)]
  exact ⟨rfl, rfl, rfl, rfl, fun _ _ => rfl, fun _ _ => rfl⟩
theorem Kp.O {h g : Hp} (k : Kp h g) : KpO h g ∧ KpW h g := by
  obtain ⟨L, f, q⟩ := k
  simp only [okT, List.all_cons, List.all_nil, Bool.and_eq_true, Bool.not_eq_true', Bool.and_true] at q
  obtain ⟨⟨⟨⟨⟨⟨q0, q1⟩, q2⟩, q3⟩, q4⟩, q5⟩, q6⟩ := q
  obtain ⟨p1, p2, p3, p4, p5, p6, p7, p8, p9, p10, p11, p12, p13, p14, p15, p16, p17, p18, p19, p20⟩ := q1
  constructor
  · refine KpO_of f.A ?_ (f.J p6) (f.s q4)
    intro a ha
    rcases ha with rfl | rfl | rfl | rfl | rfl | rfl | rfl | rfl | rfl
    · exact f.I p2
    · exact f.I p3
    · exact f.I p4
    · exact f.I p7
    · exact f.I p10
    · exact f.I p11
    · exact f.I p12
    · exact f.I p13
    · exact f.I p14
  · refine Or.inr ⟨f.s q2, f.s q3, f.s q6, ?_⟩
    intro a ha
    rcases ha with rfl | rfl | rfl | rfl | rfl | rfl | rfl | rfl
    · exact f.I p8
    · exact f.I p9
    · exact f.I p15
    · exact f.I p16
    · exact f.I p17
    · exact f.I p18
    · exact f.I p19
    · exact f.I p20
theorem Op0.one {sc : Nat × (Nat → Int32)} {kx km : Nat} {as : List Value} {h : Hp} (o : Op0 sc kx km as h) : Op1 sc kx km as h := by
  obtain ⟨r, h1, h2, a, b, c, d⟩ := o
  exact ⟨r, h1, h2, a, b, c, d.O⟩
/-- parts alone have changed, and the way is forgotten -/
theorem finY {L : List (Nat × Nat)} {h g : Hp} (hS : Sim0 h) (f : FrY L h g) (q1 : okO L = true) (q2 : (!inP L 1 7 && !inP L 39 0 && !inP L 30 0 && !inP L 39 37 && !inP L 15 3 && !inP L 39 26 && frP L 18 && frP L 58) = true) (q3 : (frP L 61 && frP L 62 && frP L 63 && (List.range 8).all (fun i => frP L (31 + i))) = true) (q4 : inP L 15 1 = false) (sP : SimP g) (e : zI g 15 6 = 0) : Sim0 g ∧ KpO h g ∧ KpW h g := by
  have hs := hS.1
  simp only [okO, List.all_cons, List.all_nil, Bool.and_eq_true, Bool.not_eq_true', Bool.and_true] at q1
  obtain ⟨⟨⟨q0, q1⟩, q5⟩, q6⟩ := q1
  obtain ⟨p1, p2, p3, p4, p5, p6, p7, p8, p9, p10, p11, p12⟩ := q1
  refine ⟨⟨f.shp hs, f.simA hs q2 hS.2.1, f.simR hs q3 hS.2.2.1, f.simC hs ?_ hS.2.2.2.1, sP, f.simZ hs q4 q5 p11 q0 hS.2.2.2.2.2⟩, KpO_of f.2.2.2.1 ?_ (f.J hs (by decide) p6) (f.s hs (by decide) q5), Or.inl e⟩
  · simp only [Bool.and_eq_true, Bool.not_eq_true']
    exact ⟨⟨⟨⟨⟨⟨⟨q5, q6⟩, p8⟩, p9⟩, p10⟩, p11⟩, p12⟩, q0⟩
  · intro a ha
    rcases ha with rfl | rfl | rfl | rfl | rfl | rfl | rfl | rfl | rfl
    · exact f.I hs (by decide) p2
    · exact f.I hs (by decide) p3
    · exact f.I hs (by decide) p4
    · exact f.I hs (by decide) p7
    · exact f.I hs (by decide) p8
    · exact f.I hs (by decide) p9
    · exact f.I hs (by decide) p10
    · exact f.I hs (by decide) p11
    · exact f.I hs (by decide) p12
theorem upI_id (h : Hp) (a j : Nat) {v : Int32} (e : zI h a j = v) : upI h a j v = h := by
  have := rwI_id h a
  rw [← this, upI_rwI]
  congr 1
  funext i
  unfold upd
  split
  · rename_i e1
    rw [e1, e]
  · rfl
section
variable {sc : Nat × (Nat → Int32)} {h : Hp}
theorem nI_inj12 {np m : Nat} (h1 : np ≤ 12) (h2 : m ≤ 12) (e : nI np = nI m) : np = m := (nI_eq (by omega) (by omega)).mp e
theorem op_mend (hS : Sim0 h) (p : Int32) (b : Bool) : Op1 sc 106 192 [.int p, .int (bI b)] h := by
  refine on_nh (P := fun h => Op1 sc 106 192 [.int p, .int (bI b)] h) hS (fun hS => ?_)
  have hs := hS.1
  have hP := hS.2.2.2.2.1
  obtain ⟨np, c1, c2, c3, c4, c5, c6, c7⟩ := hP
  by_cases q1 : 0 ≤ p.toInt ∧ p.toInt < np
  · obtain ⟨p, hp, rfl⟩ := i_of q1.1 (n := np) q1.2 (by omega)
    obtain ⟨a, kd, st, hr, gd, hd, pl, z1, z2, z3, z4, z5, z6, z7, z8, z9, z10, z11, z12, z13, z14, z15, z16, z17, z18, z19, z20⟩ := c4 p hp
    have ip : inB (nI p) 12 = true := inB_nI (by omega) (by decide)
    have ep : (nI p).toNatClampNeg = p := nI_clamp (by omega)
    have k4 : kin 4 (zK (nh h) a) = true := by rw [z4]; exact kin_part z3
    by_cases q : gd = b
    · subst q
      refine ⟨.int 0, nh h, nh h, ?_, ?_, hS, (fin_same hS).2.O⟩
      · refine cc_of 60 rfl rfl ?_
        refine And.intro ⟨rfl, rfl⟩ (And.intro rfl (Exists.intro _ (Exists.intro _ (And.intro (c_isPart hs c1 c2 (nI p)) ?_))))
        refine br_t (by first | assumption | (simp (discharger := omega) only [i_lt, i_le, i_eq, bI_tz, decide_eq_false_iff_not, Int32.reduceToInt, nI_toInt, tm1, tm2, tm3, tm4, tm9]; done) | (simp (discharger := omega) only [i_lt, i_le, i_eq, bI_tz, decide_eq_false_iff_not, Int32.reduceToInt, nI_toInt, tm1, tm2, tm3, tm4, tm9]; omega) | omega) ?_
        refine And.intro rfl ?_
        refine And.intro rfl ?_
        refine And.intro rfl ?_
        refine And.intro (⟨rfl, ip⟩) ?_
        rw [ep, show zA (nh h) (zA (nh h) (zA (nh h) 1 4) 0) p = a from z1]
        have hc : Cc sc 82 [.ref 15, .ref a, .int (bI gd)] (nh h) (some (.int 0)) (nh h) := by
          refine cc_of 60 rfl rfl ?_
          refine And.intro (k4) ?_
          refine br_f (show ¬ ¬ zI (nh h) a 3 = bI gd from fun z => z z11) ?_
          exact ⟨Or.inl rfl, rfl, rfl⟩
        refine And.intro ⟨rfl, rfl⟩ (And.intro rfl (Exists.intro _ (Exists.intro _ (And.intro (hc) ?_))))
        exact ⟨Or.inl rfl, rfl, rfl⟩
      · refine cc_of 60 rfl rfl ?_
        refine And.intro ⟨rfl, rfl⟩ (And.intro rfl (Exists.intro _ (Exists.intro _ (And.intro (c_noPart hs c1 c3 (nI p)) ?_))))
        refine br_t (by first | assumption | (simp (discharger := omega) only [i_lt, i_le, i_eq, bI_tz, decide_eq_false_iff_not, Int32.reduceToInt, nI_toInt, tm1, tm2, tm3, tm4, tm9]; done) | (simp (discharger := omega) only [i_lt, i_le, i_eq, bI_tz, decide_eq_false_iff_not, Int32.reduceToInt, nI_toInt, tm1, tm2, tm3, tm4, tm9]; omega) | omega) ?_
        refine And.intro rfl ?_
        refine And.intro (⟨rfl, ip⟩) ?_
        rw [ep]
        refine br_f (show ¬ ¬ zI (nh h) 54 p = bI gd from fun z => z z17) ?_
        refine And.intro rfl ?_
        refine And.intro (⟨rfl, ip, bI_01 gd⟩) ?_
        rw [ep, show upI (nh h) (zA (nh h) 39 22) p (bI gd) = nh h from upI_id _ _ _ z17]
        exact ⟨Or.inl rfl, rfl, rfl⟩
    · refine ⟨.int 1, upI (upI (nh h) a 3 (bI b)) 15 6 0, upI (upI (upI (nh h) a 3 (bI b)) 15 6 0) 54 p (bI b), ?_, ?_, ?_⟩
      · refine cc_of 60 rfl rfl ?_
        refine And.intro ⟨rfl, rfl⟩ (And.intro rfl (Exists.intro _ (Exists.intro _ (And.intro (c_isPart hs c1 c2 (nI p)) ?_))))
        refine br_t (by first | assumption | (simp (discharger := omega) only [i_lt, i_le, i_eq, bI_tz, decide_eq_false_iff_not, Int32.reduceToInt, nI_toInt, tm1, tm2, tm3, tm4, tm9]; done) | (simp (discharger := omega) only [i_lt, i_le, i_eq, bI_tz, decide_eq_false_iff_not, Int32.reduceToInt, nI_toInt, tm1, tm2, tm3, tm4, tm9]; omega) | omega) ?_
        refine And.intro rfl ?_
        refine And.intro rfl ?_
        refine And.intro rfl ?_
        refine And.intro (⟨rfl, ip⟩) ?_
        rw [ep, show zA (nh h) (zA (nh h) (zA (nh h) 1 4) 0) p = a from z1]
        have hc : Cc sc 82 [.ref 15, .ref a, .int (bI b)] (nh h) (some (.int 1)) (upI (upI (nh h) a 3 (bI b)) 15 6 0) := by
          refine cc_of 60 rfl rfl ?_
          refine And.intro (k4) ?_
          refine br_t (show ¬ zI (nh h) a 3 = bI b by rw [z11, bI_inj]; exact q) ?_
          refine And.intro (⟨k4, bI_01 b⟩) ?_
          refine And.intro (⟨rfl, Or.inl rfl⟩) ?_
          exact ⟨Or.inl rfl, rfl, rfl⟩
        refine And.intro ⟨rfl, rfl⟩ (And.intro rfl (Exists.intro _ (Exists.intro _ (And.intro (hc) ?_))))
        exact ⟨Or.inl rfl, rfl, rfl⟩
      · have e54 : ∀ i, zI (upI (upI (nh h) a 3 (bI b)) 15 6 0) 54 i = zI (nh h) 54 i := fun i => by
          rw [zI_upI, if_neg (by decide), zI_upI, if_neg (by omega)]
        have e18 : zI (upI (upI (nh h) a 3 (bI b)) 15 6 0) 39 18 = nI np := by
          rw [zI_upI, if_neg (by decide), zI_upI, if_neg (by omega)]
          exact c3
        refine cc_of 60 rfl rfl ?_
        refine And.intro ⟨rfl, rfl⟩ (And.intro rfl (Exists.intro _ (Exists.intro _ (And.intro (c_noPart (h := upI (upI (nh h) a 3 (bI b)) 15 6 0) hs c1 e18 (nI p)) ?_))))
        refine br_t (by first | assumption | (simp (discharger := omega) only [i_lt, i_le, i_eq, bI_tz, decide_eq_false_iff_not, Int32.reduceToInt, nI_toInt, tm1, tm2, tm3, tm4, tm9]; done) | (simp (discharger := omega) only [i_lt, i_le, i_eq, bI_tz, decide_eq_false_iff_not, Int32.reduceToInt, nI_toInt, tm1, tm2, tm3, tm4, tm9]; omega) | omega) ?_
        refine And.intro rfl ?_
        refine And.intro (⟨rfl, ip⟩) ?_
        rw [ep]
        refine br_t (show ¬ zI (upI (upI (nh h) a 3 (bI b)) 15 6 0) 54 p = bI b by rw [e54, z17, bI_inj]; exact q) ?_
        refine And.intro rfl ?_
        refine And.intro (⟨rfl, ip, bI_01 b⟩) ?_
        rw [ep]
        exact ⟨Or.inl rfl, rfl, rfl⟩
      · have f : FrY [(15, 6), (54, 1000)] (nh h) (upI (upI (upI (nh h) a 3 (bI b)) 15 6 0) 54 p (bI b)) := (((FrY.refl _ _).upI (Or.inr k4)).upI (Or.inl rfl)).upI (Or.inl (inP_of (by decide) p))
        have eb : ∀ x i, 65 ≤ x → zI (upI (upI (upI (nh h) a 3 (bI b)) 15 6 0) 54 p (bI b)) x i = if x = a ∧ i = 3 then bI b else zI (nh h) x i := fun x i hx => by
          rw [zI_upI, if_neg (by omega), zI_upI, if_neg (by omega), zI_upI]
          by_cases e1 : x = a
          · by_cases e2 : i = 3
            · rw [if_pos e1, if_pos e2, if_pos ⟨e1, e2⟩]
            · rw [if_pos e1, if_neg e2, if_neg (fun z => e2 z.2), e1]
          · rw [if_neg e1, if_neg (fun z => e1 z.1)]
        refine finY hS f rfl rfl rfl rfl ?_ (by rw [zI_upI, if_neg (by decide), zI_up_self])
        have f54 : ∀ i, zI (upI (upI (upI (nh h) a 3 (bI b)) 15 6 0) 54 p (bI b)) 54 i = if i = p then bI b else zI (nh h) 54 i := fun i => by
          rw [zI_upI, if_pos rfl]
          by_cases e : i = p
          · rw [if_pos e, if_pos e]
          · rw [if_neg e, if_neg e, zI_upI, if_neg (by decide), zI_upI, if_neg (by omega)]
        refine SimP_fl (h := nh h) rfl rfl (f.s hs (by decide) rfl) (f.s hs (by decide) rfl) (f.I hs (by decide) rfl) (f.I hs (by decide) rfl) (f.I hs (by decide) rfl) (f.I hs (by decide) rfl) (f.I hs (by decide) rfl) (f.I hs (by decide) rfl) (fun _ _ _ x _ _ => by rw [f.I hs (a := 55) (by decide) rfl]) ?_ ⟨np, c1, c2, c3, c4, c5, c6, c7⟩
        intro p' np' n1 n2 n3
        obtain rfl : np' = np := nI_inj12 n1 c1 (n2.symm.trans c2)
        obtain ⟨a', kd', st', hr', gd', hd', pl', y1, y2, y3, y4, y5, y6, y7, y8, y9, y10, y11, y12, y13, y14, y15, y16, y17, y18, y19, y20⟩ := c4 p' n3
        rw [y1]
        refine ⟨fun i i3 i4 => by rw [eb _ _ y2, if_neg (fun z => i3 z.2)], ?_⟩
        have hpl : (zI (nh h) a' 5).toInt < 0 ∨ hd' = false := by
          rw [y13]
          cases pl' with
          | none => exact Or.inl (by decide)
          | some x => exact Or.inr (y20 x rfl).2.2
        by_cases e : p' = p
        · subst e
          have ea : a' = a := y1.symm.trans z1
          refine ⟨b, hd', by rw [eb _ _ y2, if_pos ⟨ea, rfl⟩], by rw [f54, if_pos rfl], by rw [eb _ _ y2, if_neg (fun z => absurd z.2 (by decide))]; exact y12, by rw [f.I hs (a := 55) (by decide) rfl]; exact y18, hpl⟩
        · have ea : a' ≠ a := fun z => c7 p' p n3 hp e (by rw [y1, z1, z])
          refine ⟨gd', hd', by rw [eb _ _ y2, if_neg (fun z => ea z.1)]; exact y11, by rw [f54, if_neg e]; exact y17, by rw [eb _ _ y2, if_neg (fun z => absurd z.2 (by decide))]; exact y12, by rw [f.I hs (a := 55) (by decide) rfl]; exact y18, hpl⟩
  · refine ⟨.int (-1), nh h, nh h, ?_, ?_, hS, (fin_same hS).2.O⟩
    · refine cc_of 60 rfl rfl ?_
      refine And.intro ⟨rfl, rfl⟩ (And.intro rfl (Exists.intro _ (Exists.intro _ (And.intro (c_isPart hs c1 c2 p) ?_))))
      refine br_f (by first | assumption | (simp (discharger := omega) only [i_lt, i_le, i_eq, bI_tz, decide_eq_false_iff_not, Int32.reduceToInt, nI_toInt, tm1, tm2, tm3, tm4, tm9]; done) | (simp (discharger := omega) only [i_lt, i_le, i_eq, bI_tz, decide_eq_false_iff_not, Int32.reduceToInt, nI_toInt, tm1, tm2, tm3, tm4, tm9]; omega) | omega) ?_
      exact ⟨Or.inl rfl, rfl, rfl⟩
    · refine cc_of 60 rfl rfl ?_
      refine And.intro ⟨rfl, rfl⟩ (And.intro rfl (Exists.intro _ (Exists.intro _ (And.intro (c_noPart hs c1 c3 p) ?_))))
      refine br_f (by first | assumption | (simp (discharger := omega) only [i_lt, i_le, i_eq, bI_tz, decide_eq_false_iff_not, Int32.reduceToInt, nI_toInt, tm1, tm2, tm3, tm4, tm9]; done) | (simp (discharger := omega) only [i_lt, i_le, i_eq, bI_tz, decide_eq_false_iff_not, Int32.reduceToInt, nI_toInt, tm1, tm2, tm3, tm4, tm9]; omega) | omega) ?_
      exact ⟨Or.inl rfl, rfl, rfl⟩
theorem op_hide (hS : Sim0 h) (p : Int32) (b : Bool) : Op1 sc 107 193 [.int p, .int (bI b)] h := by
  refine on_nh (P := fun h => Op1 sc 107 193 [.int p, .int (bI b)] h) hS (fun hS => ?_)
  have hs := hS.1
  have hP := hS.2.2.2.2.1
  obtain ⟨np, c1, c2, c3, c4, c5, c6, c7⟩ := hP
  by_cases q1 : 0 ≤ p.toInt ∧ p.toInt < np
  · obtain ⟨p, hp, rfl⟩ := i_of q1.1 (n := np) q1.2 (by omega)
    obtain ⟨a, kd, st, hr, gd, hd, pl, z1, z2, z3, z4, z5, z6, z7, z8, z9, z10, z11, z12, z13, z14, z15, z16, z17, z18, z19, z20⟩ := c4 p hp
    have ip : inB (nI p) 12 = true := inB_nI (by omega) (by decide)
    have ep : (nI p).toNatClampNeg = p := nI_clamp (by omega)
    have k4 : kin 4 (zK (nh h) a) = true := by rw [z4]; exact kin_part z3
    cases pl with
    | some x =>
      have hx := (z20 x rfl).1
      refine ⟨.int (-3), nh h, nh h, ?_, ?_, hS, (fin_same hS).2.O⟩
      · refine cc_of 60 rfl rfl ?_
        refine And.intro ⟨rfl, rfl⟩ (And.intro rfl (Exists.intro _ (Exists.intro _ (And.intro (c_isPart hs c1 c2 (nI p)) ?_))))
        refine br_t (by first | assumption | (simp (discharger := omega) only [i_lt, i_le, i_eq, bI_tz, decide_eq_false_iff_not, Int32.reduceToInt, nI_toInt, tm1, tm2, tm3, tm4, tm9]; done) | (simp (discharger := omega) only [i_lt, i_le, i_eq, bI_tz, decide_eq_false_iff_not, Int32.reduceToInt, nI_toInt, tm1, tm2, tm3, tm4, tm9]; omega) | omega) ?_
        refine And.intro rfl ?_
        refine And.intro rfl ?_
        refine And.intro rfl ?_
        refine And.intro (⟨rfl, ip⟩) ?_
        rw [ep, show zA (nh h) (zA (nh h) (zA (nh h) 1 4) 0) p = a from z1]
        have hc : Cc sc 83 [.ref 15, .ref a, .int (bI b)] (nh h) (some (.int (-3))) (nh h) := by
          refine cc_of 60 rfl rfl ?_
          refine And.intro (k4) ?_
          refine br_f (show ¬ zI (nh h) a 5 = -9 by rw [z13]; show ¬ nI x = -9; first | assumption | (simp (discharger := omega) only [i_lt, i_le, i_eq, bI_tz, decide_eq_false_iff_not, Int32.reduceToInt, nI_toInt, tm1, tm2, tm3, tm4, tm9]; done) | (simp (discharger := omega) only [i_lt, i_le, i_eq, bI_tz, decide_eq_false_iff_not, Int32.reduceToInt, nI_toInt, tm1, tm2, tm3, tm4, tm9]; omega) | omega) ?_
          exact ⟨Or.inl rfl, rfl, rfl⟩
        refine And.intro ⟨rfl, rfl⟩ (And.intro rfl (Exists.intro _ (Exists.intro _ (And.intro (hc) ?_))))
        exact ⟨Or.inl rfl, rfl, rfl⟩
      · refine cc_of 60 rfl rfl ?_
        refine And.intro ⟨rfl, rfl⟩ (And.intro rfl (Exists.intro _ (Exists.intro _ (And.intro (c_noPart hs c1 c3 (nI p)) ?_))))
        refine br_t (by first | assumption | (simp (discharger := omega) only [i_lt, i_le, i_eq, bI_tz, decide_eq_false_iff_not, Int32.reduceToInt, nI_toInt, tm1, tm2, tm3, tm4, tm9]; done) | (simp (discharger := omega) only [i_lt, i_le, i_eq, bI_tz, decide_eq_false_iff_not, Int32.reduceToInt, nI_toInt, tm1, tm2, tm3, tm4, tm9]; omega) | omega) ?_
        refine And.intro rfl ?_
        refine And.intro (⟨rfl, ip⟩) ?_
        rw [ep]
        refine br_f (show ¬ zI (nh h) 56 p < 0 by rw [z19]; exact nI_pos (n := x) (by omega)) ?_
        exact ⟨Or.inl rfl, rfl, rfl⟩
    | none =>
      by_cases q : hd = b
      · subst q
        refine ⟨.int 0, nh h, nh h, ?_, ?_, hS, (fin_same hS).2.O⟩
        · refine cc_of 60 rfl rfl ?_
          refine And.intro ⟨rfl, rfl⟩ (And.intro rfl (Exists.intro _ (Exists.intro _ (And.intro (c_isPart hs c1 c2 (nI p)) ?_))))
          refine br_t (by first | assumption | (simp (discharger := omega) only [i_lt, i_le, i_eq, bI_tz, decide_eq_false_iff_not, Int32.reduceToInt, nI_toInt, tm1, tm2, tm3, tm4, tm9]; done) | (simp (discharger := omega) only [i_lt, i_le, i_eq, bI_tz, decide_eq_false_iff_not, Int32.reduceToInt, nI_toInt, tm1, tm2, tm3, tm4, tm9]; omega) | omega) ?_
          refine And.intro rfl ?_
          refine And.intro rfl ?_
          refine And.intro rfl ?_
          refine And.intro (⟨rfl, ip⟩) ?_
          rw [ep, show zA (nh h) (zA (nh h) (zA (nh h) 1 4) 0) p = a from z1]
          have hc : Cc sc 83 [.ref 15, .ref a, .int (bI hd)] (nh h) (some (.int 0)) (nh h) := by
            refine cc_of 60 rfl rfl ?_
            refine And.intro (k4) ?_
            refine br_t (show zI (nh h) a 5 = -9 from z13) ?_
            refine And.intro (k4) ?_
            refine br_f (show ¬ ¬ zI (nh h) a 4 = bI hd from fun z => z z12) ?_
            exact ⟨Or.inl rfl, rfl, rfl⟩
          refine And.intro ⟨rfl, rfl⟩ (And.intro rfl (Exists.intro _ (Exists.intro _ (And.intro (hc) ?_))))
          exact ⟨Or.inl rfl, rfl, rfl⟩
        · refine cc_of 60 rfl rfl ?_
          refine And.intro ⟨rfl, rfl⟩ (And.intro rfl (Exists.intro _ (Exists.intro _ (And.intro (c_noPart hs c1 c3 (nI p)) ?_))))
          refine br_t (by first | assumption | (simp (discharger := omega) only [i_lt, i_le, i_eq, bI_tz, decide_eq_false_iff_not, Int32.reduceToInt, nI_toInt, tm1, tm2, tm3, tm4, tm9]; done) | (simp (discharger := omega) only [i_lt, i_le, i_eq, bI_tz, decide_eq_false_iff_not, Int32.reduceToInt, nI_toInt, tm1, tm2, tm3, tm4, tm9]; omega) | omega) ?_
          refine And.intro rfl ?_
          refine And.intro (⟨rfl, ip⟩) ?_
          rw [ep]
          refine br_t (show zI (nh h) 56 p < 0 by rw [z19]; decide) ?_
          refine And.intro rfl ?_
          refine And.intro (⟨rfl, ip⟩) ?_
          rw [ep]
          refine br_f (show ¬ ¬ zI (nh h) 55 p = bI hd from fun z => z z18) ?_
          refine And.intro rfl ?_
          refine And.intro (⟨rfl, ip, bI_01 hd⟩) ?_
          rw [ep, show upI (nh h) (zA (nh h) 39 23) p (bI hd) = nh h from upI_id _ _ _ z18]
          exact ⟨Or.inl rfl, rfl, rfl⟩
      · refine ⟨.int 1, upI (upI (nh h) a 4 (bI b)) 15 6 0, upI (upI (upI (nh h) a 4 (bI b)) 15 6 0) 55 p (bI b), ?_, ?_, ?_⟩
        · refine cc_of 60 rfl rfl ?_
          refine And.intro ⟨rfl, rfl⟩ (And.intro rfl (Exists.intro _ (Exists.intro _ (And.intro (c_isPart hs c1 c2 (nI p)) ?_))))
          refine br_t (by first | assumption | (simp (discharger := omega) only [i_lt, i_le, i_eq, bI_tz, decide_eq_false_iff_not, Int32.reduceToInt, nI_toInt, tm1, tm2, tm3, tm4, tm9]; done) | (simp (discharger := omega) only [i_lt, i_le, i_eq, bI_tz, decide_eq_false_iff_not, Int32.reduceToInt, nI_toInt, tm1, tm2, tm3, tm4, tm9]; omega) | omega) ?_
          refine And.intro rfl ?_
          refine And.intro rfl ?_
          refine And.intro rfl ?_
          refine And.intro (⟨rfl, ip⟩) ?_
          rw [ep, show zA (nh h) (zA (nh h) (zA (nh h) 1 4) 0) p = a from z1]
          have hc : Cc sc 83 [.ref 15, .ref a, .int (bI b)] (nh h) (some (.int 1)) (upI (upI (nh h) a 4 (bI b)) 15 6 0) := by
            refine cc_of 60 rfl rfl ?_
            refine And.intro (k4) ?_
            refine br_t (show zI (nh h) a 5 = -9 from z13) ?_
            refine And.intro (k4) ?_
            refine br_t (show ¬ zI (nh h) a 4 = bI b by rw [z12, bI_inj]; exact q) ?_
            refine And.intro (⟨k4, bI_01 b⟩) ?_
            refine And.intro (⟨rfl, Or.inl rfl⟩) ?_
            exact ⟨Or.inl rfl, rfl, rfl⟩
          refine And.intro ⟨rfl, rfl⟩ (And.intro rfl (Exists.intro _ (Exists.intro _ (And.intro (hc) ?_))))
          exact ⟨Or.inl rfl, rfl, rfl⟩
        · have e55 : ∀ x i, 40 ≤ x → x < 65 → zI (upI (upI (nh h) a 4 (bI b)) 15 6 0) x i = zI (nh h) x i := fun x i h1 h2 => by
            rw [zI_upI, if_neg (by omega), zI_upI, if_neg (by omega)]
          have e18 : zI (upI (upI (nh h) a 4 (bI b)) 15 6 0) 39 18 = nI np := by
            rw [zI_upI, if_neg (by decide), zI_upI, if_neg (by omega)]
            exact c3
          refine cc_of 60 rfl rfl ?_
          refine And.intro ⟨rfl, rfl⟩ (And.intro rfl (Exists.intro _ (Exists.intro _ (And.intro (c_noPart (h := upI (upI (nh h) a 4 (bI b)) 15 6 0) hs c1 e18 (nI p)) ?_))))
          refine br_t (by first | assumption | (simp (discharger := omega) only [i_lt, i_le, i_eq, bI_tz, decide_eq_false_iff_not, Int32.reduceToInt, nI_toInt, tm1, tm2, tm3, tm4, tm9]; done) | (simp (discharger := omega) only [i_lt, i_le, i_eq, bI_tz, decide_eq_false_iff_not, Int32.reduceToInt, nI_toInt, tm1, tm2, tm3, tm4, tm9]; omega) | omega) ?_
          refine And.intro rfl ?_
          refine And.intro (⟨rfl, ip⟩) ?_
          rw [ep]
          refine br_t (show zI (upI (upI (nh h) a 4 (bI b)) 15 6 0) 56 p < 0 by rw [e55 _ _ (by decide) (by decide), z19]; decide) ?_
          refine And.intro rfl ?_
          refine And.intro (⟨rfl, ip⟩) ?_
          rw [ep]
          refine br_t (show ¬ zI (upI (upI (nh h) a 4 (bI b)) 15 6 0) 55 p = bI b by rw [e55 _ _ (by decide) (by decide), z18, bI_inj]; exact q) ?_
          refine And.intro rfl ?_
          refine And.intro (⟨rfl, ip, bI_01 b⟩) ?_
          rw [ep]
          exact ⟨Or.inl rfl, rfl, rfl⟩
        · have f : FrY [(15, 6), (55, 1000)] (nh h) (upI (upI (upI (nh h) a 4 (bI b)) 15 6 0) 55 p (bI b)) := (((FrY.refl _ _).upI (Or.inr k4)).upI (Or.inl rfl)).upI (Or.inl (inP_of (by decide) p))
          have eb : ∀ x i, 65 ≤ x → zI (upI (upI (upI (nh h) a 4 (bI b)) 15 6 0) 55 p (bI b)) x i = if x = a ∧ i = 4 then bI b else zI (nh h) x i := fun x i hx => by
            rw [zI_upI, if_neg (by omega), zI_upI, if_neg (by omega), zI_upI]
            by_cases e1 : x = a
            · by_cases e2 : i = 4
              · rw [if_pos e1, if_pos e2, if_pos ⟨e1, e2⟩]
              · rw [if_pos e1, if_neg e2, if_neg (fun z => e2 z.2), e1]
            · rw [if_neg e1, if_neg (fun z => e1 z.1)]
          refine finY hS f rfl rfl rfl rfl ?_ (by rw [zI_upI, if_neg (by decide), zI_up_self])
          have f55 : ∀ i, zI (upI (upI (upI (nh h) a 4 (bI b)) 15 6 0) 55 p (bI b)) 55 i = if i = p then bI b else zI (nh h) 55 i := fun i => by
            rw [zI_upI, if_pos rfl]
            by_cases e : i = p
            · rw [if_pos e, if_pos e]
            · rw [if_neg e, if_neg e, zI_upI, if_neg (by decide), zI_upI, if_neg (by omega)]
          refine SimP_fl (h := nh h) rfl rfl (f.s hs (by decide) rfl) (f.s hs (by decide) rfl) (f.I hs (by decide) rfl) (f.I hs (by decide) rfl) (f.I hs (by decide) rfl) (f.I hs (by decide) rfl) (f.I hs (by decide) rfl) (f.I hs (by decide) rfl) (fun m m1 m2 x x1 _ => by
            obtain rfl : m = np := nI_inj12 (by omega) c1 (m2.symm.trans c3)
            rw [f55, if_neg (by omega)]) ?_ ⟨np, c1, c2, c3, c4, c5, c6, c7⟩
          intro p' np' n1 n2 n3
          obtain rfl : np' = np := nI_inj12 n1 c1 (n2.symm.trans c2)
          obtain ⟨a', kd', st', hr', gd', hd', pl', y1, y2, y3, y4, y5, y6, y7, y8, y9, y10, y11, y12, y13, y14, y15, y16, y17, y18, y19, y20⟩ := c4 p' n3
          rw [y1]
          refine ⟨fun i i3 i4 => by rw [eb _ _ y2, if_neg (fun z => i4 z.2)], ?_⟩
          by_cases e : p' = p
          · subst e
            have ea : a' = a := y1.symm.trans z1
            refine ⟨gd', b, by rw [eb _ _ y2, if_neg (fun z => absurd z.2 (by decide))]; exact y11, by rw [f.I hs (a := 54) (by decide) rfl]; exact y17, by rw [eb _ _ y2, if_pos ⟨ea, rfl⟩], by rw [f55, if_pos rfl], Or.inl (by rw [ea, z13]; decide)⟩
          · have ea : a' ≠ a := fun z => c7 p' p n3 hp e (by rw [y1, z1, z])
            refine ⟨gd', hd', by rw [eb _ _ y2, if_neg (fun z => ea z.1)]; exact y11, by rw [f.I hs (a := 54) (by decide) rfl]; exact y17, by rw [eb _ _ y2, if_neg (fun z => ea z.1)]; exact y12, by rw [f55, if_neg e]; exact y18, ?_⟩
            rw [y13]
            cases pl' with
            | none => exact Or.inl (by decide)
            | some x => exact Or.inr (y20 x rfl).2.2
  · refine ⟨.int (-1), nh h, nh h, ?_, ?_, hS, (fin_same hS).2.O⟩
    · refine cc_of 60 rfl rfl ?_
      refine And.intro ⟨rfl, rfl⟩ (And.intro rfl (Exists.intro _ (Exists.intro _ (And.intro (c_isPart hs c1 c2 p) ?_))))
      refine br_f (by first | assumption | (simp (discharger := omega) only [i_lt, i_le, i_eq, bI_tz, decide_eq_false_iff_not, Int32.reduceToInt, nI_toInt, tm1, tm2, tm3, tm4, tm9]; done) | (simp (discharger := omega) only [i_lt, i_le, i_eq, bI_tz, decide_eq_false_iff_not, Int32.reduceToInt, nI_toInt, tm1, tm2, tm3, tm4, tm9]; omega) | omega) ?_
      exact ⟨Or.inl rfl, rfl, rfl⟩
    · refine cc_of 60 rfl rfl ?_
      refine And.intro ⟨rfl, rfl⟩ (And.intro rfl (Exists.intro _ (Exists.intro _ (And.intro (c_noPart hs c1 c3 p) ?_))))
      refine br_f (by first | assumption | (simp (discharger := omega) only [i_lt, i_le, i_eq, bI_tz, decide_eq_false_iff_not, Int32.reduceToInt, nI_toInt, tm1, tm2, tm3, tm4, tm9]; done) | (simp (discharger := omega) only [i_lt, i_le, i_eq, bI_tz, decide_eq_false_iff_not, Int32.reduceToInt, nI_toInt, tm1, tm2, tm3, tm4, tm9]; omega) | omega) ?_
      exact ⟨Or.inl rfl, rfl, rfl⟩
end
