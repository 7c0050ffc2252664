/-! value, today -/
section
variable {sc : Nat × (Nat → Int32)} {h : Hp}
theorem op_value (hS : Sim0 h) (O : OutI h) (x r n e : Int32) : Op4 sc 95 175 [.int x, .int r, .int n, .int e] h := by
  obtain ⟨h, rfl⟩ : ∃ g, h = nh g := ⟨h, (nh_eq hS.1).symm⟩
  have hs := hS.1
  obtain ⟨nc, d1, d2, d3, d4, d5⟩ := hS.2.2.2.1
  have cX := c_isCamp (sc := sc) (h := nh h) hs d1 d2 x
  have cM := c_noCamp (sc := sc) (h := nh h) hs d1 d3 x
  by_cases q1 : 0 ≤ x.toInt ∧ x.toInt < nc
  · rw [decide_eq_true q1] at cX
    rw [decide_eq_false (fun z => z q1)] at cM
    by_cases q2 : 0 ≤ r.toInt ∧ r.toInt < 5
    · by_cases q3 : 1 ≤ n.toInt ∧ n.toInt ≤ 12
      · by_cases q4 : 0 ≤ e.toInt ∧ e.toInt < 2
        · obtain ⟨j, hj, rfl⟩ := i_of q1.1 (n := nc) q1.2 (by omega)
          obtain ⟨r, hr, rfl⟩ := i_of q2.1 (n := 5) q2.2 (by decide)
          obtain ⟨n, hn, rfl⟩ := i_of (a := n) (n := 13) (by omega) (by omega) (by decide)
          obtain ⟨e, he, rfl⟩ := i_of q4.1 (n := 2) q4.2 (by decide)
          rw [nI_toInt (by omega)] at q3
          have H := mkHM hS O d1 d2 d3 hj
          generalize hC : cpO (nh h) j = C at H
          generalize hc : zA (nh h) 2 j = c at H
          obtain ⟨nb, br, K, M, c65⟩ := H.k
          have b := K.b
          have ij : inB (nI j) 3 = true := inB_nI (by omega) (by decide)
          have ej : (nI j).toNatClampNeg = j := nI_clamp (by omega)
          have n216 := six_b (S := qS C) b.2.2.2.1
          have pre : ∀ (rr : Option Value) (g : Hp), Rn sc (mtk 95) 39 [some (.ref 1), some (.int (nI j)), some (.int (nI r)), some (.int (nI n)), some (.int (nI e))] [] (nh h) rr g → Cc sc 95 [.ref 1, .int (nI j), .int (nI r), .int (nI n), .int (nI e)] (nh h) rr g := fun rr g R => by
            have cd := c_isDay (sc := sc) (h := nh h) (nI n)
            rw [nI_toInt (by omega), decide_eq_true (by omega)] at cd
            refine cc_cut [39] 40 rfl rfl ?_
            refine And.intro ⟨rfl, rfl⟩ (And.intro rfl (Exists.intro _ (Exists.intro _ (And.intro (cX) ?_))))
            refine br_f (by decide) ?_
            refine br_f (show ¬ (nI r < 0) by first | assumption | (simp (discharger := omega) only [i_lt, i_le, i_eq, bI_tz, decide_eq_false_iff_not, Int32.reduceToInt, nI_toInt, tm1, tm2, tm3, tm4, tm9]; done) | (simp (discharger := omega) only [i_lt, i_le, i_eq, bI_tz, decide_eq_false_iff_not, Int32.reduceToInt, nI_toInt, tm1, tm2, tm3, tm4, tm9]; omega) | omega) ?_
            refine br_f (show ¬ (5 ≤ nI r) by first | assumption | (simp (discharger := omega) only [i_lt, i_le, i_eq, bI_tz, decide_eq_false_iff_not, Int32.reduceToInt, nI_toInt, tm1, tm2, tm3, tm4, tm9]; done) | (simp (discharger := omega) only [i_lt, i_le, i_eq, bI_tz, decide_eq_false_iff_not, Int32.reduceToInt, nI_toInt, tm1, tm2, tm3, tm4, tm9]; omega) | omega) ?_
            refine And.intro rfl (And.intro rfl (Exists.intro _ (Exists.intro _ (And.intro (cd) ?_))))
            refine br_f (by decide) ?_
            refine br_f (show ¬ (nI e < 0) by first | assumption | (simp (discharger := omega) only [i_lt, i_le, i_eq, bI_tz, decide_eq_false_iff_not, Int32.reduceToInt, nI_toInt, tm1, tm2, tm3, tm4, tm9]; done) | (simp (discharger := omega) only [i_lt, i_le, i_eq, bI_tz, decide_eq_false_iff_not, Int32.reduceToInt, nI_toInt, tm1, tm2, tm3, tm4, tm9]; omega) | omega) ?_
            refine br_t (show nI e ≤ 1 by first | assumption | (simp (discharger := omega) only [i_lt, i_le, i_eq, bI_tz, decide_eq_false_iff_not, Int32.reduceToInt, nI_toInt, tm1, tm2, tm3, tm4, tm9]; done) | (simp (discharger := omega) only [i_lt, i_le, i_eq, bI_tz, decide_eq_false_iff_not, Int32.reduceToInt, nI_toInt, tm1, tm2, tm3, tm4, tm9]; omega) | omega) ?_
            exact R
          have preM : ∀ (g0 : Hp) (rr : Option Value) (g : Hp), HM g0 C j c nc → Rn sc (mtk 175) 42 [some (.ref 39), some (.int (nI j)), some (.int (nI r)), some (.int (nI n)), some (.int (nI e))] [] (nh g0) rr g → Cc sc 175 [.ref 39, .int (nI j), .int (nI r), .int (nI n), .int (nI e)] g0 rr g := fun g0 rr g H0 R => by
            have cd := c_isSpan (sc := sc) (h := nh g0) (nI n)
            rw [nI_toInt (by omega), decide_eq_true (by omega)] at cd
            have cm := c_noCamp (sc := sc) (h := nh g0) (shp_nh H0.1.1) H0.2.2.1 (show zI g0 39 1 = _ from H0.2.2.2.2.1) (nI j)
            refine cc_nh (F := fun _ => g) H0.1.1 (cc_cut [42] 40 rfl rfl ?_)
            refine And.intro ⟨rfl, rfl⟩ (And.intro rfl (Exists.intro _ (Exists.intro _ (And.intro (cm) ?_))))
            refine br_f (by rw [bI_z]; exact fun z => z (decide_eq_false (fun y => y q1))) ?_
            refine And.intro rfl (And.intro rfl (Exists.intro _ (Exists.intro _ (And.intro (c_inN (nI r) (m := 4) (n := 4) (by decide)) ?_))))
            refine br_f (by first | assumption | (simp (discharger := omega) only [i_lt, i_le, i_eq, bI_tz, decide_eq_false_iff_not, Int32.reduceToInt, nI_toInt, tm1, tm2, tm3, tm4, tm9]; done) | (simp (discharger := omega) only [i_lt, i_le, i_eq, bI_tz, decide_eq_false_iff_not, Int32.reduceToInt, nI_toInt, tm1, tm2, tm3, tm4, tm9]; omega) | omega) ?_
            refine And.intro rfl (And.intro rfl (Exists.intro _ (Exists.intro _ (And.intro (cd) ?_))))
            refine br_f (by decide) ?_
            refine And.intro rfl (And.intro rfl (Exists.intro _ (Exists.intro _ (And.intro (c_inN (nI e) (m := 1) (n := 1) (by decide)) ?_))))
            refine br_t (by first | assumption | (simp (discharger := omega) only [i_lt, i_le, i_eq, bI_tz, decide_eq_false_iff_not, Int32.reduceToInt, nI_toInt, tm1, tm2, tm3, tm4, tm9]; done) | (simp (discharger := omega) only [i_lt, i_le, i_eq, bI_tz, decide_eq_false_iff_not, Int32.reduceToInt, nI_toInt, tm1, tm2, tm3, tm4, tm9]; omega) | omega) ?_
            exact R
          by_cases r4 : r = 4
          · subst r4
            obtain ⟨F, G, C1, l1⟩ := c_neverMoved (sc := sc) (h := nh h) (C := C) (n := n) (e := e) hs K (by omega) (by omega)
            have m1 : Mid (nh h) (wIJ (upA (nh h) 6 0 0) F G) := by
              refine ⟨shp_6 hs 0, ⟨rfl, rfl, rfl, fun a _ h2 _ => va_up_ne _ _ h2, fun a i hn => ?_⟩, Or.inl rfl, ?_, l1.1 19 (by decide) (by decide) (by decide) (by decide) (by decide), l1.1 20 (by decide) (by decide) (by decide) (by decide) (by decide)⟩
              · show F a i = _
                rw [l1.1 a (fun z => hn (by unfold Scr; omega)) (fun z => hn (by unfold Scr; omega)) (fun z => hn (by unfold Scr; omega)) (fun z => hn (by unfold Scr; omega)) (fun z => hn (by unfold Scr; omega))]
              · show F 15 6 = _
                rw [l1.1 15 (by decide) (by decide) (by decide) (by decide) (by decide)]
            have H1 := H.mid m1
            generalize hg1 : wIJ (upA (nh h) 6 0 0) F G = g1 at *
            obtain ⟨nb1, br1, K1, M1, -⟩ := H1.k
            obtain ⟨G2, C2, y1, y2⟩ := c_layAll4 (sc := sc) (h := g1) (F := zI g1) (G := zJ g1) (C := C) (x := j) (e := e) (n := n) H1.1.1 M1 (by omega) (by omega)
            have m2 := mid_J (G := G2) H1 (fun a h1 _ h3 _ => y1 a h1 h3)
            have H2 := H1.mid m2
            obtain ⟨c1, s1, s2⟩ := H2.st (sc := sc)
            have fl := mnF_le (qL C) (fun s => qV C s 0) (qS C)
            refine op4_of hS (pre (some (.long (lN (Ln C e n (mnF (qL C) (fun s => qV C s 0) (qS C)))))) g1 ?_) (preM g1 (some (.long (lN (Ln C e n (mnF (qL C) (fun s => qV C s 0) (qS C)))))) (wIJ (nh g1) (zI g1) G2) H1 ?_) (m1.trans m2)
            · refine bk_sound (cuts := []) 30 _ _ _ _ ?_
              refine br_f (by exact fun z => z rfl) ?_
              refine And.intro rfl ?_
              refine And.intro rfl ?_
              refine And.intro (⟨rfl, ij⟩) ?_
              rw [ej, show zA (nh h) (zA (nh h) 1 0) j = c from hc]
              refine And.intro ⟨rfl, rfl⟩ (And.intro rfl (Exists.intro _ (Exists.intro _ (And.intro (C1) ?_))))
              exact ⟨trivial, rfl, rfl⟩
            · obtain ⟨k1, k2, k3, k4, k5, k6, k7⟩ := id M1
              obtain ⟨nb2, br2, D2⟩ := H2.cd
              have cr := c_crM (sc := sc) (h := g1) (F := zI g1) (G := G2) (C := C) (x := j) M1 (g := ixN T6 (g0C C) (qS C)) (by omega) (l := qL C) (by omega)
              rw [show dgN (qS C) T6 Z6 (ixN T6 (g0C C) (qS C)) = g0C C from s2] at cr
              have eg : mnF (qL C) (g0C C) (qS C) = mnF (qL C) (fun s => qV C s 0) (qS C) := mnF_congr _ (fun s hs => if_pos hs)
              rw [eg] at cr
              refine bk_sound (cuts := []) 40 _ _ _ _ ?_
              refine And.intro ⟨rfl, rfl⟩ (And.intro rfl (Exists.intro _ (Exists.intro _ (And.intro (C2) ?_))))
              refine And.intro rfl ?_
              refine br_f (by exact fun z => z rfl) ?_
              refine And.intro ⟨rfl, rfl⟩ (And.intro rfl (Exists.intro _ (Exists.intro _ (And.intro (c1) ?_))))
              refine And.intro rfl ?_
              refine And.intro (⟨rfl, ij⟩) ?_
              rw [ej, show zI (wIJ (nh g1) (zI g1) G2) (zA (wIJ (nh g1) (zI g1) G2) 39 2) j = nI (qL C) from k3]
              refine And.intro ⟨rfl, rfl⟩ (And.intro rfl (Exists.intro _ (Exists.intro _ (And.intro (cr) ?_))))
              refine And.intro (⟨rfl, inB_nI (n := 216) (by omega) (by decide)⟩) ?_
              rw [nI_clamp (by omega)]
              exact ⟨trivial, congrArg (fun v => some (Value.long v)) (y2 _ (by omega)), rfl⟩
          · obtain ⟨F, G, sp, C1, l1, l2, l3, m1⟩ := H.look (sc := sc) (s0 := 0) (n := n) (rule := r) (e := e) (by omega) (by omega) (by omega) (by omega) (by decide)
            have cw := c_worthNow (sc := sc) (h := upA (nh h) 6 0 c) (F := F) (G := G) (CK_6 K c) l3 rfl l2
            rw [nh_eq (shp_6 hs c)] at cw
            have H1 := H.mid m1
            generalize hg1 : wIJ (upA (nh h) 6 0 c) F G = g1 at m1 H1
            obtain ⟨G2, C2, m2, y1, y2⟩ := H1.all (sc := sc) (n := n) (rule := r) (e := e) (by omega) (by omega) (by omega) (by omega)
            have H2 := H1.mid m2
            obtain ⟨c1, s1, s2⟩ := H2.st (sc := sc)
            refine op4_of hS (pre (some (.long (lN (Vd C r e n n (g0C C))))) g1 ?_) (preM g1 (some (.long (lN (Vd C r e n n (g0C C))))) (wIJ (nh g1) (zI g1) G2) H1 ?_) (m1.trans m2)
            · rw [← hg1]
              refine bk_sound (cuts := []) 40 _ _ _ _ ?_
              refine br_t (fun z => r4 ((nI_eq (a := r) (b := 4) (by omega) (by omega)).mp z)) ?_
              refine And.intro rfl ?_
              refine And.intro rfl ?_
              refine And.intro (⟨rfl, ij⟩) ?_
              rw [ej, show zA (nh h) (zA (nh h) 1 0) j = c from hc]
              refine And.intro ⟨rfl, rfl⟩ (And.intro rfl (Exists.intro _ (Exists.intro _ (And.intro (C1) ?_))))
              refine And.intro rfl ?_
              refine And.intro ⟨rfl, rfl⟩ (And.intro rfl (Exists.intro _ (Exists.intro _ (And.intro (cw) ?_))))
              exact ⟨trivial, rfl, rfl⟩
            · have C2' : Cc sc 173 [.ref 39, .int (nI j), .int (nI r), .int (nI n), .int (nI e)] (nh g1) none (wIJ (nh g1) (zI g1) G2) := by rw [nh_eq H1.1.1] at C2 ⊢; exact C2
              refine bk_sound (cuts := []) 40 _ _ _ _ ?_
              refine And.intro ⟨rfl, rfl⟩ (And.intro rfl (Exists.intro _ (Exists.intro _ (And.intro (C2') ?_))))
              refine And.intro rfl ?_
              refine br_t (fun z => r4 ((nI_eq (a := r) (b := 4) (by omega) (by omega)).mp z)) ?_
              refine And.intro ⟨rfl, rfl⟩ (And.intro rfl (Exists.intro _ (Exists.intro _ (And.intro (c1) ?_))))
              refine And.intro (⟨rfl, inB_nI (n := 216) (by omega) (by decide)⟩) ?_
              rw [nI_clamp (by omega)]
              exact ⟨trivial, congrArg (fun v => some (Value.long v)) (show G2 47 _ = _ by rw [y1 _ s1, s2]), rfl⟩
        · refine op4_of (r := .long (-9223372036854775808)) hS (h1 := nh h) (h2 := nh h) ?_ ?_ (Mid.refl hS O)
          · refine cc_of 40 rfl rfl ?_
            refine And.intro ⟨rfl, rfl⟩ (And.intro rfl (Exists.intro _ (Exists.intro _ (And.intro (cX) ?_))))
            refine br_f (by decide) ?_
            refine br_f (show ¬ (r < 0) by first | assumption | (simp (discharger := omega) only [i_lt, i_le, i_eq, bI_tz, decide_eq_false_iff_not, Int32.reduceToInt, nI_toInt, tm1, tm2, tm3, tm4, tm9]; done) | (simp (discharger := omega) only [i_lt, i_le, i_eq, bI_tz, decide_eq_false_iff_not, Int32.reduceToInt, nI_toInt, tm1, tm2, tm3, tm4, tm9]; omega) | omega) ?_
            refine br_f (show ¬ (5 ≤ r) by first | assumption | (simp (discharger := omega) only [i_lt, i_le, i_eq, bI_tz, decide_eq_false_iff_not, Int32.reduceToInt, nI_toInt, tm1, tm2, tm3, tm4, tm9]; done) | (simp (discharger := omega) only [i_lt, i_le, i_eq, bI_tz, decide_eq_false_iff_not, Int32.reduceToInt, nI_toInt, tm1, tm2, tm3, tm4, tm9]; omega) | omega) ?_
            refine And.intro rfl (And.intro rfl (Exists.intro _ (Exists.intro _ (And.intro (c_isDay n) ?_))))
            refine br_f (by rw [bI_z]; exact fun z => by rw [decide_eq_true q3] at z; cases z) ?_
            by_cases w : e.toInt < 0
            · refine br_t (show e < 0 by first | assumption | (simp (discharger := omega) only [i_lt, i_le, i_eq, bI_tz, decide_eq_false_iff_not, Int32.reduceToInt, nI_toInt, tm1, tm2, tm3, tm4, tm9]; done) | (simp (discharger := omega) only [i_lt, i_le, i_eq, bI_tz, decide_eq_false_iff_not, Int32.reduceToInt, nI_toInt, tm1, tm2, tm3, tm4, tm9]; omega) | omega) ?_
              exact ⟨trivial, rfl, rfl⟩
            · refine br_f (show ¬ (e < 0) by first | assumption | (simp (discharger := omega) only [i_lt, i_le, i_eq, bI_tz, decide_eq_false_iff_not, Int32.reduceToInt, nI_toInt, tm1, tm2, tm3, tm4, tm9]; done) | (simp (discharger := omega) only [i_lt, i_le, i_eq, bI_tz, decide_eq_false_iff_not, Int32.reduceToInt, nI_toInt, tm1, tm2, tm3, tm4, tm9]; omega) | omega) ?_
              refine br_f (show ¬ (e ≤ 1) by first | assumption | (simp (discharger := omega) only [i_lt, i_le, i_eq, bI_tz, decide_eq_false_iff_not, Int32.reduceToInt, nI_toInt, tm1, tm2, tm3, tm4, tm9]; done) | (simp (discharger := omega) only [i_lt, i_le, i_eq, bI_tz, decide_eq_false_iff_not, Int32.reduceToInt, nI_toInt, tm1, tm2, tm3, tm4, tm9]; omega) | omega) ?_
              exact ⟨trivial, rfl, rfl⟩
          · refine cc_of 40 rfl rfl ?_
            refine And.intro ⟨rfl, rfl⟩ (And.intro rfl (Exists.intro _ (Exists.intro _ (And.intro (cM) ?_))))
            refine br_f (by exact fun z => z rfl) ?_
            refine And.intro rfl (And.intro rfl (Exists.intro _ (Exists.intro _ (And.intro (c_inN r (m := 4) (n := 4) (by decide)) ?_))))
            refine br_f (by rw [bI_z, decide_eq_false_iff_not]; exact fun z => z ⟨q2.1, by omega⟩) ?_
            refine And.intro rfl (And.intro rfl (Exists.intro _ (Exists.intro _ (And.intro (c_isSpan n) ?_))))
            refine br_f (by rw [bI_z, decide_eq_false_iff_not]; exact fun z => z q3) ?_
            refine And.intro rfl (And.intro rfl (Exists.intro _ (Exists.intro _ (And.intro (c_inN e (m := 1) (n := 1) (by decide)) ?_))))
            refine br_f (by rw [bI_z, decide_eq_false_iff_not]; exact fun z => z (fun y => q4 ⟨y.1, by omega⟩)) ?_
            refine And.intro rfl (And.intro rfl (Exists.intro _ (Exists.intro _ (And.intro (c_lost) ?_))))
            exact ⟨trivial, rfl, rfl⟩
      · refine op4_of (r := .long (-9223372036854775808)) hS (h1 := nh h) (h2 := nh h) ?_ ?_ (Mid.refl hS O)
        · refine cc_of 40 rfl rfl ?_
          refine And.intro ⟨rfl, rfl⟩ (And.intro rfl (Exists.intro _ (Exists.intro _ (And.intro (cX) ?_))))
          refine br_f (by decide) ?_
          refine br_f (show ¬ (r < 0) by first | assumption | (simp (discharger := omega) only [i_lt, i_le, i_eq, bI_tz, decide_eq_false_iff_not, Int32.reduceToInt, nI_toInt, tm1, tm2, tm3, tm4, tm9]; done) | (simp (discharger := omega) only [i_lt, i_le, i_eq, bI_tz, decide_eq_false_iff_not, Int32.reduceToInt, nI_toInt, tm1, tm2, tm3, tm4, tm9]; omega) | omega) ?_
          refine br_f (show ¬ (5 ≤ r) by first | assumption | (simp (discharger := omega) only [i_lt, i_le, i_eq, bI_tz, decide_eq_false_iff_not, Int32.reduceToInt, nI_toInt, tm1, tm2, tm3, tm4, tm9]; done) | (simp (discharger := omega) only [i_lt, i_le, i_eq, bI_tz, decide_eq_false_iff_not, Int32.reduceToInt, nI_toInt, tm1, tm2, tm3, tm4, tm9]; omega) | omega) ?_
          refine And.intro rfl (And.intro rfl (Exists.intro _ (Exists.intro _ (And.intro (c_isDay n) ?_))))
          refine br_t (by rw [bI_z]; exact decide_eq_false q3) ?_
          exact ⟨trivial, rfl, rfl⟩
        · refine cc_of 40 rfl rfl ?_
          refine And.intro ⟨rfl, rfl⟩ (And.intro rfl (Exists.intro _ (Exists.intro _ (And.intro (cM) ?_))))
          refine br_f (by exact fun z => z rfl) ?_
          refine And.intro rfl (And.intro rfl (Exists.intro _ (Exists.intro _ (And.intro (c_inN r (m := 4) (n := 4) (by decide)) ?_))))
          refine br_f (by rw [bI_z, decide_eq_false_iff_not]; exact fun z => z ⟨q2.1, by omega⟩) ?_
          refine And.intro rfl (And.intro rfl (Exists.intro _ (Exists.intro _ (And.intro (c_isSpan n) ?_))))
          refine br_t (by rw [bI_z]; exact decide_eq_false q3) ?_
          refine And.intro rfl (And.intro rfl (Exists.intro _ (Exists.intro _ (And.intro (c_lost) ?_))))
          exact ⟨trivial, rfl, rfl⟩
    · refine op4_of (r := .long (-9223372036854775808)) hS (h1 := nh h) (h2 := nh h) ?_ ?_ (Mid.refl hS O)
      · refine cc_of 40 rfl rfl ?_
        refine And.intro ⟨rfl, rfl⟩ (And.intro rfl (Exists.intro _ (Exists.intro _ (And.intro (cX) ?_))))
        refine br_f (by decide) ?_
        by_cases w : r.toInt < 0
        · refine br_t (show r < 0 by first | assumption | (simp (discharger := omega) only [i_lt, i_le, i_eq, bI_tz, decide_eq_false_iff_not, Int32.reduceToInt, nI_toInt, tm1, tm2, tm3, tm4, tm9]; done) | (simp (discharger := omega) only [i_lt, i_le, i_eq, bI_tz, decide_eq_false_iff_not, Int32.reduceToInt, nI_toInt, tm1, tm2, tm3, tm4, tm9]; omega) | omega) ?_
          exact ⟨trivial, rfl, rfl⟩
        · refine br_f (show ¬ (r < 0) by first | assumption | (simp (discharger := omega) only [i_lt, i_le, i_eq, bI_tz, decide_eq_false_iff_not, Int32.reduceToInt, nI_toInt, tm1, tm2, tm3, tm4, tm9]; done) | (simp (discharger := omega) only [i_lt, i_le, i_eq, bI_tz, decide_eq_false_iff_not, Int32.reduceToInt, nI_toInt, tm1, tm2, tm3, tm4, tm9]; omega) | omega) ?_
          refine br_t (show 5 ≤ r by first | assumption | (simp (discharger := omega) only [i_lt, i_le, i_eq, bI_tz, decide_eq_false_iff_not, Int32.reduceToInt, nI_toInt, tm1, tm2, tm3, tm4, tm9]; done) | (simp (discharger := omega) only [i_lt, i_le, i_eq, bI_tz, decide_eq_false_iff_not, Int32.reduceToInt, nI_toInt, tm1, tm2, tm3, tm4, tm9]; omega) | omega) ?_
          exact ⟨trivial, rfl, rfl⟩
      · refine cc_of 40 rfl rfl ?_
        refine And.intro ⟨rfl, rfl⟩ (And.intro rfl (Exists.intro _ (Exists.intro _ (And.intro (cM) ?_))))
        refine br_f (by exact fun z => z rfl) ?_
        refine And.intro rfl (And.intro rfl (Exists.intro _ (Exists.intro _ (And.intro (c_inN r (m := 4) (n := 4) (by decide)) ?_))))
        refine br_t (by rw [bI_z]; exact decide_eq_false (fun z => q2 ⟨z.1, by omega⟩)) ?_
        refine And.intro rfl (And.intro rfl (Exists.intro _ (Exists.intro _ (And.intro (c_lost) ?_))))
        exact ⟨trivial, rfl, rfl⟩
  · rw [decide_eq_false q1] at cX
    rw [decide_eq_true q1] at cM
    refine op4_of (r := .long (-9223372036854775808)) hS (h1 := nh h) (h2 := nh h) ?_ ?_ (Mid.refl hS O)
    · refine cc_of 40 rfl rfl ?_
      refine And.intro ⟨rfl, rfl⟩ (And.intro rfl (Exists.intro _ (Exists.intro _ (And.intro (cX) ?_))))
      refine br_t (by rfl) ?_
      exact ⟨trivial, rfl, rfl⟩
    · refine cc_of 40 rfl rfl ?_
      refine And.intro ⟨rfl, rfl⟩ (And.intro rfl (Exists.intro _ (Exists.intro _ (And.intro (cM) ?_))))
      refine br_t (by decide) ?_
      refine And.intro rfl (And.intro rfl (Exists.intro _ (Exists.intro _ (And.intro (c_lost) ?_))))
      exact ⟨trivial, rfl, rfl⟩
theorem Kd_b {C : Cp} {rule e n m : Nat} {g : Nat → Nat} (hL : qL C ≤ 4) : (Kd C rule e n m g).1 ≤ 4 ∧ (Kd C rule e n m g).2 ≤ 1 := by
  have lr : lrR C rule ≤ qL C := by unfold lrR; split <;> omega
  have key : ∀ k (a : Ac), k ≤ 4 → (∀ y, a = some y → y.2.1 ≤ 4 ∧ y.2.2 ≤ 1) → ∀ y, dayF (trC rule) rule (canD C rule g) (fun k z => vlK C e (n - m) (Vd C rule e n m) k z g) k a = some y → y.2.1 ≤ 4 ∧ y.2.2 ≤ 1 := by
    have sa : ∀ k z w (a : Ac), k ≤ 4 → z ≤ 1 → (∀ y, a = some y → y.2.1 ≤ 4 ∧ y.2.2 ≤ 1) → ∀ y, stA rule k z (canD C rule g) w a = some y → y.2.1 ≤ 4 ∧ y.2.2 ≤ 1 := fun k z w a hk hz ha y hy => by
      unfold stA at hy
      split at hy
      · cases hy
        exact ⟨hk, hz⟩
      · exact ha y hy
    have s2 : ∀ k (a : Ac), k ≤ 4 → (∀ y, a = some y → y.2.1 ≤ 4 ∧ y.2.2 ≤ 1) → ∀ y, st2A (trC rule) rule (canD C rule g) (fun k z => vlK C e (n - m) (Vd C rule e n m) k z g) k a = some y → y.2.1 ≤ 4 ∧ y.2.2 ≤ 1 := fun k a hk ha => by
      have h1 : ∀ y, (if trC rule k 0 = true then stA rule k 0 (canD C rule g) (vlK C e (n - m) (Vd C rule e n m) k 0 g) a else a) = some y → y.2.1 ≤ 4 ∧ y.2.2 ≤ 1 := by
        split
        · exact sa k 0 _ a hk (by omega) ha
        · exact ha
      show ∀ y, (if trC rule k 1 = true then stA rule k 1 (canD C rule g) (vlK C e (n - m) (Vd C rule e n m) k 1 g) (if trC rule k 0 = true then stA rule k 0 (canD C rule g) (vlK C e (n - m) (Vd C rule e n m) k 0 g) a else a) else (if trC rule k 0 = true then stA rule k 0 (canD C rule g) (vlK C e (n - m) (Vd C rule e n m) k 0 g) a else a)) = some y → _
      split
      · exact sa k 1 _ _ hk (by omega) h1
      · exact h1
    intro k
    induction k with
    | zero => exact fun a hk ha => s2 0 a hk ha
    | succ k ih => exact fun a hk ha => ih _ (by omega) (s2 (k + 1) a hk ha)
  unfold Kd
  cases hd : dayF (trC rule) rule (canD C rule g) (fun k z => vlK C e (n - m) (Vd C rule e n m) k z g) (lrR C rule) none with
  | none => exact ⟨by show 0 ≤ 4; omega, by show (if 0 = 0 then 0 else 0) ≤ 1; decide⟩
  | some y =>
    have := key (lrR C rule) none (by omega) (fun y hy => by cases hy) y hd
    refine ⟨this.1, ?_⟩
    show (if y.2.1 = 0 then 0 else y.2.2) ≤ 1
    split
    · omega
    · exact this.2
theorem op_today (hS : Sim0 h) (O : OutI h) (x n w : Int32) : Op4 sc 96 176 [.int x, .int n, .int w] h := by
  obtain ⟨h, rfl⟩ : ∃ g, h = nh g := ⟨h, (nh_eq hS.1).symm⟩
  have hs := hS.1
  obtain ⟨nc, d1, d2, d3, d4, d5⟩ := hS.2.2.2.1
  have cX := c_isCamp (sc := sc) (h := nh h) hs d1 d2 x
  have cM := c_noCamp (sc := sc) (h := nh h) hs d1 d3 x
  by_cases q1 : 0 ≤ x.toInt ∧ x.toInt < nc
  · rw [decide_eq_true q1] at cX
    rw [decide_eq_false (fun z => z q1)] at cM
    by_cases q3 : 1 ≤ n.toInt ∧ n.toInt ≤ 12
    · by_cases q4 : 0 ≤ w.toInt ∧ w.toInt < 2
      · obtain ⟨j, hj, rfl⟩ := i_of q1.1 (n := nc) q1.2 (by omega)
        obtain ⟨n, hn, rfl⟩ := i_of (a := n) (n := 13) (by omega) (by omega) (by decide)
        obtain ⟨w, hw, rfl⟩ := i_of q4.1 (n := 2) q4.2 (by decide)
        rw [nI_toInt (by omega)] at q3
        have H := mkHM hS O d1 d2 d3 hj
        generalize hC : cpO (nh h) j = C at H
        generalize hc : zA (nh h) 2 j = c at H
        obtain ⟨nb, br, K, M, c65⟩ := H.k
        have b := K.b
        have ij : inB (nI j) 3 = true := inB_nI (by omega) (by decide)
        have ej : (nI j).toNatClampNeg = j := nI_clamp (by omega)
        have n216 := six_b (S := qS C) b.2.2.2.1
        have kb := Kd_b (C := C) (rule := 0) (e := 0) (n := n) (m := n - 1) (g := g0C C) b.2.1
        obtain ⟨F, G, sp, C1, l1, l2, l3, m1⟩ := H.look (sc := sc) (s0 := 0) (n := n) (rule := 0) (e := 0) (by omega) (by omega) (by omega) (by omega) (by decide)
        have cw := c_choiceNow (sc := sc) (h := upA (nh h) 6 0 c) (F := F) (G := G) (CK_6 K c) l3 rfl l2
        rw [nh_eq (shp_6 hs c)] at cw
        have H1 := H.mid m1
        generalize hg1 : wIJ (upA (nh h) 6 0 c) F G = g1 at m1 H1
        obtain ⟨G2, C2, m2, y1, y2⟩ := H1.all (sc := sc) (n := n) (rule := 0) (e := 0) (by omega) (by omega) (by omega) (by omega)
        have H2 := H1.mid m2
        obtain ⟨c1, s1, s2⟩ := H2.st (sc := sc)
        generalize hk : (Kd C 0 0 n (n - 1) (g0C C)).1 = kk at *
        generalize hz : (Kd C 0 0 n (n - 1) (g0C C)).2 = zz at *
        have cd := c_isDay (sc := sc) (h := nh h) (nI n)
        rw [nI_toInt (by omega), decide_eq_true (by omega)] at cd
        have cs := c_isSpan (sc := sc) (h := nh g1) (nI n)
        rw [nI_toInt (by omega), decide_eq_true (by omega)] at cs
        have cm := c_noCamp (sc := sc) (h := nh g1) (shp_nh H1.1.1) H1.2.2.1 (show zI g1 39 1 = _ from H1.2.2.2.2.1) (nI j)
        have C2' : Cc sc 173 [.ref 39, .int (nI j), .int (nI 0), .int (nI n), .int (nI 0)] (nh g1) none (wIJ (nh g1) (zI g1) G2) := by rw [nh_eq H1.1.1] at C2 ⊢; exact C2
        have g48 : G2 48 (ixN T6 (g0C C) (qS C)) = lN (10 * kk + zz) := by
          have := y2 _ s1
          rw [s2, hk, hz] at this
          exact this
        refine op4_of (r := .int (nI (if w = 0 then kk else zz))) hS (h1 := g1) (h2 := wIJ (nh g1) (zI g1) G2) ?_ ?_ (m1.trans m2)
        · rw [← hg1]
          refine cc_of 60 rfl rfl ?_
          refine And.intro ⟨rfl, rfl⟩ (And.intro rfl (Exists.intro _ (Exists.intro _ (And.intro (cX) ?_))))
          refine br_t (by decide) ?_
          refine And.intro rfl (And.intro rfl (Exists.intro _ (Exists.intro _ (And.intro (cd) ?_))))
          refine br_f (by decide) ?_
          refine br_f (show ¬ (nI w < 0) by first | assumption | (simp (discharger := omega) only [i_lt, i_le, i_eq, bI_tz, decide_eq_false_iff_not, Int32.reduceToInt, nI_toInt, tm1, tm2, tm3, tm4, tm9]; done) | (simp (discharger := omega) only [i_lt, i_le, i_eq, bI_tz, decide_eq_false_iff_not, Int32.reduceToInt, nI_toInt, tm1, tm2, tm3, tm4, tm9]; omega) | omega) ?_
          refine br_t (show nI w ≤ 1 by first | assumption | (simp (discharger := omega) only [i_lt, i_le, i_eq, bI_tz, decide_eq_false_iff_not, Int32.reduceToInt, nI_toInt, tm1, tm2, tm3, tm4, tm9]; done) | (simp (discharger := omega) only [i_lt, i_le, i_eq, bI_tz, decide_eq_false_iff_not, Int32.reduceToInt, nI_toInt, tm1, tm2, tm3, tm4, tm9]; omega) | omega) ?_
          refine And.intro rfl ?_
          refine And.intro rfl ?_
          refine And.intro (⟨rfl, ij⟩) ?_
          rw [ej, show zA (nh h) (zA (nh h) 1 0) j = c from hc]
          refine And.intro ⟨rfl, rfl⟩ (And.intro rfl (Exists.intro _ (Exists.intro _ (And.intro (C1) ?_))))
          refine And.intro rfl ?_
          refine And.intro ⟨rfl, rfl⟩ (And.intro rfl (Exists.intro _ (Exists.intro _ (And.intro (cw) ?_))))
          obtain rfl | rfl : w = 0 ∨ w = 1 := by omega
          · refine br_f (by exact fun z => z rfl) ?_
            refine And.intro (by decide) ?_
            refine ⟨Or.inl rfl, ?_, rfl⟩
            show some (Value.int (nI (2 * kk + zz) / 2)) = some (Value.int (nI kk))
            rw [show (2 : Int32) = nI 2 from rfl, pk_div (by omega) (by decide) (by decide), show (2 * kk + zz) / 2 = kk by omega]
          · refine br_t (by decide) ?_
            refine And.intro (by decide) ?_
            refine ⟨Or.inl rfl, ?_, rfl⟩
            show some (Value.int (nI (2 * kk + zz) - nI (2 * kk + zz) / 2 * 2)) = some (Value.int (nI zz))
            rw [show (2 : Int32) = nI 2 from rfl, pk_rem (by omega) (by decide) (by decide), show (2 * kk + zz) % 2 = zz by omega]
        · refine cc_nh (F := fun _ => wIJ (nh g1) (zI g1) G2) H1.1.1 (cc_of 60 rfl rfl ?_)
          refine And.intro ⟨rfl, rfl⟩ (And.intro rfl (Exists.intro _ (Exists.intro _ (And.intro (cm) ?_))))
          refine br_t (by rw [bI_z]; exact decide_eq_false (fun y => y q1)) ?_
          refine And.intro rfl (And.intro rfl (Exists.intro _ (Exists.intro _ (And.intro (cs) ?_))))
          refine br_f (by decide) ?_
          refine And.intro rfl (And.intro rfl (Exists.intro _ (Exists.intro _ (And.intro (c_inN (nI w) (m := 1) (n := 1) (by decide)) ?_))))
          refine br_t (by first | assumption | (simp (discharger := omega) only [i_lt, i_le, i_eq, bI_tz, decide_eq_false_iff_not, Int32.reduceToInt, nI_toInt, tm1, tm2, tm3, tm4, tm9]; done) | (simp (discharger := omega) only [i_lt, i_le, i_eq, bI_tz, decide_eq_false_iff_not, Int32.reduceToInt, nI_toInt, tm1, tm2, tm3, tm4, tm9]; omega) | omega) ?_
          refine And.intro ⟨rfl, rfl⟩ (And.intro rfl (Exists.intro _ (Exists.intro _ (And.intro (C2') ?_))))
          refine And.intro rfl ?_
          refine And.intro ⟨rfl, rfl⟩ (And.intro rfl (Exists.intro _ (Exists.intro _ (And.intro (c1) ?_))))
          refine And.intro (⟨rfl, inB_nI (n := 216) (by omega) (by decide)⟩) ?_
          rw [nI_clamp (by omega), show zJ (wIJ (nh g1) (zI g1) G2) (zA (wIJ (nh g1) (zI g1) G2) 39 15) (ixN T6 (g0C C) (qS C)) = lN (10 * kk + zz) from g48]
          obtain rfl | rfl : w = 0 ∨ w = 1 := by omega
          · refine br_f (by exact fun z => z rfl) ?_
            refine And.intro (by decide) ?_
            refine ⟨Or.inl rfl, ?_, rfl⟩
            show some (Value.int ((lN (10 * kk + zz)).toInt32 / 10)) = some (Value.int (nI kk))
            rw [lN_i, show (10 : Int32) = nI 10 from rfl, pk_div (by omega) (by decide) (by decide), show (10 * kk + zz) / 10 = kk by omega]
          · refine br_t (by decide) ?_
            refine And.intro (by decide) ?_
            refine ⟨Or.inl rfl, ?_, rfl⟩
            show some (Value.int ((lN (10 * kk + zz)).toInt32 - (lN (10 * kk + zz)).toInt32 / 10 * 10)) = some (Value.int (nI zz))
            rw [lN_i, show (10 : Int32) = nI 10 from rfl, pk_rem (by omega) (by decide) (by decide), show (10 * kk + zz) % 10 = zz by omega]
      · refine op4_of (r := .int (-2)) hS (h1 := nh h) (h2 := nh h) ?_ ?_ (Mid.refl hS O)
        · refine cc_of 40 rfl rfl ?_
          refine And.intro ⟨rfl, rfl⟩ (And.intro rfl (Exists.intro _ (Exists.intro _ (And.intro (cX) ?_))))
          refine br_t (by decide) ?_
          refine And.intro rfl (And.intro rfl (Exists.intro _ (Exists.intro _ (And.intro (c_isDay n) ?_))))
          refine br_f (by rw [bI_z]; exact fun z => by rw [decide_eq_true q3] at z; cases z) ?_
          by_cases v : w.toInt < 0
          · refine br_t (show w < 0 by first | assumption | (simp (discharger := omega) only [i_lt, i_le, i_eq, bI_tz, decide_eq_false_iff_not, Int32.reduceToInt, nI_toInt, tm1, tm2, tm3, tm4, tm9]; done) | (simp (discharger := omega) only [i_lt, i_le, i_eq, bI_tz, decide_eq_false_iff_not, Int32.reduceToInt, nI_toInt, tm1, tm2, tm3, tm4, tm9]; omega) | omega) ?_
            exact ⟨Or.inl rfl, rfl, rfl⟩
          · refine br_f (show ¬ (w < 0) by first | assumption | (simp (discharger := omega) only [i_lt, i_le, i_eq, bI_tz, decide_eq_false_iff_not, Int32.reduceToInt, nI_toInt, tm1, tm2, tm3, tm4, tm9]; done) | (simp (discharger := omega) only [i_lt, i_le, i_eq, bI_tz, decide_eq_false_iff_not, Int32.reduceToInt, nI_toInt, tm1, tm2, tm3, tm4, tm9]; omega) | omega) ?_
            refine br_f (show ¬ (w ≤ 1) by first | assumption | (simp (discharger := omega) only [i_lt, i_le, i_eq, bI_tz, decide_eq_false_iff_not, Int32.reduceToInt, nI_toInt, tm1, tm2, tm3, tm4, tm9]; done) | (simp (discharger := omega) only [i_lt, i_le, i_eq, bI_tz, decide_eq_false_iff_not, Int32.reduceToInt, nI_toInt, tm1, tm2, tm3, tm4, tm9]; omega) | omega) ?_
            exact ⟨Or.inl rfl, rfl, rfl⟩
        · refine cc_of 40 rfl rfl ?_
          refine And.intro ⟨rfl, rfl⟩ (And.intro rfl (Exists.intro _ (Exists.intro _ (And.intro (cM) ?_))))
          refine br_t (by rfl) ?_
          refine And.intro rfl (And.intro rfl (Exists.intro _ (Exists.intro _ (And.intro (c_isSpan n) ?_))))
          refine br_f (by rw [bI_z, decide_eq_false_iff_not]; exact fun z => z q3) ?_
          refine And.intro rfl (And.intro rfl (Exists.intro _ (Exists.intro _ (And.intro (c_inN w (m := 1) (n := 1) (by decide)) ?_))))
          refine br_f (by rw [bI_z, decide_eq_false_iff_not]; exact fun z => z (fun y => q4 ⟨y.1, by omega⟩)) ?_
          exact ⟨Or.inl rfl, rfl, rfl⟩
    · refine op4_of (r := .int (-2)) hS (h1 := nh h) (h2 := nh h) ?_ ?_ (Mid.refl hS O)
      · refine cc_of 40 rfl rfl ?_
        refine And.intro ⟨rfl, rfl⟩ (And.intro rfl (Exists.intro _ (Exists.intro _ (And.intro (cX) ?_))))
        refine br_t (by decide) ?_
        refine And.intro rfl (And.intro rfl (Exists.intro _ (Exists.intro _ (And.intro (c_isDay n) ?_))))
        refine br_t (by rw [bI_z]; exact decide_eq_false q3) ?_
        exact ⟨Or.inl rfl, rfl, rfl⟩
      · refine cc_of 40 rfl rfl ?_
        refine And.intro ⟨rfl, rfl⟩ (And.intro rfl (Exists.intro _ (Exists.intro _ (And.intro (cM) ?_))))
        refine br_t (by rfl) ?_
        refine And.intro rfl (And.intro rfl (Exists.intro _ (Exists.intro _ (And.intro (c_isSpan n) ?_))))
        refine br_t (by rw [bI_z]; exact decide_eq_false q3) ?_
        exact ⟨Or.inl rfl, rfl, rfl⟩
  · rw [decide_eq_false q1] at cX
    rw [decide_eq_true q1] at cM
    refine op4_of (r := .int (-1)) hS (h1 := nh h) (h2 := nh h) ?_ ?_ (Mid.refl hS O)
    · refine cc_of 40 rfl rfl ?_
      refine And.intro ⟨rfl, rfl⟩ (And.intro rfl (Exists.intro _ (Exists.intro _ (And.intro (cX) ?_))))
      refine br_f (by exact fun z => z rfl) ?_
      exact ⟨Or.inl rfl, rfl, rfl⟩
    · refine cc_of 40 rfl rfl ?_
      refine And.intro ⟨rfl, rfl⟩ (And.intro rfl (Exists.intro _ (Exists.intro _ (And.intro (cM) ?_))))
      refine br_f (by decide) ?_
      exact ⟨Or.inl rfl, rfl, rfl⟩
end
