/-! crate -/
section
variable {sc : Nat × (Nat → Int32)} {h : Hp}
theorem mc_in {C : Cp} {j c nc : Nat} (H : HM h C j c nc) (k : Int32) : Cc sc 139 [.long k.toInt64, .long (-1), .long ((zI h 41 (nI j).toNatClampNeg).toInt64 - 1)] (nh h) (some (.int (bI (decide (-1 ≤ k.toInt ∧ k.toInt < qS C))))) (nh h) := by
  obtain ⟨nb, br, K, M, -⟩ := H.k
  obtain ⟨k1, k2, k3, k4, k5, k6, k7⟩ := id M
  have e1 : ((nI (qS C)).toInt64 - 1).toInt = (qS C : Int) - 1 := by
    rw [l_sub] <;> rw [wide, show (1 : Int64).toInt = 1 by decide, nI_toInt (by omega)] <;> omega
  have := c_in (sc := sc) (h := nh h) k.toInt64 (-1) ((zI h 41 (nI j).toNatClampNeg).toInt64 - 1)
  rw [show zI h 41 (nI j).toNatClampNeg = nI (qS C) by rw [nI_clamp (by omega)]; exact k4, wide, e1, show (-1 : Int64).toInt = -1 by decide] at this
  rw [show zI h 41 (nI j).toNatClampNeg = nI (qS C) by rw [nI_clamp (by omega)]; exact k4]
  have e : (-1 ≤ k.toInt ∧ k.toInt ≤ (qS C : Int) - 1) = (-1 ≤ k.toInt ∧ k.toInt < qS C) := propext ⟨fun q => ⟨q.1, by omega⟩, fun q => ⟨q.1, by omega⟩⟩
  simp only [e] at this
  exact this
theorem it_00 (C : Cp) : ixN T6 (itR C 0) (qS C) = 0 := by
  rw [it_0]
  have : ∀ n, ixN T6 (fun _ => 0) n = 0 := by
    intro n
    induction n with
    | zero => rfl
    | succ n ih =>
      show ixN T6 (fun _ => 0) n + 0 * 6 ^ n = 0
      rw [ih, Nat.zero_mul]
  exact this _
/-- the best crate by the model -/
theorem HM.crate {C : Cp} {j c nc n w : Nat} (H : HM h C j c nc) (hn1 : 1 ≤ n) (hn : n ≤ 12) (hw : w ≤ 30) {k val : Int32} (hk : -1 ≤ k.toInt ∧ k.toInt < qS C) (v1 : k.toInt < 0 → val = nI (wtR C (crF C n w (nC C 5)).1)) (v2 : ∀ s, s < qS C → k = nI s → val = nI (itR C (crF C n w (nC C 5)).1 s)) : ∃ g, Cc sc 179 [.ref 39, .int (nI j), .int (nI w), .int (nI n), .int k] h (some (.int val)) g ∧ Mid h g := by
  have hs := H.1.1
  obtain ⟨nb, br, K, M, -⟩ := H.k
  obtain ⟨k1, k2, k3, k4, k5, k6, k7⟩ := id M
  have b := K.b
  obtain ⟨G, C2, m2, y1, y2⟩ := H.all (sc := sc) (n := n) (rule := 0) (e := 0) hn1 hn (by decide) (by decide)
  have H2 := H.mid m2
  obtain ⟨c1, s1, s2⟩ := H2.st (sc := sc)
  have C2' : Cc sc 173 [.ref 39, .int (nI j), .int (nI 0), .int (nI n), .int (nI 0)] (nh h) none (wIJ (nh h) (zI h) G) := by rw [nh_eq hs] at C2 ⊢; exact C2
  have hv6 : ∀ s, s < qS C → qV C s 0 < 6 := fun s hs => by
    have := (K.v hs (by decide : 0 < 5)).2
    rw [show mxW 0 = 5 from rfl] at this
    omega
  have wl := fun r => wt_le K r
  obtain ⟨f1, f2, f3⟩ := crF_ok (C := C) (n := n) (w := w) hv6 (6 ^ qS C)
  rw [nC_6] at v1 v2
  have n216 := six_b (S := qS C) b.2.2.2.1
  have n1 : 1 ≤ 6 ^ qS C := Nat.pow_pos (by decide)
  have im := it_m (C := C) b.2.2.1 b.2.2.2.1 (r := (crF C n w (6 ^ qS C)).1)
  have KK : ∀ o9 o10 o11 o12 o13 : Option Value, Rn sc (mtk 179) 300 [some (.ref 39), some (.int (nI j)), some (.int (nI w)), some (.int (nI n)), some (.int k), some (.int (nI (6 ^ qS C))), some (.int (nI (ixN T6 (itR C (crF C n w (6 ^ qS C)).1) (qS C)))), some (.int (nI (crF C n w (6 ^ qS C)).2)), some (.int (nI (6 ^ qS C))), o9, o10, o11, o12, o13] [] (wIJ (nh h) (zI h) G) (some (.int val)) (wIJ (nh h) (zI h) G) := by
    intro o9 o10 o11 o12 o13
    by_cases q : k.toInt < 0
    · rw [v1 q, ← f2]
      refine bk_sound (cuts := []) 20 _ _ _ _ ?_
      refine br_f (show ¬ (0 ≤ k) by first | assumption | (simp (discharger := omega) only [i_lt, i_le, i_eq, bI_tz, decide_eq_false_iff_not, Int32.reduceToInt, nI_toInt, tm1, tm2, tm3, tm4, tm9]; done) | (simp (discharger := omega) only [i_lt, i_le, i_eq, bI_tz, decide_eq_false_iff_not, Int32.reduceToInt, nI_toInt, tm1, tm2, tm3, tm4, tm9]; omega) | omega) ?_
      exact ⟨Or.inl rfl, rfl, rfl⟩
    · obtain ⟨s, hsq, rfl⟩ := i_of (a := k) (n := qS C) (by omega) hk.2 (by omega)
      have e := congrFun im.2 s
      rw [dg6 hsq] at e
      rw [v2 s hsq rfl, ← e]
      have p1 : 1 ≤ 6 ^ s := Nat.pow_pos (by decide)
      have p6 := six_b (S := s) (by omega)
      generalize ixN T6 (itR C (crF C n w (6 ^ qS C)).1) (qS C) = i0 at *
      have il : i0 / 6 ^ s ≤ i0 := Nat.div_le_self _ _
      refine bk_sound (cuts := []) 20 _ _ _ _ ?_
      refine br_t (show 0 ≤ nI s from nI_le (a := 0) (by omega) (by omega)) ?_
      refine And.intro rfl (And.intro rfl (Exists.intro _ (Exists.intro _ (And.intro (c_sixes (by omega)) ?_))))
      refine And.intro (fun z => by have := (nI_eq (a := 6 ^ s) (b := 0) (by omega) (by omega)).mp z; omega) ?_
      rw [pk_div (by omega) p1 (by omega)]
      refine And.intro (by decide) ?_
      rw [show nI (i0 / 6 ^ s) - nI (i0 / 6 ^ s) / 6 * 6 = nI (i0 / 6 ^ s % 6) from pk_rem (d := 6) (by omega) (by decide) (by decide)]
      exact ⟨Or.inl rfl, rfl, rfl⟩
  have R := cr_row (sc := sc) (h := h) (F := zI h) (G := G) (n := n) hs M hv6 wl c1 y1 (fun g => H.vb hn g) hw KK (6 ^ qS C) 0 (-9) none none none none none (by omega) (fun _ => rfl) (fun z => absurd z (Nat.lt_irrefl 0))
  rw [show ixN T6 (itR C (crF C n w 0).1) (qS C) = 0 from it_00 C] at R
  have cm := c_noCamp (sc := sc) (h := nh h) (shp_nh hs) H.2.2.1 (show zI h 39 1 = _ from H.2.2.2.2.1) (nI j)
  have ij : inB (nI j) 3 = true := inB_nI k1 (by decide)
  have hj := H.2.2.2.2.2.1
  have cd := c_isSpan (sc := sc) (h := nh h) (nI n)
  rw [nI_toInt (by omega), decide_eq_true (by omega)] at cd
  have c6 := c_sixes (sc := sc) (h := wIJ (nh h) (zI h) G) (s := qS C) (by omega)
  rw [show nI (qS C) = zI h 41 (nI j).toNatClampNeg by rw [nI_clamp (by omega)]; exact k4.symm] at c6
  refine ⟨_, cc_nh (F := fun _ => wIJ (nh h) (zI h) G) hs (cc_cut [82] 60 rfl rfl ?_), m2⟩
  refine And.intro ⟨rfl, rfl⟩ (And.intro rfl (Exists.intro _ (Exists.intro _ (And.intro (cm) ?_))))
  refine br_f (by rw [bI_z]; exact fun z => z (decide_eq_false (fun y => y (by rw [nI_toInt (by omega)]; omega)))) ?_
  refine And.intro rfl ?_
  refine And.intro (⟨rfl, ij⟩) ?_
  refine And.intro rfl (And.intro rfl (Exists.intro _ (Exists.intro _ (And.intro (mc_in H k) ?_))))
  refine br_t (by rw [bI_z, decide_eq_true hk]; decide) ?_
  refine And.intro rfl (And.intro rfl (Exists.intro _ (Exists.intro _ (And.intro (c_inN (nI w) (m := 30) (n := 30) (by decide)) ?_))))
  refine br_f (by rw [bI_z, decide_eq_false_iff_not]; exact fun z => z (by rw [nI_toInt (by omega)]; omega)) ?_
  refine And.intro rfl (And.intro rfl (Exists.intro _ (Exists.intro _ (And.intro (cd) ?_))))
  refine br_t (by decide) ?_
  refine And.intro ⟨rfl, rfl⟩ (And.intro rfl (Exists.intro _ (Exists.intro _ (And.intro (C2') ?_))))
  refine And.intro rfl ?_
  refine And.intro (⟨rfl, ij⟩) ?_
  refine And.intro rfl (And.intro rfl (Exists.intro _ (Exists.intro _ (And.intro (c6) ?_))))
  exact R
theorem op_crate (hS : Sim0 h) (O : OutI h) (x w n k : Int32) : Op4 sc 98 179 [.int x, .int w, .int n, .int k] h := by
  obtain ⟨h, rfl⟩ : ∃ g, h = nh g := ⟨h, (nh_eq hS.1).symm⟩
  have hs := hS.1
  obtain ⟨nc, d1, d2, d3, d4, d5⟩ := hS.2.2.2.1
  have cX := c_isCamp (sc := sc) (h := nh h) hs d1 d2 x
  have cM := c_noCamp (sc := sc) (h := nh h) hs d1 d3 x
  have bad : ∀ v (a : Cc sc 98 [.ref 1, .int x, .int w, .int n, .int k] (nh h) (some (.int v)) (nh h)) (b : Cc sc 179 [.ref 39, .int x, .int w, .int n, .int k] (nh h) (some (.int v)) (nh h)), Op4 sc 98 179 [.int x, .int w, .int n, .int k] (nh h) := fun v a b => op4_of hS a b (Mid.refl hS O)
  by_cases q1 : 0 ≤ x.toInt ∧ x.toInt < nc
  · rw [decide_eq_true q1] at cX
    rw [decide_eq_false (fun z => z q1)] at cM
    obtain ⟨j, hj, rfl⟩ := i_of q1.1 (n := nc) q1.2 (by omega)
    have H := mkHM hS O d1 d2 d3 hj
    generalize hC : cpO (nh h) j = C at H
    generalize hc : zA (nh h) 2 j = c at H
    obtain ⟨nb, br, K, M, c65⟩ := H.k
    have b := K.b
    have ij : inB (nI j) 3 = true := inB_nI (by omega) (by decide)
    have ej : (nI j).toNatClampNeg = j := nI_clamp (by omega)
    have kc : zK (nh h) c = 0 := by
      obtain ⟨k1, k2, k3, k4, -⟩ := K
      exact k4
    have fc : zI (nh h) c 1 = nI (qS C) := (K.f (F := zI (nh h)) (fun _ _ => rfl)).2.1
    have mi := mc_in (sc := sc) H k
    rw [nh_eq hs] at mi
    by_cases q2 : -1 ≤ k.toInt ∧ k.toInt < qS C
    · rw [decide_eq_true q2] at mi
      by_cases q3 : 0 ≤ w.toInt ∧ w.toInt < 31
      · by_cases q4 : 1 ≤ n.toInt ∧ n.toInt ≤ 12
        · obtain ⟨w, hw, rfl⟩ := i_of q3.1 (n := 31) q3.2 (by decide)
          obtain ⟨n, hn, rfl⟩ := i_of (a := n) (n := 13) (by omega) (by omega) (by decide)
          have cd := c_isDay (sc := sc) (h := nh h) (nI n)
          rw [decide_eq_true q4] at cd
          rw [nI_toInt (by omega)] at q4
          obtain ⟨val, v1, v2⟩ : ∃ val : Int32, (k.toInt < 0 → val = nI (wtR C (crF C n w (nC C 5)).1)) ∧ ∀ s, s < qS C → k = nI s → val = nI (itR C (crF C n w (nC C 5)).1 s) := by
            by_cases q : k.toInt < 0
            · exact ⟨_, fun _ => rfl, fun s hs z => by rw [z, nI_toInt (by omega)] at q; omega⟩
            · obtain ⟨s, hsq, rfl⟩ := i_of (a := k) (n := qS C) (by omega) q2.2 (by omega)
              exact ⟨nI (itR C (crF C n w (nC C 5)).1 s), fun z => absurd z q, fun t ht z => by rw [(nI_eq (a := s) (b := t) (by omega) (by omega)).mp z]⟩
          obtain ⟨F, G, sp, C1, l1, l2, l3, m1⟩ := H.look (sc := sc) (s0 := 5) (n := n) (rule := 0) (e := 0) (by omega) (by omega) (by omega) (by omega) (by decide)
          obtain rfl : sp = 5 := by have := l2.2.2.2.2.1; omega
          have H1 := H.mid m1
          have K6 := CK_6 K c
          have cb := c_bestFilled (sc := sc) (h := upA (nh h) 6 0 c) (F := F) (G := G) (w := w) K6 l3 rfl l2 (by omega)
          have hv6 : ∀ s, s < qS C → qV C s 0 < 6 := fun s hs => by
            have := (K.v hs (by decide : 0 < 5)).2
            rw [show mxW 0 = 5 from rfl] at this
            omega
          obtain ⟨f1, f2, f3⟩ := crF_ok (C := C) (n := n) (w := w) hv6 (nC C 5)
          have Q := l2.2.2.2.2.2.2.2.2.2.1
          have n216 := Q.2.1
          have n1 : 1 ≤ nC C 5 := by rw [nC_6]; exact Nat.pow_pos (by decide)
          obtain ⟨kr1, kr2⟩ := row_ok b.2.2.1 b.2.2.2.1 (by omega : (crF C n w (nC C 5)).1 < nC C 5) f1
          have cw := c_weightAdded (sc := sc) (h := upA (nh h) 6 0 c) (F := F) (G := G) K6 l3 rfl Q (r := (crF C n w (nC C 5)).1) kr1 (v := nI (wtR C (crF C n w (nC C 5)).1)) (fun _ => rfl) (fun z => absurd f1 z)
          have ca := fun s (hs : s < qS C) => c_added (sc := sc) (h := upA (nh h) 6 0 c) (F := F) (G := G) K6 l3 rfl Q (i := i0C C + (crF C n w (nC C 5)).1) (s := s) (by omega) hs
          rw [nh_eq (shp_6 hs c)] at cb cw ca
          obtain ⟨g2, CM, m2⟩ := H1.crate (sc := sc) (n := n) (w := w) (by omega) (by omega) (by omega) (k := k) (val := val) q2 v1 v2
          refine op4_of hS (r := .int val) ?_ CM (m1.trans m2)
          generalize i0C C + (crF C n w (nC C 5)).1 = ib at *
          refine cc_of 80 rfl rfl ?_
          refine And.intro ⟨rfl, rfl⟩ (And.intro rfl (Exists.intro _ (Exists.intro _ (And.intro (cX) ?_))))
          refine br_f (by decide) ?_
          refine br_f (show ¬ (k < -1) by first | assumption | (simp (discharger := omega) only [i_lt, i_le, i_eq, bI_tz, decide_eq_false_iff_not, Int32.reduceToInt, nI_toInt, tm1, tm2, tm3, tm4, tm9]; done) | (simp (discharger := omega) only [i_lt, i_le, i_eq, bI_tz, decide_eq_false_iff_not, Int32.reduceToInt, nI_toInt, tm1, tm2, tm3, tm4, tm9]; omega) | omega) ?_
          refine And.intro rfl ?_
          refine And.intro (⟨rfl, ij⟩) ?_
          rw [ej, show zA (nh h) (zA (nh h) 1 0) j = c from hc]
          refine And.intro (show kin 0 (zK (nh h) c) = true by rw [kc]; rfl) ?_
          refine br_t (show k < zI (nh h) c 1 by rw [fc, i_lt, nI_toInt (by omega)]; exact q2.2) ?_
          refine br_f (show ¬ (nI w < 0) by first | assumption | (simp (discharger := omega) only [i_lt, i_le, i_eq, bI_tz, decide_eq_false_iff_not, Int32.reduceToInt, nI_toInt, tm1, tm2, tm3, tm4, tm9]; done) | (simp (discharger := omega) only [i_lt, i_le, i_eq, bI_tz, decide_eq_false_iff_not, Int32.reduceToInt, nI_toInt, tm1, tm2, tm3, tm4, tm9]; omega) | omega) ?_
          refine br_f (show ¬ (30 < nI w) by first | assumption | (simp (discharger := omega) only [i_lt, i_le, i_eq, bI_tz, decide_eq_false_iff_not, Int32.reduceToInt, nI_toInt, tm1, tm2, tm3, tm4, tm9]; done) | (simp (discharger := omega) only [i_lt, i_le, i_eq, bI_tz, decide_eq_false_iff_not, Int32.reduceToInt, nI_toInt, tm1, tm2, tm3, tm4, tm9]; omega) | omega) ?_
          refine And.intro rfl (And.intro rfl (Exists.intro _ (Exists.intro _ (And.intro (cd) ?_))))
          refine br_t (by decide) ?_
          refine And.intro rfl ?_
          refine And.intro rfl ?_
          refine And.intro (⟨rfl, ij⟩) ?_
          rw [ej, show zA (nh h) (zA (nh h) 1 0) j = c from hc]
          refine And.intro ⟨rfl, rfl⟩ (And.intro rfl (Exists.intro _ (Exists.intro _ (And.intro (C1) ?_))))
          refine And.intro rfl ?_
          refine And.intro ⟨rfl, rfl⟩ (And.intro rfl (Exists.intro _ (Exists.intro _ (And.intro (cb) ?_))))
          by_cases q : k.toInt < 0
          · rw [v1 q]
            refine br_f (show ¬ (0 ≤ k) by first | assumption | (simp (discharger := omega) only [i_lt, i_le, i_eq, bI_tz, decide_eq_false_iff_not, Int32.reduceToInt, nI_toInt, tm1, tm2, tm3, tm4, tm9]; done) | (simp (discharger := omega) only [i_lt, i_le, i_eq, bI_tz, decide_eq_false_iff_not, Int32.reduceToInt, nI_toInt, tm1, tm2, tm3, tm4, tm9]; omega) | omega) ?_
            refine And.intro rfl ?_
            refine And.intro ⟨rfl, rfl⟩ (And.intro rfl (Exists.intro _ (Exists.intro _ (And.intro (cw) ?_))))
            exact ⟨Or.inl rfl, rfl, rfl⟩
          · obtain ⟨s, hsq, rfl⟩ := i_of (a := k) (n := qS C) (by omega) q2.2 (by omega)
            refine br_t (show 0 ≤ nI s from nI_le (a := 0) (by omega) (by omega)) ?_
            refine And.intro rfl ?_
            refine And.intro ⟨rfl, rfl⟩ (And.intro rfl (Exists.intro _ (Exists.intro _ (And.intro (ca s hsq) ?_))))
            refine ⟨Or.inl rfl, ?_, rfl⟩
            rw [v2 s hsq rfl, kr2, show gRw C (crF C n w (nC C 5)).1 s = qV C s 0 + itR C (crF C n w (nC C 5)).1 s from if_pos hsq, pk_sub (by omega), Nat.add_sub_cancel_left]
        · refine bad (-2) ?_ ?_
          · refine cc_of 60 rfl rfl ?_
            refine And.intro ⟨rfl, rfl⟩ (And.intro rfl (Exists.intro _ (Exists.intro _ (And.intro (cX) ?_))))
            refine br_f (by decide) ?_
            refine br_f (show ¬ (k < -1) by first | assumption | (simp (discharger := omega) only [i_lt, i_le, i_eq, bI_tz, decide_eq_false_iff_not, Int32.reduceToInt, nI_toInt, tm1, tm2, tm3, tm4, tm9]; done) | (simp (discharger := omega) only [i_lt, i_le, i_eq, bI_tz, decide_eq_false_iff_not, Int32.reduceToInt, nI_toInt, tm1, tm2, tm3, tm4, tm9]; omega) | omega) ?_
            refine And.intro rfl ?_
            refine And.intro (⟨rfl, ij⟩) ?_
            rw [ej, show zA (nh h) (zA (nh h) 1 0) j = c from hc]
            refine And.intro (show kin 0 (zK (nh h) c) = true by rw [kc]; rfl) ?_
            refine br_t (show k < zI (nh h) c 1 by rw [fc, i_lt, nI_toInt (by omega)]; exact q2.2) ?_
            refine br_f (show ¬ (w < 0) by first | assumption | (simp (discharger := omega) only [i_lt, i_le, i_eq, bI_tz, decide_eq_false_iff_not, Int32.reduceToInt, nI_toInt, tm1, tm2, tm3, tm4, tm9]; done) | (simp (discharger := omega) only [i_lt, i_le, i_eq, bI_tz, decide_eq_false_iff_not, Int32.reduceToInt, nI_toInt, tm1, tm2, tm3, tm4, tm9]; omega) | omega) ?_
            refine br_f (show ¬ (30 < w) by first | assumption | (simp (discharger := omega) only [i_lt, i_le, i_eq, bI_tz, decide_eq_false_iff_not, Int32.reduceToInt, nI_toInt, tm1, tm2, tm3, tm4, tm9]; done) | (simp (discharger := omega) only [i_lt, i_le, i_eq, bI_tz, decide_eq_false_iff_not, Int32.reduceToInt, nI_toInt, tm1, tm2, tm3, tm4, tm9]; omega) | omega) ?_
            refine And.intro rfl (And.intro rfl (Exists.intro _ (Exists.intro _ (And.intro (c_isDay n) ?_))))
            refine br_f (by rw [bI_z]; exact fun z => z (decide_eq_false q4)) ?_
            exact ⟨Or.inl rfl, rfl, rfl⟩
          · refine cc_of 60 rfl rfl ?_
            refine And.intro ⟨rfl, rfl⟩ (And.intro rfl (Exists.intro _ (Exists.intro _ (And.intro (cM) ?_))))
            refine br_f (by exact fun z => z rfl) ?_
            refine And.intro rfl ?_
            refine And.intro (⟨rfl, ij⟩) ?_
            refine And.intro rfl (And.intro rfl (Exists.intro _ (Exists.intro _ (And.intro (mi) ?_))))
            refine br_t (by decide) ?_
            refine And.intro rfl (And.intro rfl (Exists.intro _ (Exists.intro _ (And.intro (c_inN w (m := 30) (n := 30) (by decide)) ?_))))
            refine br_f (by rw [bI_z, decide_eq_false_iff_not]; exact fun z => z q3) ?_
            refine And.intro rfl (And.intro rfl (Exists.intro _ (Exists.intro _ (And.intro (c_isSpan n) ?_))))
            refine br_f (by rw [bI_z]; exact fun z => z (decide_eq_false q4)) ?_
            exact ⟨Or.inl rfl, rfl, rfl⟩
      · refine bad (-2) ?_ ?_
        · refine cc_of 60 rfl rfl ?_
          refine And.intro ⟨rfl, rfl⟩ (And.intro rfl (Exists.intro _ (Exists.intro _ (And.intro (cX) ?_))))
          refine br_f (by decide) ?_
          refine br_f (show ¬ (k < -1) by first | assumption | (simp (discharger := omega) only [i_lt, i_le, i_eq, bI_tz, decide_eq_false_iff_not, Int32.reduceToInt, nI_toInt, tm1, tm2, tm3, tm4, tm9]; done) | (simp (discharger := omega) only [i_lt, i_le, i_eq, bI_tz, decide_eq_false_iff_not, Int32.reduceToInt, nI_toInt, tm1, tm2, tm3, tm4, tm9]; omega) | omega) ?_
          refine And.intro rfl ?_
          refine And.intro (⟨rfl, ij⟩) ?_
          rw [ej, show zA (nh h) (zA (nh h) 1 0) j = c from hc]
          refine And.intro (show kin 0 (zK (nh h) c) = true by rw [kc]; rfl) ?_
          refine br_t (show k < zI (nh h) c 1 by rw [fc, i_lt, nI_toInt (by omega)]; exact q2.2) ?_
          by_cases q : w.toInt < 0
          · refine br_t (show w < 0 by first | assumption | (simp (discharger := omega) only [i_lt, i_le, i_eq, bI_tz, decide_eq_false_iff_not, Int32.reduceToInt, nI_toInt, tm1, tm2, tm3, tm4, tm9]; done) | (simp (discharger := omega) only [i_lt, i_le, i_eq, bI_tz, decide_eq_false_iff_not, Int32.reduceToInt, nI_toInt, tm1, tm2, tm3, tm4, tm9]; omega) | omega) ?_
            exact ⟨Or.inl rfl, rfl, rfl⟩
          · refine br_f (show ¬ (w < 0) by first | assumption | (simp (discharger := omega) only [i_lt, i_le, i_eq, bI_tz, decide_eq_false_iff_not, Int32.reduceToInt, nI_toInt, tm1, tm2, tm3, tm4, tm9]; done) | (simp (discharger := omega) only [i_lt, i_le, i_eq, bI_tz, decide_eq_false_iff_not, Int32.reduceToInt, nI_toInt, tm1, tm2, tm3, tm4, tm9]; omega) | omega) ?_
            refine br_t (show 30 < w by first | assumption | (simp (discharger := omega) only [i_lt, i_le, i_eq, bI_tz, decide_eq_false_iff_not, Int32.reduceToInt, nI_toInt, tm1, tm2, tm3, tm4, tm9]; done) | (simp (discharger := omega) only [i_lt, i_le, i_eq, bI_tz, decide_eq_false_iff_not, Int32.reduceToInt, nI_toInt, tm1, tm2, tm3, tm4, tm9]; omega) | omega) ?_
            exact ⟨Or.inl rfl, rfl, rfl⟩
        · refine cc_of 60 rfl rfl ?_
          refine And.intro ⟨rfl, rfl⟩ (And.intro rfl (Exists.intro _ (Exists.intro _ (And.intro (cM) ?_))))
          refine br_f (by exact fun z => z rfl) ?_
          refine And.intro rfl ?_
          refine And.intro (⟨rfl, ij⟩) ?_
          refine And.intro rfl (And.intro rfl (Exists.intro _ (Exists.intro _ (And.intro (mi) ?_))))
          refine br_t (by decide) ?_
          refine And.intro rfl (And.intro rfl (Exists.intro _ (Exists.intro _ (And.intro (c_inN w (m := 30) (n := 30) (by decide)) ?_))))
          refine br_t (by rw [bI_z]; exact decide_eq_false q3) ?_
          exact ⟨Or.inl rfl, rfl, rfl⟩
    · rw [decide_eq_false q2] at mi
      refine bad (-1) ?_ ?_
      · refine cc_of 60 rfl rfl ?_
        refine And.intro ⟨rfl, rfl⟩ (And.intro rfl (Exists.intro _ (Exists.intro _ (And.intro (cX) ?_))))
        refine br_f (by decide) ?_
        by_cases q : k.toInt < -1
        · refine br_t (show k < -1 by first | assumption | (simp (discharger := omega) only [i_lt, i_le, i_eq, bI_tz, decide_eq_false_iff_not, Int32.reduceToInt, nI_toInt, tm1, tm2, tm3, tm4, tm9]; done) | (simp (discharger := omega) only [i_lt, i_le, i_eq, bI_tz, decide_eq_false_iff_not, Int32.reduceToInt, nI_toInt, tm1, tm2, tm3, tm4, tm9]; omega) | omega) ?_
          exact ⟨Or.inl rfl, rfl, rfl⟩
        · refine br_f (show ¬ (k < -1) by first | assumption | (simp (discharger := omega) only [i_lt, i_le, i_eq, bI_tz, decide_eq_false_iff_not, Int32.reduceToInt, nI_toInt, tm1, tm2, tm3, tm4, tm9]; done) | (simp (discharger := omega) only [i_lt, i_le, i_eq, bI_tz, decide_eq_false_iff_not, Int32.reduceToInt, nI_toInt, tm1, tm2, tm3, tm4, tm9]; omega) | omega) ?_
          refine And.intro rfl ?_
          refine And.intro (⟨rfl, ij⟩) ?_
          rw [ej, show zA (nh h) (zA (nh h) 1 0) j = c from hc]
          refine And.intro (show kin 0 (zK (nh h) c) = true by rw [kc]; rfl) ?_
          refine br_f (show ¬ k < zI (nh h) c 1 by rw [fc, i_lt, nI_toInt (by omega)]; omega) ?_
          exact ⟨Or.inl rfl, rfl, rfl⟩
      · refine cc_of 60 rfl rfl ?_
        refine And.intro ⟨rfl, rfl⟩ (And.intro rfl (Exists.intro _ (Exists.intro _ (And.intro (cM) ?_))))
        refine br_f (by exact fun z => z rfl) ?_
        refine And.intro rfl ?_
        refine And.intro (⟨rfl, ij⟩) ?_
        refine And.intro rfl (And.intro rfl (Exists.intro _ (Exists.intro _ (And.intro (mi) ?_))))
        refine br_f (by exact fun z => z rfl) ?_
        exact ⟨Or.inl rfl, rfl, rfl⟩
  · rw [decide_eq_false q1] at cX
    rw [decide_eq_true q1] at cM
    refine bad (-1) ?_ ?_
    · refine cc_of 40 rfl rfl ?_
      refine And.intro ⟨rfl, rfl⟩ (And.intro rfl (Exists.intro _ (Exists.intro _ (And.intro (cX) ?_))))
      refine br_t (by rfl) ?_
      exact ⟨Or.inl rfl, rfl, rfl⟩
    · refine cc_of 40 rfl rfl ?_
      refine And.intro ⟨rfl, rfl⟩ (And.intro rfl (Exists.intro _ (Exists.intro _ (And.intro (cM) ?_))))
      refine br_t (by decide) ?_
      exact ⟨Or.inl rfl, rfl, rfl⟩
end
