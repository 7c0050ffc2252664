/-! turn -/
/-- one slot of a camp's numbers has changed, on both sides alike, and the table is forgotten -/
def tnG (h : Hp) (nb j s w : Nat) (v : Int32) : Hp := upI (upA (upI h nb (5 * s + w) v) 6 0 0) 44 (15 * j + 5 * s + w) v
theorem tnG_I {h : Hp} {nb j s w : Nat} {v : Int32} {a : Nat} (h1 : a ≠ nb) (h2 : a ≠ 44) : zI (tnG h nb j s w v) a = zI h a := by
  funext i
  unfold tnG
  rw [zI_upI, if_neg h2, zI_upA, zI_upI, if_neg h1]
theorem tnG_A {h : Hp} {nb j s w : Nat} {v : Int32} {a i : Nat} (h1 : ¬ (a = 6 ∧ i = 0)) : zA (tnG h nb j s w v) a i = zA h a i := by
  unfold tnG
  show va_up (zA h) 6 (va_up (zA h 6) 0 0) a i = zA h a i
  by_cases e : a = 6
  · subst e
    rw [va_up_self, va_up_ne _ _ (fun e2 => h1 ⟨rfl, e2⟩)]
  · rw [va_up_ne _ _ e]
theorem tnG_shp {h : Hp} {nb j s w : Nat} {v : Int32} (hs : Shp h) : Shp (tnG h nb j s w v) := by
  refine ⟨hs.1, fun q hq => ?_⟩
  rw [tnG_A]
  · exact hs.2 q hq
  · have : ∀ q ∈ FAs, ¬ (q.1 = 6 ∧ q.2.1 = 0) := by decide
    exact this q hq
theorem PartOK_nb {h g : Hp} {p : Nat} (e1 : ∀ a, 51 ≤ a → a ≤ 56 → zI g a = zI h a) (e2 : ∀ a, 65 ≤ a → kin 4 (zK h a) = true → zI g a = zI h a) (e3 : zA g 16 = zA h 16) (e5 : zK g = zK h) (e6 : zI g 17 = zI h 17) (hC : PartOK h p) : PartOK g p := by
  obtain ⟨a, kd, st, hr, gd, hd, pl, q1, q2, q3, q4, q5⟩ := hC
  refine ⟨a, kd, st, hr, gd, hd, pl, by rw [e3]; exact q1, q2, q3, by rw [e5]; exact q4, ?_⟩
  rw [e2 a q2 (by rw [q4]; exact kin_part q3), e1 51 (by omega) (by omega), e1 52 (by omega) (by omega), e1 53 (by omega) (by omega), e1 54 (by omega) (by omega), e1 55 (by omega) (by omega), e1 56 (by omega) (by omega), e6]
  exact q5
theorem SimP_nb {h g : Hp} (a1 : zI g 15 1 = zI h 15 1) (a2 : zI g 39 18 = zI h 39 18) (e1 : ∀ a, 51 ≤ a → a ≤ 57 → zI g a = zI h a) (e2 : ∀ a, 65 ≤ a → kin 4 (zK h a) = true → zI g a = zI h a) (e3 : zA g 16 = zA h 16) (e5 : zK g = zK h) (e6 : zI g 17 = zI h 17) (hP : SimP h) : SimP g := by
  obtain ⟨np, c1, c2, c3, c4, c5, c6, c7⟩ := hP
  refine ⟨np, c1, by rw [a1]; exact c2, by rw [a2]; exact c3, fun p hp => PartOK_nb (fun a q1 q2 => e1 a q1 (by omega)) e2 e3 e5 e6 (c4 p hp), ?_, ?_, by rw [e3]; exact c7⟩
  · rw [e1 55 (by omega) (by omega)]
    exact c5
  · rw [e6, e1 57 (by omega) (by omega), e1 56 (by omega) (by omega)]
    exact c6
theorem tnG_sim {h : Hp} {nc j c nb br s w v : Nat} (hS : Sim0 h) (hn : nc ≤ 3) (en : zI h 1 1 = nI nc) (hj : j < nc) (D : CD h j c nb br) (hs : s < cS h j) (hw : w < 5) (v1 : mnW w ≤ v) (v2 : v ≤ mxW w) : Sim0 (tnG h nb j s w (nI v)) := by
  have b := D.B
  have dA := D.A
  have dK := D.K
  have I : ∀ a, a ≠ nb → a ≠ 44 → zI (tnG h nb j s w (nI v)) a = zI h a := fun a h1 h2 => tnG_I h1 h2
  have lo : ∀ a, a < 65 → a ≠ 44 → zI (tnG h nb j s w (nI v)) a = zI h a := fun a h1 h2 => I a (by omega) h2
  have eA : ∀ a i, ¬ (a = 6 ∧ i = 0) → zA (tnG h nb j s w (nI v)) a i = zA h a i := fun a i q => tnG_A q
  have eK : zK (tnG h nb j s w (nI v)) = zK h := rfl
  have eN : zN (tnG h nb j s w (nI v)) = zN h := rfl
  have e44 : ∀ i, zI (tnG h nb j s w (nI v)) 44 i = if i = 15 * j + 5 * s + w then nI v else zI h 44 i := fun i => by
    unfold tnG
    rw [zI_upI, if_pos rfl, zI_upA, zI_upI, if_neg (by omega : 44 ≠ nb)]
  have enb : ∀ i, zI (tnG h nb j s w (nI v)) nb i = if i = 5 * s + w then nI v else zI h nb i := fun i => by
    unfold tnG
    rw [zI_upI, if_neg (by omega : nb ≠ 44), zI_upA, zI_upI, if_pos rfl]
  refine ⟨tnG_shp hS.1, ?_, ?_, ?_, ?_, ?_⟩
  · exact SimA_congr (by rw [lo 1 (by decide) (by decide)]) (by rw [lo 39 (by decide) (by decide)]) (by rw [lo 30 (by decide) (by decide)]) (by rw [lo 39 (by decide) (by decide)]) (by rw [lo 15 (by decide) (by decide)]) (by rw [lo 39 (by decide) (by decide)]) (lo 18 (by decide) (by decide)) (lo 58 (by decide) (by decide)) hS.2.1
  · intro k hk
    exact RowOK_congr (by rw [lo 61 (by decide) (by decide)]) (by rw [lo 62 (by decide) (by decide)]) (fun _ _ => by rw [lo 63 (by decide) (by decide)]) (lo _ (by omega) (by omega)) (lo _ (by omega) (by omega)) (hS.2.2.1 k hk)
  · obtain ⟨nc', d1, d2, d3, d4, d5⟩ := hS.2.2.2.1
    have hn' : nc' = nc := (nI_eq (by omega) (by omega)).mp (d2.symm.trans en)
    subst hn'
    refine ⟨nc', d1, by rw [lo 1 (by decide) (by decide)]; exact d2, by rw [lo 39 (by decide) (by decide)]; exact d3, fun i hi => ?_, fun i k hi hk hik => ?_⟩
    · obtain ⟨c', nb', br', L, S, P, q1, q2, q3, q4, q5, q6, q7, q8, q9, q10, q11, q12, q13, q14, q15, q16, q17, q18, q19, q20, q21, q22, q23, q24, q25⟩ := d4 i hi
      have hc : c' ≠ nb := fun e => by rw [e, dK.2.1] at q8; cases q8
      have hbr : br' ≠ nb := by
        by_cases e : i = j
        · subst e
          have : c' = c := q1.symm.trans dA.1
          subst this
          have : br' = br := q3.symm.trans dA.2.2.1
          omega
        · have := (d5 j i hj hi (Ne.symm e)).2.2
          rw [dA.1, dA.2.1, q1, q3] at this
          exact Ne.symm this
      refine ⟨c', nb', br', L, S, P, by rw [eA _ _ (by omega)]; exact q1, by rw [eA _ _ (by omega)]; exact q2, by rw [eA _ _ (by omega)]; exact q3, q4, q5, q6, q7, q8, q9, q10, q11, q12, q13, q14, q15, q16, q17, ?_⟩
      rw [I c' hc (by omega), I br' hbr (by omega), lo 40 (by decide) (by decide), lo 41 (by decide) (by decide), lo 42 (by decide) (by decide), lo 43 (by decide) (by decide)]
      refine ⟨q18, q19, q20, q21, q22, q23, fun s' w' hs' hw' => ?_, q25⟩
      obtain ⟨v', x1, x2, x3, x4⟩ := q24 s' w' hs' hw'
      by_cases e : i = j
      · subst e
        have : c' = c := q1.symm.trans dA.1
        subst this
        have : nb' = nb := q2.symm.trans dA.2.1
        subst this
        by_cases e2 : s' = s ∧ w' = w
        · obtain ⟨rfl, rfl⟩ := e2
          exact ⟨v, v1, v2, by rw [enb, if_pos rfl], by rw [e44, if_pos rfl]⟩
        · exact ⟨v', x1, x2, by rw [enb, if_neg (by omega)]; exact x3, by rw [e44, if_neg (by omega)]; exact x4⟩
      · have hnb : nb' ≠ nb := by
          have := (d5 i j hi hj e).2.1
          rw [dA.1, dA.2.1, q1, q2] at this
          exact this
        exact ⟨v', x1, x2, by rw [I nb' hnb (by omega)]; exact x3, by rw [e44, if_neg (by omega)]; exact x4⟩
    · have := d5 i k hi hk hik
      obtain ⟨ci, nbi, bri, _, _, _, q1, q2, q3, q4, -⟩ := d4 i hi
      obtain ⟨ck, nbk, brk, _, _, _, w1, w2, w3, w4, -⟩ := d4 k hk
      rw [eA 2 i (by omega), eA 2 k (by omega), eA (zA h 2 i) _ (by omega), eA (zA h 2 k) _ (by omega), eA (zA h 2 k) _ (by omega)]
      exact this
  · refine SimP_nb (by rw [lo 15 (by decide) (by decide)]) (by rw [lo 39 (by decide) (by decide)]) (fun a q1 q2 => lo a (by omega) (by omega)) (fun a ha hk => I a (fun e => by rw [e, dK.2.1] at hk; cases hk) (by omega)) (funext fun i => eA 16 i (by omega)) eK (lo 17 (by decide) (by decide)) hS.2.2.2.2.1
  · unfold SimZ
    rw [lo 15 (by decide) (by decide), lo 1 (by decide) (by decide), lo 5 (by decide) (by decide), lo 43 (by decide) (by decide)]
    exact hS.2.2.2.2.2
section
variable {sc : Nat × (Nat → Int32)} {h : Hp}
theorem c_setNumber {c nb s w : Nat} {v : Int32} (k0 : zK h c = 0) (h3 : zA h c 3 = nb) (kn : zK h nb = 12) (nn : zN h nb = 15) (hs : s < 3) (hw : w < 5) : Cc sc 6 [.ref c, .int (nI s), .int (nI w), .int v] h none (upI h nb (5 * s + w) v) := by
  have e1 : nI s * 5 + nI w = nI (5 * s + w) := by rw [show (5 : Int32) = nI 5 from rfl, pk_mul, nI_add, Nat.mul_comm]
  subst h3
  refine cc_of 30 rfl rfl ?_
  refine And.intro (by rw [k0]; rfl) ?_
  refine And.intro (⟨kn, by rw [nn, e1]; exact inB_nI (n := 15) (by omega) (by decide)⟩) ?_
  rw [e1, nI_clamp (by omega)]
  exact ⟨trivial, rfl, rfl⟩
theorem c_forget {a : Nat} (hk : zK h a = 3) : Cc sc 18 [.ref a] h none (upA h a 0 0) := by
  refine cc_of 30 rfl rfl ?_
  refine And.intro (by rw [hk]; rfl) ?_
  exact ⟨trivial, rfl, rfl⟩
theorem c_noSort_in (hs : Shp h) {nc j t S : Nat} (hn : nc ≤ 3) (e : zI h 39 1 = nI nc) (hj : j < nc) (eS : zI h 41 j = nI S) (hS3 : S ≤ 3) (ht : t < S) : Cc sc 148 [.ref 39, .int (nI j), .int (nI t)] h (some (.int (bI (!true)))) h := by
  have ij : inB (nI j) 3 = true := inB_nI (by omega) (by decide)
  have ej : (nI j).toNatClampNeg = j := nI_clamp (by omega)
  have q : 0 ≤ (nI j).toInt ∧ (nI j).toInt < nc := by rw [nI_toInt (by omega)]; omega
  have q3 : 0 ≤ (nI t).toInt ∧ (nI t).toInt < S := by rw [nI_toInt (by omega)]; omega
  refine cc_nh (F := fun h => h) hs (cc_of 60 rfl rfl ?_)
  refine And.intro ⟨rfl, rfl⟩ (And.intro rfl (Exists.intro _ (Exists.intro _ (And.intro (c_noCamp (h := nh h) (shp_nh hs) hn e (nI j)) ?_))))
  refine br_f (by rw [bI_z, decide_eq_false_iff_not]; omega) ?_
  refine And.intro rfl ?_
  refine And.intro (⟨rfl, ij⟩) ?_
  rw [ej, show zI (nh h) (zA (nh h) 39 3) j = nI S from eS]
  have e1 : ((nI S).toInt64 - 1).toInt = (S : Int) - 1 := by
    rw [l_sub] <;> rw [wide, show (1 : Int64).toInt = 1 by decide, nI_toInt (by omega)] <;> omega
  refine And.intro rfl (And.intro rfl (Exists.intro _ (Exists.intro _ (And.intro (c_inN (nI t) e1) ?_))))
  refine br_t (by rw [bI_z, decide_eq_false_iff_not]; omega) ?_
  exact ⟨Or.inr ⟨rfl, Or.inl rfl⟩, rfl, rfl⟩
theorem op_turn (hS : Sim0 h) (x s w v : Int32) : Op2 sc 94 163 [.int x, .int s, .int w, .int v] h := by
  obtain ⟨h, rfl⟩ : ∃ g, h = nh g := ⟨h, (nh_eq hS.1).symm⟩
  have hs := hS.1
  have hC := hS.2.2.2.1
  obtain ⟨b, hb1, hb2⟩ := sort_cases hC x s
  have hX := c_isSortOf (sc := sc) hs hC x s hb1
  have hM := c_noSort (sc := sc) hs hC x s hb1
  cases b with
  | false =>
    refine Op1.two (Op0.one ⟨.int (-1), nh h, nh h, ?_, ?_, fin_same hS⟩)
    · refine cc_of 60 rfl rfl ?_
      refine And.intro ⟨rfl, rfl⟩ (And.intro rfl (Exists.intro _ (Exists.intro _ (And.intro (hX) ?_))))
      refine br_f (by exact fun z => z rfl) ?_
      exact ⟨Or.inl rfl, rfl, rfl⟩
    · refine cc_of 60 rfl rfl ?_
      refine And.intro ⟨rfl, rfl⟩ (And.intro rfl (Exists.intro _ (Exists.intro _ (And.intro (hM) ?_))))
      refine br_f (by decide) ?_
      exact ⟨Or.inl rfl, rfl, rfl⟩
  | true =>
    obtain ⟨j, t, nc, c, nb, br, m1, m2, m3, m4, rfl, rfl, m7, D⟩ := hb2 rfl
    have ij : inB (nI j) 3 = true := inB_nI (by omega) (by decide)
    have ej : (nI j).toNatClampNeg = j := nI_clamp (by omega)
    have b := D.B
    by_cases q : 0 ≤ w.toInt ∧ w.toInt < 4
    · obtain ⟨w, hw, rfl⟩ := i_of q.1 (n := 4) q.2 (by decide)
      have ew : 15 * nI j + 5 * nI t + nI w = nI (15 * j + 5 * t + w) := by rw [show (15 : Int32) = nI 15 from rfl, show (5 : Int32) = nI 5 from rfl, pk_mul, pk_mul, nI_add, nI_add]
      have iw : inB (15 * nI j + 5 * nI t + nI w) 45 = true := by rw [ew]; exact inB_nI (n := 45) (by omega) (by decide)
      have cw : (15 * nI j + 5 * nI t + nI w).toNatClampNeg = 15 * j + 5 * t + w := by rw [ew]; exact nI_clamp (by omega)
      -- the class, as far as its tests
      have X : ∀ (r : Int32) (g : Hp), Rn sc (mtk 94) 20 [some (.ref 1), some (.int (nI j)), some (.int (nI t)), some (.int (nI w)), some (.int v), none] [] (nh h) (some (.int r)) g → Cc sc 94 [.ref 1, .int (nI j), .int (nI t), .int (nI w), .int v] (nh h) (some (.int r)) g := fun r g H => by
        refine cc_cut [20] 60 rfl rfl ?_
        refine And.intro ⟨rfl, rfl⟩ (And.intro rfl (Exists.intro _ (Exists.intro _ (And.intro (hX) ?_))))
        refine br_t (by decide) ?_
        refine br_f (show ¬ (nI w < 0) by first | assumption | (simp (discharger := omega) only [i_lt, i_le, i_eq, bI_tz, decide_eq_false_iff_not, Int32.reduceToInt, nI_toInt, tm1, tm2, tm3, tm4, tm9]; done) | (simp (discharger := omega) only [i_lt, i_le, i_eq, bI_tz, decide_eq_false_iff_not, Int32.reduceToInt, nI_toInt, tm1, tm2, tm3, tm4, tm9]; omega) | omega) ?_
        refine br_f (show ¬ (4 ≤ nI w) by first | assumption | (simp (discharger := omega) only [i_lt, i_le, i_eq, bI_tz, decide_eq_false_iff_not, Int32.reduceToInt, nI_toInt, tm1, tm2, tm3, tm4, tm9]; done) | (simp (discharger := omega) only [i_lt, i_le, i_eq, bI_tz, decide_eq_false_iff_not, Int32.reduceToInt, nI_toInt, tm1, tm2, tm3, tm4, tm9]; omega) | omega) ?_
        exact H
      have M : ∀ (r : Int32) (g g2 : Hp), Shp g → Rn sc (mtk 163) 45 [some (.ref 39), some (.int (nI j)), some (.int (nI t)), some (.int (nI w)), some (.int v), some (.int (nI (mxW w))), none] [] g (some (.int r)) g2 → Cc sc 148 [.ref 39, .int (nI j), .int (nI t)] g (some (.int (bI (!true)))) g → Cc sc 163 [.ref 39, .int (nI j), .int (nI t), .int (nI w), .int v] g (some (.int r)) g2 := fun r g g2 hg H H0 => by
        have e39 : zK g 39 = 11 := (hg.1 39 (by decide)).1
        refine cc_cut [33] 60 rfl rfl ?_
        refine And.intro ⟨rfl, e39⟩ (And.intro rfl (Exists.intro _ (Exists.intro _ (And.intro (H0) ?_))))
        refine br_t (by rfl) ?_
        have R : Rn sc (mtk 163) 33 [some (.ref 39), some (.int (nI j)), some (.int (nI t)), some (.int (nI w)), some (.int v), some (.int (nI (mxW w))), none] [] g (some (.int r)) g2 := by
          refine bk_sound (cuts := [45]) 20 _ _ _ _ ?_
          refine And.intro rfl (And.intro rfl (Exists.intro _ (Exists.intro _ (And.intro (c_inN _ (m := 3) (n := 3) (by decide)) ?_))))
          refine br_f (by first | assumption | (simp (discharger := omega) only [i_lt, i_le, i_eq, bI_tz, decide_eq_false_iff_not, Int32.reduceToInt, nI_toInt, tm1, tm2, tm3, tm4, tm9]; done) | (simp (discharger := omega) only [i_lt, i_le, i_eq, bI_tz, decide_eq_false_iff_not, Int32.reduceToInt, nI_toInt, tm1, tm2, tm3, tm4, tm9]; omega) | omega) ?_
          exact H
        obtain rfl | rfl | rfl | rfl : w = 0 ∨ w = 1 ∨ w = 2 ∨ w = 3 := by omega
        · refine br_f (by exact fun z => z rfl) ?_
          exact R
        · refine br_t (by decide) ?_
          refine br_t (by decide) ?_
          exact R
        · refine br_t (by decide) ?_
          refine br_t (by decide) ?_
          exact R
        · refine br_t (by decide) ?_
          refine br_f (by exact fun z => z rfl) ?_
          exact R
      have hmx : mxW w ≤ 12 := mxW_le w
      have T : ∀ (g : Hp) (r : Int32) (g2 : Hp) , (∀ (o : Bool), o = decide ((mnW w : Int) ≤ v.toInt ∧ v.toInt ≤ (mxW w : Int)) → Rn sc (mtk 163) 64 [some (.ref 39), some (.int (nI j)), some (.int (nI t)), some (.int (nI w)), some (.int v), some (.int (nI (mxW w))), none] [.int (bI o)] g (some (.int r)) g2) → Rn sc (mtk 163) 45 [some (.ref 39), some (.int (nI j)), some (.int (nI t)), some (.int (nI w)), some (.int v), some (.int (nI (mxW w))), none] [] g (some (.int r)) g2 := fun g r g2 H => by
        have e0 : ((nI (mxW w)).toInt64).toInt = (mxW w : Int) := by rw [wide, nI_toInt (by omega)]
        refine bk_sound (cuts := [64]) 20 _ _ _ _ ?_
        obtain rfl | rfl | rfl | rfl : w = 0 ∨ w = 1 ∨ w = 2 ∨ w = 3 := by omega
        · refine br_t (by decide) ?_
          refine And.intro rfl (And.intro rfl (Exists.intro _ (Exists.intro _ (And.intro (c_inMN v (l := 0) (n0 := 0) (by decide) e0) ?_))))
          exact H _ rfl
        · refine br_t (by decide) ?_
          refine And.intro rfl (And.intro rfl (Exists.intro _ (Exists.intro _ (And.intro (c_inMN v (l := 0) (n0 := 0) (by decide) e0) ?_))))
          exact H _ rfl
        · refine br_t (by decide) ?_
          refine And.intro rfl (And.intro rfl (Exists.intro _ (Exists.intro _ (And.intro (c_inMN v (l := 0) (n0 := 0) (by decide) e0) ?_))))
          exact H _ rfl
        · refine br_f (by exact fun z => z rfl) ?_
          refine And.intro rfl (And.intro rfl (Exists.intro _ (Exists.intro _ (And.intro (c_inMN v (l := 1) (n0 := 1) (by decide) e0) ?_))))
          exact H _ rfl
      -- the class's tests
      have U : ∀ (r : Int32) (g : Hp), (¬ ((mnW w : Int) ≤ v.toInt ∧ v.toInt ≤ (mxW w : Int)) → Rn sc (mtk 94) 40 [some (.ref 1), some (.int (nI j)), some (.int (nI t)), some (.int (nI w)), some (.int v), none] [] (nh h) (some (.int r)) g) → ((mnW w : Int) ≤ v.toInt ∧ v.toInt ≤ (mxW w : Int) → Rn sc (mtk 94) 43 [some (.ref 1), some (.int (nI j)), some (.int (nI t)), some (.int (nI w)), some (.int v), none] [] (nh h) (some (.int r)) g) → Rn sc (mtk 94) 20 [some (.ref 1), some (.int (nI j)), some (.int (nI t)), some (.int (nI w)), some (.int v), none] [] (nh h) (some (.int r)) g := fun r g H1 H2 => by
        have iw5 : inB (nI w) 5 = true := inB_nI (by omega) (by decide)
        have e0 : (stI 0 (nI w).toNatClampNeg).toInt = (mnW w : Int) := by
          obtain rfl | rfl | rfl | rfl : w = 0 ∨ w = 1 ∨ w = 2 ∨ w = 3 := by omega
          all_goals decide
        have e1 : (stI 1 (nI w).toNatClampNeg).toInt = (mxW w : Int) := by
          obtain rfl | rfl | rfl | rfl : w = 0 ∨ w = 1 ∨ w = 2 ∨ w = 3 := by omega
          all_goals decide
        refine bk_sound (cuts := [40, 43]) 20 _ _ _ _ ?_
        refine And.intro (iw5) ?_
        by_cases q1 : v.toInt < (mnW w : Int)
        · refine br_t (by rw [i_lt, e0]; exact q1) ?_
          exact H1 (by omega)
        · refine br_f (by rw [i_lt, e0]; exact q1) ?_
          refine And.intro (iw5) ?_
          by_cases q2 : v.toInt ≤ (mxW w : Int)
          · refine br_t (by rw [i_le, e1]; exact q2) ?_
            exact H2 (by omega)
          · refine br_f (by rw [i_le, e1]; exact q2) ?_
            exact H1 (by omega)
      by_cases q2 : (mnW w : Int) ≤ v.toInt ∧ v.toInt ≤ (mxW w : Int)
      · obtain ⟨v, hv, rfl⟩ := i_of (a := v) (n := 13) (by omega) (by omega) (by decide)
        have q3 := q2
        rw [nI_toInt (by omega)] at q3
        have hsim := tnG_sim hS m1 m2 m4 D m7 (by omega : w < 5) (v := v) (by omega) (by omega)
        have f39 : zK (upA (upI (nh h) nb (5 * t + w) (nI v)) 6 0 0) 39 = 11 := rfl
        have hs1 : Shp (upA (upI (nh h) nb (5 * t + w) (nI v)) 6 0 0) := tnG_shp (nb := nb) (j := j) (s := t) (w := w) (v := nI v) hs
        have i1 : ∀ a, a < 65 → zI (upA (upI (nh h) nb (5 * t + w) (nI v)) 6 0 0) a = zI (nh h) a := fun a ha => by
          funext i
          rw [zI_upA, zI_upI, if_neg (by have := D.A.2.2.2.2.1; omega)]
        have a1 : zA (upA (upI (nh h) nb (5 * t + w) (nI v)) 6 0 0) 2 = zA (nh h) 2 := rfl
        have hM1 := c_noSort_in (sc := sc) hs1 m1 (by rw [i1 39 (by decide)]; exact m3) m4 (by rw [i1 41 (by decide)]; exact D.F.2.2.2.1) b.2.2.2.1 m7
        refine ⟨.int (nI (cV (nh h) j t w)), upA (upI (nh h) nb (5 * t + w) (nI v)) 6 0 0, tnG (nh h) nb j t w (nI v), ?_, ?_, hsim, Or.inr ?_, ?_⟩
        · refine X _ _ (U _ _ (fun z => absurd q2 z) (fun _ => ?_))
          refine bk_sound (cuts := []) 60 _ _ _ _ ?_
          refine And.intro rfl ?_
          refine And.intro (⟨rfl, ij⟩) ?_
          rw [ej, show zA (nh h) (zA (nh h) 1 0) j = c from D.A.1]
          refine And.intro ⟨rfl, D.K.1⟩ (And.intro rfl (Exists.intro _ (Exists.intro _ (And.intro (D.num m7 (by omega : w < 5)) ?_))))
          refine And.intro rfl ?_
          refine And.intro (⟨rfl, ij⟩) ?_
          rw [ej, show zA (nh h) (zA (nh h) 1 0) j = c from D.A.1]
          refine And.intro ⟨rfl, D.K.1⟩ (And.intro rfl (Exists.intro _ (Exists.intro _ (And.intro (c_setNumber D.K.1 D.A.2.1 D.K.2.1 D.K.2.2.1 (by omega) (by omega)) ?_))))
          refine And.intro rfl ?_
          refine And.intro ⟨rfl, rfl⟩ (And.intro rfl (Exists.intro _ (Exists.intro _ (And.intro (c_forget (h := upI (nh h) nb (5 * t + w) (nI v)) (a := 6) rfl) ?_))))
          exact ⟨Or.inl rfl, rfl, rfl⟩
        · refine M _ _ _ hs1 (T _ _ _ (fun o ho => ?_)) hM1
          rw [decide_eq_true q2] at ho
          subst ho
          refine bk_sound (cuts := []) 60 _ _ _ _ ?_
          refine br_t (by decide) ?_
          have hof := c_of (sc := sc) (h := upA (upI (nh h) nb (5 * t + w) (nI v)) 6 0 0) hs1 (j := j) (s := t) (w := w) (v := nI (cV (nh h) j t w)) (by omega) (by omega) (by omega) (by rw [i1 44 (by decide)]; exact (D.V m7 (by omega : w < 5)).2.2.2)
          refine And.intro ⟨rfl, rfl⟩ (And.intro rfl (Exists.intro _ (Exists.intro _ (And.intro (hof) ?_))))
          refine And.intro rfl ?_
          refine And.intro (show _ ∧ inB (15 * nI j + 5 * nI t + nI w) 45 = true from ⟨rfl, iw⟩) ?_
          rw [cw]
          exact ⟨Or.inl rfl, rfl, rfl⟩
        · show va_up (zA (nh h)) 6 (va_up (zA (nh h) 6) 0 0) 6 0 = 0
          rw [va_up_self, va_up_self]
        · refine Or.inr ?_
          have lo : ∀ a, a < 65 → a ≠ 44 → zI (tnG (nh h) nb j t w (nI v)) a = zI (nh h) a := fun a h1 h2 => tnG_I (by have := D.A.2.2.2.2.1; omega) h2
          rw [lo 15 (by decide) (by decide), lo 39 (by decide) (by decide)]
          exact ⟨rfl, rfl, rfl, fun a ha => lo a (by omega) (by omega)⟩
      · refine Op1.two (Op0.one ⟨.int (-2), nh h, nh h, X _ _ (U _ _ (fun _ => ?_) (fun z => absurd z q2)), M _ _ _ hs (T _ _ _ (fun o ho => ?_)) hM, fin_same hS⟩)
        · refine bk_sound (cuts := []) 60 _ _ _ _ ?_
          exact ⟨Or.inl rfl, rfl, rfl⟩
        · rw [decide_eq_false q2] at ho
          subst ho
          refine bk_sound (cuts := []) 60 _ _ _ _ ?_
          refine br_f (by exact fun z => z rfl) ?_
          exact ⟨Or.inl rfl, rfl, rfl⟩
    · refine Op1.two (Op0.one ⟨.int (-2), nh h, nh h, ?_, ?_, fin_same hS⟩)
      · refine cc_of 60 rfl rfl ?_
        refine And.intro ⟨rfl, rfl⟩ (And.intro rfl (Exists.intro _ (Exists.intro _ (And.intro (hX) ?_))))
        refine br_t (by decide) ?_
        by_cases q2 : w.toInt < 0
        · refine br_t (show w < 0 by first | assumption | (simp (discharger := omega) only [i_lt, i_le, i_eq, bI_tz, decide_eq_false_iff_not, Int32.reduceToInt, nI_toInt, tm1, tm2, tm3, tm4, tm9]; done) | (simp (discharger := omega) only [i_lt, i_le, i_eq, bI_tz, decide_eq_false_iff_not, Int32.reduceToInt, nI_toInt, tm1, tm2, tm3, tm4, tm9]; omega) | omega) ?_
          exact ⟨Or.inl rfl, rfl, rfl⟩
        · refine br_f (show ¬ (w < 0) by first | assumption | (simp (discharger := omega) only [i_lt, i_le, i_eq, bI_tz, decide_eq_false_iff_not, Int32.reduceToInt, nI_toInt, tm1, tm2, tm3, tm4, tm9]; done) | (simp (discharger := omega) only [i_lt, i_le, i_eq, bI_tz, decide_eq_false_iff_not, Int32.reduceToInt, nI_toInt, tm1, tm2, tm3, tm4, tm9]; omega) | omega) ?_
          refine br_t (show 4 ≤ w by first | assumption | (simp (discharger := omega) only [i_lt, i_le, i_eq, bI_tz, decide_eq_false_iff_not, Int32.reduceToInt, nI_toInt, tm1, tm2, tm3, tm4, tm9]; done) | (simp (discharger := omega) only [i_lt, i_le, i_eq, bI_tz, decide_eq_false_iff_not, Int32.reduceToInt, nI_toInt, tm1, tm2, tm3, tm4, tm9]; omega) | omega) ?_
          exact ⟨Or.inl rfl, rfl, rfl⟩
      · have R : ∀ o : Int32, Rn sc (mtk 163) 33 [some (.ref 39), some (.int (nI j)), some (.int (nI t)), some (.int w), some (.int v), some (.int o), none] [] (nh h) (some (.int (-2))) (nh h) := fun o => by
          refine bk_sound (cuts := []) 20 _ _ _ _ ?_
          refine And.intro rfl (And.intro rfl (Exists.intro _ (Exists.intro _ (And.intro (c_inN _ (m := 3) (n := 3) (by decide)) ?_))))
          refine br_t (by first | assumption | (simp (discharger := omega) only [i_lt, i_le, i_eq, bI_tz, decide_eq_false_iff_not, Int32.reduceToInt, nI_toInt, tm1, tm2, tm3, tm4, tm9]; done) | (simp (discharger := omega) only [i_lt, i_le, i_eq, bI_tz, decide_eq_false_iff_not, Int32.reduceToInt, nI_toInt, tm1, tm2, tm3, tm4, tm9]; omega) | omega) ?_
          exact ⟨Or.inl rfl, rfl, rfl⟩
        refine cc_cut [33] 60 rfl rfl ?_
        refine And.intro ⟨rfl, rfl⟩ (And.intro rfl (Exists.intro _ (Exists.intro _ (And.intro (hM) ?_))))
        refine br_t (by rfl) ?_
        refine br_c (fun _ => ?_) (fun _ => R _)
        refine br_c (fun _ => R _) (fun _ => R _)
end
