/-! layDay, layLone, layAll -/
def PM (G0 : Nat → Nat → Int64) (N : Nat) (G : Nat → Nat → Int64) (acc : Nat → Ac) : Prop := (∀ a, a ≠ 48 → a ≠ 49 → a ≠ 50 → G a = G0 a) ∧ (∀ i, i < N → G 50 i = oA (acc i)) ∧ ∀ i, i < N → ∀ y, acc i = some y → y.1 < 1000000000000 ∧ G 48 i = lN (tnN y.2.1 y.2.2)
def gM (rule can : Nat) (v : Nat → Nat → Nat) (n : Nat) (a : Ac) : Ac := match n with
  | 0 => a
  | k + 1 => dayF (fun _ => trM rule) rule can v k a
theorem gM_s (rule can : Nat) (v : Nat → Nat → Nat) (n : Nat) (a : Ac) : gM rule can v (n + 1) a = gM rule can v n (st2A (fun _ => trM rule) rule can v n a) := by
  cases n with
  | zero => rfl
  | succ n => rfl
/-- the model's day is the class's -/
theorem dayM_eq {C : Cp} {rule e day : Nat} {f : (Nat → Nat) → Nat} {g : Nat → Nat} (hL : 1 ≤ qL C) (hb : qB C 0 = 0) : outA (dayF (fun _ => trM rule) rule (canD C rule g) (fun k z => vlK C e day f k z g) (qL C) none) = outA (dayF (trC rule) rule (canD C rule g) (fun k z => vlK C e day f k z g) (lrR C rule) none) := by
  have hv : vlK C e day f 0 0 g = vlK C e day f 0 1 g := by
    unfold vlK
    rw [hb, mz_0, mz_0]
  rw [dayF_eq (v := fun k z => vlK C e day f k z g) hv]
  by_cases q : rule = 3
  · subst q
    have e1 : lrR C 3 = qL C - 1 := rfl
    have c1 := mnF_le (lrR C 3) g (qS C)
    obtain ⟨l, hl⟩ : ∃ l, qL C = l + 1 := ⟨qL C - 1, by omega⟩
    rw [e1, hl, Nat.add_sub_cancel]
    show outA (dayF (fun _ => trM 3) 3 (canD C 3 g) (fun k z => vlK C e day f k z g) l (st2A (fun _ => trM 3) 3 (canD C 3 g) (fun k z => vlK C e day f k z g) (l + 1) none)) = _
    rw [st2_none (by decide) (by unfold canD; omega)]
  · rw [show lrR C rule = qL C from if_neg q]
section
variable {sc : Nat × (Nat → Int32)} {h : Hp} {F : Nat → Nat → Int32} {G : Nat → Nat → Int64} {C : Cp} {x day e B N rule n : Nat} {f : (Nat → Nat) → Nat} {G0 : Nat → Nat → Int64}
theorem ld_w {acc : Nat → Ac} {k z : Nat} (hs : Shp h) (K : MK F C x) (hN : N = 6 ^ qS C) (hk : k ≤ qL C) (hz : z ≤ 1) (hr : rule ≤ 4) (he : e ≤ 1) (hd : day < 100) (hB : B ≤ 800000000000) (hf : ∀ g, f g ≤ B) (h47 : ∀ i, i < N → G0 47 i = lN (f (dgN (qS C) T6 Z6 i))) (P : PM G0 N G acc) : ∃ G', PM G0 N G' (fun i => if trM rule z = true then stA rule k z (canD C rule (dgN (qS C) T6 Z6 i)) (vlK C e day f k z (dgN (qS C) T6 Z6 i)) (acc i) else acc i) ∧ ∀ r h', (∀ o8 o9 o10 o11 o12 o13 o14 o15, Rn sc (mtk 171) 53 [some (.ref 39), some (.int (nI x)), some (.int (nI rule)), some (.int (nI day)), some (.int (nI e)), some (.int (nI N)), some (.int (nI k)), some (.int (nI (1 + (z + 1)))), o8, o9, o10, o11, o12, o13, o14, o15] [] (wIJ (nh h) F G') r h') → ∀ o8 o9 o10 o11 o12 o13 o14 o15, Rn sc (mtk 171) 53 [some (.ref 39), some (.int (nI x)), some (.int (nI rule)), some (.int (nI day)), some (.int (nI e)), some (.int (nI N)), some (.int (nI k)), some (.int (nI (1 + z))), o8, o9, o10, o11, o12, o13, o14, o15] [] (wIJ (nh h) F G) r h' := by
  obtain ⟨k1, k2, k3, k4, k5, k6, k7⟩ := id K
  have n216 : N ≤ 216 := by rw [hN]; exact six_b k2.2.2.2.1
  have n1 : 1 ≤ N := by rw [hN]; exact Nat.pow_pos (by decide)
  have H := NS_m k2.2.2.1 k2.2.2.2.1
  rw [← hN] at H
  obtain ⟨p1, p2, p3⟩ := P
  obtain ⟨b9, -, b43⟩ := k7 k hk
  have bb : (3 - z) * 1000000 * qB C k ≤ 3 * 1000000 * 9 := Nat.mul_le_mul (Nat.mul_le_mul (by omega) (Nat.le_refl _)) b9
  have ex5 : (5 : Int32) * nI x + nI k = nI (5 * x + k) := by rw [show (5 : Int32) = nI 5 from rfl, pk_mul, nI_add]
  have ix5 : inB ((5 : Int32) * nI x + nI k) 15 = true := by rw [ex5]; exact inB_nI (by omega) (by decide)
  have ec5 : ((5 : Int32) * nI x + nI k).toNatClampNeg = 5 * x + k := by rw [ex5]; exact nI_clamp (by omega)
  -- from the factor on
  have tail : ∀ (r : Option Value) (h' : Hp) (G1 : Nat → Nat → Int64) (a8 : Int32) (o9 o10 o11 o12 o13 o14 o15 : Option Value), (Rn sc (mtk 171) 136 [some (.ref 39), some (.int (nI x)), some (.int (nI rule)), some (.int (nI day)), some (.int (nI e)), some (.int (nI N)), some (.int (nI k)), some (.int (nI (1 + z))), some (.int a8), some (.long (lN ((3 - z) * 1000000 * qB C k))), none, some (.int (nI 0)), o12, o13, o14, o15] [] (wIJ (nh h) F G1) r h') → Rn sc (mtk 171) 103 [some (.ref 39), some (.int (nI x)), some (.int (nI rule)), some (.int (nI day)), some (.int (nI e)), some (.int (nI N)), some (.int (nI k)), some (.int (nI (1 + z))), some (.int a8), o9, o10, o11, o12, o13, o14, o15] [] (wIJ (nh h) F G1) r h' := fun r h' G1 a8 o9 o10 o11 o12 o13 o14 o15 R => by
    have eb : ∀ y : Nat, (y : Nat) = (3 - z) * 1000000 → lN y * (nI (qB C k)).toInt64 = lN ((3 - z) * 1000000 * qB C k) := fun y hy => by rw [nI_l (by omega), lN_mul, hy]
    refine bk_sound (cuts := [136]) 40 _ _ _ _ ?_
    obtain rfl | rfl : z = 0 ∨ z = 1 := by omega
    · refine br_f (show ¬ ¬ nI (1 + 0) = 1 from fun y => y rfl) ?_
      refine And.intro rfl ?_
      refine And.intro (show _ ∧ inB ((5 : Int32) * nI x + nI k) 15 = true from ⟨rfl, ix5⟩) ?_
      rw [ec5, show zI (wIJ (nh h) F G1) (zA (wIJ (nh h) F G1) 39 5) (5 * x + k) = nI (qB C k) from b43]
      rw [← eb 3000000 rfl] at R
      exact R
    · refine br_t (show ¬ nI (1 + 1) = 1 by decide) ?_
      refine And.intro rfl ?_
      refine And.intro (show _ ∧ inB ((5 : Int32) * nI x + nI k) 15 = true from ⟨rfl, ix5⟩) ?_
      rw [ec5, show zI (wIJ (nh h) F G1) (zA (wIJ (nh h) F G1) 39 5) (5 * x + k) = nI (qB C k) from b43]
      rw [← eb 2000000 rfl] at R
      exact R
  -- what is asked
  have asked : ∀ (r : Option Value) (h' : Hp) (o8 o9 o10 o11 o12 o13 o14 o15 : Option Value), Rn sc (mtk 171) 83 [some (.ref 39), some (.int (nI x)), some (.int (nI rule)), some (.int (nI day)), some (.int (nI e)), some (.int (nI N)), some (.int (nI k)), some (.int (nI (1 + z))), o8, o9, o10, o11, o12, o13, o14, o15] [.int (bI (trM rule z))] (wIJ (nh h) F G) r h' → Rn sc (mtk 171) 53 [some (.ref 39), some (.int (nI x)), some (.int (nI rule)), some (.int (nI day)), some (.int (nI e)), some (.int (nI N)), some (.int (nI k)), some (.int (nI (1 + z))), o8, o9, o10, o11, o12, o13, o14, o15] [] (wIJ (nh h) F G) r h' := fun r h' o8 o9 o10 o11 o12 o13 o14 o15 R => by
    refine bk_sound (cuts := [83]) 40 _ _ _ _ ?_
    refine br_f (show ¬ 3 ≤ nI (1 + z) from nI_ge (a := 1 + z) (b := 3) (by omega) (by omega)) ?_
    by_cases r0 : rule = 0
    · rw [show trM rule z = true by unfold trM; rw [decide_eq_true r0]; rfl] at R
      refine br_t (show nI rule = 0 by rw [r0]; rfl) ?_
      exact R
    · refine br_f (fun y => r0 ((nI_eq (a := rule) (b := 0) (by omega) (by omega)).mp y)) ?_
      by_cases r2 : rule = 2
      · refine br_f (show ¬ ¬ nI rule = 2 from fun y => y (by rw [r2]; rfl)) ?_
        obtain rfl | rfl : z = 0 ∨ z = 1 := by omega
        · rw [show trM rule 0 = false by unfold trM; rw [decide_eq_false r0, if_pos r2]; rfl] at R
          refine br_t (show ¬ nI (1 + 0) = 2 by decide) ?_
          exact R
        · rw [show trM rule 1 = true by unfold trM; rw [decide_eq_false r0, if_pos r2]; rfl] at R
          refine br_f (show ¬ ¬ nI (1 + 1) = 2 from fun y => y rfl) ?_
          exact R
      · refine br_t (fun y => r2 ((nI_eq (a := rule) (b := 2) (by omega) (by omega)).mp y)) ?_
        obtain rfl | rfl : z = 0 ∨ z = 1 := by omega
        · rw [show trM rule 0 = true by unfold trM; rw [decide_eq_false r0, if_neg r2]; rfl] at R
          refine br_f (show ¬ ¬ nI (1 + 0) = 1 from fun y => y rfl) ?_
          exact R
        · rw [show trM rule 1 = false by unfold trM; rw [decide_eq_false r0, if_neg r2]; rfl] at R
          refine br_t (show ¬ nI (1 + 1) = 1 by decide) ?_
          exact R
  cases ht : trM rule z with
  | false =>
    refine ⟨G, ?_, fun r h' R o8 o9 o10 o11 o12 o13 o14 o15 => asked r h' _ _ _ _ _ _ _ _ ?_⟩
    · simp only [Bool.false_eq_true, if_false]
      exact ⟨p1, p2, p3⟩
    · rw [ht]
      have T := tail r h' G 0 o9 o10 o11 o12 o13 o14 o15 (by
        have R := R (some (.int 0)) (some (.long (lN ((3 - z) * 1000000 * qB C k)))) none (some (.int (nI 0))) o12 o13 o14 o15
        rw [show nI (1 + (z + 1)) = nI (1 + z) + 1 by rw [nI_1]; rfl] at R
        refine bk_sound (cuts := [53]) 20 _ _ _ _ ?_
        refine br_f (nI_ge (by omega) (by omega)) ?_
        refine br_t (by rfl) ?_
        exact R)
      refine bk_sound (cuts := [103]) 20 _ _ _ _ ?_
      refine br_t (by rfl) ?_
      exact T
  | true =>
    have p47 : ∀ i, i < N → G 47 i = lN (f (dgN (qS C) T6 Z6 i)) := fun i hi => by rw [p1 47 (by decide) (by decide) (by decide)]; exact h47 i hi
    obtain ⟨G1, C1, g1, g2⟩ := c_layMean (sc := sc) (h := h) (F := F) (G := G) (x := x) (day := day) (k := k) (w := 1 + z) (e := e) (B := B) (f := f) hs K hN (by omega) (by omega) he hd (by omega) hf p47
    have mb : ∀ d, d ≤ qS C → ∀ i, mtM C e k (1 + z) (fun i => foD C day f (dgN (qS C) T6 Z6 i)) d i ≤ B := by
      intro d
      induction d with
      | zero => exact fun _ i => foD_le hf _
      | succ d ih => exact fun hd => tmM_le (by omega) (k6 _ _ (by omega) (by omega)).1 (ih (by omega))
    have ve : ∀ i, i < N → mayK rule k (canD C rule (dgN (qS C) T6 Z6 i)) = true → (3 - z) * 1000000 * qB C k + mtM C e k (1 + z) (fun i => foD C day f (dgN (qS C) T6 Z6 i)) (qS C) i = vlK C e day f k z (dgN (qS C) T6 Z6 i) := fun i hi hm => by
      unfold vlK
      rw [mtM_mz H (fo := foD C day f) (fun i _ => rfl) (qS C) (Nat.le_refl _) i hi (fun t _ t2 => ?_)]
      have kc : k ≤ canD C rule (dgN (qS C) T6 Z6 i) := by
        unfold mayK at hm
        split at hm
        · exact of_decide_eq_true hm
        · have := of_decide_eq_true hm
          omega
      exact ((le_mnF _).mp kc).2 t t2
    have vl := fun g => vlK_le (C := C) (e := e) (day := day) (k := k) (z := z) (B := B) (f := f) (by omega) hz b9 (fun s w h1 h2 => (k6 s w h1 h2).1) hf g
    refine ⟨mdG rule k z (fun i => canD C rule (dgN (qS C) T6 Z6 i)) (fun i => (3 - z) * 1000000 * qB C k + mtM C e k (1 + z) (fun i => foD C day f (dgN (qS C) T6 Z6 i)) (qS C) i) acc G1 N, ⟨fun a h1 h2 h3 => ?_, fun i hi => ?_, fun i hi => ?_⟩, fun r h' R o8 o9 o10 o11 o12 o13 o14 o15 => asked r h' _ _ _ _ _ _ _ _ ?_⟩
    · funext j
      unfold mdG
      rw [if_neg (fun y => h3 y.1), if_neg (fun y => h1 y.1), g1 a h2, p1 a h1 h2 h3]
    · show _ = oA (if true = true then stA rule k z (canD C rule (dgN (qS C) T6 Z6 i)) (vlK C e day f k z (dgN (qS C) T6 Z6 i)) (acc i) else acc i)
      rw [if_pos rfl]
      by_cases hU : upM rule k (fun i => canD C rule (dgN (qS C) T6 Z6 i)) (fun i => (3 - z) * 1000000 * qB C k + mtM C e k (1 + z) (fun i => foD C day f (dgN (qS C) T6 Z6 i)) (qS C) i) acc i = true
      · rw [st_upM hU (ve i hi)]
        exact if_pos ⟨rfl, hi, hU⟩
      · rw [st_noM hU (ve i hi)]
        refine (if_neg (fun y => hU y.2.2)).trans ((if_neg (fun y => absurd y.1 (by decide))).trans ?_)
        rw [g1 50 (by decide)]
        exact p2 i hi
    · show ∀ y, (if true = true then stA rule k z (canD C rule (dgN (qS C) T6 Z6 i)) (vlK C e day f k z (dgN (qS C) T6 Z6 i)) (acc i) else acc i) = some y → _
      rw [if_pos rfl]
      by_cases hU : upM rule k (fun i => canD C rule (dgN (qS C) T6 Z6 i)) (fun i => (3 - z) * 1000000 * qB C k + mtM C e k (1 + z) (fun i => foD C day f (dgN (qS C) T6 Z6 i)) (qS C) i) acc i = true
      · rw [st_upM hU (ve i hi)]
        intro y hy
        cases hy
        have hm : mayK rule k (canD C rule (dgN (qS C) T6 Z6 i)) = true := (Bool.and_eq_true_iff.mp hU).1
        have := vl (dgN (qS C) T6 Z6 i)
        have ee := ve i hi hm
        refine ⟨by show (3 - z) * 1000000 * qB C k + mtM C e k (1 + z) (fun i => foD C day f (dgN (qS C) T6 Z6 i)) (qS C) i < _; omega, ?_⟩
        exact (if_neg (fun y => absurd y.1 (by decide))).trans (if_pos ⟨rfl, hi, hU⟩)
      · rw [st_noM hU (ve i hi)]
        intro y hy
        refine ⟨(p3 i hi y hy).1, ?_⟩
        refine (if_neg (fun y => hU y.2.2)).trans ((if_neg (fun y => hU y.2.2)).trans ?_)
        rw [g1 48 (by decide)]
        exact (p3 i hi y hy).2
    · rw [ht]
      have L := ld_g (sc := sc) (h := h) (F := F) (G := G1) (C := C) (x := x) (k := k) (z := z) (N := N) (rule := rule) (r := r) (h' := h') (d3 := nI day) (d4 := nI e) (b := (3 - z) * 1000000 * qB C k) (mv := mtM C e k (1 + z) (fun i => foD C day f (dgN (qS C) T6 Z6 i)) (qS C)) (v := fun i => (3 - z) * 1000000 * qB C k + mtM C e k (1 + z) (fun i => foD C day f (dgN (qS C) T6 Z6 i)) (qS C) i) (acc := acc) K hN (by omega) hz hr g2 (fun i hi => ⟨rfl, by have := mb (qS C) (Nat.le_refl _) i; show (3 - z) * 1000000 * qB C k + mtM C e k (1 + z) (fun i => foD C day f (dgN (qS C) T6 Z6 i)) (qS C) i < _; omega⟩) (fun i hi => by rw [g1 50 (by decide)]; exact p2 i hi) (fun i hi y hy => (p3 i hi y hy).1) (fun o12 o13 o14 o15 => by
        have R := R (some (.int 1)) (some (.long (lN ((3 - z) * 1000000 * qB C k)))) none (some (.int (nI N))) o12 o13 o14 o15
        rw [show nI (1 + (z + 1)) = nI (1 + z) + 1 by rw [nI_1]; rfl] at R
        refine bk_sound (cuts := [53]) 20 _ _ _ _ ?_
        exact R) N 0 o12 o13 o14 o15 (by omega)
      have e0 : mdG rule k z (fun i => canD C rule (dgN (qS C) T6 Z6 i)) (fun i => (3 - z) * 1000000 * qB C k + mtM C e k (1 + z) (fun i => foD C day f (dgN (qS C) T6 Z6 i)) (qS C) i) acc G1 0 = G1 := by
        funext a j
        unfold mdG
        rw [if_neg (by omega), if_neg (by omega)]
      rw [e0] at L
      have T := tail r h' G1 1 o9 o10 o11 o12 o13 o14 o15 L
      refine bk_sound (cuts := [103]) 20 _ _ _ _ ?_
      refine br_f (by decide) ?_
      refine And.intro ⟨rfl, rfl⟩ (And.intro rfl (Exists.intro _ (Exists.intro _ (And.intro (C1) ?_))))
      exact T
theorem ld_k (hs : Shp h) (K : MK F C x) (hN : N = 6 ^ qS C) (hr : rule ≤ 4) (he : e ≤ 1) (hd : day < 100) (hB : B ≤ 800000000000) (hf : ∀ g, f g ≤ B) (h47 : ∀ i, i < N → G0 47 i = lN (f (dgN (qS C) T6 Z6 i))) : ∀ (n : Nat) (G : Nat → Nat → Int64) (acc : Nat → Ac), n ≤ qL C + 1 → PM G0 N G acc → ∃ G', PM G0 N G' (fun i => gM rule (canD C rule (dgN (qS C) T6 Z6 i)) (fun k z => vlK C e day f k z (dgN (qS C) T6 Z6 i)) n (acc i)) ∧ ∀ r h', (∀ o7 o8 o9 o10 o11 o12 o13 o14 o15, Rn sc (mtk 171) 279 [some (.ref 39), some (.int (nI x)), some (.int (nI rule)), some (.int (nI day)), some (.int (nI e)), some (.int (nI N)), some (.int (nI 0 - 1)), o7, o8, o9, o10, o11, o12, o13, o14, o15] [] (wIJ (nh h) F G') r h') → ∀ o7 o8 o9 o10 o11 o12 o13 o14 o15, Rn sc (mtk 171) 45 [some (.ref 39), some (.int (nI x)), some (.int (nI rule)), some (.int (nI day)), some (.int (nI e)), some (.int (nI N)), some (.int (nI n - 1)), o7, o8, o9, o10, o11, o12, o13, o14, o15] [] (wIJ (nh h) F G) r h' := by
  intro n
  obtain ⟨k1, k2, k3, k4, k5, k6, k7⟩ := id K
  induction n with
  | zero =>
    intro G acc _ P
    refine ⟨G, P, fun r h' R o7 o8 o9 o10 o11 o12 o13 o14 o15 => ?_⟩
    refine bk_sound (cuts := [279]) 20 _ _ _ _ ?_
    refine br_t (by decide) ?_
    exact R _ _ _ _ _ _ _ _ _
  | succ n ih =>
    intro G acc hn P
    obtain ⟨G1, P1, R1⟩ := ld_w (sc := sc) (h := h) (G := G) (acc := acc) (k := n) (z := 0) hs K hN (by omega) (by omega) hr he hd hB hf h47 P
    obtain ⟨G2, P2, R2⟩ := ld_w (sc := sc) (h := h) (G := G1) (k := n) (z := 1) hs K hN (by omega) (by omega) hr he hd hB hf h47 P1
    obtain ⟨G3, P3, R3⟩ := ih G2 _ (by omega) P2
    refine ⟨G3, ?_, fun r h' R o7 o8 o9 o10 o11 o12 o13 o14 o15 => ?_⟩
    · have ee : (fun i => gM rule (canD C rule (dgN (qS C) T6 Z6 i)) (fun k z => vlK C e day f k z (dgN (qS C) T6 Z6 i)) (n + 1) (acc i)) = (fun i => gM rule (canD C rule (dgN (qS C) T6 Z6 i)) (fun k z => vlK C e day f k z (dgN (qS C) T6 Z6 i)) n (if trM rule 1 = true then stA rule n 1 (canD C rule (dgN (qS C) T6 Z6 i)) (vlK C e day f n 1 (dgN (qS C) T6 Z6 i)) (if trM rule 0 = true then stA rule n 0 (canD C rule (dgN (qS C) T6 Z6 i)) (vlK C e day f n 0 (dgN (qS C) T6 Z6 i)) (acc i) else acc i) else (if trM rule 0 = true then stA rule n 0 (canD C rule (dgN (qS C) T6 Z6 i)) (vlK C e day f n 0 (dgN (qS C) T6 Z6 i)) (acc i) else acc i))) := by
        funext i
        rw [gM_s]
        rfl
      rw [ee]
      exact P3
    · have A := R3 r h' R
      rw [i_dec (nI n)] at A
      have B' := R2 r h' (fun o8 o9 o10 o11 o12 o13 o14 o15 => by
        refine bk_sound (cuts := [45]) 20 _ _ _ _ ?_
        refine br_t (show 3 ≤ nI (1 + (1 + 1)) by decide) ?_
        exact A _ _ _ _ _ _ _ _ _)
      have C' := R1 r h' B'
      rw [nI_pred]
      refine bk_sound (cuts := [53]) 20 _ _ _ _ ?_
      refine br_f (nI_pos (by omega)) ?_
      exact C' _ _ _ _ _ _ _ _
end
