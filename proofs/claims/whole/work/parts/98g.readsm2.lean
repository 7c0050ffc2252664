/-! texts: brings and the plane, by the model -/
section
variable {sc : Nat × (Nat → Int32)} {h : Hp} {F : Nat → Nat → Int32} {G : Nat → Nat → Int64} {b L p : Nat} {t : Nat → Int32}
theorem mb_end {k : Int32} : Rn sc (mtk 154) 12 [some (.ref 39), some (.int (nI b)), some (.int (nI L)), some (.int 0), some (.int k)] [] (wIJ (nh h) F G) (some (.int (bI false))) (wIJ (nh h) F G) := by
  refine bk_sound (cuts := []) 20 _ _ _ _ ?_
  refine And.intro rfl ?_
  refine br_c (fun q => ?_) (fun q => ?_)
  · exact ⟨Or.inr ⟨rfl, Or.inl rfl⟩, rfl, rfl⟩
  · refine br_t (by rfl) ?_
    exact ⟨Or.inr ⟨rfl, Or.inl rfl⟩, rfl, rfl⟩
theorem mb_loop {l p0 : Nat} (hl : l ≤ 4) : ∀ (m i p : Nat) (F : Nat → Nat → Int32), i + m = l → MS F b L p t → F 39 9 = nI l → p = b1F t L p0 i → (∀ v, v < i → F 45 (v + 1) = vl1 t L (b1F t L p0 v)) → ∃ F', Rn sc (mtk 154) 12 [some (.ref 39), some (.int (nI b)), some (.int (nI L)), some (.int 1), some (.int (nI (i + 1)))] [] (wIJ (nh h) F G) (some (.int (bI (ro1 t L 0 9 m p).1))) (wIJ (nh h) F' G) ∧ F' 39 7 = nI (ro1 t L 0 9 m p).2 ∧ (ro1 t L 0 9 m p).2 ≤ L ∧ (∀ a i, ¬ (a = 39 ∧ (i = 7 ∨ i = 8)) → a ≠ 45 → F' a i = F a i) ∧ ((ro1 t L 0 9 m p).1 = true → ∀ v, v < l → F' 45 (v + 1) = vl1 t L (b1F t L p0 v)) := by
  intro m
  induction m with
  | zero =>
    intro i p F hi R e9 hp hv
    obtain rfl : i = l := by omega
    refine ⟨F, ?_, R.2.2.2.1, R.2.2.1, fun _ _ _ _ => rfl, fun _ => hv⟩
    show Rn sc (mtk 154) 12 _ [] _ (some (.int (bI true))) _
    refine bk_sound (cuts := []) 20 _ _ _ _ ?_
    refine And.intro rfl ?_
    refine br_t (show F 39 9 < nI (i + 1) by rw [e9]; exact nI_lt (by omega) (by omega)) ?_
    exact ⟨Or.inr ⟨rfl, Or.inr rfl⟩, rfl, rfl⟩
  | succ m ih =>
    intro i p F hi R e9 hp hv
    have ik : inB (nI (i + 1)) 5 = true := inB_nI (by omega) (by decide)
    have ek : (nI (i + 1)).toNatClampNeg = i + 1 := nI_clamp (by omega)
    have g9 : ¬ F 39 9 < nI (i + 1) := by rw [e9]; exact nI_nlt (by omega) (by omega)
    obtain ⟨F1, C1, a1, a2, a3⟩ := c_readsNumber (sc := sc) (h := h) (G := G) R (k := 1) (by decide) (lo := 0) (hi := 9) (ok := okB t L p 1 0 9) okB_iff
    by_cases q : okB t L p 1 0 9 = true
    · rw [q] at C1
      rw [if_pos q] at a1
      have a1' : F1 39 7 = nI (nx1 t L p) := a1
      obtain ⟨F', C2, d1, d2, d3, d4⟩ := ih (i + 1) (nx1 t L p) (u2 F1 45 (i + 1) (F1 39 8)) (by omega) (R.next (nx1_le R.2.2.1) (by rw [u2_eq, if_neg (by omega)]; exact a1') (fun a j h1 h2 _ => by rw [u2_eq, if_neg (by omega)]; exact a3 a j (by omega))) (by rw [u2_eq, if_neg (by omega), a3 39 9 (by omega)]; exact e9) (by rw [hp]; rfl) (fun v hv1 => by
        rw [u2_eq]
        by_cases z : v = i
        · rw [if_pos ⟨rfl, by omega⟩, a2, z, ← hp]
          rfl
        · rw [if_neg (by omega), a3 _ _ (by omega)]
          exact hv v (by omega))
      have e : ro1 t L 0 9 (m + 1) p = ro1 t L 0 9 m (nx1 t L p) := by
        show (if _ then _ else _) = _
        rw [if_pos q]
      rw [e]
      refine ⟨F', ?_, d1, d2, fun a j h1 h2 => by rw [d3 a j h1 h2, u2_eq, if_neg (by omega)]; exact a3 a j h1, d4⟩
      rw [← nI_1 (i + 1)] at C2
      refine bk_sound (cuts := [12]) 40 _ _ _ _ ?_
      refine And.intro rfl ?_
      refine br_f g9 ?_
      refine br_f (by decide) ?_
      refine And.intro ⟨rfl, rfl⟩ (And.intro rfl (Exists.intro _ (Exists.intro _ (And.intro (C1) ?_))))
      refine And.intro rfl ?_
      refine And.intro rfl ?_
      refine And.intro (⟨rfl, ik⟩) ?_
      rw [ek]
      exact C2
    · have e : ro1 t L 0 9 (m + 1) p = (false, p) := by
        show (if _ then _ else _) = _
        rw [if_neg q]
      rw [e]
      rw [Bool.eq_false_iff.mpr q] at C1
      rw [if_neg q] at a1
      refine ⟨u2 F1 45 (i + 1) (F1 39 8), ?_, by rw [u2_eq, if_neg (by omega)]; exact a1, R.2.2.1, fun a j h1 h2 => by rw [u2_eq, if_neg (by omega)]; exact a3 a j h1, fun z => nomatch z⟩
      refine bk_sound (cuts := [12]) 40 _ _ _ _ ?_
      refine And.intro rfl ?_
      refine br_f g9 ?_
      refine br_f (by decide) ?_
      refine And.intro ⟨rfl, rfl⟩ (And.intro rfl (Exists.intro _ (Exists.intro _ (And.intro (C1) ?_))))
      refine And.intro rfl ?_
      refine And.intro rfl ?_
      refine And.intro (⟨rfl, ik⟩) ?_
      rw [ek]
      exact mb_end (sc := sc) (h := h) (F := u2 F1 45 (i + 1) (F1 39 8)) (G := G) (b := b) (L := L) (k := nI (i + 1) + 1)
theorem c_readsBrings {l : Nat} (hl : l ≤ 4) (R : MS F b L p t) (e9 : F 39 9 = nI l) : ∃ F', Cc sc 154 [.ref 39, .int (nI b), .int (nI L)] (wIJ (nh h) F G) (some (.int (bI (brR t L l p).1))) (wIJ (nh h) F' G) ∧ F' 39 7 = nI (brR t L l p).2 ∧ (brR t L l p).2 ≤ L ∧ (∀ a i, ¬ (a = 39 ∧ (i = 7 ∨ i = 8)) → a ≠ 45 → F' a i = F a i) ∧ ((brR t L l p).1 = true → ∀ v, v < l → F' 45 (v + 1) = vl1 t L (b1F t L (p + 1) v)) := by
  unfold brR
  by_cases q : cdB t L p 98 = true
  · have q' := cdB_iff.mp q
    obtain ⟨F1, C1, a1, a2⟩ := c_takes_t (sc := sc) (h := h) (G := G) R q'.1 q'.2
    have R1 : MS F1 b L (p + 1) t := R.next (by omega) a1 (fun a i h1 _ _ => a2 a i (fun z => h1 (by omega)))
    rw [if_pos q]
    obtain ⟨F', C2, d1, d2, d3, d4⟩ := mb_loop (sc := sc) (h := h) (G := G) (p0 := p + 1) hl l 0 (p + 1) F1 (by omega) R1 (by rw [a2 39 9 (by omega)]; exact e9) rfl (fun v z => absurd z (Nat.not_lt_zero _))
    refine ⟨F', ?_, d1, d2, fun a i h1 h2 => by rw [d3 a i h1 h2]; exact a2 a i (by omega), d4⟩
    refine cc_cut [12] 20 rfl rfl ?_
    refine And.intro ⟨rfl, rfl⟩ (And.intro rfl (Exists.intro _ (Exists.intro _ (And.intro (C1) ?_))))
    exact C2
  · rw [if_neg q]
    obtain ⟨F1, C1, a1, a2⟩ := c_takes_f (sc := sc) (h := h) (G := G) R (fun z => q (cdB_iff.mpr z))
    refine ⟨F1, ?_, a1, R.2.2.1, fun a i h1 h2 => a2 a i (by omega), fun z => nomatch z⟩
    refine cc_cut [12] 20 rfl rfl ?_
    refine And.intro ⟨rfl, rfl⟩ (And.intro rfl (Exists.intro _ (Exists.intro _ (And.intro (C1) ?_))))
    exact mb_end (sc := sc) (h := h) (F := F1) (G := G) (b := b) (L := L) (k := 1)
theorem mp_end {k : Int32} : Rn sc (mtk 155) 52 [some (.ref 39), some (.int (nI b)), some (.int (nI L)), some (.int 0), some (.int k)] [] (wIJ (nh h) F G) (some (.int (bI false))) (wIJ (nh h) F G) := by
  refine bk_sound (cuts := []) 20 _ _ _ _ ?_
  refine And.intro rfl ?_
  refine br_c (fun q => ?_) (fun q => ?_)
  · exact ⟨Or.inr ⟨rfl, Or.inl rfl⟩, rfl, rfl⟩
  · refine br_t (by rfl) ?_
    exact ⟨Or.inr ⟨rfl, Or.inl rfl⟩, rfl, rfl⟩
theorem mp_loop {S p0 : Nat} (hS : S ≤ 3) : ∀ (m i p : Nat) (F : Nat → Nat → Int32), i + m = S → MS F b L p t → F 39 10 = nI S → p = b1F t L p0 i → (∀ v, v < i → F 46 (5 * v + 4) = vl1 t L (b1F t L p0 v)) → ∃ F', Rn sc (mtk 155) 52 [some (.ref 39), some (.int (nI b)), some (.int (nI L)), some (.int 1), some (.int (nI i))] [] (wIJ (nh h) F G) (some (.int (bI (ro1 t L 0 2 m p).1))) (wIJ (nh h) F' G) ∧ F' 39 7 = nI (ro1 t L 0 2 m p).2 ∧ (ro1 t L 0 2 m p).2 ≤ L ∧ (∀ a j, ¬ (a = 39 ∧ (j = 7 ∨ j = 8)) → ¬ (a = 46 ∧ ∃ v, v < S ∧ j = 5 * v + 4) → F' a j = F a j) ∧ ((ro1 t L 0 2 m p).1 = true → ∀ v, v < S → F' 46 (5 * v + 4) = vl1 t L (b1F t L p0 v)) := by
  intro m
  induction m with
  | zero =>
    intro i p F hi R e10 hp hv
    obtain rfl : i = S := by omega
    refine ⟨F, ?_, R.2.2.2.1, R.2.2.1, fun _ _ _ _ => rfl, fun _ => hv⟩
    show Rn sc (mtk 155) 52 _ [] _ (some (.int (bI true))) _
    refine bk_sound (cuts := []) 20 _ _ _ _ ?_
    refine And.intro rfl ?_
    refine br_t (show F 39 10 ≤ nI i by rw [e10]; exact nI_le (Nat.le_refl _) (by omega)) ?_
    exact ⟨Or.inr ⟨rfl, Or.inr rfl⟩, rfl, rfl⟩
  | succ m ih =>
    intro i p F hi R e10 hp hv
    have e5 : 5 * nI i + 4 = nI (5 * i + 4) := by rw [show (5 : Int32) = nI 5 from rfl, show (4 : Int32) = nI 4 from rfl, pk_mul, nI_add]
    have i5 : inB (5 * nI i + 4) 15 = true := by rw [e5]; exact inB_nI (by omega) (by decide)
    have c5 : (5 * nI i + 4).toNatClampNeg = 5 * i + 4 := by rw [e5]; exact nI_clamp (by omega)
    have g6 : ¬ F 39 10 ≤ nI i := by rw [e10]; exact nI_ge (by omega) (by omega)
    obtain ⟨F1, C1, a1, a2, a3⟩ := c_readsNumber (sc := sc) (h := h) (G := G) R (k := 1) (by decide) (lo := 0) (hi := 2) (ok := okB t L p 1 0 2) okB_iff
    by_cases q : okB t L p 1 0 2 = true
    · rw [q] at C1
      rw [if_pos q] at a1
      have a1' : F1 39 7 = nI (nx1 t L p) := a1
      obtain ⟨F', C2, d1, d2, d3, d4⟩ := ih (i + 1) (nx1 t L p) (u2 F1 46 (5 * i + 4) (F1 39 8)) (by omega) (R.next (nx1_le R.2.2.1) (by rw [u2_eq, if_neg (by omega)]; exact a1') (fun a j h1 _ h2 => by rw [u2_eq, if_neg (by omega)]; exact a3 a j (by omega))) (by rw [u2_eq, if_neg (by omega), a3 39 10 (by omega)]; exact e10) (by rw [hp]; rfl) (fun v hv1 => by
        rw [u2_eq]
        by_cases z : v = i
        · rw [if_pos ⟨rfl, by omega⟩, a2, z, ← hp]
          rfl
        · rw [if_neg (by omega), a3 _ _ (by omega)]
          exact hv v (by omega))
      have e : ro1 t L 0 2 (m + 1) p = ro1 t L 0 2 m (nx1 t L p) := by
        show (if _ then _ else _) = _
        rw [if_pos q]
      rw [e]
      refine ⟨F', ?_, d1, d2, fun a j h1 h2 => by rw [d3 a j h1 h2, u2_eq, if_neg (fun z => h2 ⟨z.1, i, by omega, z.2⟩)]; exact a3 a j h1, d4⟩
      rw [← nI_1] at C2
      refine bk_sound (cuts := [52]) 50 _ _ _ _ ?_
      refine And.intro rfl ?_
      refine br_f g6 ?_
      refine br_f (by decide) ?_
      refine And.intro ⟨rfl, rfl⟩ (And.intro rfl (Exists.intro _ (Exists.intro _ (And.intro (C1) ?_))))
      refine And.intro rfl ?_
      refine And.intro rfl ?_
      refine And.intro (show _ ∧ inB (5 * nI i + 4) 15 = true from ⟨rfl, i5⟩) ?_
      rw [c5]
      exact C2
    · have e : ro1 t L 0 2 (m + 1) p = (false, p) := by
        show (if _ then _ else _) = _
        rw [if_neg q]
      rw [e]
      rw [Bool.eq_false_iff.mpr q] at C1
      rw [if_neg q] at a1
      refine ⟨u2 F1 46 (5 * i + 4) (F1 39 8), ?_, by rw [u2_eq, if_neg (by omega)]; exact a1, R.2.2.1, fun a j h1 h2 => by rw [u2_eq, if_neg (fun z => h2 ⟨z.1, i, by omega, z.2⟩)]; exact a3 a j h1, fun z => nomatch z⟩
      refine bk_sound (cuts := [52]) 50 _ _ _ _ ?_
      refine And.intro rfl ?_
      refine br_f g6 ?_
      refine br_f (by decide) ?_
      refine And.intro ⟨rfl, rfl⟩ (And.intro rfl (Exists.intro _ (Exists.intro _ (And.intro (C1) ?_))))
      refine And.intro rfl ?_
      refine And.intro rfl ?_
      refine And.intro (show _ ∧ inB (5 * nI i + 4) 15 = true from ⟨rfl, i5⟩) ?_
      rw [c5]
      exact mp_end (sc := sc) (h := h) (F := u2 F1 46 (5 * i + 4) (F1 39 8)) (G := G) (b := b) (L := L) (k := nI i + 1)
theorem c_readsPlane {S : Nat} (hS : S ≤ 3) (R : MS F b L p t) (e10 : F 39 10 = nI S) (hp : p ≠ L) : ∃ F', Cc sc 155 [.ref 39, .int (nI b), .int (nI L)] (wIJ (nh h) F G) (some (.int (bI (plR t L S p).1))) (wIJ (nh h) F' G) ∧ F' 39 7 = nI (plR t L S p).2.1 ∧ (plR t L S p).2.1 ≤ L ∧ (∀ a i, ¬ (a = 39 ∧ (i = 7 ∨ i = 8 ∨ i = 11)) → ¬ (a = 46 ∧ ∃ v, v < S ∧ i = 5 * v + 4) → F' a i = F a i) ∧ ((plR t L S p).1 = true → F' 39 11 = (plR t L S p).2.2 ∧ ∀ v, v < S → F' 46 (5 * v + 4) = vl1 t L (b1F t L (nx1 t L (p + 2)) v)) := by
  have fin0 : ∀ F1 : Nat → Nat → Int32, Rn sc (mtk 155) 39 [some (.ref 39), some (.int (nI b)), some (.int (nI L)), none, none] [] (wIJ (nh h) F1 G) (some (.int (bI false))) (wIJ (nh h) (u2 F1 39 11 (F1 39 8)) G) := fun F1 => by
    refine bk_sound (cuts := [52]) 20 _ _ _ _ ?_
    refine And.intro rfl ?_
    refine And.intro rfl ?_
    exact mp_end (sc := sc) (h := h) (F := u2 F1 39 11 (F1 39 8)) (G := G) (b := b) (L := L) (k := 0)
  have e7 : ∀ (F1 : Nat → Nat → Int32) x, u2 F1 39 11 x 39 7 = F1 39 7 := fun F1 x => by rw [u2_eq, if_neg (by omega)]
  have k0 : ∀ (F1 : Nat → Nat → Int32) x, (∀ a i, ¬ (a = 39 ∧ (i = 7 ∨ i = 8)) → F1 a i = F a i) → ∀ a i, ¬ (a = 39 ∧ (i = 7 ∨ i = 8 ∨ i = 11)) → ¬ (a = 46 ∧ ∃ v, v < S ∧ i = 5 * v + 4) → u2 F1 39 11 x a i = F a i := fun F1 x k a i h1 _ => by
    rw [u2_eq, if_neg (by omega)]
    exact k a i (by omega)
  unfold plR
  rw [if_neg hp]
  by_cases q : cdB t L p 59 = true
  · rw [if_pos q]
    have q' := cdB_iff.mp q
    obtain ⟨F1, C1, a1, a2⟩ := c_takes_t (sc := sc) (h := h) (G := G) R q'.1 q'.2
    have R1 : MS F1 b L (p + 1) t := R.next (by omega) a1 (fun a i h1 _ _ => a2 a i (fun z => h1 (by omega)))
    by_cases w : cdB t L (p + 1) 112 = true
    · rw [if_pos w]
      have w' := cdB_iff.mp w
      obtain ⟨F2, C2, b1, b2⟩ := c_takes_t (sc := sc) (h := h) (G := G) R1 w'.1 w'.2
      have R2 : MS F2 b L (p + 2) t := R1.next (by omega) b1 (fun a i h1 _ _ => b2 a i (fun z => h1 (by omega)))
      obtain ⟨F3, C3, d1, d2, d3⟩ := c_readsNumber (sc := sc) (h := h) (G := G) R2 (k := 1) (by decide) (lo := 1) (hi := 9) (ok := okB t L (p + 2) 1 1 9) okB_iff
      have k3 : ∀ a i, ¬ (a = 39 ∧ (i = 7 ∨ i = 8)) → F3 a i = F a i := fun a i h1 => by rw [d3 a i h1, b2 a i (by omega), a2 a i (by omega)]
      by_cases x : okB t L (p + 2) 1 1 9 = true
      · rw [if_pos x]
        rw [x] at C3
        rw [if_pos x] at d1
        have d1' : F3 39 7 = nI (nx1 t L (p + 2)) := d1
        obtain ⟨F', C4, g1, g2, g3, g4⟩ := mp_loop (sc := sc) (h := h) (G := G) (p0 := nx1 t L (p + 2)) hS S 0 (nx1 t L (p + 2)) (u2 F3 39 11 (F3 39 8)) (by omega) (R2.next (nx1_le R2.2.2.1) (by rw [e7]; exact d1') (fun a i h1 _ _ => by rw [u2_eq, if_neg (by omega)]; exact d3 a i (by omega))) (by rw [u2_eq, if_neg (by omega), k3 39 10 (by omega)]; exact e10) rfl (fun v z => absurd z (Nat.not_lt_zero _))
        refine ⟨F', ?_, g1, g2, fun a i h1 h2 => by rw [g3 a i (by omega) h2]; exact k0 F3 _ k3 a i h1 h2, fun z => ⟨by rw [g3 39 11 (by omega) (by omega), u2_eq, if_pos ⟨rfl, rfl⟩]; exact d2, g4 z⟩⟩
        refine cc_cut [52] 50 rfl rfl ?_
        refine And.intro ⟨rfl, rfl⟩ (And.intro rfl (Exists.intro _ (Exists.intro _ (And.intro (C1) ?_))))
        refine br_f (by decide) ?_
        refine And.intro ⟨rfl, rfl⟩ (And.intro rfl (Exists.intro _ (Exists.intro _ (And.intro (C2) ?_))))
        refine br_f (by decide) ?_
        refine And.intro ⟨rfl, rfl⟩ (And.intro rfl (Exists.intro _ (Exists.intro _ (And.intro (C3) ?_))))
        refine br_f (by decide) ?_
        refine And.intro rfl ?_
        refine And.intro rfl ?_
        exact C4
      · rw [if_neg x]
        rw [Bool.eq_false_iff.mpr x] at C3
        rw [if_neg x] at d1
        refine ⟨u2 F3 39 11 (F3 39 8), ?_, (e7 _ _).trans d1, R2.2.2.1, k0 F3 _ k3, fun z => nomatch z⟩
        refine cc_cut [39] 50 rfl rfl ?_
        refine And.intro ⟨rfl, rfl⟩ (And.intro rfl (Exists.intro _ (Exists.intro _ (And.intro (C1) ?_))))
        refine br_f (by decide) ?_
        refine And.intro ⟨rfl, rfl⟩ (And.intro rfl (Exists.intro _ (Exists.intro _ (And.intro (C2) ?_))))
        refine br_f (by decide) ?_
        refine And.intro ⟨rfl, rfl⟩ (And.intro rfl (Exists.intro _ (Exists.intro _ (And.intro (C3) ?_))))
        refine br_t (by rfl) ?_
        exact fin0 F3
    · rw [if_neg w]
      obtain ⟨F2, C2, b1, b2⟩ := c_takes_f (sc := sc) (h := h) (G := G) R1 (fun z => w (cdB_iff.mpr z))
      refine ⟨u2 F2 39 11 (F2 39 8), ?_, (e7 _ _).trans b1, R1.2.2.1, k0 F2 _ (fun a i h1 => by rw [b2 a i (by omega), a2 a i (by omega)]), fun z => nomatch z⟩
      refine cc_cut [39] 50 rfl rfl ?_
      refine And.intro ⟨rfl, rfl⟩ (And.intro rfl (Exists.intro _ (Exists.intro _ (And.intro (C1) ?_))))
      refine br_f (by decide) ?_
      refine And.intro ⟨rfl, rfl⟩ (And.intro rfl (Exists.intro _ (Exists.intro _ (And.intro (C2) ?_))))
      refine br_t (by rfl) ?_
      exact fin0 F2
  · rw [if_neg q]
    obtain ⟨F1, C1, a1, a2⟩ := c_takes_f (sc := sc) (h := h) (G := G) R (fun z => q (cdB_iff.mpr z))
    refine ⟨u2 F1 39 11 (F1 39 8), ?_, (e7 _ _).trans a1, R.2.2.1, k0 F1 _ (fun a i h1 => a2 a i (by omega)), fun z => nomatch z⟩
    refine cc_cut [39] 50 rfl rfl ?_
    refine And.intro ⟨rfl, rfl⟩ (And.intro rfl (Exists.intro _ (Exists.intro _ (And.intro (C1) ?_))))
    refine br_t (by rfl) ?_
    exact fin0 F1
end
