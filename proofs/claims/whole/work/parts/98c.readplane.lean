/-! texts: brings and plane, by the class -/
def nx1 (t : Nat → Int32) (L p : Nat) : Nat := p + (nbF t L p 1 0 0).1
def vl1 (t : Nat → Int32) (L p : Nat) : Int32 := (nbF t L p 1 0 0).2
/-- a row of one-digit numbers: is it right, where does it end -/
def ro1 (t : Nat → Int32) (L : Nat) (lo hi : Int32) : Nat → Nat → Bool × Nat
  | 0, p => (true, p)
  | m + 1, p => if okB t L p 1 lo hi = true then ro1 t L lo hi m (nx1 t L p) else (false, p)
def b1F (t : Nat → Int32) (L p : Nat) : Nat → Nat
  | 0 => p
  | k + 1 => nx1 t L (b1F t L p k)
section
variable {sc : Nat × (Nat → Int32)} {h : Hp} {F : Nat → Nat → Int32} {G : Nat → Nat → Int64} {cc f L p : Nat} {t : Nat → Int32}
theorem nx1_le (hp : p ≤ L) : nx1 t L p ≤ L := by
  have := nbF_d (t := t) (L := L) (p := p) 1 0 0 (by omega)
  unfold nx1
  omega
theorem rb_loop {l p0 : Nat} (hl : l ≤ 4) : ∀ (m i p : Nat) (F : Nat → Nat → Int32), i + m = l → RS h F cc f L p t → F 3 5 = nI l → p = b1F t L p0 i → (∀ v, v < i → F 5 (v + 1) = vl1 t L (b1F t L p0 v)) → ∃ F', Rn sc (mtk 56) 13 [some (.ref 3), some (.int (nI (i + 1)))] [] (wIJ (nh h) F G) (some (.int (bI (ro1 t L 0 9 m p).1))) (wIJ (nh h) F' G) ∧ F' 3 3 = nI (ro1 t L 0 9 m p).2 ∧ (ro1 t L 0 9 m p).2 ≤ L ∧ (∀ a i, ¬ (a = 3 ∧ (i = 3 ∨ i = 4)) → ¬ (a = 5 ∧ 1 ≤ i) → F' a i = F a i) ∧ ((ro1 t L 0 9 m p).1 = true → ∀ v, v < l → F' 5 (v + 1) = vl1 t L (b1F t L p0 v)) := by
  intro m
  induction m with
  | zero =>
    intro i p F hi R e5 hp hv
    obtain rfl : i = l := by omega
    refine ⟨F, ?_, R.2.2.2.2.2.2.1, R.2.2.2.1, fun _ _ _ _ => rfl, fun _ => hv⟩
    show Rn sc (mtk 56) 13 _ [] _ (some (.int (bI true))) _
    refine bk_sound (cuts := []) 20 _ _ _ _ ?_
    refine And.intro rfl ?_
    refine br_t (show F 3 5 < nI (i + 1) by rw [e5]; exact nI_lt (by omega) (by omega)) ?_
    exact ⟨Or.inr ⟨rfl, Or.inr rfl⟩, rfl, rfl⟩
  | succ m ih =>
    intro i p F hi R e5 hp hv
    have ik : inB (nI (i + 1)) 5 = true := inB_nI (by omega) (by decide)
    have ek : (nI (i + 1)).toNatClampNeg = i + 1 := nI_clamp (by omega)
    have g5 : ¬ F 3 5 < nI (i + 1) := by rw [e5]; exact nI_nlt (by omega) (by omega)
    by_cases q : okB t L p 1 0 9 = true
    · obtain ⟨F1, C1, a1, a2, a3⟩ := c_readNumber_t (sc := sc) (G := G) R (k := 1) (by decide) (okB_iff.mp q)
      have a1' : F1 3 3 = nI (nx1 t L p) := a1
      obtain ⟨F', C2, d1, d2, d3, d4⟩ := ih (i + 1) (nx1 t L p) (u2 F1 5 (i + 1) (F1 3 4)) (by omega) (R.next (nx1_le R.2.2.2.1) (by rw [u2_eq, if_neg (by omega)]; exact a1') (fun a j h1 _ h3 => by rw [u2_eq, if_neg (by omega)]; exact a3 a j (by omega))) (by rw [u2_eq, if_neg (by omega), a3 3 5 (by omega)]; exact e5) (by rw [hp]; rfl) (fun v hv1 => by
        rw [u2_eq]
        by_cases z : v = i
        · rw [if_pos ⟨rfl, by omega⟩, a2, z, ← hp]
          rfl
        · rw [if_neg (by omega), a3 _ _ (by omega)]
          exact hv v (by omega))
      have e : ro1 t L 0 9 (m + 1) p = ro1 t L 0 9 m (nx1 t L p) := by
        show (if _ then _ else _) = _
        rw [if_pos q]
      rw [e]
      refine ⟨F', ?_, d1, d2, fun a j h1 h2 => by rw [d3 a j h1 h2, u2_eq, if_neg (by omega)]; exact a3 a j h1, d4⟩
      rw [← nI_1 (i + 1)] at C2
      refine bk_sound (cuts := [13]) 40 _ _ _ _ ?_
      refine And.intro rfl ?_
      refine br_f g5 ?_
      refine And.intro ⟨rfl, rfl⟩ (And.intro rfl (Exists.intro _ (Exists.intro _ (And.intro (C1) ?_))))
      refine br_t (by decide) ?_
      refine And.intro rfl ?_
      refine And.intro rfl ?_
      refine And.intro (⟨rfl, ik⟩) ?_
      rw [ek]
      exact C2
    · have e : ro1 t L 0 9 (m + 1) p = (false, p) := by
        show (if _ then _ else _) = _
        rw [if_neg q]
      rw [e]
      have C1 := c_readNumber_f (sc := sc) (G := G) R (k := 1) (by decide) (fun z => q (okB_iff.mpr z))
      refine ⟨F, ?_, R.2.2.2.2.2.2.1, R.2.2.2.1, fun _ _ _ _ => rfl, fun z => by cases z⟩
      refine bk_sound (cuts := [13]) 40 _ _ _ _ ?_
      refine And.intro rfl ?_
      refine br_f g5 ?_
      refine And.intro ⟨rfl, rfl⟩ (And.intro rfl (Exists.intro _ (Exists.intro _ (And.intro (C1) ?_))))
      refine br_f (by decide) ?_
      exact ⟨Or.inr ⟨rfl, Or.inl rfl⟩, rfl, rfl⟩
/-- all the brings: is it right, where does it end -/
def brR (t : Nat → Int32) (L l p : Nat) : Bool × Nat := if cdB t L p 98 = true then ro1 t L 0 9 l (p + 1) else (false, p)
theorem c_readBrings {l : Nat} (hl : l ≤ 4) (R : RS h F cc f L p t) (e5 : F 3 5 = nI l) : ∃ F', Cc sc 56 [.ref 3] (wIJ (nh h) F G) (some (.int (bI (brR t L l p).1))) (wIJ (nh h) F' G) ∧ F' 3 3 = nI (brR t L l p).2 ∧ (brR t L l p).2 ≤ L ∧ (∀ a i, ¬ (a = 3 ∧ (i = 3 ∨ i = 4)) → ¬ (a = 5 ∧ 1 ≤ i) → F' a i = F a i) ∧ ((brR t L l p).1 = true → ∀ v, v < l → F' 5 (v + 1) = vl1 t L (b1F t L (p + 1) v)) := by
  unfold brR
  by_cases q : cdB t L p 98 = true
  · have q' := cdB_iff.mp q
    obtain ⟨F1, C1, a1, a2⟩ := c_readCode_t (sc := sc) (G := G) R q'.1 q'.2
    have R1 : RS h F1 cc f L (p + 1) t := R.next (by omega) a1 (fun a i h1 _ _ => a2 a i (fun z => h1 (by omega)))
    rw [if_pos q]
    obtain ⟨F', C2, d1, d2, d3, d4⟩ := rb_loop (sc := sc) (G := G) (p0 := p + 1) hl l 0 (p + 1) F1 (by omega) R1 (by rw [a2 3 5 (by omega)]; exact e5) rfl (fun v z => absurd z (Nat.not_lt_zero _))
    refine ⟨F', ?_, d1, d2, fun a i h1 h2 => by rw [d3 a i h1 h2]; exact a2 a i (by omega), d4⟩
    refine cc_cut [13] 20 rfl rfl ?_
    refine And.intro ⟨rfl, rfl⟩ (And.intro rfl (Exists.intro _ (Exists.intro _ (And.intro (C1) ?_))))
    refine br_t (by decide) ?_
    exact C2
  · rw [if_neg q]
    have C1 := c_readCode_f (sc := sc) (G := G) R (fun z => q (cdB_iff.mpr z))
    refine ⟨F, ?_, R.2.2.2.2.2.2.1, R.2.2.2.1, fun _ _ _ _ => rfl, fun z => by cases z⟩
    refine cc_cut [13] 20 rfl rfl ?_
    refine And.intro ⟨rfl, rfl⟩ (And.intro rfl (Exists.intro _ (Exists.intro _ (And.intro (C1) ?_))))
    refine br_f (by decide) ?_
    exact ⟨Or.inr ⟨rfl, Or.inl rfl⟩, rfl, rfl⟩
theorem rp_loop {S p0 : Nat} (hS : S ≤ 3) : ∀ (m i p : Nat) (F : Nat → Nat → Int32), i + m = S → RS h F cc f L p t → F 3 6 = nI S → p = b1F t L p0 i → (∀ v, v < i → F 4 (5 * v + 4) = vl1 t L (b1F t L p0 v)) → ∃ F', Rn sc (mtk 57) 59 [some (.ref 3), some (.int (nI i))] [] (wIJ (nh h) F G) (some (.int (bI (ro1 t L 0 2 m p).1))) (wIJ (nh h) F' G) ∧ F' 3 3 = nI (ro1 t L 0 2 m p).2 ∧ (ro1 t L 0 2 m p).2 ≤ L ∧ (∀ a j, ¬ (a = 3 ∧ (j = 3 ∨ j = 4)) → ¬ (a = 4 ∧ ∃ v, v < S ∧ j = 5 * v + 4) → F' a j = F a j) ∧ ((ro1 t L 0 2 m p).1 = true → ∀ v, v < S → F' 4 (5 * v + 4) = vl1 t L (b1F t L p0 v)) := by
  intro m
  induction m with
  | zero =>
    intro i p F hi R e6 hp hv
    obtain rfl : i = S := by omega
    refine ⟨F, ?_, R.2.2.2.2.2.2.1, R.2.2.2.1, fun _ _ _ _ => rfl, fun _ => hv⟩
    show Rn sc (mtk 57) 59 _ [] _ (some (.int (bI true))) _
    refine bk_sound (cuts := []) 20 _ _ _ _ ?_
    refine And.intro rfl ?_
    refine br_t (show F 3 6 ≤ nI i by rw [e6]; exact nI_le (Nat.le_refl _) (by omega)) ?_
    exact ⟨Or.inr ⟨rfl, Or.inr rfl⟩, rfl, rfl⟩
  | succ m ih =>
    intro i p F hi R e6 hp hv
    have e5 : nI i * 5 + 4 = nI (5 * i + 4) := by rw [show (5 : Int32) = nI 5 from rfl, show (4 : Int32) = nI 4 from rfl, pk_mul, nI_add, Nat.mul_comm]
    have g6 : ¬ F 3 6 ≤ nI i := by rw [e6]; exact nI_ge (by omega) (by omega)
    by_cases q : okB t L p 1 0 2 = true
    · obtain ⟨F1, C1, a1, a2, a3⟩ := c_readNumber_t (sc := sc) (G := G) R (k := 1) (by decide) (okB_iff.mp q)
      have a1' : F1 3 3 = nI (nx1 t L p) := a1
      obtain ⟨F', C2, d1, d2, d3, d4⟩ := ih (i + 1) (nx1 t L p) (u2 F1 4 (5 * i + 4) (F1 3 4)) (by omega) (R.next (nx1_le R.2.2.2.1) (by rw [u2_eq, if_neg (by omega)]; exact a1') (fun a j h1 h2 _ => by rw [u2_eq, if_neg (by omega)]; exact a3 a j (by omega))) (by rw [u2_eq, if_neg (by omega), a3 3 6 (by omega)]; exact e6) (by rw [hp]; rfl) (fun v hv1 => by
        rw [u2_eq]
        by_cases z : v = i
        · rw [if_pos ⟨rfl, by omega⟩, a2, z, ← hp]
          rfl
        · rw [if_neg (by omega), a3 _ _ (by omega)]
          exact hv v (by omega))
      have e : ro1 t L 0 2 (m + 1) p = ro1 t L 0 2 m (nx1 t L p) := by
        show (if _ then _ else _) = _
        rw [if_pos q]
      rw [e]
      refine ⟨F', ?_, d1, d2, fun a j h1 h2 => by rw [d3 a j h1 h2, u2_eq, if_neg (fun z => h2 ⟨z.1, i, by omega, z.2⟩)]; exact a3 a j h1, d4⟩
      rw [← nI_1] at C2
      refine bk_sound (cuts := [59]) 50 _ _ _ _ ?_
      refine And.intro rfl ?_
      refine br_f g6 ?_
      refine And.intro rfl ?_
      refine And.intro rfl ?_
      refine And.intro ⟨rfl, rfl⟩ (And.intro rfl (Exists.intro _ (Exists.intro _ (And.intro (C1) ?_))))
      refine br_t (by decide) ?_
      refine And.intro rfl ?_
      refine And.intro rfl ?_
      refine And.intro (show _ ∧ inB (nI i * 5 + 4) 15 = true from ⟨rfl, by rw [e5]; exact inB_nI (by omega) (by decide)⟩) ?_
      rw [show (nI i * 5 + 4).toNatClampNeg = 5 * i + 4 by rw [e5]; exact nI_clamp (by omega)]
      exact C2
    · have e : ro1 t L 0 2 (m + 1) p = (false, p) := by
        show (if _ then _ else _) = _
        rw [if_neg q]
      rw [e]
      have C1 := c_readNumber_f (sc := sc) (G := G) R (k := 1) (by decide) (fun z => q (okB_iff.mpr z))
      refine ⟨F, ?_, R.2.2.2.2.2.2.1, R.2.2.2.1, fun _ _ _ _ => rfl, fun z => by cases z⟩
      refine bk_sound (cuts := [59]) 50 _ _ _ _ ?_
      refine And.intro rfl ?_
      refine br_f g6 ?_
      refine And.intro rfl ?_
      refine And.intro rfl ?_
      refine And.intro ⟨rfl, rfl⟩ (And.intro rfl (Exists.intro _ (Exists.intro _ (And.intro (C1) ?_))))
      refine br_f (by decide) ?_
      exact ⟨Or.inr ⟨rfl, Or.inl rfl⟩, rfl, rfl⟩
end
