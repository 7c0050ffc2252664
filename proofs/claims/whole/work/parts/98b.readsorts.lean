/-! texts: lorries and sorts, by the class -/
/-- all the sorts: is it right, where does it end, how many -/
def allS (t : Nat → Int32) (L : Nat) : Nat → Nat → Nat → Bool × Nat × Nat
  | 0, s, p => if cdB t L p 59 = true then (true, p + 1, s) else (false, p, s)
  | m + 1, s, p => if cdB t L p 59 = true then (if pkT t L (p + 1) = 115 then (if (srF t L 4 0 (p + 1)).1 = true then allS t L m (s + 1) (srF t L 4 0 (p + 1)).2 else (false, (srF t L 4 0 (p + 1)).2, s)) else (decide (0 < s), p + 1, s)) else (false, p, s)
/-- where a sort begins -/
def sqF (t : Nat → Int32) (L p : Nat) : Nat → Nat
  | 0 => p + 1
  | s + 1 => (srF t L 4 0 (sqF t L p s)).2 + 1
def nvS (t : Nat → Int32) (L p s w : Nat) : Int32 := if w = 4 then 0 else vlW t L (plF t L (sqF t L p s) w) w
def lrF (t : Nat → Int32) (L p : Nat) : Bool × Nat := if cdB t L p 108 = true then (if okB t L (p + 1) 1 1 4 = true then (true, p + 1 + (nbF t L (p + 1) 1 0 0).1) else (false, p + 1)) else (false, p)
section
variable {sc : Nat × (Nat → Int32)} {h : Hp} {F : Nat → Nat → Int32} {G : Nat → Nat → Int64} {cc f L p : Nat} {t : Nat → Int32}
theorem c_readLorries (R : RS h F cc f L p t) : ∃ F', Cc sc 53 [.ref 3] (wIJ (nh h) F G) (some (.int (bI (lrF t L p).1))) (wIJ (nh h) F' G) ∧ F' 3 3 = nI (lrF t L p).2 ∧ (lrF t L p).2 ≤ L ∧ (∀ a i, ¬ (a = 3 ∧ (i = 3 ∨ i = 4 ∨ i = 5)) → F' a i = F a i) ∧ ((lrF t L p).1 = true → F' 3 5 = (nbF t L (p + 1) 1 0 0).2) := by
  unfold lrF
  by_cases q : cdB t L p 108 = true
  · have q' := cdB_iff.mp q
    obtain ⟨F1, C1, a1, a2⟩ := c_readCode_t (sc := sc) (G := G) R q'.1 q'.2
    have R1 : RS h F1 cc f L (p + 1) t := R.next (by omega) a1 (fun a i h1 _ _ => a2 a i (fun z => h1 (by omega)))
    rw [if_pos q]
    by_cases q2 : okB t L (p + 1) 1 1 4 = true
    · rw [if_pos q2]
      have nb := nbF_d (t := t) (L := L) (p := p + 1) 1 0 0 (by omega)
      obtain ⟨F2, C2, b1, b2, b3⟩ := c_readNumber_t (sc := sc) (G := G) R1 (by decide) (okB_iff.mp q2)
      refine ⟨u2 F2 3 5 (F2 3 4), ?_, ?_, by show p + 1 + _ ≤ L; omega, fun a i hn => ?_, fun _ => ?_⟩
      · refine cc_of 40 rfl rfl ?_
        refine And.intro ⟨rfl, rfl⟩ (And.intro rfl (Exists.intro _ (Exists.intro _ (And.intro (C1) ?_))))
        refine br_f (by decide) ?_
        refine And.intro ⟨rfl, rfl⟩ (And.intro rfl (Exists.intro _ (Exists.intro _ (And.intro (C2) ?_))))
        refine br_t (by decide) ?_
        refine And.intro rfl ?_
        refine And.intro rfl ?_
        exact ⟨Or.inr ⟨rfl, Or.inr rfl⟩, rfl, rfl⟩
      · rw [u2_eq, if_neg (by omega)]
        exact b1
      · rw [u2_eq, if_neg (fun z => hn ⟨z.1, Or.inr (Or.inr z.2)⟩), b3 a i (fun z => hn ⟨z.1, by omega⟩)]
        exact a2 a i (fun z => hn ⟨z.1, by omega⟩)
      · rw [u2_eq, if_pos ⟨rfl, rfl⟩]
        exact b2
    · rw [if_neg q2]
      have C2 := c_readNumber_f (sc := sc) (G := G) R1 (k := 1) (by decide) (fun z => q2 (okB_iff.mpr z))
      refine ⟨F1, ?_, a1, by show p + 1 ≤ L; omega, fun a i hn => a2 a i (fun z => hn ⟨z.1, by omega⟩), fun z => by cases z⟩
      refine cc_of 40 rfl rfl ?_
      refine And.intro ⟨rfl, rfl⟩ (And.intro rfl (Exists.intro _ (Exists.intro _ (And.intro (C1) ?_))))
      refine br_f (by decide) ?_
      refine And.intro ⟨rfl, rfl⟩ (And.intro rfl (Exists.intro _ (Exists.intro _ (And.intro (C2) ?_))))
      refine br_f (by decide) ?_
      exact ⟨Or.inr ⟨rfl, Or.inl rfl⟩, rfl, rfl⟩
  · rw [if_neg q]
    have C1 := c_readCode_f (sc := sc) (G := G) R (fun z => q (cdB_iff.mpr z))
    refine ⟨F, ?_, R.2.2.2.2.2.2.1, R.2.2.2.1, fun _ _ _ => rfl, fun z => by cases z⟩
    refine cc_of 40 rfl rfl ?_
    refine And.intro ⟨rfl, rfl⟩ (And.intro rfl (Exists.intro _ (Exists.intro _ (And.intro (C1) ?_))))
    refine br_t (by rfl) ?_
    exact ⟨Or.inr ⟨rfl, Or.inl rfl⟩, rfl, rfl⟩
theorem ss_rd {p0 : Nat} : ∀ (m s p : Nat) (F : Nat → Nat → Int32), s + m = 3 → RS h F cc f L p t → F 3 6 = nI s → p + 1 = sqF t L p0 s → (∀ r w, r < s → w < 5 → F 4 (5 * r + w) = nvS t L p0 r w) → ∃ F', Rn sc (mtk 54) 5 [some (.ref 3)] [] (wIJ (nh h) F G) (some (.int (bI (allS t L m s p).1))) (wIJ (nh h) F' G) ∧ F' 3 3 = nI (allS t L m s p).2.1 ∧ (allS t L m s p).2.1 ≤ L ∧ F' 3 6 = nI (allS t L m s p).2.2 ∧ (allS t L m s p).2.2 ≤ 3 ∧ (∀ a i, ¬ (a = 3 ∧ (i = 3 ∨ i = 4 ∨ i = 6)) → a ≠ 4 → F' a i = F a i) ∧ ((allS t L m s p).1 = true → 1 ≤ (allS t L m s p).2.2 ∧ ∀ r w, r < (allS t L m s p).2.2 → w < 5 → F' 4 (5 * r + w) = nvS t L p0 r w) := by
  intro m
  induction m with
  | zero =>
    intro s p F hs R e6 hp hv
    obtain rfl : s = 3 := by omega
    unfold allS
    by_cases q : cdB t L p 59 = true
    · have q' := cdB_iff.mp q
      obtain ⟨F1, C1, a1, a2⟩ := c_readCode_t (sc := sc) (G := G) R q'.1 q'.2
      rw [if_pos q]
      refine ⟨F1, ?_, a1, by show p + 1 ≤ L; omega, by rw [a2 3 6 (by omega)]; exact e6, Nat.le_refl 3, fun a i h1 _ => a2 a i (fun z => h1 ⟨z.1, by omega⟩), fun _ => ⟨show 1 ≤ 3 by decide, fun r w h1 h2 => by rw [a2 4 _ (by omega)]; exact hv r w h1 h2⟩⟩
      refine bk_sound (cuts := []) 30 _ _ _ _ ?_
      refine And.intro rfl ?_
      refine br_t (show 3 ≤ F 3 6 by rw [e6]; decide) ?_
      refine And.intro ⟨rfl, rfl⟩ (And.intro rfl (Exists.intro _ (Exists.intro _ (And.intro (C1) ?_))))
      exact ⟨Or.inr ⟨rfl, Or.inr rfl⟩, rfl, rfl⟩
    · rw [if_neg q]
      have C1 := c_readCode_f (sc := sc) (G := G) R (fun z => q (cdB_iff.mpr z))
      refine ⟨F, ?_, R.2.2.2.2.2.2.1, R.2.2.2.1, e6, Nat.le_refl 3, fun _ _ _ _ => rfl, fun z => by cases z⟩
      refine bk_sound (cuts := []) 30 _ _ _ _ ?_
      refine And.intro rfl ?_
      refine br_t (show 3 ≤ F 3 6 by rw [e6]; decide) ?_
      refine And.intro ⟨rfl, rfl⟩ (And.intro rfl (Exists.intro _ (Exists.intro _ (And.intro (C1) ?_))))
      exact ⟨Or.inr ⟨rfl, Or.inl rfl⟩, rfl, rfl⟩
  | succ m ih =>
    intro s p F hs R e6 hp hv
    have l3 : ¬ 3 ≤ F 3 6 := by rw [e6]; exact nI_ge (a := s) (b := 3) (by omega) (by omega)
    unfold allS
    by_cases q : cdB t L p 59 = true
    · have q' := cdB_iff.mp q
      obtain ⟨F1, C1, a1, a2⟩ := c_readCode_t (sc := sc) (G := G) R q'.1 q'.2
      have R1 : RS h F1 cc f L (p + 1) t := R.next (by omega) a1 (fun a i h1 _ _ => a2 a i (fun z => h1 (by omega)))
      have Cp := c_peek (sc := sc) (G := G) R1
      have e61 : F1 3 6 = nI s := by rw [a2 3 6 (by omega)]; exact e6
      rw [if_pos q]
      by_cases q2 : pkT t L (p + 1) = 115
      · rw [if_pos q2]
        obtain ⟨F2, C2, b1, b2, b3⟩ := c_readSort (sc := sc) (G := G) (s := s) (by omega) R1
        rw [← e61] at C2
        have sl := srF_le (t := t) (L := L) 4 0 (p + 1) (by omega)
        have e62 : F2 3 6 = nI s := by rw [b2 3 6 (by omega) (by omega)]; exact e61
        by_cases q3 : (srF t L 4 0 (p + 1)).1 = true
        · rw [if_pos q3]
          obtain ⟨b4, b5, b6⟩ := b3 q3
          rw [q3] at C2
          obtain ⟨F', C3, d1, d2, d3, d4, d5, d6⟩ := ih (s + 1) (srF t L 4 0 (p + 1)).2 (u2 F2 3 6 (F2 3 6 + 1)) (by omega) (R.next sl (by rw [u2_eq, if_neg (by omega)]; exact b1) (fun a i h1 h2 h3 => by rw [u2_eq, if_neg (by omega), b2 a i (by omega) (by omega)]; exact a2 a i (by omega))) (by show F2 3 6 + 1 = _; rw [e62, nI_1]) (by rw [hp]; rfl) (fun r w h1 h2 => by
            rw [u2_eq, if_neg (by omega)]
            by_cases z : r = s
            · subst z
              unfold nvS
              by_cases z4 : w = 4
              · rw [if_pos z4, z4]; exact b4
              · rw [if_neg z4, ← hp]; exact b6 w (by omega)
            · rw [b2 _ _ (by omega) (by omega), a2 _ _ (by omega)]
              exact hv r w (by omega) h2)
          refine ⟨F', ?_, d1, d2, d3, d4, fun a i h1 h2 => ?_, d6⟩
          · refine bk_sound (cuts := [5]) 50 _ _ _ _ ?_
            refine And.intro rfl ?_
            refine br_f l3 ?_
            refine And.intro ⟨rfl, rfl⟩ (And.intro rfl (Exists.intro _ (Exists.intro _ (And.intro (C1) ?_))))
            refine br_t (by decide) ?_
            refine And.intro ⟨rfl, rfl⟩ (And.intro rfl (Exists.intro _ (Exists.intro _ (And.intro (Cp) ?_))))
            refine br_t q2 ?_
            refine And.intro rfl ?_
            refine And.intro ⟨rfl, rfl⟩ (And.intro rfl (Exists.intro _ (Exists.intro _ (And.intro (C2) ?_))))
            refine br_t (by decide) ?_
            refine And.intro rfl ?_
            refine And.intro rfl ?_
            exact C3
          · rw [d5 a i h1 h2, u2_eq, if_neg (by omega), b2 a i (by omega) (by omega)]
            exact a2 a i (by omega)
        · rw [if_neg q3]
          rw [Bool.eq_false_iff.mpr q3] at C2
          refine ⟨F2, ?_, b1, sl, e62, by show s ≤ 3; omega, fun a i h1 h2 => ?_, fun z => by cases z⟩
          · refine bk_sound (cuts := [5]) 50 _ _ _ _ ?_
            refine And.intro rfl ?_
            refine br_f l3 ?_
            refine And.intro ⟨rfl, rfl⟩ (And.intro rfl (Exists.intro _ (Exists.intro _ (And.intro (C1) ?_))))
            refine br_t (by decide) ?_
            refine And.intro ⟨rfl, rfl⟩ (And.intro rfl (Exists.intro _ (Exists.intro _ (And.intro (Cp) ?_))))
            refine br_t q2 ?_
            refine And.intro rfl ?_
            refine And.intro ⟨rfl, rfl⟩ (And.intro rfl (Exists.intro _ (Exists.intro _ (And.intro (C2) ?_))))
            refine br_f (by decide) ?_
            exact ⟨Or.inr ⟨rfl, Or.inl rfl⟩, rfl, rfl⟩
          · rw [b2 a i (by omega) (by omega)]
            exact a2 a i (by omega)
      · rw [if_neg q2]
        refine ⟨F1, ?_, a1, by show p + 1 ≤ L; omega, e61, by show s ≤ 3; omega, fun a i h1 _ => a2 a i (fun z => h1 ⟨z.1, by omega⟩), fun z => ⟨by have := of_decide_eq_true z; show 1 ≤ s; omega, fun r w h1 h2 => by rw [a2 4 _ (by omega)]; exact hv r w h1 h2⟩⟩
        refine bk_sound (cuts := [5]) 50 _ _ _ _ ?_
        refine And.intro rfl ?_
        refine br_f l3 ?_
        refine And.intro ⟨rfl, rfl⟩ (And.intro rfl (Exists.intro _ (Exists.intro _ (And.intro (C1) ?_))))
        refine br_t (by decide) ?_
        refine And.intro ⟨rfl, rfl⟩ (And.intro rfl (Exists.intro _ (Exists.intro _ (And.intro (Cp) ?_))))
        refine br_f q2 ?_
        refine And.intro rfl ?_
        by_cases z : 0 < s
        · refine br_f (show ¬ F1 3 6 ≤ 0 by rw [e61]; exact nI_ge (a := 0) (b := s) z (by omega)) ?_
          exact ⟨Or.inr ⟨rfl, Or.inr rfl⟩, by rw [decide_eq_true z]; rfl, rfl⟩
        · refine br_t (show F1 3 6 ≤ 0 by rw [e61]; exact nI_le (a := s) (b := 0) (by omega) (by omega)) ?_
          exact ⟨Or.inr ⟨rfl, Or.inl rfl⟩, by rw [decide_eq_false z]; rfl, rfl⟩
    · rw [if_neg q]
      have C1 := c_readCode_f (sc := sc) (G := G) R (fun z => q (cdB_iff.mpr z))
      refine ⟨F, ?_, R.2.2.2.2.2.2.1, R.2.2.2.1, e6, by show s ≤ 3; omega, fun _ _ _ _ => rfl, fun z => by cases z⟩
      refine bk_sound (cuts := [5]) 50 _ _ _ _ ?_
      refine And.intro rfl ?_
      refine br_f l3 ?_
      refine And.intro ⟨rfl, rfl⟩ (And.intro rfl (Exists.intro _ (Exists.intro _ (And.intro (C1) ?_))))
      refine br_f (by decide) ?_
      exact ⟨Or.inr ⟨rfl, Or.inl rfl⟩, rfl, rfl⟩
theorem c_readSorts (R : RS h F cc f L p t) : ∃ F', Cc sc 54 [.ref 3] (wIJ (nh h) F G) (some (.int (bI (allS t L 3 0 p).1))) (wIJ (nh h) F' G) ∧ F' 3 3 = nI (allS t L 3 0 p).2.1 ∧ (allS t L 3 0 p).2.1 ≤ L ∧ F' 3 6 = nI (allS t L 3 0 p).2.2 ∧ (allS t L 3 0 p).2.2 ≤ 3 ∧ (∀ a i, ¬ (a = 3 ∧ (i = 3 ∨ i = 4 ∨ i = 6)) → a ≠ 4 → F' a i = F a i) ∧ ((allS t L 3 0 p).1 = true → 1 ≤ (allS t L 3 0 p).2.2 ∧ ∀ r w, r < (allS t L 3 0 p).2.2 → w < 5 → F' 4 (5 * r + w) = nvS t L p r w) := by
  obtain ⟨F', C, d1, d2, d3, d4, d5, d6⟩ := ss_rd (sc := sc) (h := h) (G := G) (cc := cc) (f := f) (L := L) (t := t) (p0 := p) 3 0 p (u2 F 3 6 0) rfl (R.next R.2.2.2.1 (by rw [u2_eq, if_neg (by omega)]; exact R.2.2.2.2.2.2.1) (fun a i h1 _ _ => by rw [u2_eq, if_neg (by omega)])) (by rw [u2_eq, if_pos ⟨rfl, rfl⟩]; rfl) rfl (fun r w z => absurd z (Nat.not_lt_zero _))
  refine ⟨F', ?_, d1, d2, d3, d4, fun a i h1 h2 => by rw [d5 a i h1 h2, u2_eq, if_neg (by omega)], d6⟩
  refine cc_cut [5] 20 rfl rfl ?_
  refine And.intro rfl ?_
  exact C
end
