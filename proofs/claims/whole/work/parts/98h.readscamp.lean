/-! texts: a whole text, by the model -/
/-- one more sort, with the codes ahead and behind -/
def stpR (t : Nat → Int32) (L p : Nat) : Bool × Nat := if cdB t L p 59 = true then (if (srF t L 4 0 (p + 1)).1 = true then (if cdB t L (srF t L 4 0 (p + 1)).2 59 = true then (true, (srF t L 4 0 (p + 1)).2 + 1) else (false, (srF t L 4 0 (p + 1)).2)) else (false, (srF t L 4 0 (p + 1)).2)) else (false, p)
theorem pk_115 {t : Nat → Int32} {L p : Nat} : pkT t L p = 115 ↔ (p < L ∧ t p = 115) := by
  unfold pkT
  by_cases q : p < L
  · rw [if_pos q]
    exact ⟨fun z => ⟨q, z⟩, fun z => z.2⟩
  · rw [if_neg q]
    exact ⟨fun z => absurd z (by decide), fun z => absurd z.1 q⟩
theorem srF_n115 {t : Nat → Int32} {L p : Nat} (h : ¬ pkT t L p = 115) : srF t L 4 0 p = (false, p) := by
  show (if _ then _ else _) = _
  have n : ¬ cdB t L p (stI 3 0) = true := fun z => h (pk_115.mpr (cdB_iff.mp z))
  rw [if_neg n]
theorem allS_f {t : Nat → Int32} {L m s p : Nat} (hs : s = 0 ∨ pkT t L (p + 1) = 115) (h : ¬ (stpR t L p).1 = true) : (allS t L (m + 1) s p).1 = false ∧ (allS t L (m + 1) s p).2.1 = (stpR t L p).2 := by
  unfold stpR at h ⊢
  unfold allS
  by_cases q : cdB t L p 59 = true
  · rw [if_pos q] at h
    rw [if_pos q, if_pos q]
    by_cases w : pkT t L (p + 1) = 115
    · rw [if_pos w]
      by_cases z : (srF t L 4 0 (p + 1)).1 = true
      · rw [if_pos z] at h
        rw [if_pos z, if_pos z]
        by_cases y : cdB t L (srF t L 4 0 (p + 1)).2 59 = true
        · rw [if_pos y] at h
          exact absurd rfl h
        · rw [if_neg y]
          cases m with
          | zero =>
            unfold allS
            rw [if_neg y]
            exact ⟨rfl, rfl⟩
          | succ m =>
            unfold allS
            rw [if_neg y]
            exact ⟨rfl, rfl⟩
      · rw [if_neg z, if_neg z]
        exact ⟨rfl, rfl⟩
    · rw [if_neg w, srF_n115 w]
      obtain rfl : s = 0 := hs.resolve_right w
      exact ⟨rfl, rfl⟩
  · rw [if_neg q, if_neg q]
    exact ⟨rfl, rfl⟩
theorem allS_t {t : Nat → Int32} {L m s p : Nat} (h : (stpR t L p).1 = true) : allS t L (m + 1) s p = allS t L m (s + 1) (srF t L 4 0 (p + 1)).2 ∧ (stpR t L p).2 = (srF t L 4 0 (p + 1)).2 + 1 ∧ cdB t L (srF t L 4 0 (p + 1)).2 59 = true := by
  unfold stpR at h ⊢
  rw [allS]
  by_cases q : cdB t L p 59 = true
  · rw [if_pos q] at h ⊢
    rw [if_pos q]
    by_cases z : (srF t L 4 0 (p + 1)).1 = true
    · rw [if_pos z] at h ⊢
      have w : pkT t L (p + 1) = 115 := Decidable.not_not.mp fun y => by rw [srF_n115 y] at z; cases z
      rw [if_pos w, if_pos z]
      by_cases y : cdB t L (srF t L 4 0 (p + 1)).2 59 = true
      · rw [if_pos y]
        exact ⟨rfl, rfl, y⟩
      · rw [if_neg y] at h
        cases h
    · rw [if_neg z] at h
      cases h
  · rw [if_neg q] at h
    cases h
/-- what the model's reading of a right text leaves -/
def RdM (t : Nat → Int32) (L : Nat) (F : Nat → Nat → Int32) : Prop := F 39 9 = nI (tL t L) ∧ F 39 10 = nI (tAll t L).2.2 ∧ F 39 11 = (tPl t L).2.2 ∧ (∀ r w, r < (tAll t L).2.2 → w < 5 → F 46 (5 * r + w) = tN t L r w) ∧ ∀ k, 1 ≤ k → k ≤ tL t L → F 45 k = tB t L k
section
variable {sc : Nat × (Nat → Int32)} {h : Hp} {F : Nat → Nat → Int32} {G : Nat → Nat → Int64} {b L p : Nat} {t : Nat → Int32}
theorem rc_step {s : Nat} (hs : s < 3) (R : MS F b L p t) (e10 : F 39 10 = nI s) : ∃ F', F' 39 7 = nI (stpR t L p).2 ∧ (stpR t L p).2 ≤ L ∧ (∀ a i, ¬ (a = 39 ∧ (i = 7 ∨ i = 8 ∨ i = 10)) → ¬ (a = 46 ∧ 5 * s ≤ i ∧ i < 5 * s + 5) → F' a i = F a i) ∧ ((stpR t L p).1 = true → F' 39 10 = nI (s + 1) ∧ F' 46 (5 * s + 4) = 0 ∧ ∀ v, v < 4 → F' 46 (5 * s + v) = vlW t L (plF t L (p + 1) v) v) ∧ ∀ (rr : Option Value) (h' : Hp), (if (stpR t L p).1 = true then Rn sc (mtk 157) 89 [some (.ref 39), some (.int (nI b)), some (.int (nI L)), some (.int 1)] [] (wIJ (nh h) F' G) rr h' else rr = some (.int (bI false)) ∧ h' = wIJ (nh h) F' G) → Rn sc (mtk 157) 50 [some (.ref 39), some (.int (nI b)), some (.int (nI L)), some (.int 1)] [] (wIJ (nh h) F G) rr h' := by
  unfold stpR
  by_cases q : cdB t L p 59 = true
  · rw [if_pos q]
    have q' := cdB_iff.mp q
    obtain ⟨F1, C1, a1, a2⟩ := c_takes_t (sc := sc) (h := h) (G := G) R q'.1 q'.2
    have R1 : MS F1 b L (p + 1) t := R.next (by omega) a1 (fun a i h1 _ _ => a2 a i (fun z => h1 (by omega)))
    obtain ⟨F2, C2, b1, b2, b3⟩ := c_readsSort (sc := sc) (h := h) (G := G) hs R1 (by rw [a2 39 10 (by omega)]; exact e10)
    have sl := srF_le (t := t) (L := L) 4 0 (p + 1) (by omega)
    have k2 : ∀ a i, ¬ (a = 39 ∧ (i = 7 ∨ i = 8 ∨ i = 10)) → ¬ (a = 46 ∧ 5 * s ≤ i ∧ i < 5 * s + 5) → F2 a i = F a i := fun a i h1 h2 => by rw [b2 a i h1 h2, a2 a i (by omega)]
    by_cases z : (srF t L 4 0 (p + 1)).1 = true
    · rw [if_pos z]
      rw [z] at C2
      obtain ⟨b4, b5, b6⟩ := b3 z
      have R2 : MS F2 b L (srF t L 4 0 (p + 1)).2 t := R1.next sl b1 (fun a i h1 _ h3 => b2 a i (by omega) (by omega))
      by_cases y : cdB t L (srF t L 4 0 (p + 1)).2 59 = true
      · rw [if_pos y]
        have y' := cdB_iff.mp y
        obtain ⟨F3, C3, d1, d2⟩ := c_takes_t (sc := sc) (h := h) (G := G) R2 y'.1 y'.2
        refine ⟨F3, d1, by show _ + 1 ≤ L; omega, fun a i h1 h2 => by rw [d2 a i (by omega)]; exact k2 a i h1 h2, fun _ => ⟨by rw [d2 39 10 (by omega)]; exact b4, by rw [d2 46 _ (by omega)]; exact b5, fun v hv => by rw [d2 46 _ (by omega)]; exact b6 v hv⟩, fun rr h' K => ?_⟩
        rw [if_pos rfl] at K
        refine bk_sound (cuts := [89]) 60 _ _ _ _ ?_
        refine br_f (by decide) ?_
        refine And.intro ⟨rfl, rfl⟩ (And.intro rfl (Exists.intro _ (Exists.intro _ (And.intro (C1) ?_))))
        refine br_f (by decide) ?_
        refine And.intro ⟨rfl, rfl⟩ (And.intro rfl (Exists.intro _ (Exists.intro _ (And.intro (C2) ?_))))
        refine br_t (by decide) ?_
        refine And.intro ⟨rfl, rfl⟩ (And.intro rfl (Exists.intro _ (Exists.intro _ (And.intro (C3) ?_))))
        refine br_t (by decide) ?_
        exact K
      · rw [if_neg y]
        obtain ⟨F3, C3, d1, d2⟩ := c_takes_f (sc := sc) (h := h) (G := G) R2 (fun z => y (cdB_iff.mpr z))
        refine ⟨F3, d1, sl, fun a i h1 h2 => by rw [d2 a i (by omega)]; exact k2 a i h1 h2, (fun x => nomatch x), fun rr h' K => ?_⟩
        rw [if_neg (fun z => nomatch z)] at K
        obtain ⟨rfl, rfl⟩ := K
        refine bk_sound (cuts := [89]) 60 _ _ _ _ ?_
        refine br_f (by decide) ?_
        refine And.intro ⟨rfl, rfl⟩ (And.intro rfl (Exists.intro _ (Exists.intro _ (And.intro (C1) ?_))))
        refine br_f (by decide) ?_
        refine And.intro ⟨rfl, rfl⟩ (And.intro rfl (Exists.intro _ (Exists.intro _ (And.intro (C2) ?_))))
        refine br_t (by decide) ?_
        refine And.intro ⟨rfl, rfl⟩ (And.intro rfl (Exists.intro _ (Exists.intro _ (And.intro (C3) ?_))))
        refine br_f (by decide) ?_
        exact ⟨Or.inr ⟨rfl, Or.inl rfl⟩, rfl, rfl⟩
    · rw [if_neg z]
      rw [Bool.eq_false_iff.mpr z] at C2
      refine ⟨F2, b1, sl, k2, (fun x => nomatch x), fun rr h' K => ?_⟩
      rw [if_neg (fun z => nomatch z)] at K
      obtain ⟨rfl, rfl⟩ := K
      refine bk_sound (cuts := [89]) 60 _ _ _ _ ?_
      refine br_f (by decide) ?_
      refine And.intro ⟨rfl, rfl⟩ (And.intro rfl (Exists.intro _ (Exists.intro _ (And.intro (C1) ?_))))
      refine br_f (by decide) ?_
      refine And.intro ⟨rfl, rfl⟩ (And.intro rfl (Exists.intro _ (Exists.intro _ (And.intro (C2) ?_))))
      refine br_f (by decide) ?_
      exact ⟨Or.inr ⟨rfl, Or.inl rfl⟩, rfl, rfl⟩
  · rw [if_neg q]
    obtain ⟨F1, C1, a1, a2⟩ := c_takes_f (sc := sc) (h := h) (G := G) R (fun z => q (cdB_iff.mpr z))
    refine ⟨F1, a1, R.2.2.1, fun a i h1 h2 => a2 a i (by omega), (fun x => nomatch x), fun rr h' K => ?_⟩
    rw [if_neg (fun z => nomatch z)] at K
    obtain ⟨rfl, rfl⟩ := K
    refine bk_sound (cuts := [89]) 60 _ _ _ _ ?_
    refine br_f (by decide) ?_
    refine And.intro ⟨rfl, rfl⟩ (And.intro rfl (Exists.intro _ (Exists.intro _ (And.intro (C1) ?_))))
    refine br_t (by rfl) ?_
    exact ⟨Or.inr ⟨rfl, Or.inl rfl⟩, rfl, rfl⟩
theorem rc_loop {p0 : Nat} : ∀ (m s p : Nat) (F : Nat → Nat → Int32), s + m = 2 → MS F b L p t → F 39 10 = nI s → p + 1 = sqF t L p0 s → (∀ r w, r < s → w < 5 → F 46 (5 * r + w) = nvS t L p0 r w) → (s = 0 ∨ pkT t L (p + 1) = 115) → ∃ F', F' 39 7 = nI (allS t L (m + 1) s p).2.1 ∧ (allS t L (m + 1) s p).2.1 ≤ L ∧ (∀ a i, ¬ (a = 39 ∧ (i = 7 ∨ i = 8 ∨ i = 10)) → a ≠ 46 → F' a i = F a i) ∧ ((allS t L (m + 1) s p).1 = true → F' 39 10 = nI (allS t L (m + 1) s p).2.2 ∧ ∀ r w, r < (allS t L (m + 1) s p).2.2 → w < 5 → F' 46 (5 * r + w) = nvS t L p0 r w) ∧ ∀ (rr : Option Value) (h' : Hp), (if (allS t L (m + 1) s p).1 = true then Rn sc (mtk 157) 135 [some (.ref 39), some (.int (nI b)), some (.int (nI L)), some (.int 0)] [] (wIJ (nh h) F' G) rr h' else rr = some (.int (bI false)) ∧ h' = wIJ (nh h) F' G) → Rn sc (mtk 157) 50 [some (.ref 39), some (.int (nI b)), some (.int (nI L)), some (.int 1)] [] (wIJ (nh h) F G) rr h' := by
  intro m
  induction m with
  | zero =>
    intro s p F hs R e10 hp hv hd
    obtain rfl : s = 2 := by omega
    obtain ⟨F1, a1, a2, a3, a4, a5⟩ := rc_step (sc := sc) (h := h) (G := G) (s := 2) (by decide) R e10
    by_cases q : (stpR t L p).1 = true
    · obtain ⟨e1, e2, e3⟩ := allS_t (m := 0) (s := 2) q
      obtain ⟨b4, b5, b6⟩ := a4 q
      have e4 : allS t L 0 (2 + 1) (srF t L 4 0 (p + 1)).2 = (true, (srF t L 4 0 (p + 1)).2 + 1, 3) := by
        show (if _ then _ else _) = _
        rw [if_pos e3]
      rw [e1, e4]
      rw [e2] at a1 a2
      refine ⟨u2 F1 39 7 (F1 39 7 - 0), by rw [u2_eq, if_pos ⟨rfl, rfl⟩, Int32.sub_zero]; exact a1, a2, fun a i h1 h2 => by rw [u2_eq, if_neg (by omega)]; exact a3 a i h1 (by omega), fun _ => ⟨by rw [u2_eq, if_neg (by omega)]; exact b4, fun r w hr hw => ?_⟩, fun rr h' K => ?_⟩
      · rw [u2_eq, if_neg (by omega)]
        have hr : r < 3 := hr
        by_cases z : r = 2
        · subst z
          unfold nvS
          by_cases z4 : w = 4
          · rw [if_pos z4, z4]; exact b5
          · rw [if_neg z4, ← hp]; exact b6 w (by omega)
        · rw [a3 _ _ (by omega) (by omega)]
          exact hv r w (by omega) hw
      · rw [if_pos rfl] at K
        refine a5 rr h' ?_
        rw [if_pos q]
        refine bk_sound (cuts := [135]) 40 _ _ _ _ ?_
        refine And.intro rfl ?_
        refine br_t (show 3 ≤ F1 39 10 by rw [b4]; decide) ?_
        refine And.intro rfl ?_
        refine br_t (by rfl) ?_
        refine And.intro rfl ?_
        refine br_t (by rfl) ?_
        exact K
    · obtain ⟨e1, e2⟩ := allS_f (m := 0) hd q
      rw [e1, e2]
      refine ⟨F1, a1, a2, fun a i h1 h2 => a3 a i h1 (by omega), (fun z => nomatch z), fun rr h' K => a5 rr h' ?_⟩
      rw [if_neg q]
      rw [if_neg (by decide)] at K
      exact K
  | succ m ih =>
    intro s p F hs R e10 hp hv hd
    obtain ⟨F1, a1, a2, a3, a4, a5⟩ := rc_step (sc := sc) (h := h) (G := G) (s := s) (by omega) R e10
    by_cases q : (stpR t L p).1 = true
    · obtain ⟨e1, e2, e3⟩ := allS_t (m := m + 1) (s := s) q
      obtain ⟨b4, b5, b6⟩ := a4 q
      rw [e1]
      rw [e2] at a1 a2
      have n3 : ¬ 3 ≤ F1 39 10 := by rw [b4]; exact nI_ge (a := s + 1) (b := 3) (by omega) (by omega)
      have R1 : MS F1 b L ((srF t L 4 0 (p + 1)).2 + 1) t := R.next a2 a1 (fun a i h1 _ h3 => a3 a i (by omega) (by omega))
      have Cn := c_nextIs (sc := sc) (h := h) (G := G) R1 115
      have nv : ∀ r w, r < s + 1 → w < 5 → F1 46 (5 * r + w) = nvS t L p0 r w := fun r w hr hw => by
        by_cases z : r = s
        · subst z
          unfold nvS
          by_cases z4 : w = 4
          · rw [if_pos z4, z4]; exact b5
          · rw [if_neg z4, ← hp]; exact b6 w (by omega)
        · rw [a3 _ _ (by omega) (by omega)]
          exact hv r w (by omega) hw
      by_cases w : pkT t L ((srF t L 4 0 (p + 1)).2 + 1) = 115
      · rw [decide_eq_true (pk_115.mp w)] at Cn
        have e7 : F1 39 7 - 1 = nI (srF t L 4 0 (p + 1)).2 := by rw [a1, nI_pred]
        obtain ⟨F', d1, d2, d3, d4, d5⟩ := ih (s + 1) (srF t L 4 0 (p + 1)).2 (u2 F1 39 7 (F1 39 7 - 1)) (by omega) (R1.next (by omega) (by rw [u2_eq, if_pos ⟨rfl, rfl⟩]; exact e7) (fun a i h1 _ _ => by rw [u2_eq, if_neg (by omega)])) (by rw [u2_eq, if_neg (by omega)]; exact b4) (by rw [hp]; rfl) (fun r w hr hw => by rw [u2_eq, if_neg (by omega)]; exact nv r w hr hw) (Or.inr w)
        refine ⟨F', d1, d2, fun a i h1 h2 => by rw [d3 a i h1 h2, u2_eq, if_neg (by omega)]; exact a3 a i h1 (by omega), d4, fun rr h' K => a5 rr h' ?_⟩
        rw [if_pos q]
        refine bk_sound (cuts := [50]) 40 _ _ _ _ ?_
        refine And.intro rfl ?_
        refine br_f n3 ?_
        refine And.intro ⟨rfl, rfl⟩ (And.intro rfl (Exists.intro _ (Exists.intro _ (And.intro (Cn) ?_))))
        refine br_f (by decide) ?_
        refine And.intro rfl ?_
        refine br_f (by decide) ?_
        refine And.intro rfl ?_
        exact d5 rr h' K
      · have cn : ¬ ((srF t L 4 0 (p + 1)).2 + 1 < L ∧ t ((srF t L 4 0 (p + 1)).2 + 1) = 115) := fun z => w (pk_115.mpr z)
        rw [decide_eq_false cn] at Cn
        have e4 : allS t L (m + 1) (s + 1) (srF t L 4 0 (p + 1)).2 = (true, (srF t L 4 0 (p + 1)).2 + 1, s + 1) := by
          show (if _ then _ else _) = _
          rw [if_pos e3, if_neg w, decide_eq_true (Nat.succ_pos s)]
        rw [e4]
        refine ⟨u2 F1 39 7 (F1 39 7 - 0), by rw [u2_eq, if_pos ⟨rfl, rfl⟩, Int32.sub_zero]; exact a1, a2, fun a i h1 h2 => by rw [u2_eq, if_neg (by omega)]; exact a3 a i h1 (by omega), fun _ => ⟨by rw [u2_eq, if_neg (by omega)]; exact b4, fun r w hr hw => by rw [u2_eq, if_neg (by omega)]; exact nv r w hr hw⟩, fun rr h' K => ?_⟩
        rw [if_pos rfl] at K
        refine a5 rr h' ?_
        rw [if_pos q]
        refine bk_sound (cuts := [135]) 40 _ _ _ _ ?_
        refine And.intro rfl ?_
        refine br_f n3 ?_
        refine And.intro ⟨rfl, rfl⟩ (And.intro rfl (Exists.intro _ (Exists.intro _ (And.intro (Cn) ?_))))
        refine br_t (by rfl) ?_
        refine And.intro rfl ?_
        refine br_t (by rfl) ?_
        refine And.intro rfl ?_
        refine br_t (by rfl) ?_
        exact K
    · obtain ⟨e1, e2⟩ := allS_f (m := m + 1) hd q
      rw [e1, e2]
      refine ⟨F1, a1, a2, fun a i h1 h2 => a3 a i h1 (by omega), (fun z => nomatch z), fun rr h' K => a5 rr h' ?_⟩
      rw [if_neg q]
      rw [if_neg (by decide)] at K
      exact K
theorem c_readsCamp (hb : b + L ≤ 240) (hL : L ≤ 60) (ht : ∀ i, i < L → F 63 (b + i) = t i) : ∃ F', Cc sc 157 [.ref 39, .int (nI b), .int (nI L)] (wIJ (nh h) F G) (some (.int (bI (txR t L).1))) (wIJ (nh h) F' G) ∧ F' 39 7 = nI (txR t L).2 ∧ KM F F' ∧ ((txR t L).1 = true → RdM t L F') := by
  generalize eF : u2 (u2 (u2 F 39 7 0) 39 10 0) 39 11 0 = F0
  have k0 : ∀ a i, ¬ (a = 39 ∧ (i = 7 ∨ i = 10 ∨ i = 11)) → F0 a i = F a i := fun a i ha => by rw [← eF, u2_eq, if_neg (by omega), u2_eq, if_neg (by omega), u2_eq, if_neg (by omega)]
  have v7 : F0 39 7 = nI 0 := by
    rw [← eF, u2_eq, if_neg (by omega), u2_eq, if_neg (by omega), u2_eq, if_pos ⟨rfl, rfl⟩]
    rfl
  have v10 : F0 39 10 = nI 0 := by
    rw [← eF, u2_eq, if_neg (by omega), u2_eq, if_pos ⟨rfl, rfl⟩]
    rfl
  have v11 : F0 39 11 = 0 := by rw [← eF, u2_eq, if_pos ⟨rfl, rfl⟩]
  have R0 : MS F0 b L 0 t := ⟨hb, hL, Nat.zero_le _, v7, fun i hi => by rw [k0 63 _ (by omega)]; exact ht i hi⟩
  have pre : ∀ rr h', Rn sc (mtk 157) 15 [some (.ref 39), some (.int (nI b)), some (.int (nI L)), none] [] (wIJ (nh h) F0 G) rr h' → Cc sc 157 [.ref 39, .int (nI b), .int (nI L)] (wIJ (nh h) F G) rr h' := fun rr h' K => by
    rw [← eF] at K
    refine cc_cut [15] 20 rfl rfl ?_
    refine And.intro rfl ?_
    refine And.intro rfl ?_
    refine And.intro rfl ?_
    exact K
  by_cases q0 : cdB t L 0 108 = true
  · have q0' := cdB_iff.mp q0
    obtain ⟨F1, C1, a1, a2⟩ := c_takes_t (sc := sc) (h := h) (G := G) R0 q0'.1 q0'.2
    have R1 : MS F1 b L (0 + 1) t := R0.next (by omega) a1 (fun a i h1 _ _ => a2 a i (fun z => h1 (by omega)))
    obtain ⟨F2, C2, b1, b2, b3⟩ := c_readsNumber (sc := sc) (h := h) (G := G) R1 (k := 1) (by decide) (lo := 1) (hi := 4) (ok := okB t L (0 + 1) 1 1 4) okB_iff
    have k2 : ∀ a i, ¬ (a = 39 ∧ (7 ≤ i ∧ i ≤ 11)) → F2 a i = F a i := fun a i h1 => by rw [b3 a i (by omega), a2 a i (by omega), k0 a i (by omega)]
    by_cases q1 : okB t L (0 + 1) 1 1 4 = true
    · have eL : lrF t L 0 = (true, 0 + 1 + (nbF t L (0 + 1) 1 0 0).1) := by
        unfold lrF
        rw [if_pos q0, if_pos q1]
      have qL : (lrF t L 0).1 = true := by rw [eL]
      obtain ⟨l1, l2, l3⟩ := lr_val qL
      rw [q1] at C2
      rw [if_pos q1] at b1
      have b1' : F2 39 7 = nI (tp1 t L) := by
        rw [b1]
        show nI _ = nI (lrF t L 0).2
        rw [eL]
      have t1 : tp1 t L ≤ L := by
        show (lrF t L 0).2 ≤ L
        rw [eL]
        have := nbF_d (t := t) (L := L) (p := 0 + 1) 1 0 0 (by omega)
        show 0 + 1 + _ ≤ L
        omega
      have R2 : MS (u2 F2 39 9 (F2 39 8)) b L (tp1 t L) t := R1.next t1 (by rw [u2_eq, if_neg (by omega)]; exact b1') (fun a i h1 _ _ => by rw [u2_eq, if_neg (by omega)]; exact b3 a i (by omega))
      obtain ⟨F3, d1, d2, d3, d4, d5⟩ := rc_loop (sc := sc) (h := h) (G := G) (p0 := tp1 t L) 2 0 (tp1 t L) (u2 F2 39 9 (F2 39 8)) rfl R2 (by rw [u2_eq, if_neg (by omega), b3 39 10 (by omega), a2 39 10 (by omega)]; exact v10) rfl (fun r w z => absurd z (Nat.not_lt_zero _)) (Or.inl rfl)
      have pre2 : ∀ rr h', (if (tAll t L).1 = true then Rn sc (mtk 157) 135 [some (.ref 39), some (.int (nI b)), some (.int (nI L)), some (.int 0)] [] (wIJ (nh h) F3 G) rr h' else rr = some (.int (bI false)) ∧ h' = wIJ (nh h) F3 G) → Cc sc 157 [.ref 39, .int (nI b), .int (nI L)] (wIJ (nh h) F G) rr h' := fun rr h' K => by
        refine pre rr h' ?_
        refine bk_sound (cuts := [50]) 40 _ _ _ _ ?_
        refine And.intro ⟨rfl, rfl⟩ (And.intro rfl (Exists.intro _ (Exists.intro _ (And.intro (C1) ?_))))
        refine br_f (by decide) ?_
        refine And.intro ⟨rfl, rfl⟩ (And.intro rfl (Exists.intro _ (Exists.intro _ (And.intro (C2) ?_))))
        refine br_t (by decide) ?_
        refine And.intro rfl ?_
        refine And.intro rfl ?_
        exact d5 rr h' K
      have k3 : ∀ a i, ¬ (a = 39 ∧ (7 ≤ i ∧ i ≤ 11)) → a ≠ 46 → F3 a i = F a i := fun a i h1 h2 => by rw [d3 a i (by omega) h2, u2_eq, if_neg (by omega)]; exact k2 a i h1
      have v9 : F3 39 9 = nI (tL t L) := by rw [d3 39 9 (by omega) (by omega), u2_eq, if_pos ⟨rfl, rfl⟩, b2]; exact l1
      have w11 : F3 39 11 = 0 := by rw [d3 39 11 (by omega) (by omega), u2_eq, if_neg (by omega), b3 39 11 (by omega), a2 39 11 (by omega)]; exact v11
      by_cases q2 : (tAll t L).1 = true
      · obtain ⟨d6, d7⟩ := d4 q2
        obtain ⟨s1, s2, s3⟩ := allS_all (p0 := tp1 t L) 3 0 (tp1 t L) rfl rfl q2
        have R3 : MS F3 b L (tAll t L).2.1 t := R2.next d2 d1 (fun a i h1 _ h3 => d3 a i (by omega) h3)
        obtain ⟨F4, C4, g1, g2, g3, g4⟩ := c_readsBrings (sc := sc) (h := h) (G := G) l3 R3 v9
        have k4 : KM F F4 := fun a i h1 h2 h3 => by rw [g3 a i (by omega) h2]; exact k3 a i h1 h3
        by_cases q3 : (tBr t L).1 = true
        · rw [q3] at C4
          have R4 : MS F4 b L (tBr t L).2 t := R3.next g2 g1 (fun a i h1 h2 _ => g3 a i (by omega) h2)
          have bk : ∀ k, 1 ≤ k → k ≤ tL t L → F4 45 k = tB t L k := fun k h1 h2 => by
            unfold tB
            rw [if_neg (by omega)]
            have := g4 q3 (k - 1) (by omega)
            rw [show k - 1 + 1 = k by omega] at this
            exact this
          by_cases q4 : (tBr t L).2 = L
          · have eP : tPl t L = (true, L, 0) := by
              show plR t L (tAll t L).2.2 (tBr t L).2 = _
              unfold plR
              rw [if_pos q4, q4]
            have e : txR t L = (true, L) := by
              unfold txR
              rw [if_pos qL, if_pos q2, if_pos q3, eP, if_pos rfl, decide_eq_true rfl]
            rw [e]
            refine ⟨F4, pre2 _ _ ?_, by rw [g1]; exact congrArg nI q4, k4, fun _ => ⟨by rw [g3 39 9 (by omega) (by omega)]; exact v9, by rw [g3 39 10 (by omega) (by omega)]; exact d6, by rw [g3 39 11 (by omega) (by omega), eP]; exact w11, fun r w hr hw => ?_, bk⟩⟩
            · rw [if_pos q2]
              refine bk_sound (cuts := []) 40 _ _ _ _ ?_
              refine And.intro ⟨rfl, rfl⟩ (And.intro rfl (Exists.intro _ (Exists.intro _ (And.intro (C4) ?_))))
              refine br_t (by decide) ?_
              refine And.intro rfl ?_
              refine br_t (show F4 39 7 = nI L by rw [g1]; exact congrArg nI q4) ?_
              exact ⟨Or.inr ⟨rfl, Or.inr rfl⟩, rfl, rfl⟩
            · rw [g3 46 _ (by omega) (by omega), d7 r w hr hw]
              unfold nvS tN
              by_cases e4 : w = 4
              · rw [if_pos e4, if_pos e4, if_pos q4]
              · rw [if_neg e4, if_neg e4]
          · have nq : ¬ F4 39 7 = nI L := by
              rw [g1]
              exact fun z => q4 ((nI_eq (by have : (tBr t L).2 ≤ L := g2; omega) (by omega)).mp z)
            obtain ⟨F5, C5, j1, j2, j3, j4⟩ := c_readsPlane (sc := sc) (h := h) (G := G) s2 R4 (by rw [g3 39 10 (by omega) (by omega)]; exact d6) q4
            have k5 : KM F F5 := fun a i h1 h2 h3 => by rw [j3 a i (by omega) (fun z => h3 z.1)]; exact k4 a i h1 h2 h3
            by_cases q5 : (tPl t L).1 = true
            · rw [q5] at C5
              by_cases q6 : (tPl t L).2.1 = L
              · have e : txR t L = (true, (tPl t L).2.1) := by
                  unfold txR
                  rw [if_pos qL, if_pos q2, if_pos q3, if_pos q5, decide_eq_true q6]
                rw [e]
                obtain ⟨j5, j6⟩ := j4 q5
                refine ⟨F5, pre2 _ _ ?_, j1, k5, fun _ => ⟨by rw [j3 39 9 (by omega) (by omega), g3 39 9 (by omega) (by omega)]; exact v9, by rw [j3 39 10 (by omega) (by omega), g3 39 10 (by omega) (by omega)]; exact d6, j5, fun r w hr hw => ?_, fun k h1 h2 => by rw [j3 45 k (by omega) (by omega)]; exact bk k h1 h2⟩⟩
                · rw [if_pos q2]
                  refine bk_sound (cuts := []) 60 _ _ _ _ ?_
                  refine And.intro ⟨rfl, rfl⟩ (And.intro rfl (Exists.intro _ (Exists.intro _ (And.intro (C4) ?_))))
                  refine br_t (by decide) ?_
                  refine And.intro rfl ?_
                  refine br_f nq ?_
                  refine And.intro ⟨rfl, rfl⟩ (And.intro rfl (Exists.intro _ (Exists.intro _ (And.intro (C5) ?_))))
                  refine br_f (by decide) ?_
                  refine And.intro rfl ?_
                  refine br_f (show ¬ ¬ F5 39 7 = nI L from fun z => z (by rw [j1]; exact congrArg nI q6)) ?_
                  exact ⟨Or.inr ⟨rfl, Or.inr rfl⟩, rfl, rfl⟩
                · unfold tN
                  by_cases e4 : w = 4
                  · rw [if_pos e4, if_neg q4, e4]
                    exact j6 r hr
                  · rw [if_neg e4, j3 46 (5 * r + w) (by omega) (fun y => by obtain ⟨v, y1, y2⟩ := y.2; omega), g3 46 _ (by omega) (by omega), d7 r w hr hw]
                    unfold nvS
                    rw [if_neg e4]
              · have e : txR t L = (false, (tPl t L).2.1) := by
                  unfold txR
                  rw [if_pos qL, if_pos q2, if_pos q3, if_pos q5, decide_eq_false q6]
                rw [e]
                refine ⟨F5, pre2 _ _ ?_, j1, k5, fun z => nomatch z⟩
                rw [if_pos q2]
                refine bk_sound (cuts := []) 60 _ _ _ _ ?_
                refine And.intro ⟨rfl, rfl⟩ (And.intro rfl (Exists.intro _ (Exists.intro _ (And.intro (C4) ?_))))
                refine br_t (by decide) ?_
                refine And.intro rfl ?_
                refine br_f nq ?_
                refine And.intro ⟨rfl, rfl⟩ (And.intro rfl (Exists.intro _ (Exists.intro _ (And.intro (C5) ?_))))
                refine br_f (by decide) ?_
                refine And.intro rfl ?_
                refine br_t (show ¬ F5 39 7 = nI L by rw [j1]; exact fun z => q6 ((nI_eq (by have : (tPl t L).2.1 ≤ L := j2; omega) (by omega)).mp z)) ?_
                exact ⟨Or.inr ⟨rfl, Or.inl rfl⟩, rfl, rfl⟩
            · have e : txR t L = (false, (tPl t L).2.1) := by
                unfold txR
                rw [if_pos qL, if_pos q2, if_pos q3, if_neg q5]
              rw [e]
              rw [Bool.eq_false_iff.mpr q5] at C5
              refine ⟨F5, pre2 _ _ ?_, j1, k5, fun z => nomatch z⟩
              rw [if_pos q2]
              refine bk_sound (cuts := []) 60 _ _ _ _ ?_
              refine And.intro ⟨rfl, rfl⟩ (And.intro rfl (Exists.intro _ (Exists.intro _ (And.intro (C4) ?_))))
              refine br_t (by decide) ?_
              refine And.intro rfl ?_
              refine br_f nq ?_
              refine And.intro ⟨rfl, rfl⟩ (And.intro rfl (Exists.intro _ (Exists.intro _ (And.intro (C5) ?_))))
              refine br_t (by rfl) ?_
              exact ⟨Or.inr ⟨rfl, Or.inl rfl⟩, rfl, rfl⟩
        · have e : txR t L = (false, (tBr t L).2) := by
            unfold txR
            rw [if_pos qL, if_pos q2, if_neg q3]
          rw [e]
          rw [Bool.eq_false_iff.mpr q3] at C4
          refine ⟨F4, pre2 _ _ ?_, g1, k4, fun z => nomatch z⟩
          rw [if_pos q2]
          refine bk_sound (cuts := []) 60 _ _ _ _ ?_
          refine And.intro ⟨rfl, rfl⟩ (And.intro rfl (Exists.intro _ (Exists.intro _ (And.intro (C4) ?_))))
          refine br_f (by decide) ?_
          exact ⟨Or.inr ⟨rfl, Or.inl rfl⟩, rfl, rfl⟩
      · have e : txR t L = (false, (tAll t L).2.1) := by
          unfold txR
          rw [if_pos qL, if_neg q2]
        rw [e]
        refine ⟨F3, pre2 _ _ ?_, d1, fun a i h1 _ h3 => k3 a i h1 h3, fun z => nomatch z⟩
        rw [if_neg q2]
        exact ⟨rfl, rfl⟩
    · have e : txR t L = (false, 0 + 1) := by
        unfold txR tp1 lrF
        rw [if_pos q0, if_neg q1]
        rfl
      rw [e]
      rw [Bool.eq_false_iff.mpr q1] at C2
      rw [if_neg q1] at b1
      refine ⟨F2, pre _ _ ?_, b1, fun a i h1 _ _ => k2 a i h1, fun z => nomatch z⟩
      refine bk_sound (cuts := []) 40 _ _ _ _ ?_
      refine And.intro ⟨rfl, rfl⟩ (And.intro rfl (Exists.intro _ (Exists.intro _ (And.intro (C1) ?_))))
      refine br_f (by decide) ?_
      refine And.intro ⟨rfl, rfl⟩ (And.intro rfl (Exists.intro _ (Exists.intro _ (And.intro (C2) ?_))))
      refine br_f (by decide) ?_
      exact ⟨Or.inr ⟨rfl, Or.inl rfl⟩, rfl, rfl⟩
  · obtain ⟨F1, C1, a1, a2⟩ := c_takes_f (sc := sc) (h := h) (G := G) R0 (fun z => q0 (cdB_iff.mpr z))
    have e : txR t L = (false, 0) := by
      unfold txR tp1 lrF
      rw [if_neg q0]
      rfl
    rw [e]
    refine ⟨F1, pre _ _ ?_, a1, fun a i h1 _ _ => by rw [a2 a i (by omega)]; exact k0 a i (by omega), fun z => nomatch z⟩
    refine bk_sound (cuts := []) 40 _ _ _ _ ?_
    refine And.intro ⟨rfl, rfl⟩ (And.intro rfl (Exists.intro _ (Exists.intro _ (And.intro (C1) ?_))))
    refine br_t (by rfl) ?_
    exact ⟨Or.inr ⟨rfl, Or.inl rfl⟩, rfl, rfl⟩
end
