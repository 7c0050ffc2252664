/-! texts: a sort, brings and the plane, by the model -/
/-- one number of a sort: is it right, where does it end -/
def onR (t : Nat → Int32) (L p w : Nat) : Bool × Nat := if cdB t L p (stI 3 w) = true then (if nmW t L p w = true then (true, nxW t L p w) else (false, p + 1)) else (false, p)
theorem onR_le {t : Nat → Int32} {L p w : Nat} (hp : p ≤ L) : (onR t L p w).2 ≤ L := by
  unfold onR
  by_cases q : cdB t L p (stI 3 w) = true
  · rw [if_pos q]
    by_cases z : nmW t L p w = true
    · rw [if_pos z]
      exact nxW_le q
    · rw [if_neg z]
      have := (cdB_iff.mp q).1
      show p + 1 ≤ L
      omega
  · rw [if_neg q]
    exact hp
theorem onR_t {t : Nat → Int32} {L p w : Nat} (h : (onR t L p w).1 = true) : (onR t L p w).2 = nxW t L p w := by
  unfold onR at h ⊢
  by_cases q : cdB t L p (stI 3 w) = true
  · rw [if_pos q] at h ⊢
    by_cases z : nmW t L p w = true
    · rw [if_pos z]
    · rw [if_neg z] at h
      cases h
  · rw [if_neg q] at h
    cases h
theorem srF_on {t : Nat → Int32} {L m w p : Nat} : srF t L (m + 1) w p = if (onR t L p w).1 = true then srF t L m (w + 1) (onR t L p w).2 else (false, (onR t L p w).2) := by
  show (if _ then _ else _) = _
  unfold onR
  by_cases q : cdB t L p (stI 3 w) = true
  · rw [if_pos q, if_pos q]
    by_cases z : nmW t L p w = true
    · rw [if_pos z, if_pos z]
      rfl
    · rw [if_neg z, if_neg z]
      rfl
  · rw [if_neg q, if_neg q]
    rfl
section
variable {sc : Nat × (Nat → Int32)} {h : Hp} {F : Nat → Nat → Int32} {G : Nat → Nat → Int64} {b L p : Nat} {t : Nat → Int32}
theorem c_readsOne {w to : Nat} (hw : w < 4) (ht : to < 15) (R : MS F b L p t) : ∃ F', Cc sc 152 [.ref 39, .int (stI 3 w), .int (nI b), .int (nI L), .int (nI (dgW w)), .int (stI 0 w), .int (stI 1 w), .int (nI to)] (wIJ (nh h) F G) (some (.int (bI (onR t L p w).1))) (wIJ (nh h) F' G) ∧ F' 39 7 = nI (onR t L p w).2 ∧ (∀ a i, ¬ (a = 39 ∧ (i = 7 ∨ i = 8)) → ¬ (a = 46 ∧ i = to) → F' a i = F a i) ∧ ((onR t L p w).1 = true → F' 46 to = vlW t L p w) := by
  have it : inB (nI to) 15 = true := inB_nI ht (by decide)
  have et : (nI to).toNatClampNeg = to := nI_clamp (by omega)
  unfold onR
  by_cases q : cdB t L p (stI 3 w) = true
  · have q' := cdB_iff.mp q
    rw [if_pos q]
    obtain ⟨F1, C1, a1, a2⟩ := c_takes_t (sc := sc) (h := h) (G := G) R q'.1 q'.2
    have R1 : MS F1 b L (p + 1) t := R.next (by omega) a1 (fun a i h1 _ _ => a2 a i (fun z => h1 (by omega)))
    obtain ⟨F2, C2, b1, b2, b3⟩ := c_readsNumber (sc := sc) (h := h) (G := G) R1 (dgW_eq w hw).2 (lo := stI 0 w) (hi := stI 1 w) (ok := nmW t L p w) okB_iff
    by_cases z : nmW t L p w = true
    · rw [if_pos z]
      rw [z] at C2
      rw [if_pos z] at b1
      refine ⟨u2 F2 46 to (F2 39 8), ?_, by rw [u2_eq, if_neg (by omega)]; exact b1, fun a i h1 h2 => by rw [u2_eq, if_neg h2, b3 a i h1]; exact a2 a i (by omega), fun _ => by rw [u2_eq, if_pos ⟨rfl, rfl⟩]; exact b2⟩
      refine cc_of 60 rfl rfl ?_
      refine And.intro ⟨rfl, rfl⟩ (And.intro rfl (Exists.intro _ (Exists.intro _ (And.intro (C1) ?_))))
      refine br_f (by decide) ?_
      refine And.intro ⟨rfl, rfl⟩ (And.intro rfl (Exists.intro _ (Exists.intro _ (And.intro (C2) ?_))))
      refine br_f (by decide) ?_
      refine br_f (by decide) ?_
      refine And.intro rfl ?_
      refine And.intro rfl ?_
      refine And.intro (show _ ∧ inB (nI to) 15 = true from ⟨rfl, it⟩) ?_
      rw [et]
      exact ⟨Or.inr ⟨rfl, Or.inr rfl⟩, rfl, rfl⟩
    · rw [if_neg z]
      rw [Bool.eq_false_iff.mpr z] at C2
      rw [if_neg z] at b1
      refine ⟨F2, ?_, b1, fun a i h1 h2 => by rw [b3 a i h1]; exact a2 a i (by omega), fun y => nomatch y⟩
      refine cc_of 60 rfl rfl ?_
      refine And.intro ⟨rfl, rfl⟩ (And.intro rfl (Exists.intro _ (Exists.intro _ (And.intro (C1) ?_))))
      refine br_f (by decide) ?_
      refine And.intro ⟨rfl, rfl⟩ (And.intro rfl (Exists.intro _ (Exists.intro _ (And.intro (C2) ?_))))
      refine br_t (by rfl) ?_
      refine br_t (by rfl) ?_
      exact ⟨Or.inr ⟨rfl, Or.inl rfl⟩, rfl, rfl⟩
  · rw [if_neg q]
    obtain ⟨F1, C1, a1, a2⟩ := c_takes_f (sc := sc) (h := h) (G := G) R (fun z => q (cdB_iff.mpr z))
    refine ⟨F1, ?_, a1, fun a i h1 h2 => a2 a i (by omega), fun y => nomatch y⟩
    refine cc_of 60 rfl rfl ?_
    refine And.intro ⟨rfl, rfl⟩ (And.intro rfl (Exists.intro _ (Exists.intro _ (And.intro (C1) ?_))))
    refine br_t (by rfl) ?_
    refine br_t (by rfl) ?_
    exact ⟨Or.inr ⟨rfl, Or.inl rfl⟩, rfl, rfl⟩
theorem c_readsSort {s : Nat} (hs : s < 3) (R : MS F b L p t) (e10 : F 39 10 = nI s) : ∃ F', Cc sc 153 [.ref 39, .int (nI b), .int (nI L)] (wIJ (nh h) F G) (some (.int (bI (srF t L 4 0 p).1))) (wIJ (nh h) F' G) ∧ F' 39 7 = nI (srF t L 4 0 p).2 ∧ (∀ a i, ¬ (a = 39 ∧ (i = 7 ∨ i = 8 ∨ i = 10)) → ¬ (a = 46 ∧ 5 * s ≤ i ∧ i < 5 * s + 5) → F' a i = F a i) ∧ ((srF t L 4 0 p).1 = true → F' 39 10 = nI (s + 1) ∧ F' 46 (5 * s + 4) = 0 ∧ ∀ v, v < 4 → F' 46 (5 * s + v) = vlW t L (plF t L p v) v) := by
  have e5 : 5 * nI s = nI (5 * s) := by rw [show (5 : Int32) = nI 5 from rfl, pk_mul]
  have e5v : ∀ v, 5 * nI s + nI v = nI (5 * s + v) := fun v => by rw [e5, nI_add]
  have i4 : inB (5 * nI s + 4) 15 = true := by rw [show (4 : Int32) = nI 4 from rfl, e5v]; exact inB_nI (by omega) (by decide)
  have c4 : (5 * nI s + 4).toNatClampNeg = 5 * s + 4 := by rw [show (4 : Int32) = nI 4 from rfl, e5v]; exact nI_clamp (by omega)
  have pre : ∀ rr h', Rn sc (mtk 153) 7 [some (.ref 39), some (.int (nI b)), some (.int (nI L)), some (.int (5 * nI s)), none] [] (wIJ (nh h) F G) rr h' → Cc sc 153 [.ref 39, .int (nI b), .int (nI L)] (wIJ (nh h) F G) rr h' := fun rr h' K => by
    refine cc_cut [7] 20 rfl rfl ?_
    refine And.intro rfl ?_
    rw [show zI (wIJ (nh h) F G) 39 10 = nI s from e10]
    exact K
  have fin0 : ∀ F1 : Nat → Nat → Int32, Rn sc (mtk 153) 80 [some (.ref 39), some (.int (nI b)), some (.int (nI L)), some (.int (5 * nI s)), none] [] (wIJ (nh h) F1 G) (some (.int (bI false))) (wIJ (nh h) (u2 (u2 F1 46 (5 * s + 4) 0) 39 10 (F1 39 10 + 0)) G) := fun F1 => by
    refine bk_sound (cuts := []) 40 _ _ _ _ ?_
    refine And.intro rfl ?_
    refine And.intro (show _ ∧ inB (5 * nI s + 4) 15 = true from ⟨rfl, i4⟩) ?_
    rw [c4]
    refine And.intro rfl ?_
    refine br_t (by rfl) ?_
    refine And.intro rfl ?_
    exact ⟨Or.inr ⟨rfl, Or.inl rfl⟩, rfl, rfl⟩
  have k0 : ∀ F1 : Nat → Nat → Int32, (∀ a i, ¬ (a = 39 ∧ (i = 7 ∨ i = 8)) → ¬ (a = 46 ∧ 5 * s ≤ i ∧ i < 5 * s + 4) → F1 a i = F a i) → ∀ x, ∀ a i, ¬ (a = 39 ∧ (i = 7 ∨ i = 8 ∨ i = 10)) → ¬ (a = 46 ∧ 5 * s ≤ i ∧ i < 5 * s + 5) → u2 (u2 F1 46 (5 * s + 4) 0) 39 10 x a i = F a i := fun F1 k x a i h1 h2 => by
    rw [u2_eq, if_neg (by omega), u2_eq, if_neg (by omega)]
    exact k a i (by omega) (by omega)
  have e7 : ∀ (F1 : Nat → Nat → Int32) x, u2 (u2 F1 46 (5 * s + 4) 0) 39 10 x 39 7 = F1 39 7 := fun F1 x => by rw [u2_eq, if_neg (by omega), u2_eq, if_neg (by omega)]
  obtain ⟨F1, C1, a1, a2, a3⟩ := c_readsOne (sc := sc) (h := h) (G := G) (w := 0) (to := 5 * s) (by decide) (by omega) R
  rw [← e5] at C1
  by_cases q1 : (onR t L p 0).1 = true
  · generalize hp1 : (onR t L p 0).2 = p1 at *
    have R1 : MS F1 b L p1 t := R.next (by rw [← hp1]; exact onR_le R.2.2.1) a1 (fun a i h1 h2 h3 => a2 a i (by omega) (by omega))
    rw [q1] at C1
    obtain ⟨F2, C2, b1, b2, b3⟩ := c_readsOne (sc := sc) (h := h) (G := G) (w := 1) (to := 5 * s + 1) (by decide) (by omega) R1
    rw [← e5v] at C2
    by_cases q2 : (onR t L p1 1).1 = true
    · generalize hp2 : (onR t L p1 1).2 = p2 at *
      have R2 : MS F2 b L p2 t := R1.next (by rw [← hp2]; exact onR_le R1.2.2.1) b1 (fun a i h1 h2 h3 => b2 a i (by omega) (by omega))
      rw [q2] at C2
      obtain ⟨F3, C3, d1, d2, d3⟩ := c_readsOne (sc := sc) (h := h) (G := G) (w := 2) (to := 5 * s + 2) (by decide) (by omega) R2
      rw [← e5v] at C3
      by_cases q3 : (onR t L p2 2).1 = true
      · generalize hp3 : (onR t L p2 2).2 = p3 at *
        have R3 : MS F3 b L p3 t := R2.next (by rw [← hp3]; exact onR_le R2.2.2.1) d1 (fun a i h1 h2 h3 => d2 a i (by omega) (by omega))
        rw [q3] at C3
        obtain ⟨F4, C4, g1, g2, g3⟩ := c_readsOne (sc := sc) (h := h) (G := G) (w := 3) (to := 5 * s + 3) (by decide) (by omega) R3
        rw [← e5v] at C4
        have k4 : ∀ a i, ¬ (a = 39 ∧ (i = 7 ∨ i = 8)) → ¬ (a = 46 ∧ 5 * s ≤ i ∧ i < 5 * s + 4) → F4 a i = F a i := fun a i h1 h2 => by rw [g2 a i h1 (by omega), d2 a i h1 (by omega), b2 a i h1 (by omega), a2 a i h1 (by omega)]
        by_cases q4 : (onR t L p3 3).1 = true
        · have e : srF t L 4 0 p = (true, (onR t L p3 3).2) := by
            rw [srF_on, if_pos q1, hp1, srF_on, if_pos q2, hp2, srF_on, if_pos q3, hp3, srF_on, if_pos q4]
            rfl
          have o1 : p1 = plF t L p 1 := hp1.symm.trans (onR_t q1)
          have o2 : p2 = plF t L p 2 := by
            rw [← hp2, onR_t q2, o1]
            rfl
          have o3 : p3 = plF t L p 3 := by
            rw [← hp3, onR_t q3, o2]
            rfl
          rw [e]
          rw [q4] at C4
          refine ⟨u2 (u2 F4 46 (5 * s + 4) 0) 39 10 (F4 39 10 + 1), pre _ _ ?_, (e7 _ _).trans g1, k0 F4 k4 _, fun _ => ⟨?_, ?_, fun v hv => ?_⟩⟩
          · refine bk_sound (cuts := [80]) 90 _ _ _ _ ?_
            refine And.intro ⟨rfl, rfl⟩ (And.intro rfl (Exists.intro _ (Exists.intro _ (And.intro (C1) ?_))))
            refine br_f (by decide) ?_
            refine And.intro ⟨rfl, rfl⟩ (And.intro rfl (Exists.intro _ (Exists.intro _ (And.intro (C2) ?_))))
            refine br_f (by decide) ?_
            refine And.intro ⟨rfl, rfl⟩ (And.intro rfl (Exists.intro _ (Exists.intro _ (And.intro (C3) ?_))))
            refine br_f (by decide) ?_
            refine And.intro ⟨rfl, rfl⟩ (And.intro rfl (Exists.intro _ (Exists.intro _ (And.intro (C4) ?_))))
            refine br_f (by decide) ?_
            refine And.intro rfl ?_
            refine And.intro (show _ ∧ inB (5 * nI s + 4) 15 = true from ⟨rfl, i4⟩) ?_
            rw [c4]
            refine And.intro rfl ?_
            refine br_f (by decide) ?_
            refine And.intro rfl ?_
            exact ⟨Or.inr ⟨rfl, Or.inr rfl⟩, rfl, rfl⟩
          · rw [u2_eq, if_pos ⟨rfl, rfl⟩, k4 39 10 (by omega) (by omega), e10, nI_1]
          · rw [u2_eq, if_neg (by omega), u2_eq, if_pos ⟨rfl, rfl⟩]
          · rw [u2_eq, if_neg (by omega), u2_eq, if_neg (by omega)]
            obtain rfl | rfl | rfl | rfl : v = 0 ∨ v = 1 ∨ v = 2 ∨ v = 3 := by omega
            · rw [g2 _ _ (by omega) (by omega), d2 _ _ (by omega) (by omega), b2 _ _ (by omega) (by omega)]
              exact a3 q1
            · rw [g2 _ _ (by omega) (by omega), d2 _ _ (by omega) (by omega), ← o1]
              exact b3 q2
            · rw [g2 _ _ (by omega) (by omega), ← o2]
              exact d3 q3
            · rw [← o3]
              exact g3 q4
        · have e : srF t L 4 0 p = (false, (onR t L p3 3).2) := by
            rw [srF_on, if_pos q1, hp1, srF_on, if_pos q2, hp2, srF_on, if_pos q3, hp3, srF_on, if_neg q4]
          rw [e]
          rw [Bool.eq_false_iff.mpr q4] at C4
          refine ⟨u2 (u2 F4 46 (5 * s + 4) 0) 39 10 (F4 39 10 + 0), pre _ _ ?_, (e7 F4 _).trans g1, k0 F4 k4 _, fun z => nomatch z⟩
          refine bk_sound (cuts := [80]) 90 _ _ _ _ ?_
          refine And.intro ⟨rfl, rfl⟩ (And.intro rfl (Exists.intro _ (Exists.intro _ (And.intro (C1) ?_))))
          refine br_f (by decide) ?_
          refine And.intro ⟨rfl, rfl⟩ (And.intro rfl (Exists.intro _ (Exists.intro _ (And.intro (C2) ?_))))
          refine br_f (by decide) ?_
          refine And.intro ⟨rfl, rfl⟩ (And.intro rfl (Exists.intro _ (Exists.intro _ (And.intro (C3) ?_))))
          refine br_f (by decide) ?_
          refine And.intro ⟨rfl, rfl⟩ (And.intro rfl (Exists.intro _ (Exists.intro _ (And.intro (C4) ?_))))
          refine br_t (by rfl) ?_
          exact fin0 F4
      · have e : srF t L 4 0 p = (false, (onR t L p2 2).2) := by
          rw [srF_on, if_pos q1, hp1, srF_on, if_pos q2, hp2, srF_on, if_neg q3]
        rw [e]
        rw [Bool.eq_false_iff.mpr q3] at C3
        have k3 : ∀ a i, ¬ (a = 39 ∧ (i = 7 ∨ i = 8)) → ¬ (a = 46 ∧ 5 * s ≤ i ∧ i < 5 * s + 4) → F3 a i = F a i := fun a i h1 h2 => by rw [d2 a i h1 (by omega), b2 a i h1 (by omega), a2 a i h1 (by omega)]
        refine ⟨u2 (u2 F3 46 (5 * s + 4) 0) 39 10 (F3 39 10 + 0), pre _ _ ?_, (e7 F3 _).trans d1, k0 F3 k3 _, fun z => nomatch z⟩
        refine bk_sound (cuts := [80]) 90 _ _ _ _ ?_
        refine And.intro ⟨rfl, rfl⟩ (And.intro rfl (Exists.intro _ (Exists.intro _ (And.intro (C1) ?_))))
        refine br_f (by decide) ?_
        refine And.intro ⟨rfl, rfl⟩ (And.intro rfl (Exists.intro _ (Exists.intro _ (And.intro (C2) ?_))))
        refine br_f (by decide) ?_
        refine And.intro ⟨rfl, rfl⟩ (And.intro rfl (Exists.intro _ (Exists.intro _ (And.intro (C3) ?_))))
        refine br_t (by rfl) ?_
        exact fin0 F3
    · have e : srF t L 4 0 p = (false, (onR t L p1 1).2) := by
        rw [srF_on, if_pos q1, hp1, srF_on, if_neg q2]
      rw [e]
      rw [Bool.eq_false_iff.mpr q2] at C2
      have k2 : ∀ a i, ¬ (a = 39 ∧ (i = 7 ∨ i = 8)) → ¬ (a = 46 ∧ 5 * s ≤ i ∧ i < 5 * s + 4) → F2 a i = F a i := fun a i h1 h2 => by rw [b2 a i h1 (by omega), a2 a i h1 (by omega)]
      refine ⟨u2 (u2 F2 46 (5 * s + 4) 0) 39 10 (F2 39 10 + 0), pre _ _ ?_, (e7 F2 _).trans b1, k0 F2 k2 _, fun z => nomatch z⟩
      refine bk_sound (cuts := [80]) 90 _ _ _ _ ?_
      refine And.intro ⟨rfl, rfl⟩ (And.intro rfl (Exists.intro _ (Exists.intro _ (And.intro (C1) ?_))))
      refine br_f (by decide) ?_
      refine And.intro ⟨rfl, rfl⟩ (And.intro rfl (Exists.intro _ (Exists.intro _ (And.intro (C2) ?_))))
      refine br_t (by rfl) ?_
      exact fin0 F2
  · have e : srF t L 4 0 p = (false, (onR t L p 0).2) := by
      rw [srF_on, if_neg q1]
    rw [e]
    rw [Bool.eq_false_iff.mpr q1] at C1
    refine ⟨u2 (u2 F1 46 (5 * s + 4) 0) 39 10 (F1 39 10 + 0), pre _ _ ?_, (e7 F1 _).trans a1, k0 F1 (fun a i h1 h2 => a2 a i h1 (by omega)) _, fun z => nomatch z⟩
    refine bk_sound (cuts := [80]) 90 _ _ _ _ ?_
    refine And.intro ⟨rfl, rfl⟩ (And.intro rfl (Exists.intro _ (Exists.intro _ (And.intro (C1) ?_))))
    refine br_t (by rfl) ?_
    exact fin0 F1
end
