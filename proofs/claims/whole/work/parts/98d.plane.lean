/-! texts: the plane, by the class -/
/-- the plane: is it right, where does it end, how many days -/
def plR (t : Nat → Int32) (L S p : Nat) : Bool × Nat × Int32 := if p = L then (true, p, 0) else if cdB t L p 59 = true then (if cdB t L (p + 1) 112 = true then (if okB t L (p + 2) 1 1 9 = true then ((ro1 t L 0 2 S (nx1 t L (p + 2))).1, (ro1 t L 0 2 S (nx1 t L (p + 2))).2, vl1 t L (p + 2)) else (false, p + 2, 0)) else (false, p + 1, 0)) else (false, p, 0)
section
variable {sc : Nat × (Nat → Int32)} {h : Hp} {F : Nat → Nat → Int32} {G : Nat → Nat → Int64} {cc f L p : Nat} {t : Nat → Int32}
theorem c_readPlane {S : Nat} (hS : S ≤ 3) (R : RS h F cc f L p t) (e6 : F 3 6 = nI S) : ∃ F', Cc sc 57 [.ref 3] (wIJ (nh h) F G) (some (.int (bI (plR t L S p).1))) (wIJ (nh h) F' G) ∧ F' 3 3 = nI (plR t L S p).2.1 ∧ (plR t L S p).2.1 ≤ L ∧ (∀ a i, ¬ (a = 3 ∧ (i = 3 ∨ i = 4 ∨ i = 7)) → ¬ (a = 4 ∧ ∃ v, v < S ∧ i = 5 * v + 4) → F' a i = F a i) ∧ ((plR t L S p).1 = true → F' 3 7 = (plR t L S p).2.2 ∧ (p ≠ L → ∀ v, v < S → F' 4 (5 * v + 4) = vl1 t L (b1F t L (nx1 t L (p + 2)) v)) ∧ (p = L → ∀ i, F' 4 i = F 4 i)) := by
  have R0 : RS h (u2 F 3 7 0) cc f L p t := R.next R.2.2.2.1 (by rw [u2_eq, if_neg (by omega)]; exact R.2.2.2.2.2.2.1) (fun a i h1 _ _ => by rw [u2_eq, if_neg (by omega)])
  have k0 : ∀ a i, ¬ (a = 3 ∧ i = 7) → u2 F 3 7 0 a i = F a i := fun a i hn => by rw [u2_eq, if_neg hn]
  have e3 : u2 F 3 7 0 3 3 = nI p := R0.2.2.2.2.2.2.1
  have e2 : u2 F 3 7 0 3 2 = nI L := R0.2.2.2.2.2.1
  have pL := R.2.2.2.1
  have L60 := R.2.2.1
  have e7 : u2 F 3 7 0 3 7 = 0 := by rw [u2_eq, if_pos ⟨rfl, rfl⟩]
  generalize hF0 : u2 F 3 7 0 = F0 at *
  unfold plR
  by_cases q0 : p = L
  · rw [if_pos q0]
    refine ⟨F0, ?_, e3, pL, fun a i h1 _ => k0 a i (by omega), fun _ => ⟨e7, fun z => absurd q0 z, fun _ i => k0 4 i (by omega)⟩⟩
    refine cc_cut [59] 30 rfl rfl ?_
    refine And.intro rfl ?_
    rw [show upI (wIJ (nh h) F G) 3 7 0 = wIJ (nh h) F0 G from (by rw [← hF0]; rfl)]
    refine And.intro rfl ?_
    refine And.intro rfl ?_
    refine br_f (show ¬ ¬ F0 3 3 = F0 3 2 from fun z => z (by rw [e3, e2, q0])) ?_
    exact ⟨Or.inr ⟨rfl, Or.inr rfl⟩, rfl, rfl⟩
  · rw [if_neg q0]
    have b0 : ¬ F0 3 3 = F0 3 2 := by rw [e3, e2]; exact fun z => q0 ((nI_eq (by omega) (by omega)).mp z)
    have pre : ∀ rr h', Rn sc (mtk 57) 18 [some (.ref 3), none] [] (wIJ (nh h) F0 G) rr h' → Cc sc 57 [.ref 3] (wIJ (nh h) F G) rr h' := fun rr h' K => by
      refine cc_cut [18] 30 rfl rfl ?_
      refine And.intro rfl ?_
      rw [show upI (wIJ (nh h) F G) 3 7 0 = wIJ (nh h) F0 G from (by rw [← hF0]; rfl)]
      refine And.intro rfl ?_
      refine And.intro rfl ?_
      refine br_t b0 ?_
      exact K
    by_cases q : cdB t L p 59 = true
    · rw [if_pos q]
      have q' := cdB_iff.mp q
      obtain ⟨F1, C1, a1, a2⟩ := c_readCode_t (sc := sc) (G := G) R0 q'.1 q'.2
      have R1 : RS h F1 cc f L (p + 1) t := R0.next (by omega) a1 (fun a i h1 _ _ => a2 a i (fun z => h1 (by omega)))
      by_cases w : cdB t L (p + 1) 112 = true
      · rw [if_pos w]
        have w' := cdB_iff.mp w
        obtain ⟨F2, C2, b1, b2⟩ := c_readCode_t (sc := sc) (G := G) R1 w'.1 w'.2
        have R2 : RS h F2 cc f L (p + 2) t := R1.next (by omega) b1 (fun a i h1 _ _ => b2 a i (fun z => h1 (by omega)))
        by_cases x : okB t L (p + 2) 1 1 9 = true
        · rw [if_pos x]
          obtain ⟨F3, C3, d1, d2, d3⟩ := c_readNumber_t (sc := sc) (G := G) R2 (k := 1) (by decide) (okB_iff.mp x)
          have d1' : F3 3 3 = nI (nx1 t L (p + 2)) := d1
          obtain ⟨F', C4, g1, g2, g3, g4⟩ := rp_loop (sc := sc) (G := G) (p0 := nx1 t L (p + 2)) hS S 0 (nx1 t L (p + 2)) (u2 F3 3 7 (F3 3 4)) (by omega) (R2.next (nx1_le R2.2.2.2.1) (by rw [u2_eq, if_neg (by omega)]; exact d1') (fun a i h1 _ _ => by rw [u2_eq, if_neg (by omega)]; exact d3 a i (by omega))) (by rw [u2_eq, if_neg (by omega), d3 3 6 (by omega), b2 3 6 (by omega), a2 3 6 (by omega), k0 3 6 (by omega)]; exact e6) rfl (fun v z => absurd z (Nat.not_lt_zero _))
          refine ⟨F', pre _ _ ?_, g1, g2, fun a i h1 h2 => by rw [g3 a i (by omega) h2, u2_eq, if_neg (by omega), d3 a i (by omega), b2 a i (by omega), a2 a i (by omega), k0 a i (by omega)], fun z => ⟨by rw [g3 3 7 (by omega) (by omega), u2_eq, if_pos ⟨rfl, rfl⟩]; exact d2, fun _ => g4 z, fun y => absurd y q0⟩⟩
          refine bk_sound (cuts := [59]) 50 _ _ _ _ ?_
          refine And.intro ⟨rfl, rfl⟩ (And.intro rfl (Exists.intro _ (Exists.intro _ (And.intro (C1) ?_))))
          refine br_f (by decide) ?_
          refine And.intro ⟨rfl, rfl⟩ (And.intro rfl (Exists.intro _ (Exists.intro _ (And.intro (C2) ?_))))
          refine br_f (by decide) ?_
          refine And.intro ⟨rfl, rfl⟩ (And.intro rfl (Exists.intro _ (Exists.intro _ (And.intro (C3) ?_))))
          refine br_t (by decide) ?_
          refine And.intro rfl ?_
          refine And.intro rfl ?_
          exact C4
        · rw [if_neg x]
          have C3 := c_readNumber_f (sc := sc) (G := G) R2 (k := 1) (by decide) (fun z => x (okB_iff.mpr z))
          refine ⟨F2, pre _ _ ?_, b1, by show p + 2 ≤ L; omega, fun a i h1 h2 => by rw [b2 a i (by omega), a2 a i (by omega), k0 a i (by omega)], fun z => by cases z⟩
          refine bk_sound (cuts := [59]) 50 _ _ _ _ ?_
          refine And.intro ⟨rfl, rfl⟩ (And.intro rfl (Exists.intro _ (Exists.intro _ (And.intro (C1) ?_))))
          refine br_f (by decide) ?_
          refine And.intro ⟨rfl, rfl⟩ (And.intro rfl (Exists.intro _ (Exists.intro _ (And.intro (C2) ?_))))
          refine br_f (by decide) ?_
          refine And.intro ⟨rfl, rfl⟩ (And.intro rfl (Exists.intro _ (Exists.intro _ (And.intro (C3) ?_))))
          refine br_f (by decide) ?_
          exact ⟨Or.inr ⟨rfl, Or.inl rfl⟩, rfl, rfl⟩
      · rw [if_neg w]
        have C2 := c_readCode_f (sc := sc) (G := G) R1 (fun z => w (cdB_iff.mpr z))
        refine ⟨F1, pre _ _ ?_, a1, by show p + 1 ≤ L; omega, fun a i h1 h2 => by rw [a2 a i (by omega), k0 a i (by omega)], fun z => by cases z⟩
        refine bk_sound (cuts := [59]) 50 _ _ _ _ ?_
        refine And.intro ⟨rfl, rfl⟩ (And.intro rfl (Exists.intro _ (Exists.intro _ (And.intro (C1) ?_))))
        refine br_f (by decide) ?_
        refine And.intro ⟨rfl, rfl⟩ (And.intro rfl (Exists.intro _ (Exists.intro _ (And.intro (C2) ?_))))
        refine br_t (by rfl) ?_
        exact ⟨Or.inr ⟨rfl, Or.inl rfl⟩, rfl, rfl⟩
    · rw [if_neg q]
      have C1 := c_readCode_f (sc := sc) (G := G) R0 (fun z => q (cdB_iff.mpr z))
      refine ⟨F0, pre _ _ ?_, e3, pL, fun a i h1 h2 => k0 a i (by omega), fun z => by cases z⟩
      refine bk_sound (cuts := [59]) 50 _ _ _ _ ?_
      refine And.intro ⟨rfl, rfl⟩ (And.intro rfl (Exists.intro _ (Exists.intro _ (And.intro (C1) ?_))))
      refine br_t (by rfl) ?_
      exact ⟨Or.inr ⟨rfl, Or.inl rfl⟩, rfl, rfl⟩
end
