/-! texts: a sort, by the class -/
def okB (t : Nat → Int32) (L p k : Nat) (lo hi : Int32) : Bool := decide ((nbF t L p k 0 0).1 ≠ 0 ∧ lo ≤ (nbF t L p k 0 0).2 ∧ (nbF t L p k 0 0).2 ≤ hi)
theorem okB_iff {t : Nat → Int32} {L p k : Nat} {lo hi : Int32} : okB t L p k lo hi = true ↔ okN t L p k lo hi := decide_eq_true_iff
def dgW (w : Nat) : Nat := if w = 1 ∨ w = 2 then 2 else 1
def cdB (t : Nat → Int32) (L p : Nat) (c : Int32) : Bool := decide (p < L ∧ t p = c)
theorem cdB_iff {t : Nat → Int32} {L p : Nat} {c : Int32} : cdB t L p c = true ↔ (p < L ∧ t p = c) := decide_eq_true_iff
def nmW (t : Nat → Int32) (L p w : Nat) : Bool := okB t L (p + 1) (dgW w) (stI 0 w) (stI 1 w)
/-- the place after a number of a sort, and the number -/
def nxW (t : Nat → Int32) (L p w : Nat) : Nat := p + 1 + (nbF t L (p + 1) (dgW w) 0 0).1
def vlW (t : Nat → Int32) (L p w : Nat) : Int32 := (nbF t L (p + 1) (dgW w) 0 0).2
/-- a sort's rest from its w-th number: is it right, and where does it end -/
def srF (t : Nat → Int32) (L : Nat) : Nat → Nat → Nat → Bool × Nat
  | 0, _, p => (true, p)
  | m + 1, w, p => if cdB t L p (stI 3 w) = true then (if nmW t L p w = true then srF t L m (w + 1) (nxW t L p w) else (false, p + 1)) else (false, p)
/-- where a sort's w-th number stands -/
def plF (t : Nat → Int32) (L p : Nat) : Nat → Nat
  | 0 => p
  | w + 1 => nxW t L (plF t L p w) w
theorem dgW_eq : ∀ w, w < 4 → nI (dgW w) = stI 2 w ∧ dgW w ≤ 2 := by
  intro w hw
  obtain rfl | rfl | rfl | rfl : w = 0 ∨ w = 1 ∨ w = 2 ∨ w = 3 := by omega
  all_goals decide
theorem nxW_le {t : Nat → Int32} {L p w : Nat} (c : cdB t L p (stI 3 w) = true) : nxW t L p w ≤ L := by
  have := nbF_d (t := t) (L := L) (p := p + 1) (dgW w) 0 0 (by have := (cdB_iff.mp c).1; omega)
  unfold nxW
  omega
theorem srF_le {t : Nat → Int32} {L : Nat} : ∀ m w p, p ≤ L → (srF t L m w p).2 ≤ L := by
  intro m
  induction m with
  | zero => exact fun _ _ h => h
  | succ m ih =>
    intro w p h
    unfold srF
    split
    · rename_i q
      split
      · exact ih _ _ (nxW_le q)
      · have := (cdB_iff.mp q).1
        show p + 1 ≤ L
        omega
    · exact h
section
variable {sc : Nat × (Nat → Int32)} {h : Hp} {F : Nat → Nat → Int32} {G : Nat → Nat → Int64} {cc f L p : Nat} {t : Nat → Int32}
/-- the class's loop over a sort's numbers -/
theorem rs_loop {s : Nat} (hs : s < 3) {p0 : Nat} : ∀ (m w p : Nat) (F : Nat → Nat → Int32), w + m = 4 → RS h F cc f L p t → p = plF t L p0 w → (∀ v, v < w → F 4 (5 * s + v) = vlW t L (plF t L p0 v) v) → ∃ F', (∀ l : Option Value, Rn sc (mtk 55) 2 [some (.ref 3), some (.int (nI s)), some (.int (nI w))] [] (wIJ (nh h) F G) (some (.int (bI (srF t L m w p).1))) (wIJ (nh h) F' G)) ∧ F' 3 3 = nI (srF t L m w p).2 ∧ (∀ a i, ¬ (a = 3 ∧ (i = 3 ∨ i = 4)) → ¬ (a = 4 ∧ 5 * s ≤ i ∧ i < 5 * s + 5) → F' a i = F a i) ∧ ((srF t L m w p).1 = true → F' 4 (5 * s + 4) = 0 ∧ (srF t L m w p).2 = plF t L p0 4 ∧ ∀ v, v < 4 → F' 4 (5 * s + v) = vlW t L (plF t L p0 v) v) := by
  have e5 : ∀ w, nI s * 5 + nI w = nI (5 * s + w) := fun w => by rw [show (5 : Int32) = nI 5 from rfl, pk_mul, nI_add, Nat.mul_comm]
  intro m
  induction m with
  | zero =>
    intro w p F hw R hp hv
    obtain rfl : w = 4 := by omega
    refine ⟨u2 F 4 (5 * s + 4) 0, fun l => ?_, R.2.2.2.2.2.2.1, fun a i h1 h2 => ?_, fun _ => ⟨?_, hp, fun v hv4 => ?_⟩⟩
    · show Rn sc (mtk 55) 2 _ [] _ (some (.int (bI true))) _
      refine bk_sound (cuts := []) 40 _ _ _ _ ?_
      refine br_t (by decide) ?_
      refine And.intro rfl ?_
      refine And.intro (show _ ∧ inB (nI s * 5 + 4) 15 = true from ⟨rfl, by rw [show nI s * 5 + 4 = nI (5 * s + 4) from e5 4]; exact inB_nI (by omega) (by decide)⟩) ?_
      rw [show (nI s * 5 + 4).toNatClampNeg = 5 * s + 4 by rw [show nI s * 5 + 4 = nI (5 * s + 4) from e5 4]; exact nI_clamp (by omega)]
      exact ⟨Or.inr ⟨rfl, Or.inr rfl⟩, rfl, rfl⟩
    · rw [u2_eq, if_neg (fun z => h2 ⟨z.1, by omega, by omega⟩)]
    · rw [u2_eq, if_pos ⟨rfl, rfl⟩]
    · rw [u2_eq, if_neg (by omega)]
      exact hv v hv4
  | succ m ih =>
    intro w p F hw R hp hv
    have w4 : w < 4 := by omega
    have iw : inB (nI w) 4 = true := inB_nI w4 (by decide)
    have iw5 : inB (nI w) 5 = true := inB_nI (by omega) (by decide)
    have ew : (nI w).toNatClampNeg = w := nI_clamp (by omega)
    have gw : ¬ 3 < nI w := nI_nlt (a := 3) (b := w) (by omega) (by omega)
    obtain ⟨dw1, dw2⟩ := dgW_eq w w4
    by_cases q : cdB t L p (stI 3 w) = true
    · obtain ⟨F1, C1, a1, a2⟩ := c_readCode_t (sc := sc) (G := G) R (cdB_iff.mp q).1 (cdB_iff.mp q).2
      have R1 : RS h F1 cc f L (p + 1) t := R.next (by have := (cdB_iff.mp q).1; omega) a1 (fun a i h1 _ _ => a2 a i (fun z => h1 (by omega)))
      by_cases q2 : nmW t L p w = true
      · have e : srF t L (m + 1) w p = srF t L m (w + 1) (nxW t L p w) := by
          show (if _ then _ else _) = _
          rw [if_pos q, if_pos q2]
        rw [e]
        obtain ⟨F2, C2, b1, b2, b3⟩ := c_readNumber_t (sc := sc) (G := G) R1 dw2 (okB_iff.mp q2)
        rw [dw1] at C2
        have K2 : ∀ a i, ¬ (a = 3 ∧ (i = 3 ∨ i = 4)) → F2 a i = F a i := fun a i hn => (b3 a i hn).trans (a2 a i (fun z => hn ⟨z.1, Or.inl z.2⟩))
        have b1' : F2 3 3 = nI (nxW t L p w) := b1
        have R2 : RS h (u2 F2 4 (5 * s + w) (F2 3 4)) cc f L (nxW t L p w) t := R.next (nxW_le q) (by rw [u2_eq, if_neg (by omega)]; exact b1') (fun a i h1 h2 _ => by rw [u2_eq, if_neg (by omega)]; exact K2 a i (by omega))
        obtain ⟨F', C3, d1, d2, d3⟩ := ih (w + 1) (nxW t L p w) (u2 F2 4 (5 * s + w) (F2 3 4)) (by omega) R2 (by rw [hp]; rfl) (fun v hv1 => by
          rw [u2_eq]
          by_cases z : v = w
          · rw [if_pos ⟨rfl, by omega⟩, b2, z, ← hp]
            rfl
          · rw [if_neg (by omega), K2 _ _ (by omega)]
            exact hv v (by omega))
        refine ⟨F', fun l => ?_, d1, fun a i h1 h2 => ?_, d3⟩
        · have R3 := C3 l
          rw [← nI_1] at R3
          refine bk_sound (cuts := [2]) 60 _ _ _ _ ?_
          refine br_f gw ?_
          refine And.intro iw ?_
          rw [ew]
          refine And.intro ⟨rfl, rfl⟩ (And.intro rfl (Exists.intro _ (Exists.intro _ (And.intro (C1) ?_))))
          refine br_f (by decide) ?_
          refine And.intro (show inB (nI w) 4 = true from iw) ?_
          rw [ew]
          refine And.intro (show inB (nI w) 5 = true from iw5) ?_
          rw [ew]
          refine And.intro (show inB (nI w) 5 = true from iw5) ?_
          rw [ew]
          refine And.intro ⟨rfl, rfl⟩ (And.intro rfl (Exists.intro _ (Exists.intro _ (And.intro (C2) ?_))))
          refine br_t (by decide) ?_
          refine And.intro rfl ?_
          refine And.intro rfl ?_
          refine And.intro (show _ ∧ inB (nI s * 5 + nI w) 15 = true from ⟨rfl, by rw [e5]; exact inB_nI (by omega) (by decide)⟩) ?_
          rw [show (nI s * 5 + nI w).toNatClampNeg = 5 * s + w by rw [e5]; exact nI_clamp (by omega)]
          exact R3
        · rw [d2 a i h1 h2, u2_eq, if_neg (fun z => h2 ⟨z.1, by omega, by omega⟩)]
          exact K2 a i h1
      · have e : srF t L (m + 1) w p = (false, p + 1) := by
          show (if _ then _ else _) = _
          rw [if_pos q, if_neg q2]
        rw [e]
        have C2 := c_readNumber_f (sc := sc) (G := G) R1 dw2 (fun z => q2 (okB_iff.mpr z))
        rw [dw1] at C2
        refine ⟨F1, fun l => ?_, a1, fun a i h1 h2 => a2 a i (fun z => h1 ⟨z.1, Or.inl z.2⟩), fun z => by cases z⟩
        refine bk_sound (cuts := [2]) 60 _ _ _ _ ?_
        refine br_f gw ?_
        refine And.intro iw ?_
        rw [ew]
        refine And.intro ⟨rfl, rfl⟩ (And.intro rfl (Exists.intro _ (Exists.intro _ (And.intro (C1) ?_))))
        refine br_f (by decide) ?_
        refine And.intro (show inB (nI w) 4 = true from iw) ?_
        rw [ew]
        refine And.intro (show inB (nI w) 5 = true from iw5) ?_
        rw [ew]
        refine And.intro (show inB (nI w) 5 = true from iw5) ?_
        rw [ew]
        refine And.intro ⟨rfl, rfl⟩ (And.intro rfl (Exists.intro _ (Exists.intro _ (And.intro (C2) ?_))))
        refine br_f (by decide) ?_
        exact ⟨Or.inr ⟨rfl, Or.inl rfl⟩, rfl, rfl⟩
    · have e : srF t L (m + 1) w p = (false, p) := by
        show (if _ then _ else _) = _
        rw [if_neg q]
      rw [e]
      have C1 := c_readCode_f (sc := sc) (G := G) R (c := stI 3 w) (fun z => q (cdB_iff.mpr z))
      refine ⟨F, fun l => ?_, R.2.2.2.2.2.2.1, fun a i h1 h2 => rfl, fun z => by cases z⟩
      refine bk_sound (cuts := [2]) 60 _ _ _ _ ?_
      refine br_f gw ?_
      refine And.intro iw ?_
      rw [ew]
      refine And.intro ⟨rfl, rfl⟩ (And.intro rfl (Exists.intro _ (Exists.intro _ (And.intro (C1) ?_))))
      refine br_t (by rfl) ?_
      exact ⟨Or.inr ⟨rfl, Or.inl rfl⟩, rfl, rfl⟩
theorem c_readSort {s : Nat} (hs : s < 3) (R : RS h F cc f L p t) : ∃ F', Cc sc 55 [.ref 3, .int (nI s)] (wIJ (nh h) F G) (some (.int (bI (srF t L 4 0 p).1))) (wIJ (nh h) F' G) ∧ F' 3 3 = nI (srF t L 4 0 p).2 ∧ (∀ a i, ¬ (a = 3 ∧ (i = 3 ∨ i = 4)) → ¬ (a = 4 ∧ 5 * s ≤ i ∧ i < 5 * s + 5) → F' a i = F a i) ∧ ((srF t L 4 0 p).1 = true → F' 4 (5 * s + 4) = 0 ∧ (srF t L 4 0 p).2 = plF t L p 4 ∧ ∀ v, v < 4 → F' 4 (5 * s + v) = vlW t L (plF t L p v) v) := by
  obtain ⟨F', C, r⟩ := rs_loop (sc := sc) (h := h) (G := G) (cc := cc) (f := f) (L := L) (t := t) hs (p0 := p) 4 0 p F rfl R rfl (fun v z => absurd z (Nat.not_lt_zero _))
  refine ⟨F', ?_, r⟩
  refine cc_cut [2] 20 rfl rfl ?_
  exact C none
end
