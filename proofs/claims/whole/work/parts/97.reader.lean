/-! texts: what is read, and the class's reader -/
def dgt (c : Int32) : Bool := decide (48 ≤ c.toInt ∧ c.toInt ≤ 57)
def pkT (t : Nat → Int32) (L i : Nat) : Int32 := if i < L then t i else -9
/-- digits: how many, and the number -/
def nbF (t : Nat → Int32) (L p : Nat) : Nat → Nat → Int32 → Nat × Int32
  | 0, d, v => (d, v)
  | k + 1, d, v => if p + d < L ∧ dgt (t (p + d)) = true then nbF t L p k (d + 1) (v * 10 + t (p + d) - 48) else (d, v)
theorem nbF_d {t : Nat → Int32} {L p : Nat} : ∀ k d v, p + d ≤ L → d ≤ (nbF t L p k d v).1 ∧ (nbF t L p k d v).1 ≤ d + k ∧ p + (nbF t L p k d v).1 ≤ L := by
  intro k
  induction k with
  | zero => exact fun d v h => ⟨Nat.le_refl _, Nat.le_refl _, h⟩
  | succ k ih =>
    intro d v h
    unfold nbF
    split
    · rename_i q
      have := ih (d + 1) (v * 10 + t (p + d) - 48) (by omega)
      omega
    · exact ⟨Nat.le_refl _, by show d ≤ _; omega, h⟩
def okN (t : Nat → Int32) (L p k : Nat) (lo hi : Int32) : Prop := (nbF t L p k 0 0).1 ≠ 0 ∧ lo ≤ (nbF t L p k 0 0).2 ∧ (nbF t L p k 0 0).2 ≤ hi
/-- the reader at a place of a text -/
def RS (h : Hp) (F : Nat → Nat → Int32) (cc f L p : Nat) (t : Nat → Int32) : Prop := (zK (nh h) (zA h 3 0) = 5 ∧ zA (nh h) (zA h 3 0) 2 = cc ∧ zK (nh h) cc = 12 ∧ zN (nh h) cc = 60) ∧ 5 < cc ∧ f + L ≤ 60 ∧ p ≤ L ∧ F 3 1 = nI f ∧ F 3 2 = nI L ∧ F 3 3 = nI p ∧ ∀ i, i < L → F cc (f + i) = t i
def KF (F F' : Nat → Nat → Int32) : Prop := ∀ a i, ¬ (a = 3 ∧ 3 ≤ i) → a ≠ 4 → a ≠ 5 → F' a i = F a i
theorem KF.trans {F F' F2 : Nat → Nat → Int32} (a : KF F F') (b : KF F' F2) : KF F F2 := fun x i h1 h2 h3 => (b x i h1 h2 h3).trans (a x i h1 h2 h3)
theorem RS.next {h : Hp} {F F' : Nat → Nat → Int32} {cc f L p p' : Nat} {t : Nat → Int32} (R : RS h F cc f L p t) (hp : p' ≤ L) (e : F' 3 3 = nI p') (k : KF F F') : RS h F' cc f L p' t := by
  obtain ⟨r1, r2, r3, r4, r5, r6, r7, r8⟩ := R
  exact ⟨r1, r2, r3, hp, by rw [k 3 1 (by omega) (by decide) (by decide)]; exact r5, by rw [k 3 2 (by omega) (by decide) (by decide)]; exact r6, e, fun i hi => by rw [k cc _ (by omega) (by omega) (by omega)]; exact r8 i hi⟩
section
variable {sc : Nat × (Nat → Int32)} {h : Hp} {F : Nat → Nat → Int32} {G : Nat → Nat → Int64} {cc f L p : Nat} {t : Nat → Int32}
theorem c_isDigit {g : Hp} (c : Int32) : Cc sc 62 [.int c] g (some (.int (bI (dgt c)))) g := by
  unfold dgt
  by_cases q : 48 ≤ c.toInt ∧ c.toInt ≤ 57
  · rw [decide_eq_true q]
    refine cc_of 20 rfl rfl ?_
    refine br_f (show ¬ (c < 48) by first | assumption | (simp (discharger := omega) only [i_lt, i_le, i_eq, bI_tz, decide_eq_false_iff_not, Int32.reduceToInt, nI_toInt, tm1, tm2, tm3, tm4, tm9]; done) | (simp (discharger := omega) only [i_lt, i_le, i_eq, bI_tz, decide_eq_false_iff_not, Int32.reduceToInt, nI_toInt, tm1, tm2, tm3, tm4, tm9]; omega) | omega) ?_
    refine br_f (show ¬ (57 < c) by first | assumption | (simp (discharger := omega) only [i_lt, i_le, i_eq, bI_tz, decide_eq_false_iff_not, Int32.reduceToInt, nI_toInt, tm1, tm2, tm3, tm4, tm9]; done) | (simp (discharger := omega) only [i_lt, i_le, i_eq, bI_tz, decide_eq_false_iff_not, Int32.reduceToInt, nI_toInt, tm1, tm2, tm3, tm4, tm9]; omega) | omega) ?_
    exact ⟨Or.inr ⟨rfl, Or.inr rfl⟩, rfl, rfl⟩
  · rw [decide_eq_false q]
    refine cc_of 20 rfl rfl ?_
    by_cases w : c.toInt < 48
    · refine br_t (show c < 48 by first | assumption | (simp (discharger := omega) only [i_lt, i_le, i_eq, bI_tz, decide_eq_false_iff_not, Int32.reduceToInt, nI_toInt, tm1, tm2, tm3, tm4, tm9]; done) | (simp (discharger := omega) only [i_lt, i_le, i_eq, bI_tz, decide_eq_false_iff_not, Int32.reduceToInt, nI_toInt, tm1, tm2, tm3, tm4, tm9]; omega) | omega) ?_
      exact ⟨Or.inr ⟨rfl, Or.inl rfl⟩, rfl, rfl⟩
    · refine br_f (show ¬ (c < 48) by first | assumption | (simp (discharger := omega) only [i_lt, i_le, i_eq, bI_tz, decide_eq_false_iff_not, Int32.reduceToInt, nI_toInt, tm1, tm2, tm3, tm4, tm9]; done) | (simp (discharger := omega) only [i_lt, i_le, i_eq, bI_tz, decide_eq_false_iff_not, Int32.reduceToInt, nI_toInt, tm1, tm2, tm3, tm4, tm9]; omega) | omega) ?_
      refine br_t (show 57 < c by first | assumption | (simp (discharger := omega) only [i_lt, i_le, i_eq, bI_tz, decide_eq_false_iff_not, Int32.reduceToInt, nI_toInt, tm1, tm2, tm3, tm4, tm9]; done) | (simp (discharger := omega) only [i_lt, i_le, i_eq, bI_tz, decide_eq_false_iff_not, Int32.reduceToInt, nI_toInt, tm1, tm2, tm3, tm4, tm9]; omega) | omega) ?_
      exact ⟨Or.inr ⟨rfl, Or.inl rfl⟩, rfl, rfl⟩
theorem c_peekAt (R : RS h F cc f L p t) {i : Nat} (hi : i < 1000) : Cc sc 59 [.ref 3, .int (nI i)] (wIJ (nh h) F G) (some (.int (pkT t L i))) (wIJ (nh h) F G) := by
  obtain ⟨⟨a1, a2, a3, a4⟩, r2, r3, r4, r5, r6, r7, r8⟩ := R
  unfold pkT
  by_cases q : i < L
  · rw [if_pos q]
    refine cc_of 30 rfl rfl ?_
    refine And.intro rfl ?_
    refine br_f (show ¬ F 3 2 ≤ nI i by rw [r6]; exact nI_ge q (by omega)) ?_
    refine And.intro rfl ?_
    refine And.intro (show kin 5 (zK (nh h) (zA h 3 0)) = true by rw [a1]; rfl) ?_
    refine And.intro rfl ?_
    refine And.intro (show zK (nh h) (zA (nh h) (zA h 3 0) 2) = 12 ∧ inB (F 3 1 + nI i) (zN (nh h) (zA (nh h) (zA h 3 0) 2)) = true from ⟨by rw [a2, a3], by rw [a2, a4, r5, nI_add]; exact inB_nI (by omega) (by decide)⟩) ?_
    refine ⟨Or.inl rfl, congrArg (fun v => some (Value.int v)) (show F (zA (nh h) (zA h 3 0) 2) (F 3 1 + nI i).toNatClampNeg = t i from ?_), rfl⟩
    rw [a2, r5, nI_add, nI_clamp (by omega)]
    exact r8 i q
  · rw [if_neg q]
    refine cc_of 30 rfl rfl ?_
    refine And.intro rfl ?_
    refine br_t (show F 3 2 ≤ nI i by rw [r6]; exact nI_le (by omega) (by omega)) ?_
    exact ⟨Or.inl rfl, rfl, rfl⟩
theorem c_peek (R : RS h F cc f L p t) : Cc sc 58 [.ref 3] (wIJ (nh h) F G) (some (.int (pkT t L p))) (wIJ (nh h) F G) := by
  have ca := c_peekAt (sc := sc) (G := G) R (i := p) (by have := R.2.2.2.1; have := R.2.2.1; omega)
  obtain ⟨⟨a1, a2, a3, a4⟩, r2, r3, r4, r5, r6, r7, r8⟩ := R
  rw [← r7] at ca
  refine cc_of 30 rfl rfl ?_
  refine And.intro rfl ?_
  refine And.intro ⟨rfl, rfl⟩ (And.intro rfl (Exists.intro _ (Exists.intro _ (And.intro (ca) ?_))))
  exact ⟨Or.inl rfl, rfl, rfl⟩
theorem c_readCode_t (R : RS h F cc f L p t) {c : Int32} (hp : p < L) (e : t p = c) : ∃ F', Cc sc 60 [.ref 3, .int c] (wIJ (nh h) F G) (some (.int (bI true))) (wIJ (nh h) F' G) ∧ F' 3 3 = nI (p + 1) ∧ ∀ a i, ¬ (a = 3 ∧ i = 3) → F' a i = F a i := by
  have cp := c_peek (sc := sc) (G := G) R
  obtain ⟨⟨a1, a2, a3, a4⟩, r2, r3, r4, r5, r6, r7, r8⟩ := R
  refine ⟨u2 F 3 3 (F 3 3 + 1), ?_, ?_, ?_⟩
  · refine cc_of 30 rfl rfl ?_
    refine And.intro rfl ?_
    refine And.intro rfl ?_
    refine br_f (show ¬ F 3 2 ≤ F 3 3 by rw [r6, r7]; exact nI_ge hp (by omega)) ?_
    refine And.intro ⟨rfl, rfl⟩ (And.intro rfl (Exists.intro _ (Exists.intro _ (And.intro (cp) ?_))))
    refine br_t (show pkT t L p = c by unfold pkT; rw [if_pos hp]; exact e) ?_
    refine And.intro rfl ?_
    refine And.intro rfl ?_
    exact ⟨Or.inr ⟨rfl, Or.inr rfl⟩, rfl, rfl⟩
  · show F 3 3 + 1 = _
    rw [r7, nI_1]
  · intro a i hn
    rw [u2_eq, if_neg hn]
theorem c_readCode_f (R : RS h F cc f L p t) {c : Int32} (hn : ¬ (p < L ∧ t p = c)) : Cc sc 60 [.ref 3, .int c] (wIJ (nh h) F G) (some (.int (bI false))) (wIJ (nh h) F G) := by
  have cp := c_peek (sc := sc) (G := G) R
  obtain ⟨⟨a1, a2, a3, a4⟩, r2, r3, r4, r5, r6, r7, r8⟩ := R
  refine cc_of 30 rfl rfl ?_
  refine And.intro rfl ?_
  refine And.intro rfl ?_
  by_cases hp : p < L
  · refine br_f (show ¬ F 3 2 ≤ F 3 3 by rw [r6, r7]; exact nI_ge hp (by omega)) ?_
    refine And.intro ⟨rfl, rfl⟩ (And.intro rfl (Exists.intro _ (Exists.intro _ (And.intro (cp) ?_))))
    refine br_f (show ¬ pkT t L p = c by unfold pkT; rw [if_pos hp]; exact fun z => hn ⟨hp, z⟩) ?_
    exact ⟨Or.inr ⟨rfl, Or.inl rfl⟩, rfl, rfl⟩
  · refine br_t (show F 3 2 ≤ F 3 3 by rw [r6, r7]; exact nI_le (by omega) (by omega)) ?_
    exact ⟨Or.inr ⟨rfl, Or.inl rfl⟩, rfl, rfl⟩
theorem rn_loop (R : RS h F cc f L p t) {k : Nat} (hk : k ≤ 2) {lo hi : Int32} {rr : Option Value} {h' : Hp} {D : Nat} {V : Int32} (KK : Rn sc (mtk 61) 57 [some (.ref 3), some (.int (nI k)), some (.int lo), some (.int hi), some (.int V), some (.int (nI D))] [] (wIJ (nh h) F G) rr h') : ∀ (m d : Nat) (v : Int32), d + m = k → nbF t L p m d v = (D, V) → Rn sc (mtk 61) 6 [some (.ref 3), some (.int (nI k)), some (.int lo), some (.int hi), some (.int v), some (.int (nI d))] [] (wIJ (nh h) F G) rr h' := by
  intro m
  induction m with
  | zero =>
    intro d v hd e
    cases e
    obtain rfl : D = k := by omega
    refine bk_sound (cuts := [57]) 20 _ _ _ _ ?_
    refine br_t (nI_le (Nat.le_refl _) (by omega)) ?_
    exact KK
  | succ m ih =>
    intro d v hd e
    have cp := c_peekAt (sc := sc) (G := G) R (i := p + d) (by have := R.2.2.2.1; have := R.2.2.1; omega)
    obtain ⟨⟨a1, a2, a3, a4⟩, r2, r3, r4, r5, r6, r7, r8⟩ := id R
    rw [← nI_add, ← r7] at cp
    unfold nbF at e
    by_cases q : p + d < L ∧ dgt (t (p + d)) = true
    · rw [if_pos q] at e
      have R2 := ih (d + 1) _ (by omega) e
      rw [← nI_1] at R2
      have ep : pkT t L (p + d) = t (p + d) := if_pos q.1
      rw [ep] at cp
      refine bk_sound (cuts := [6]) 40 _ _ _ _ ?_
      refine br_f (nI_ge (by omega) (by omega)) ?_
      refine And.intro rfl ?_
      refine And.intro ⟨rfl, rfl⟩ (And.intro rfl (Exists.intro _ (Exists.intro _ (And.intro (cp) ?_))))
      refine And.intro rfl (And.intro rfl (Exists.intro _ (Exists.intro _ (And.intro (c_isDigit _) ?_))))
      refine br_f (by rw [bI_z, q.2]; exact fun z => (by cases z)) ?_
      refine And.intro rfl ?_
      refine And.intro ⟨rfl, rfl⟩ (And.intro rfl (Exists.intro _ (Exists.intro _ (And.intro (cp) ?_))))
      exact R2
    · rw [if_neg q] at e
      cases e
      refine bk_sound (cuts := [57]) 40 _ _ _ _ ?_
      refine br_f (nI_ge (by omega) (by omega)) ?_
      refine And.intro rfl ?_
      refine And.intro ⟨rfl, rfl⟩ (And.intro rfl (Exists.intro _ (Exists.intro _ (And.intro (cp) ?_))))
      refine And.intro rfl (And.intro rfl (Exists.intro _ (Exists.intro _ (And.intro (c_isDigit _) ?_))))
      refine br_t (show bI (dgt (pkT t L (p + D))) = 0 from ?_) ?_
      · rw [bI_z]
        unfold pkT
        by_cases w : p + D < L
        · rw [if_pos w]
          exact Bool.eq_false_iff.mpr (fun z => q ⟨w, z⟩)
        · rw [if_neg w]
          decide
      · exact KK
theorem c_readNumber_t (R : RS h F cc f L p t) {k : Nat} (hk : k ≤ 2) {lo hi : Int32} (ok : okN t L p k lo hi) : ∃ F', Cc sc 61 [.ref 3, .int (nI k), .int lo, .int hi] (wIJ (nh h) F G) (some (.int (bI true))) (wIJ (nh h) F' G) ∧ F' 3 3 = nI (p + (nbF t L p k 0 0).1) ∧ F' 3 4 = (nbF t L p k 0 0).2 ∧ ∀ a i, ¬ (a = 3 ∧ (i = 3 ∨ i = 4)) → F' a i = F a i := by
  obtain ⟨o1, o2, o3⟩ := ok
  have nb := nbF_d (t := t) (L := L) (p := p) k 0 0 R.2.2.2.1
  have r7 := R.2.2.2.2.2.2.1
  generalize hD : nbF t L p k 0 0 = DV at *
  obtain ⟨D, V⟩ := DV
  refine ⟨u2 (u2 F 3 4 V) 3 3 (F 3 3 + nI D), ?_, ?_, rfl, ?_⟩
  · refine cc_cut [6] 20 rfl rfl ?_
    refine rn_loop (h' := wIJ (nh h) (u2 (u2 F 3 4 V) 3 3 (F 3 3 + nI D)) G) R hk (D := D) (V := V) ?_ k 0 0 (by omega) hD
    refine bk_sound (cuts := []) 40 _ _ _ _ ?_
    refine br_f (fun z => o1 ((nI_eq (a := D) (b := 0) (by omega) (by omega)).mp z)) ?_
    refine br_f (show ¬ V < lo from Int32.not_lt.mpr o2) ?_
    refine br_t (show V ≤ hi from o3) ?_
    refine And.intro rfl ?_
    refine And.intro rfl ?_
    refine And.intro rfl ?_
    exact ⟨Or.inr ⟨rfl, Or.inr rfl⟩, rfl, rfl⟩
  · show F 3 3 + nI D = _
    rw [r7, nI_add]
  · intro a i hn
    rw [u2_eq, if_neg (fun z => hn ⟨z.1, Or.inl z.2⟩), u2_eq, if_neg (fun z => hn ⟨z.1, Or.inr z.2⟩)]
theorem c_readNumber_f (R : RS h F cc f L p t) {k : Nat} (hk : k ≤ 2) {lo hi : Int32} (no : ¬ okN t L p k lo hi) : Cc sc 61 [.ref 3, .int (nI k), .int lo, .int hi] (wIJ (nh h) F G) (some (.int (bI false))) (wIJ (nh h) F G) := by
  have nb := nbF_d (t := t) (L := L) (p := p) k 0 0 R.2.2.2.1
  unfold okN at no
  generalize hD : nbF t L p k 0 0 = DV at *
  obtain ⟨D, V⟩ := DV
  refine cc_cut [6] 20 rfl rfl ?_
  refine rn_loop (h' := wIJ (nh h) F G) R hk (D := D) (V := V) ?_ k 0 0 (by omega) hD
  refine bk_sound (cuts := []) 40 _ _ _ _ ?_
  by_cases q1 : D = 0
  · refine br_t (by rw [q1]; rfl) ?_
    exact ⟨Or.inr ⟨rfl, Or.inl rfl⟩, rfl, rfl⟩
  · refine br_f (fun z => q1 ((nI_eq (a := D) (b := 0) (by omega) (by omega)).mp z)) ?_
    by_cases q2 : V < lo
    · refine br_t (show V < lo from q2) ?_
      exact ⟨Or.inr ⟨rfl, Or.inl rfl⟩, rfl, rfl⟩
    · refine br_f (show ¬ V < lo from q2) ?_
      refine br_f (show ¬ V ≤ hi from fun z => no ⟨q1, Int32.not_lt.mp q2, z⟩) ?_
      exact ⟨Or.inr ⟨rfl, Or.inl rfl⟩, rfl, rfl⟩
end
