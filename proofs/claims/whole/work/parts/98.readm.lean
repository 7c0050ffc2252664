/-! texts: the model's reader -/
def MS (F : Nat → Nat → Int32) (b L p : Nat) (t : Nat → Int32) : Prop := b + L ≤ 240 ∧ L ≤ 60 ∧ p ≤ L ∧ F 39 7 = nI p ∧ ∀ i, i < L → F 63 (b + i) = t i
def KM (F F' : Nat → Nat → Int32) : Prop := ∀ a i, ¬ (a = 39 ∧ 7 ≤ i ∧ i ≤ 11) → a ≠ 45 → a ≠ 46 → F' a i = F a i
theorem KM.trans {F F' F2 : Nat → Nat → Int32} (a : KM F F') (b : KM F' F2) : KM F F2 := fun x i h1 h2 h3 => (b x i h1 h2 h3).trans (a x i h1 h2 h3)
theorem MS.next {F F' : Nat → Nat → Int32} {b L p p' : Nat} {t : Nat → Int32} (R : MS F b L p t) (hp : p' ≤ L) (e : F' 39 7 = nI p') (k : KM F F') : MS F' b L p' t := by
  obtain ⟨r1, r2, r3, r4, r5⟩ := R
  exact ⟨r1, r2, hp, e, fun i hi => by rw [k 63 _ (by omega) (by decide) (by decide)]; exact r5 i hi⟩
section
variable {sc : Nat × (Nat → Int32)} {h : Hp} {F : Nat → Nat → Int32} {G : Nat → Nat → Int64} {b L p : Nat} {t : Nat → Int32}
theorem c_takes_t (R : MS F b L p t) {c : Int32} (hp : p < L) (e : t p = c) : ∃ F', Cc sc 150 [.ref 39, .int c, .int (nI b), .int (nI L)] (wIJ (nh h) F G) (some (.int (bI true))) (wIJ (nh h) F' G) ∧ F' 39 7 = nI (p + 1) ∧ ∀ a i, ¬ (a = 39 ∧ i = 7) → F' a i = F a i := by
  obtain ⟨r1, r2, r3, r4, r5⟩ := R
  refine ⟨u2 F 39 7 (F 39 7 + 1), ?_, ?_, ?_⟩
  · refine cc_of 40 rfl rfl ?_
    refine And.intro rfl ?_
    refine br_f (show ¬ nI L ≤ F 39 7 by rw [r4]; exact nI_ge hp (by omega)) ?_
    refine And.intro rfl ?_
    refine And.intro rfl ?_
    refine And.intro (show _ ∧ inB (nI b + F 39 7) 240 = true from ⟨rfl, by rw [r4, nI_add]; exact inB_nI (by omega) (by decide)⟩) ?_
    refine br_f (show ¬ ¬ F 63 (nI b + F 39 7).toNatClampNeg = c from fun z => z (by rw [r4, nI_add, nI_clamp (by omega), r5 p hp]; exact e)) ?_
    refine And.intro rfl ?_
    refine br_f (by decide) ?_
    refine And.intro rfl ?_
    exact ⟨Or.inr ⟨rfl, Or.inr rfl⟩, rfl, rfl⟩
  · show F 39 7 + 1 = _
    rw [r4, nI_1]
  · intro a i hn
    rw [u2_eq, if_neg hn]
theorem c_takes_f (R : MS F b L p t) {c : Int32} (no : ¬ (p < L ∧ t p = c)) : ∃ F', Cc sc 150 [.ref 39, .int c, .int (nI b), .int (nI L)] (wIJ (nh h) F G) (some (.int (bI false))) (wIJ (nh h) F' G) ∧ F' 39 7 = nI p ∧ ∀ a i, ¬ (a = 39 ∧ i = 7) → F' a i = F a i := by
  obtain ⟨r1, r2, r3, r4, r5⟩ := R
  refine ⟨u2 F 39 7 (F 39 7 + 0), ?_, ?_, ?_⟩
  · refine cc_of 40 rfl rfl ?_
    refine And.intro rfl ?_
    by_cases hp : p < L
    · refine br_f (show ¬ nI L ≤ F 39 7 by rw [r4]; exact nI_ge hp (by omega)) ?_
      refine And.intro rfl ?_
      refine And.intro rfl ?_
      refine And.intro (show _ ∧ inB (nI b + F 39 7) 240 = true from ⟨rfl, by rw [r4, nI_add]; exact inB_nI (by omega) (by decide)⟩) ?_
      refine br_t (show ¬ F 63 (nI b + F 39 7).toNatClampNeg = c from fun z => no ⟨hp, by rw [r4, nI_add, nI_clamp (by omega), r5 p hp] at z; exact z⟩) ?_
      refine And.intro rfl ?_
      refine br_t (by rfl) ?_
      refine And.intro rfl ?_
      exact ⟨Or.inr ⟨rfl, Or.inl rfl⟩, rfl, rfl⟩
    · refine br_t (show nI L ≤ F 39 7 by rw [r4]; exact nI_le (by omega) (by omega)) ?_
      refine And.intro rfl ?_
      refine br_t (by rfl) ?_
      refine And.intro rfl ?_
      exact ⟨Or.inr ⟨rfl, Or.inl rfl⟩, rfl, rfl⟩
  · show F 39 7 + 0 = _
    rw [r4, Int32.add_zero]
  · intro a i hn
    rw [u2_eq, if_neg hn]
theorem c_nextIs (R : MS F b L p t) (c : Int32) : Cc sc 156 [.ref 39, .int c, .int (nI b), .int (nI L)] (wIJ (nh h) F G) (some (.int (bI (decide (p < L ∧ t p = c))))) (wIJ (nh h) F G) := by
  obtain ⟨r1, r2, r3, r4, r5⟩ := R
  by_cases no : p < L ∧ t p = c
  · rw [decide_eq_true no]
    refine cc_of 40 rfl rfl ?_
    refine And.intro rfl ?_
    refine br_f (show ¬ nI L ≤ F 39 7 by rw [r4]; exact nI_ge no.1 (by omega)) ?_
    refine And.intro rfl ?_
    refine And.intro rfl ?_
    refine And.intro (show _ ∧ inB (nI b + F 39 7) 240 = true from ⟨rfl, by rw [r4, nI_add]; exact inB_nI (by omega) (by decide)⟩) ?_
    refine br_f (show ¬ ¬ F 63 (nI b + F 39 7).toNatClampNeg = c from fun z => z (by rw [r4, nI_add, nI_clamp (by omega), r5 p no.1]; exact no.2)) ?_
    exact ⟨Or.inr ⟨rfl, Or.inr rfl⟩, rfl, rfl⟩
  · rw [decide_eq_false no]
    refine cc_of 40 rfl rfl ?_
    refine And.intro rfl ?_
    by_cases hp : p < L
    · refine br_f (show ¬ nI L ≤ F 39 7 by rw [r4]; exact nI_ge hp (by omega)) ?_
      refine And.intro rfl ?_
      refine And.intro rfl ?_
      refine And.intro (show _ ∧ inB (nI b + F 39 7) 240 = true from ⟨rfl, by rw [r4, nI_add]; exact inB_nI (by omega) (by decide)⟩) ?_
      refine br_t (show ¬ F 63 (nI b + F 39 7).toNatClampNeg = c from fun z => no ⟨hp, by rw [r4, nI_add, nI_clamp (by omega), r5 p hp] at z; exact z⟩) ?_
      exact ⟨Or.inr ⟨rfl, Or.inl rfl⟩, rfl, rfl⟩
    · refine br_t (show nI L ≤ F 39 7 by rw [r4]; exact nI_le (by omega) (by omega)) ?_
      exact ⟨Or.inr ⟨rfl, Or.inl rfl⟩, rfl, rfl⟩
theorem c_inD {g : Hp} (c : Int32) : Cc sc 139 [.long c.toInt64, .long 48, .long 57] g (some (.int (bI (dgt c)))) g := by
  have := c_in (sc := sc) (h := g) c.toInt64 48 57
  rw [wide, show (48 : Int64).toInt = 48 by decide, show (57 : Int64).toInt = 57 by decide] at this
  exact this
theorem c_inI {g : Hp} (c lo hi : Int32) : Cc sc 139 [.long c.toInt64, .long lo.toInt64, .long hi.toInt64] g (some (.int (bI (decide (lo ≤ c ∧ c ≤ hi))))) g := by
  have := c_in (sc := sc) (h := g) c.toInt64 lo.toInt64 hi.toInt64
  rw [wide, wide, wide] at this
  have e : (lo.toInt ≤ c.toInt ∧ c.toInt ≤ hi.toInt) = (lo ≤ c ∧ c ≤ hi) := by rw [i_le, i_le]
  simp only [e] at this
  exact this
theorem rm_loop (R : MS F b L p t) {k : Nat} (hk : k ≤ 2) {lo hi : Int32} {o : Option Value} {D : Nat} {V : Int32} : ∀ (m d : Nat) (v : Int32) (F1 : Nat → Nat → Int32), d + m = k → F1 39 7 = nI (p + d) → p + d ≤ L → (∀ a i, ¬ (a = 39 ∧ i = 7) → F1 a i = F a i) → nbF t L p m d v = (D, V) → ∃ F', F' 39 7 = nI (p + D) ∧ (∀ a i, ¬ (a = 39 ∧ i = 7) → F' a i = F a i) ∧ ∀ (rr : Option Value) (h' : Hp), Rn sc (mtk 151) 87 [some (.ref 39), some (.int (nI b)), some (.int (nI L)), some (.int (nI k)), some (.int lo), some (.int hi), some (.int (nI p)), some (.int V), o] [] (wIJ (nh h) F' G) rr h' → Rn sc (mtk 151) 9 [some (.ref 39), some (.int (nI b)), some (.int (nI L)), some (.int (nI k)), some (.int lo), some (.int hi), some (.int (nI p)), some (.int v), o] [] (wIJ (nh h) F1 G) rr h' := by
  obtain ⟨r1, r2, r3, r4, r5⟩ := R
  intro m
  induction m with
  | zero =>
    intro d v F1 hd e1 hp k1 e
    cases e
    refine ⟨F1, e1, k1, fun rr h' KK => ?_⟩
    refine bk_sound (cuts := [87]) 30 _ _ _ _ ?_
    refine And.intro rfl ?_
    by_cases q : p + D < L
    · refine br_f (show ¬ nI L ≤ F1 39 7 by rw [e1]; exact nI_ge q (by omega)) ?_
      refine And.intro rfl ?_
      refine br_t (show nI p + nI k ≤ F1 39 7 by rw [e1, nI_add]; exact nI_le (by omega) (by omega)) ?_
      exact KK
    · refine br_t (show nI L ≤ F1 39 7 by rw [e1]; exact nI_le (by omega) (by omega)) ?_
      exact KK
  | succ m ih =>
    intro d v F1 hd e1 hp k1 e
    unfold nbF at e
    by_cases q1 : p + d < L
    · have ix : inB (nI b + F1 39 7) 240 = true := by rw [e1, nI_add]; exact inB_nI (by omega) (by decide)
      have ct : F1 63 (nI b + F1 39 7).toNatClampNeg = t (p + d) := by rw [e1, nI_add, nI_clamp (by omega), k1 63 _ (by omega)]; exact r5 _ q1
      by_cases q2 : dgt (t (p + d)) = true
      · rw [if_pos ⟨q1, q2⟩] at e
        obtain ⟨F', a1, a2, a3⟩ := ih (d + 1) (v * 10 + t (p + d) - 48) (u2 F1 39 7 (F1 39 7 + 1)) (by omega) (by show F1 39 7 + 1 = _; rw [e1, nI_1]; rfl) (by omega) (fun a i hn => by rw [u2_eq, if_neg hn]; exact k1 a i hn) e
        refine ⟨F', a1, a2, fun rr h' KK => ?_⟩
        have R2 := a3 rr h' KK
        rw [Int32.mul_comm, ← ct] at R2
        have cd := c_inD (sc := sc) (g := wIJ (nh h) F1 G) (F1 63 (nI b + F1 39 7).toNatClampNeg)
        refine bk_sound (cuts := [9]) 50 _ _ _ _ ?_
        refine And.intro rfl ?_
        refine br_f (show ¬ nI L ≤ F1 39 7 by rw [e1]; exact nI_ge q1 (by omega)) ?_
        refine And.intro rfl ?_
        refine br_f (show ¬ nI p + nI k ≤ F1 39 7 by rw [e1, nI_add]; exact nI_ge (by omega) (by omega)) ?_
        refine And.intro rfl ?_
        refine And.intro rfl ?_
        refine And.intro (⟨rfl, ix⟩) ?_
        refine And.intro rfl (And.intro rfl (Exists.intro _ (Exists.intro _ (And.intro (cd) ?_))))
        refine br_f (by rw [bI_z, ct, q2]; exact fun z => (by cases z)) ?_
        refine And.intro rfl ?_
        refine And.intro rfl ?_
        refine And.intro (⟨rfl, ix⟩) ?_
        refine And.intro rfl ?_
        refine And.intro rfl ?_
        exact R2
      · rw [if_neg (fun z => q2 z.2)] at e
        cases e
        refine ⟨F1, e1, k1, fun rr h' KK => ?_⟩
        have cd := c_inD (sc := sc) (g := wIJ (nh h) F1 G) (F1 63 (nI b + F1 39 7).toNatClampNeg)
        refine bk_sound (cuts := [87]) 50 _ _ _ _ ?_
        refine And.intro rfl ?_
        refine br_f (show ¬ nI L ≤ F1 39 7 by rw [e1]; exact nI_ge q1 (by omega)) ?_
        refine And.intro rfl ?_
        refine br_f (show ¬ nI p + nI k ≤ F1 39 7 by rw [e1, nI_add]; exact nI_ge (by omega) (by omega)) ?_
        refine And.intro rfl ?_
        refine And.intro rfl ?_
        refine And.intro (⟨rfl, ix⟩) ?_
        refine And.intro rfl (And.intro rfl (Exists.intro _ (Exists.intro _ (And.intro (cd) ?_))))
        refine br_t (by rw [bI_z, ct]; exact Bool.eq_false_iff.mpr q2) ?_
        exact KK
    · rw [if_neg (fun z => q1 z.1)] at e
      cases e
      refine ⟨F1, e1, k1, fun rr h' KK => ?_⟩
      refine bk_sound (cuts := [87]) 30 _ _ _ _ ?_
      refine And.intro rfl ?_
      refine br_t (show nI L ≤ F1 39 7 by rw [e1]; exact nI_le (by omega) (by omega)) ?_
      exact KK
theorem c_readsNumber (R : MS F b L p t) {k : Nat} (hk : k ≤ 2) {lo hi : Int32} {ok : Bool} (hok : ok = true ↔ okN t L p k lo hi) : ∃ F', Cc sc 151 [.ref 39, .int (nI b), .int (nI L), .int (nI k), .int lo, .int hi] (wIJ (nh h) F G) (some (.int (bI ok))) (wIJ (nh h) F' G) ∧ F' 39 7 = nI (if ok = true then p + (nbF t L p k 0 0).1 else p) ∧ F' 39 8 = (nbF t L p k 0 0).2 ∧ ∀ a i, ¬ (a = 39 ∧ (i = 7 ∨ i = 8)) → F' a i = F a i := by
  have nb := nbF_d (t := t) (L := L) (p := p) k 0 0 R.2.2.1
  unfold okN at hok
  obtain ⟨r1, r2, r3, r4, r5⟩ := id R
  generalize hD : nbF t L p k 0 0 = DV at *
  obtain ⟨D, V⟩ := DV
  obtain ⟨F1, a1, a2, a3⟩ := rm_loop (sc := sc) (h := h) (G := G) R hk (lo := lo) (hi := hi) (o := none) (D := D) (V := V) k 0 0 F (by omega) (by exact r4) (by omega) (fun _ _ _ => rfl) hD
  have ci := c_inI (sc := sc) (g := wIJ (nh h) F1 G) V lo hi
  have fr : ∀ w, ∀ a i, ¬ (a = 39 ∧ (i = 7 ∨ i = 8)) → u2 (u2 F1 39 7 w) 39 8 V a i = F a i := fun w a i hn => by
    rw [u2_eq, if_neg (fun z => hn ⟨z.1, Or.inr z.2⟩), u2_eq, if_neg (fun z => hn ⟨z.1, Or.inl z.2⟩)]
    exact a2 a i (fun z => hn ⟨z.1, Or.inl z.2⟩)
  cases ok with
  | true =>
    obtain ⟨o1, o2⟩ := hok.mp rfl
    have o1 : D ≠ 0 := o1
    refine ⟨u2 (u2 F1 39 7 (F1 39 7)) 39 8 V, ?_, by rw [if_pos rfl]; exact a1, rfl, fr _⟩
    refine cc_cut [9] 20 rfl rfl ?_
    refine And.intro rfl ?_
    rw [show zI (wIJ (nh h) F G) 39 7 = nI p from r4]
    refine a3 _ _ ?_
    rw [show (decide (lo ≤ V ∧ V ≤ hi)) = true from decide_eq_true o2] at ci
    refine bk_sound (cuts := []) 40 _ _ _ _ ?_
    refine And.intro rfl ?_
    refine br_f (show ¬ F1 39 7 ≤ nI p by rw [a1]; exact nI_ge (by omega) (by omega)) ?_
    refine And.intro rfl (And.intro rfl (Exists.intro _ (Exists.intro _ (And.intro (ci) ?_))))
    refine br_f (by decide) ?_
    refine br_f (by decide) ?_
    refine And.intro rfl ?_
    refine And.intro rfl ?_
    refine And.intro rfl ?_
    exact ⟨Or.inr ⟨rfl, Or.inr rfl⟩, rfl, rfl⟩
  | false =>
    refine ⟨u2 (u2 F1 39 7 (nI p)) 39 8 V, ?_, by rw [if_neg (by decide)]; rfl, rfl, fr _⟩
    refine cc_cut [9] 20 rfl rfl ?_
    refine And.intro rfl ?_
    rw [show zI (wIJ (nh h) F G) 39 7 = nI p from r4]
    refine a3 _ _ ?_
    refine bk_sound (cuts := []) 40 _ _ _ _ ?_
    refine And.intro rfl ?_
    by_cases q : D = 0
    · refine br_t (show F1 39 7 ≤ nI p by rw [a1, q]; exact nI_le (Nat.le_refl _) (by omega)) ?_
      refine br_t (by rfl) ?_
      refine And.intro rfl ?_
      refine And.intro rfl ?_
      exact ⟨Or.inr ⟨rfl, Or.inl rfl⟩, rfl, rfl⟩
    · refine br_f (show ¬ F1 39 7 ≤ nI p by rw [a1]; exact nI_ge (by omega) (by omega)) ?_
      refine And.intro rfl (And.intro rfl (Exists.intro _ (Exists.intro _ (And.intro (ci) ?_))))
      refine br_t (by rw [bI_z]; exact decide_eq_false (fun z => by have := hok.mpr ⟨q, z⟩; cases this)) ?_
      refine br_t (by rfl) ?_
      refine And.intro rfl ?_
      refine And.intro rfl ?_
      exact ⟨Or.inr ⟨rfl, Or.inl rfl⟩, rfl, rfl⟩
end
