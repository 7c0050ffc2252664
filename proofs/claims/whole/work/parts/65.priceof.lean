/-! priceOf: the least price of a set of lorries. -/
def sN (f : Nat → Nat) : Nat → Nat
  | 0 => 0
  | n + 1 => sN f n + f n
theorem sN_sm (f : Nat → Nat) (n : Nat) : (sN f n : Int) = sm (fun i => (f i : Int)) n := by
  induction n with
  | zero => rfl
  | succ n ih =>
    show ((sN f n + f n : Nat) : Int) = sm (fun i => (f i : Int)) n + (f n : Int)
    rw [← ih]
    omega
theorem sN_congr {f g : Nat → Nat} : ∀ n, (∀ i, i < n → f i = g i) → sN f n = sN g n := by
  intro n
  induction n with
  | zero => intro _; rfl
  | succ n ih =>
    intro h
    show sN f n + f n = sN g n + g n
    rw [ih (fun i hi => h i (by omega)), h n (by omega)]
/-- the price of a part at the n-th place of a set -/
def qn (h : Hp) (s n p : Nat) : Nat := prN (csH 256 h (wP s n) p) + p * 12 ^ (wW s - 1 - n)
theorem cs1_le {K kd st hr x n : Nat} {u : Bool} {pl : Int32} (hr9 : hr ≤ 9) (h : cs1 K kd st hr u pl x = some n) : n ≤ K + 11 := by
  unfold cs1 at h
  split at h
  · rename_i m hm
    have := hN_le hm
    cases h
    split <;> omega
  · cases h
theorem pow12 {d : Nat} (h : d ≤ 11) : 12 ^ d ≤ 743008370688 := Nat.pow_le_pow_right (n := 12) (by decide) h
theorem qn_le {h : Hp} {s n p : Nat} (hs : s < 16) (hp : p < 12) (hr9 : pHr h p ≤ 9) : qn h s n p ≤ 144123361168011264 := by
  have w := (wW_eq hs).2
  have p1 : 12 ^ (wW s - 1 - n) ≤ 743008370688 := pow12 (by omega)
  have p2 : p * 12 ^ (wW s - 1 - n) ≤ 11 * 743008370688 := Nat.mul_le_mul (by omega) p1
  have p3 : prN (csH 256 h (wP s n) p) ≤ 144115188075855872 := by
    unfold prN
    split
    · exact Nat.le_refl _
    · rename_i m hm
      have := cs1_le hr9 hm
      omega
  unfold qn
  omega
section
variable {sc : Nat × (Nat → Int32)} {h : Hp} {M s : Nat}
def pFr (F' F : Nat → Nat → Int32) : Prop := ∀ a j, ¬ (a = 19 ∧ j = 7) → a ≠ 21 → a ≠ 26 → a ≠ 27 → a ≠ 28 → F' a j = F a j
theorem po1_loop {W : Nat} (hM : M ≤ 12) (hW : W ≤ 12) (hWM : W ≤ M) : ∀ (d r : Nat) (F : Nat → Nat → Int32) (G : Nat → Nat → Int64), r + d = W → F 19 6 = nI M → F 19 7 = nI W → (∀ p, 1 ≤ p → p ≤ M → F 26 p = nI (hO F p)) → HI W M r (cO G) (hO F) (uO G) (vO G) → CB W M (cO G) → ∃ F' G', (∀ v h', Rn sc (mtk 70) 50 [some (.ref 19), some (.int (nI s)), some (.int (nI (W + 1))), none, none] [] (wIJ (nh h) F' G') v h' → Rn sc (mtk 70) 31 [some (.ref 19), some (.int (nI s)), some (.int (nI (r + 1))), none, none] [] (wIJ (nh h) F G) v h') ∧ (∀ a, a ≠ 26 → a ≠ 27 → a ≠ 28 → F' a = F a) ∧ (∀ a, a ≠ 23 → a ≠ 24 → a ≠ 25 → G' a = G a) ∧ (∀ p, 1 ≤ p → p ≤ M → F' 26 p = nI (hO F' p)) ∧ HI W M W (cO G') (hO F') (uO G') (vO G') := by
  intro d
  induction d with
  | zero =>
    intro r F G hr e6 e7 h26 H hc
    obtain rfl : r = W := by omega
    refine ⟨F, G, fun v h' R => ?_, fun _ _ _ _ => rfl, fun _ _ _ _ => rfl, h26, H⟩
    refine bk_sound (cuts := [50]) 20 _ _ _ _ ?_
    refine And.intro rfl ?_
    refine br_t (show F 19 7 < nI (r + 1) by rw [e7]; exact nI_lt (by omega) (by omega)) ?_
    exact R
  | succ d ih =>
    intro r F G hr e6 e7 h26 H hc
    obtain ⟨F', G', C, k1, k2, k3, k4⟩ := c_givePartTo (sc := sc) (h := h) (r := r + 1) hM hW (by omega) (by omega) (by omega) e6 h26 H hc
    have e22 := k2 22 (by decide) (by decide) (by decide)
    have e19 := k1 19 (by decide) (by decide) (by decide)
    obtain ⟨F2, G2, R, j1, j2, j3, j4⟩ := ih (r + 1) F' G' (by omega) (by rw [e19]; exact e6) (by rw [e19]; exact e7) (fun p _ hp => k3 p hp) k4 (by
      unfold CB cO
      rw [e22]
      exact hc)
    refine ⟨F2, G2, fun v h' R0 => ?_, fun a a1 a2 a3 => (j1 a a1 a2 a3).trans (k1 a a1 a2 a3), fun a a1 a2 a3 => (j2 a a1 a2 a3).trans (k2 a a1 a2 a3), j3, j4⟩
    have R := R v h' R0
    rw [← nI_1 (r + 1)] at R
    refine bk_sound (cuts := [31]) 20 _ _ _ _ ?_
    refine And.intro rfl ?_
    refine br_f (show ¬ F 19 7 < nI (r + 1) by rw [e7]; exact nI_nlt (by omega) (by omega)) ?_
    refine And.intro ⟨rfl, rfl⟩ (And.intro rfl (Exists.intro _ (Exists.intro _ (And.intro (C) ?_))))
    exact R
theorem po2_loop {F : Nat → Nat → Int32} {G : Nat → Nat → Int64} {W : Nat} (hM : M ≤ 12) (hW : W ≤ 12) (e6 : F 19 6 = nI M) (h26 : ∀ p, 1 ≤ p → p ≤ M → F 26 p = nI (hO F p)) (hk : ∀ p, 1 ≤ p → p ≤ M → hO F p ≤ W) {t : Nat → Nat} (ht : ∀ p, p < M → (hO F (p + 1) = 0 → t p = 0) ∧ (hO F (p + 1) ≠ 0 → G 22 ((hO F (p + 1) - 1) * 12 + p) = lN (t p))) (o1 : Int32) : ∀ (d p : Nat), p + d = M → Rn sc (mtk 70) 55 [some (.ref 19), some (.int o1), some (.long (lN (sN t p))), none, some (.int (nI (p + 1)))] [] (wIJ (nh h) F G) (some (.long (lN (sN t M)))) (wIJ (nh h) F G) := by
  intro d
  induction d with
  | zero =>
    intro p hp
    obtain rfl : p = M := by omega
    refine bk_sound (cuts := []) 20 _ _ _ _ ?_
    refine And.intro rfl ?_
    refine br_t (show F 19 6 < nI (p + 1) by rw [e6]; exact nI_lt (by omega) (by omega)) ?_
    exact ⟨trivial, rfl, rfl⟩
  | succ d ih =>
    intro p hp
    have R := ih (p + 1) (by omega)
    rw [← nI_1 (p + 1), show sN t (p + 1) = sN t p + t p from rfl, ← lN_add] at R
    have ip : inB (nI (p + 1)) 13 = true := inB_nI (by omega) (by decide)
    have ep : (nI (p + 1)).toNatClampNeg = p + 1 := nI_clamp (by omega)
    have e26 := h26 (p + 1) (by omega) (by omega)
    have hk := hk (p + 1) (by omega) (by omega)
    obtain ⟨t1, t2⟩ := ht p (by omega)
    refine bk_sound (cuts := [55]) 60 _ _ _ _ ?_
    refine And.intro rfl ?_
    refine br_f (show ¬ F 19 6 < nI (p + 1) by rw [e6]; exact nI_nlt (by omega) (by omega)) ?_
    refine And.intro rfl ?_
    refine And.intro (⟨rfl, ip⟩) ?_
    by_cases q : hO F (p + 1) = 0
    · refine br_f (show ¬ ¬ F 26 (nI (p + 1)).toNatClampNeg = 0 from fun z => z (by rw [ep, e26, q]; rfl)) ?_
      rw [t1 q] at R
      exact R
    · refine br_t (show ¬ F 26 (nI (p + 1)).toNatClampNeg = 0 by rw [ep, e26]; exact fun z => q ((nI_eq (by omega) (by omega)).mp z)) ?_
      refine And.intro rfl ?_
      refine And.intro rfl ?_
      refine And.intro (⟨rfl, ip⟩) ?_
      rw [ep, show zI (wIJ (nh h) F G) (zA (wIJ (nh h) F G) 19 13) (p + 1) = nI (hO F (p + 1)) from e26]
      have ex : (nI (hO F (p + 1)) - 1) * 12 + nI (p + 1) - 1 = nI ((hO F (p + 1) - 1) * 12 + p) := ix_fs (by omega) (by omega)
      refine And.intro (show _ ∧ inB ((nI (hO F (p + 1)) - 1) * 12 + nI (p + 1) - 1) 144 = true from ⟨rfl, by rw [ex]; exact inB_nI (by omega) (by decide)⟩) ?_
      rw [ex, nI_clamp (by omega), show zJ (wIJ (nh h) F G) (zA (wIJ (nh h) F G) 19 9) ((hO F (p + 1) - 1) * 12 + p) = lN (t p) from t2 q]
      exact R
theorem HI_0 {W M : Nat} {c : Nat → Nat → Int} (hc : CB W M c) {hd : Nat → Nat} {u v : Nat → Int} (h1 : ∀ p, 1 ≤ p → p ≤ M → hd p = 0) (h2 : ∀ i, 1 ≤ i → i ≤ W → u i = 0) (h3 : ∀ p, 1 ≤ p → p ≤ M → v p = 0) : HI W M 0 c hd u v :=
  ⟨fun p a b => by rw [h1 p a b]; exact Nat.le_refl _, fun p q a b _ _ _ hn => absurd (h1 p a b) hn, fun i a b => by omega, fun i p a b x y => by rw [h2 i a b, h3 p x y]; have := (hc i p a b x y).1; omega, fun p a b hn => absurd (h1 p a b) hn, fun p a b => ⟨by rw [h3 p a b]; exact Int.le_refl _, fun _ => h3 p a b⟩, fun i a b => by rw [h2 i a b]; exact Int.le_refl _⟩
/-- the least price of a set, and a way that has it -/
theorem c_priceOf {F : Nat → Nat → Int32} {G : Nat → Nat → Int64} (hA : zA h 19 5 = 16) (hM : M ≤ 12) (hF : ∀ a, 65 ≤ a → F a = zI h a) (hP : ∀ p, p < M → PH h p) (e6 : F 19 6 = nI M) (hs : s < 16) (hW : wW s ≤ M) : ∃ F' G' T, Cc sc 70 [.ref 19, .int (nI s)] (wIJ (nh h) F G) (some (.long (lN T))) (wIJ (nh h) F' G') ∧ pFr F' F ∧ (∀ a, a ≠ 22 → a ≠ 23 → a ≠ 24 → a ≠ 25 → G' a = G a) ∧ F' 19 7 = nI (wW s) ∧ (∀ n, n < wW s → F' 21 n = nI (wP s n)) ∧ (∀ p, 1 ≤ p → p ≤ M → F' 26 p = nI (hO F' p) ∧ hO F' p ≤ wW s) ∧ ∃ m : Nat → Nat, (∀ i, i < wW s → m i < M ∧ hO F' (m i + 1) = i + 1) ∧ (∀ i j, i < wW s → j < wW s → m i = m j → i = j) ∧ (∀ p, p < M → hO F' (p + 1) ≠ 0 → m (hO F' (p + 1) - 1) = p) ∧ T = sN (fun i => qn h s i (m i)) (wW s) ∧ ∀ a : Nat → Nat, (∀ i, i < wW s → a i < M) → (∀ i j, i < wW s → j < wW s → a i = a j → i = j) → T ≤ sN (fun i => qn h s i (a i)) (wW s) := by
  have w12 := (wW_eq hs).2
  obtain ⟨F1, G1, C1, a1, a2, a3, a4, a5⟩ := c_setPrices (sc := sc) (h := h) (F := F) (G := G) hA hM hF hP e6 hs
  -- all bids are 0
  have cE : ∀ i p, 1 ≤ i → i ≤ wW s → 1 ≤ p → p ≤ M → (G1 22 ((i - 1) * 12 + p - 1)) = lN (qn h s (i - 1) (p - 1)) := fun i p i1 i2 p1 p2 => by
    rw [show (i - 1) * 12 + p - 1 = (i - 1) * 12 + (p - 1) by omega]
    exact a5 (i - 1) (p - 1) (by omega) (by omega)
  have ql : ∀ n p, p < M → qn h s n p ≤ 144123361168011264 := fun n p hp => qn_le hs (by omega) (by have := hP p hp; exact this.2.2.2.2.2.1)
  generalize eF2 : va_up F1 26 (fun j => if j < 13 then (0 : Int32) else F1 26 j) = F2
  generalize eG2 : va_up (va_up G1 23 (fun j => if j < 13 then (0 : Int64) else G1 23 j)) 24 (fun j => if j < 13 then (0 : Int64) else G1 24 j) = G2
  have F2o : ∀ a, a ≠ 26 → F2 a = F1 a := fun a ha => by rw [← eF2, va_up_ne _ _ ha]
  have G2o : ∀ a, a ≠ 23 → a ≠ 24 → G2 a = G1 a := fun a h1 h2 => by rw [← eG2, va_up_ne _ _ h2, va_up_ne _ _ h1]
  have cE2 : ∀ i p, 1 ≤ i → i ≤ wW s → 1 ≤ p → p ≤ M → cO G2 i p = (qn h s (i - 1) (p - 1) : Int) := fun i p i1 i2 p1 p2 => by
    unfold cO
    have := ql (i - 1) (p - 1) (by omega)
    rw [G2o 22 (by decide) (by decide), cE i p i1 i2 p1 p2, pk_lT (by omega)]
  have hc : CB (wW s) M (cO G2) := fun i p i1 i2 p1 p2 => by
    rw [cE2 i p i1 i2 p1 p2]
    have := ql (i - 1) (p - 1) (by omega)
    omega
  have z26 : ∀ p, p ≤ M → F2 26 p = 0 := fun p hp => by
    rw [← eF2, va_up_self, if_pos (by omega)]
  have z23 : ∀ p, p ≤ 12 → G2 23 p = 0 := fun p hp => by
    rw [← eG2, va_up_ne _ _ (by decide), va_up_self, if_pos (by omega)]
  have z24 : ∀ p, p ≤ 12 → G2 24 p = 0 := fun p hp => by
    rw [← eG2, va_up_self, if_pos (by omega)]
  have H0 : HI (wW s) M 0 (cO G2) (hO F2) (uO G2) (vO G2) := HI_0 hc (fun p _ hp => by unfold hO; rw [z26 p hp]; rfl) (fun i _ hi => by unfold uO; rw [z23 i (by omega)]; rfl) (fun p _ hp => by unfold vO; rw [z24 p (by omega)]; rfl)
  obtain ⟨F3, G3, R, b1, b2, b3, b4⟩ := po1_loop (sc := sc) (h := h) (s := s) hM w12 hW (wW s) 0 F2 G2 (by omega) (by rw [F2o 19 (by decide), a1 19 6 (by omega) (by decide)]; exact e6) (by rw [F2o 19 (by decide)]; exact a3) (fun p _ hp => by unfold hO; rw [z26 p hp]; rfl) H0 hc
  have e22 := b2 22 (by decide) (by decide) (by decide)
  have cEq : cO G3 = cO G2 := by
    unfold cO
    rw [e22]
  rw [cEq] at b4
  obtain ⟨m, m1, m2, m3, m4⟩ := HI_sum b4 hc
  have sE : sm (fun i => cO G2 (i + 1) (m i + 1)) (wW s) = (sN (fun i => qn h s i (m i)) (wW s) : Int) := by
    rw [sN_sm]
    exact sm_congr _ (fun i hi => cE2 (i + 1) (m i + 1) (by omega) (by omega) (by omega) (by have := (m1 i hi).1; omega))
  -- the sum over parts
  have tE : sN (fun p => if hO F3 (p + 1) = 0 then 0 else qn h s (hO F3 (p + 1) - 1) p) M = sN (fun i => qn h s i (m i)) (wW s) := by
    have k : (sN (fun p => if hO F3 (p + 1) = 0 then 0 else qn h s (hO F3 (p + 1) - 1) p) M : Int) = sm (fun p => if hO F3 (p + 1) = 0 then 0 else cO G2 (hO F3 (p + 1)) (p + 1)) M := by
      rw [sN_sm]
      refine sm_congr _ (fun p hp => ?_)
      by_cases q : hO F3 (p + 1) = 0
      · rw [if_pos q, if_pos q]
        rfl
      · have w := b4.1 (p + 1) (by omega) (by omega)
        rw [if_neg q, if_neg q, cE2 (hO F3 (p + 1)) (p + 1) (by omega) w (by omega) (by omega)]
        rfl
    rw [← m4, sE] at k
    omega
  refine ⟨F3, G3, sN (fun i => qn h s i (m i)) (wW s), ?_, fun a j h1 h2 h3 h4 h5 => ?_, fun a h1 h2 h3 h4 => ?_, ?_, fun n hn => ?_, fun p p1 p2 => ⟨b3 p p1 p2, b4.1 p p1 p2⟩, m, m1, m2, m3, rfl, fun a ha1 ha2 => ?_⟩
  · have L := po2_loop (sc := sc) (h := h) (F := F3) (G := G3) hM w12 (by rw [b1 19 (by decide) (by decide) (by decide), F2o 19 (by decide), a1 19 6 (by omega) (by decide)]; exact e6) b3 (fun p p1 p2 => b4.1 p p1 p2) (t := fun p => if hO F3 (p + 1) = 0 then 0 else qn h s (hO F3 (p + 1) - 1) p) (fun p hp => ⟨fun q => if_pos q, fun q => by
      have w := b4.1 (p + 1) (by omega) (by omega)
      rw [if_neg q, e22, G2o 22 (by decide) (by decide)]
      exact a5 (hO F3 (p + 1) - 1) p (by omega) hp⟩) (nI s) M 0 (by omega)
    rw [tE] at L
    refine cc_cut [31] 30 rfl rfl ?_
    refine And.intro ⟨rfl, rfl⟩ (And.intro rfl (Exists.intro _ (Exists.intro _ (And.intro (C1) ?_))))
    refine And.intro rfl ?_
    refine And.intro rfl (And.intro rfl (Exists.intro _ (Exists.intro _ (And.intro (c_fillJ (a := 23) (v := 0) rfl (show 13 < 2 ^ 31 by decide)) ?_))))
    refine And.intro rfl ?_
    refine And.intro rfl (And.intro rfl (Exists.intro _ (Exists.intro _ (And.intro (c_fillJ (a := 24) (v := 0) rfl (show 13 < 2 ^ 31 by decide)) ?_))))
    refine And.intro rfl ?_
    refine And.intro rfl (And.intro rfl (Exists.intro _ (Exists.intro _ (And.intro (c_fillI (a := 26) (v := 0) rfl (show 13 < 2 ^ 31 by decide)) ?_))))
    refine rn_eq (show wIJ (nh h) (va_up F1 26 (fun j => if j < 13 then (0 : Int32) else F1 26 j)) (va_up (va_up G1 23 (fun j => if j < 13 then (0 : Int64) else G1 23 j)) 24 (fun j => if j < 13 then (0 : Int64) else (va_up G1 23 (fun j => if j < 13 then (0 : Int64) else G1 23 j)) 24 j)) = wIJ (nh h) F2 G2 from ?_) (R _ _ ?_)
    · rw [← eF2, ← eG2]
      rfl
    · refine bk_sound (cuts := [55]) 20 _ _ _ _ ?_
      exact L
  · rw [b1 a h3 h4 h5, F2o a h3, a1 a j h1 h2]
  · rw [b2 a h2 h3 h4, G2o a h2 h3, a2 a h1]
  · rw [b1 19 (by decide) (by decide) (by decide), F2o 19 (by decide)]
    exact a3
  · rw [b1 21 (by decide) (by decide) (by decide), F2o 21 (by decide)]
    exact a4 n hn
  · have k := HI_best b4 ha1 ha2
    rw [← m4, sE] at k
    have k2 : sm (fun i => cO G2 (i + 1) (a i + 1)) (wW s) = (sN (fun i => qn h s i (a i)) (wW s) : Int) := by
      rw [sN_sm]
      exact sm_congr _ (fun i hi => cE2 (i + 1) (a i + 1) (by omega) (by omega) (by omega) (by have := ha1 i hi; omega))
    rw [k2] at k
    omega
end
