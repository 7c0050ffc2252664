/-! The chain of places that give way; the least price (pure). -/
/-- the chain, come to part p: what is held but for p -/
def AI (M r : Nat) (c : Nat → Nat → Int) (hd hd1 : Nat → Nat) (u v : Nat → Int) (sn : Nat → Bool) (tm : Nat → Nat) (t p : Nat) : Prop :=
  p ≤ M ∧ (p ≠ 0 → True) ∧ (∀ x, x ≤ M → sn x = true → tm x < t → hd1 x = hd x) ∧ (∀ x y, x ≤ M → y ≤ M → x ≠ p → y ≠ p → hd1 x = hd1 y → hd1 x ≠ 0 → x = y) ∧ (∀ i, 1 ≤ i → i ≤ r → ∃ x, x ≤ M ∧ x ≠ p ∧ hd1 x = i) ∧ (∀ x, 1 ≤ x → x ≤ M → x ≠ p → hd1 x ≤ r ∧ (hd1 x ≠ 0 → u (hd1 x) + v x = c (hd1 x) x) ∧ (hd1 x = 0 → v x = 0)) ∧ hd1 0 = r
theorem AI_start {W M r : Nat} {c : Nat → Nat → Int} {hd : Nat → Nat} {u v : Nat → Int} {sn : Nat → Bool} {bf : Nat → Nat} {sl : Nat → Int} {tm : Nat → Nat} {st cur : Nat} (H : HI W M (r - 1) c hd u v) (T : TI M c hd u v sn bf sl tm st cur) (h0 : hd 0 = r) (r1 : 1 ≤ r) (hz : hd cur = 0) : AI M r c hd hd u v sn tm st cur := by
  obtain ⟨i1, i2, i3, i4, i5, i6, i7⟩ := H
  have c0 : cur ≠ 0 := fun e => by rw [e, h0] at hz; omega
  refine ⟨T.1, fun _ => trivial, fun _ _ _ _ => rfl, fun x y hx hy _ _ e hn => ?_, fun i h1 h2 => ?_, fun x h1 h2 _ => ⟨by have := i1 x h1 h2; omega, i5 x h1 h2, (i6 x h1 h2).2⟩, h0⟩
  · by_cases ex : x = 0
    · by_cases ey : y = 0
      · omega
      · have := i1 y (by omega) hy
        subst ex
        omega
    · by_cases ey : y = 0
      · have := i1 x (by omega) hx
        subst ey
        omega
      · exact i2 x y (by omega) hx (by omega) hy e hn
  · by_cases e : i = r
    · exact ⟨0, Nat.zero_le _, Ne.symm c0, by rw [h0, e]⟩
    · obtain ⟨p, p1, p2, p3⟩ := i3 i h1 (by omega)
      exact ⟨p, p2, fun z => by rw [z, hz] at p3; omega, p3⟩
theorem AI_step {M r : Nat} {c : Nat → Nat → Int} {hd hd1 hd2 : Nat → Nat} {u v : Nat → Int} {sn : Nat → Bool} {tm : Nat → Nat} {t p b : Nat} (A : AI M r c hd hd1 u v sn tm t p) (hp : p ≠ 0) (hpt : sn p = true → t ≤ tm p) (b1 : b ≤ M) (b2 : sn b = true) (b3 : tm b < t) (b4 : u (hd b) + v p = c (hd b) p) (b5 : hd b ≠ 0) (b6 : hd b ≤ r) (e1 : hd2 p = hd1 b) (e2 : ∀ x, x ≤ M → x ≠ p → hd2 x = hd1 x) : AI M r c hd hd2 u v sn tm (tm b) b := by
  obtain ⟨a1, -, a3, a4, a5, a6, a7⟩ := A
  have hb : hd1 b = hd b := a3 b b1 b2 b3
  have bp : b ≠ p := fun e => by
    subst e
    have := hpt b2
    omega
  refine ⟨b1, fun _ => trivial, fun x hx hs ht => ?_, fun x y hx hy nx ny e hn => ?_, fun i h1 h2 => ?_, fun x h1 h2 nx => ?_, by rw [e2 0 (Nat.zero_le _) (Ne.symm hp)]; exact a7⟩
  · have xp : x ≠ p := fun e => by
      subst e
      have := hpt hs
      omega
    rw [e2 x hx xp]
    exact a3 x hx hs (by omega)
  · by_cases ex : x = p
    · by_cases ey : y = p
      · omega
      · exfalso
        subst ex
        rw [e1, e2 y hy ey] at e
        rw [e1] at hn
        have := a4 b y b1 hy bp ey e hn
        omega
    · by_cases ey : y = p
      · exfalso
        subst ey
        rw [e1, e2 x hx ex] at e
        rw [e2 x hx ex] at hn
        have := a4 x b hx b1 ex bp e hn
        omega
      · rw [e2 x hx ex, e2 y hy ey] at e
        rw [e2 x hx ex] at hn
        exact a4 x y hx hy ex ey e hn
  · obtain ⟨x, x1, x2, x3⟩ := a5 i h1 h2
    by_cases ex : x = b
    · subst ex
      exact ⟨p, a1, Ne.symm bp, by rw [e1]; exact x3⟩
    · exact ⟨x, x1, ex, by rw [e2 x x1 x2]; exact x3⟩
  · by_cases ex : x = p
    · subst ex
      rw [e1, hb]
      exact ⟨b6, fun _ => b4, fun z => absurd z b5⟩
    · rw [e2 x h2 ex]
      exact a6 x h1 h2 ex
theorem AI_end {W M r : Nat} {c : Nat → Nat → Int} {hd hd1 : Nat → Nat} {u v : Nat → Int} {sn : Nat → Bool} {tm : Nat → Nat} {t : Nat} (H : HI W M (r - 1) c hd u v) (A : AI M r c hd hd1 u v sn tm t 0) : HI W M r c hd1 u v := by
  obtain ⟨i1, i2, i3, i4, i5, i6, i7⟩ := H
  obtain ⟨a1, -, a3, a4, a5, a6, a7⟩ := A
  refine ⟨fun p h1 h2 => (a6 p h1 h2 (by omega)).1, fun p q h1 h2 h3 h4 e hn => a4 p q h2 h4 (by omega) (by omega) e hn, fun i h1 h2 => ?_, i4, fun p h1 h2 hn => (a6 p h1 h2 (by omega)).2.1 hn, fun p h1 h2 => ⟨(i6 p h1 h2).1, (a6 p h1 h2 (by omega)).2.2⟩, i7⟩
  obtain ⟨x, x1, x2, x3⟩ := a5 i h1 h2
  exact ⟨x, by omega, x1, x3⟩
/-- all places have a part: no other way is cheaper -/
theorem HI_best {W M : Nat} {c : Nat → Nat → Int} {hd : Nat → Nat} {u v : Nat → Int} (H : HI W M W c hd u v) {a : Nat → Nat} (a1 : ∀ i, i < W → a i < M) (a2 : ∀ i j, i < W → j < W → a i = a j → i = j) : sm (fun p => if hd (p + 1) = 0 then 0 else c (hd (p + 1)) (p + 1)) M ≤ sm (fun i => c (i + 1) (a i + 1)) W := by
  obtain ⟨i1, i2, i3, i4, i5, i6, i7⟩ := H
  have s1 : sm (fun p => if hd (p + 1) = 0 then 0 else c (hd (p + 1)) (p + 1)) M = sm (fun p => (if hd (p + 1) = 0 then 0 else u (hd (p + 1))) + v (p + 1)) M := sm_congr M (fun p hp => by
    by_cases q : hd (p + 1) = 0
    · rw [if_pos q, if_pos q, (i6 (p + 1) (by omega) (by omega)).2 q]
      rfl
    · rw [if_neg q, if_neg q, i5 (p + 1) (by omega) (by omega) q])
  rw [s1, sm_add]
  have s2 := sm_inj (m := W) M (fun p => !decide (hd (p + 1) = 0)) (fun p => hd (p + 1) - 1) (fun i => u (i + 1)) (fun i hi => i7 (i + 1) (by omega) (by omega)) (fun p hp hb => by
    have := i1 (p + 1) (by omega) (by omega)
    have hb : ¬ hd (p + 1) = 0 := by simpa using hb
    show hd (p + 1) - 1 < W
    omega) (fun p q hp hq hb hb' e => by
    have hb : ¬ hd (p + 1) = 0 := by simpa using hb
    have hb' : ¬ hd (q + 1) = 0 := by simpa using hb'
    have e : hd (p + 1) - 1 = hd (q + 1) - 1 := e
    have := i2 (p + 1) (q + 1) (by omega) (by omega) (by omega) (by omega) (by omega) hb
    omega)
  have s3 : sm (fun p => if (!decide (hd (p + 1) = 0)) = true then u (hd (p + 1) - 1 + 1) else 0) M = sm (fun p => if hd (p + 1) = 0 then 0 else u (hd (p + 1))) M := sm_congr M (fun p hp => by
    by_cases q : hd (p + 1) = 0
    · rw [if_pos q, if_neg (by simp [q])]
    · rw [if_neg q, if_pos (by simp [q]), show hd (p + 1) - 1 + 1 = hd (p + 1) by omega])
  rw [s3] at s2
  have s4 := sm_injA (m := M) (n := W) (a := a) (g := fun p => - v (p + 1)) (fun p hp => by
    have := (i6 (p + 1) (by omega) (by omega)).1
    show 0 ≤ - v (p + 1)
    omega) a1 a2
  have s5 : sm (fun i => u (i + 1) + v (a i + 1)) W ≤ sm (fun i => c (i + 1) (a i + 1)) W := sm_le W (fun i hi => i4 (i + 1) (a i + 1) (by omega) (by omega) (by omega) (by have := a1 i hi; omega))
  rw [sm_add] at s5
  have s6 : ∀ (g : Nat → Int) n, sm (fun i => - g i) n = - sm g n := fun g n => by
    have := sm_mul (-1) g n
    rw [← Int.neg_one_mul (sm g n), ← this]
    exact sm_congr n (fun i _ => (Int.neg_one_mul (g i)).symm)
  have s4 : sm (fun i => - (fun i => v (a i + 1)) i) W ≤ sm (fun p => - (fun p => v (p + 1)) p) M := s4
  rw [s6, s6] at s4
  omega
/-- the sum over parts is the sum over places -/
theorem HI_sum {W M : Nat} {c : Nat → Nat → Int} {hd : Nat → Nat} {u v : Nat → Int} (H : HI W M W c hd u v) (hc : CB W M c) : ∃ m : Nat → Nat, (∀ i, i < W → m i < M ∧ hd (m i + 1) = i + 1) ∧ (∀ i j, i < W → j < W → m i = m j → i = j) ∧ (∀ p, p < M → hd (p + 1) ≠ 0 → m (hd (p + 1) - 1) = p) ∧ sm (fun i => c (i + 1) (m i + 1)) W = sm (fun p => if hd (p + 1) = 0 then 0 else c (hd (p + 1)) (p + 1)) M := by
  have H0 := H
  obtain ⟨i1, i2, i3, i4, i5, i6, i7⟩ := H
  have ex : ∀ i, ∃ p, i < W → p < M ∧ hd (p + 1) = i + 1 := fun i => by
    by_cases q : i < W
    · obtain ⟨p, p1, p2, p3⟩ := i3 (i + 1) (by omega) (by omega)
      exact ⟨p - 1, fun _ => ⟨by omega, by rw [show p - 1 + 1 = p by omega]; exact p3⟩⟩
    · exact ⟨0, fun z => absurd z q⟩
  have m1 : ∀ i, i < W → Classical.choose (ex i) < M ∧ hd (Classical.choose (ex i) + 1) = i + 1 := fun i => Classical.choose_spec (ex i)
  generalize hm : (fun i => Classical.choose (ex i)) = m
  have m1 : ∀ i, i < W → m i < M ∧ hd (m i + 1) = i + 1 := fun i hi => by
    rw [← hm]
    exact m1 i hi
  have m2 : ∀ i j, i < W → j < W → m i = m j → i = j := fun i j hi hj e => by
    have a := (m1 i hi).2
    have b := (m1 j hj).2
    rw [e] at a
    omega
  have m3 : ∀ p, p < M → hd (p + 1) ≠ 0 → m (hd (p + 1) - 1) = p := fun p hp hn => by
    have k := i1 (p + 1) (by omega) (by omega)
    have a := m1 (hd (p + 1) - 1) (by omega)
    have := i2 (m (hd (p + 1) - 1) + 1) (p + 1) (by omega) (by omega) (by omega) (by omega) (by omega) (by omega)
    omega
  refine ⟨m, m1, m2, m3, ?_⟩
  have le1 := HI_best H0 (fun i hi => (m1 i hi).1) m2
  have le2 := sm_injA (m := M) (n := W) (a := m) (g := fun p => if hd (p + 1) = 0 then 0 else c (hd (p + 1)) (p + 1)) (fun p hp => by
    show 0 ≤ if hd (p + 1) = 0 then 0 else c (hd (p + 1)) (p + 1)
    by_cases q : hd (p + 1) = 0
    · rw [if_pos q]
      exact Int.le_refl _
    · rw [if_neg q]
      have k := i1 (p + 1) (by omega) (by omega)
      exact (hc (hd (p + 1)) (p + 1) (by omega) k (by omega) (by omega)).1) (fun i hi => (m1 i hi).1) m2
  have e : sm (fun i => (fun p => if hd (p + 1) = 0 then 0 else c (hd (p + 1)) (p + 1)) (m i)) W = sm (fun i => c (i + 1) (m i + 1)) W := sm_congr W (fun i hi => by
    show (if hd (m i + 1) = 0 then 0 else c (hd (m i + 1)) (m i + 1)) = c (i + 1) (m i + 1)
    rw [(m1 i hi).2, if_neg (by omega)])
  rw [e] at le2
  omega
