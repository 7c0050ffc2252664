/-! Parts given to places for the least price: what holds at each step (pure). -/
def FARi : Int := 4611686018427387904
def HI (W M k : Nat) (c : Nat → Nat → Int) (hd : Nat → Nat) (u v : Nat → Int) : Prop :=
  (∀ p, 1 ≤ p → p ≤ M → hd p ≤ k) ∧ (∀ p q, 1 ≤ p → p ≤ M → 1 ≤ q → q ≤ M → hd p = hd q → hd p ≠ 0 → p = q) ∧ (∀ i, 1 ≤ i → i ≤ k → ∃ p, 1 ≤ p ∧ p ≤ M ∧ hd p = i) ∧ (∀ i p, 1 ≤ i → i ≤ W → 1 ≤ p → p ≤ M → u i + v p ≤ c i p) ∧ (∀ p, 1 ≤ p → p ≤ M → hd p ≠ 0 → u (hd p) + v p = c (hd p) p) ∧ (∀ p, 1 ≤ p → p ≤ M → v p ≤ 0 ∧ (hd p = 0 → v p = 0)) ∧ (∀ i, 1 ≤ i → i ≤ W → 0 ≤ u i)
def CB (W M : Nat) (c : Nat → Nat → Int) : Prop := ∀ i p, 1 ≤ i → i ≤ W → 1 ≤ p → p ≤ M → 0 ≤ c i p ∧ c i p ≤ 288230376151711744
def cF (sn : Nat → Bool) : Nat → Nat
  | 0 => 0
  | n + 1 => cF sn n + (if sn n = true then 0 else 1)
theorem cF_congr {a b : Nat → Bool} : ∀ n, (∀ p, p < n → a p = b p) → cF a n = cF b n := by
  intro n
  induction n with
  | zero => intro _; rfl
  | succ n ih =>
    intro h
    unfold cF
    rw [h n (by omega), ih (fun p hp => h p (by omega))]
theorem cF_set {sn : Nat → Bool} {j : Nat} (hf : sn j = false) : ∀ n, j < n → cF (fun p => if p = j then true else sn p) n + 1 = cF sn n := by
  intro n
  induction n with
  | zero => intro h; omega
  | succ n ih =>
    intro h
    have e : cF (fun p => if p = j then true else sn p) (n + 1) = cF (fun p => if p = j then true else sn p) n + (if (if n = j then true else sn n) = true then 0 else 1) := rfl
    have e2 : cF sn (n + 1) = cF sn n + (if sn n = true then 0 else 1) := rfl
    rw [e, e2]
    by_cases q : n = j
    · subst q
      rw [if_pos rfl, if_pos rfl, hf, if_neg (by decide)]
      rw [cF_congr (b := sn) n (fun p hp => if_neg (by omega))]
    · rw [if_neg q]
      have := ih (by omega)
      omega
theorem cF_pos {sn : Nat → Bool} {j : Nat} (hf : sn j = false) : ∀ n, j < n → 1 ≤ cF sn n := fun n hn => by
  have := cF_set hf n hn
  omega
theorem HI_free {W M k : Nat} {c : Nat → Nat → Int} {hd : Nat → Nat} {u v : Nat → Int} (H : HI W M k c hd u v) (hk : k < M) : ∃ f, 1 ≤ f ∧ f ≤ M ∧ hd f = 0 := by
  refine Classical.byContradiction fun q => ?_
  have nz : ∀ p, 1 ≤ p → p ≤ M → hd p ≠ 0 := fun p h1 h2 z => q ⟨p, h1, h2, z⟩
  have := pigeon (n := M) (m := k) (a := fun i => hd (i + 1) - 1) (fun i hi => by
    have h1 := H.1 (i + 1) (by omega) (by omega)
    have h2 := nz (i + 1) (by omega) (by omega)
    show hd (i + 1) - 1 < k
    omega) (fun i j hi hj e => by
    have h1 := nz (i + 1) (by omega) (by omega)
    have h2 := nz (j + 1) (by omega) (by omega)
    have e : hd (i + 1) - 1 = hd (j + 1) - 1 := e
    have := H.2.1 (i + 1) (j + 1) (by omega) (by omega) (by omega) (by omega) (by omega) h1
    omega)
  omega
theorem HI_bd {W M k : Nat} {c : Nat → Nat → Int} {hd : Nat → Nat} {u v : Nat → Int} (H : HI W M k c hd u v) (hc : CB W M c) (hkW : k ≤ W) {f : Nat} (f1 : 1 ≤ f) (f2 : f ≤ M) (f3 : v f = 0) : (∀ i, 1 ≤ i → i ≤ W → 0 ≤ u i ∧ u i ≤ 288230376151711744) ∧ ∀ p, 1 ≤ p → p ≤ M → -288230376151711744 ≤ v p ∧ v p ≤ 0 := by
  have hu : ∀ i, 1 ≤ i → i ≤ W → 0 ≤ u i ∧ u i ≤ 288230376151711744 := fun i h1 h2 => by
    have a := H.2.2.2.1 i f h1 h2 f1 f2
    have b := (hc i f h1 h2 f1 f2).2
    have d := H.2.2.2.2.2.2 i h1 h2
    omega
  refine ⟨hu, fun p h1 h2 => ?_⟩
  have a := H.2.2.2.2.2.1 p h1 h2
  by_cases q : hd p = 0
  · have := a.2 q
    omega
  · have b := H.2.2.2.2.1 p h1 h2 q
    have d := H.1 p h1 h2
    have e := (hc (hd p) p (by omega) (by omega) h1 h2).1
    have f := (hu (hd p) (by omega) (by omega)).2
    omega
def TI (M : Nat) (c : Nat → Nat → Int) (hd : Nat → Nat) (u v : Nat → Int) (sn : Nat → Bool) (bf : Nat → Nat) (sl : Nat → Int) (tm : Nat → Nat) (st cur : Nat) : Prop :=
  cur ≤ M ∧ sn cur = false ∧ (∀ p, p ≤ M → sn p = true → hd p ≠ 0 ∧ tm p < st) ∧ (∀ p, 1 ≤ p → p ≤ M → (sn p = true ∨ p = cur) → bf p ≤ M ∧ sn (bf p) = true ∧ (sn p = true → tm (bf p) < tm p) ∧ u (hd (bf p)) + v p = c (hd (bf p)) p) ∧ (∀ p, 1 ≤ p → p ≤ M → sn p = false → st ≠ 0 → bf p ≤ M ∧ sn (bf p) = true ∧ sl p = c (hd (bf p)) p - u (hd (bf p)) - v p ∧ ∀ q, q ≤ M → sn q = true → sl p ≤ c (hd q) p - u (hd q) - v p) ∧ (st = 0 → cur = 0 ∧ ∀ p, p ≤ M → sn p = false ∧ sl p = FARi) ∧ (st ≠ 0 → sn 0 = true ∧ sl 0 = FARi) ∧ st + cF sn (M + 1) = M + 1
/-- by the part that is looked at now, slacks are the least over all seen -/
theorem TI_slack {W M r : Nat} {c : Nat → Nat → Int} {hd : Nat → Nat} {u v : Nat → Int} {sn : Nat → Bool} {bf : Nat → Nat} {sl : Nat → Int} {tm : Nat → Nat} {st cur : Nat} (H : HI W M (r - 1) c hd u v) (T : TI M c hd u v sn bf sl tm st cur) (hc : CB W M c) (h0 : hd 0 = r) (r1 : 1 ≤ r) (r2 : r ≤ W) (hz : hd cur ≠ 0) {f : Nat} (f1 : 1 ≤ f) (f2 : f ≤ M) (f3 : hd f = 0) {sl1 : Nat → Int} {bf1 : Nat → Nat} (e1 : ∀ p, 1 ≤ p → p ≤ M → p ≠ cur → sn p = false → (c (hd cur) p - u (hd cur) - v p < sl p → sl1 p = c (hd cur) p - u (hd cur) - v p ∧ bf1 p = cur) ∧ (¬ c (hd cur) p - u (hd cur) - v p < sl p → sl1 p = sl p ∧ bf1 p = bf p)) :
    ∀ p, 1 ≤ p → p ≤ M → p ≠ cur → sn p = false → bf1 p ≤ M ∧ (bf1 p = cur ∨ sn (bf1 p) = true) ∧ sl1 p = c (hd (bf1 p)) p - u (hd (bf1 p)) - v p ∧ (∀ q, q ≤ M → (q = cur ∨ sn q = true) → sl1 p ≤ c (hd q) p - u (hd q) - v p) ∧ 0 ≤ sl1 p ∧ sl1 p ≤ 576460752303423488 := by
  obtain ⟨t1, t2, t3, t4, t5, t6, t7, t8⟩ := T
  intro p p1 p2 p3 p4
  obtain ⟨bu, bv⟩ := HI_bd H hc (by omega) f1 f2 ((H.2.2.2.2.2.1 f f1 f2).2 f3)
  have hdW : ∀ q, q ≤ M → hd q ≠ 0 → 1 ≤ hd q ∧ hd q ≤ W := fun q hq hn => by
    by_cases e : q = 0
    · subst e
      omega
    · have := H.1 q (by omega) hq
      omega
  have hW := hdW cur t1 hz
  have k1 := hc (hd cur) p hW.1 hW.2 p1 p2
  have k2 := bu (hd cur) hW.1 hW.2
  have k3 := bv p p1 p2
  have k4 := H.2.2.2.1 (hd cur) p hW.1 hW.2 p1 p2
  obtain ⟨e2, e3⟩ := e1 p p1 p2 p3 p4
  by_cases q : c (hd cur) p - u (hd cur) - v p < sl p
  · obtain ⟨a, b⟩ := e2 q
    rw [b, a]
    refine ⟨t1, Or.inl rfl, rfl, fun x hx hs => ?_, by omega, by omega⟩
    rcases hs with rfl | hs
    · exact Int.le_refl _
    · have st0 : st ≠ 0 := fun z => by
        have := ((t6 z).2 x hx).1
        rw [this] at hs
        cases hs
      have := (t5 p p1 p2 p4 st0).2.2.2 x hx hs
      omega
  · obtain ⟨a, b⟩ := e3 q
    have st0 : st ≠ 0 := fun z => by
      have := ((t6 z).2 p p2).2
      unfold FARi at this
      omega
    obtain ⟨w1, w2, w3, w4⟩ := t5 p p1 p2 p4 st0
    rw [a, b]
    have hB := hdW (bf p) w1 (t3 (bf p) w1 w2).1
    have k5 := H.2.2.2.1 (hd (bf p)) p hB.1 hB.2 p1 p2
    refine ⟨w1, Or.inr w2, w3, fun x hx hs => ?_, by omega, by omega⟩
    rcases hs with rfl | hs
    · omega
    · exact w4 x hx hs
theorem TI_step {W M r : Nat} {c : Nat → Nat → Int} {hd : Nat → Nat} {u v : Nat → Int} {sn : Nat → Bool} {bf : Nat → Nat} {sl : Nat → Int} {tm : Nat → Nat} {st cur : Nat} (H : HI W M (r - 1) c hd u v) (T : TI M c hd u v sn bf sl tm st cur) (hc : CB W M c) (h0 : hd 0 = r) (r1 : 1 ≤ r) (r2 : r ≤ W) (hz : hd cur ≠ 0) {f : Nat} (f1 : 1 ≤ f) (f2 : f ≤ M) (f3 : hd f = 0) {sl1 : Nat → Int} {bf1 : Nat → Nat} (e1 : ∀ p, 1 ≤ p → p ≤ M → p ≠ cur → sn p = false → (c (hd cur) p - u (hd cur) - v p < sl p → sl1 p = c (hd cur) p - u (hd cur) - v p ∧ bf1 p = cur) ∧ (¬ c (hd cur) p - u (hd cur) - v p < sl p → sl1 p = sl p ∧ bf1 p = bf p))
    (e0 : ∀ p, p ≤ M → (p = 0 ∨ p = cur ∨ sn p = true) → sl1 p = sl p ∧ bf1 p = bf p) {nx : Nat} (n1 : 1 ≤ nx) (n2 : nx ≤ M) (n3 : nx ≠ cur) (n4 : sn nx = false) (n5 : ∀ p, 1 ≤ p → p ≤ M → p ≠ cur → sn p = false → sl1 nx ≤ sl1 p) {u' v' sl2 : Nat → Int}
    (x1 : ∀ p, p ≤ M → (p = cur ∨ sn p = true) → u' (hd p) = u (hd p) + sl1 nx) (x2 : ∀ i, 1 ≤ i → i ≤ W → (∀ p, p ≤ M → (p = cur ∨ sn p = true) → hd p ≠ i) → u' i = u i) (x3 : ∀ p, 1 ≤ p → p ≤ M → (p = cur ∨ sn p = true) → v' p = v p - sl1 nx) (x4 : ∀ p, 1 ≤ p → p ≤ M → p ≠ cur → sn p = false → v' p = v p) (x5 : ∀ p, p ≤ M → (p = cur ∨ sn p = true) → sl2 p = sl1 p) (x6 : ∀ p, p ≤ M → p ≠ cur → sn p = false → sl2 p = sl1 p - sl1 nx) :
    HI W M (r - 1) c hd u' v' ∧ TI M c hd u' v' (fun p => if p = cur then true else sn p) bf1 sl2 (fun p => if p = cur then st else tm p) (st + 1) nx := by
  have S := TI_slack H T hc h0 r1 r2 hz f1 f2 f3 e1
  obtain ⟨t1, t2, t3, t4, t5, t6, t7, t8⟩ := T
  obtain ⟨i1, i2, i3, i4, i5, i6, i7⟩ := H
  have hdW : ∀ q, q ≤ M → hd q ≠ 0 → 1 ≤ hd q ∧ hd q ≤ W := fun q hq hn => by
    by_cases e : q = 0
    · subst e
      omega
    · have := i1 q (by omega) hq
      omega
  have hdI : ∀ p q, p ≤ M → q ≤ M → hd p = hd q → hd p ≠ 0 → p = q := fun p q hp hq e hn => by
    by_cases ep : p = 0
    · by_cases eq : q = 0
      · omega
      · have := i1 q (by omega) hq
        subst ep
        omega
    · by_cases eq : q = 0
      · have := i1 p (by omega) hp
        subst eq
        omega
      · exact i2 p q (by omega) hp (by omega) hq e hn
  have hS0 : ∀ q, q ≤ M → (q = cur ∨ sn q = true) → hd q ≠ 0 := fun q hq hs => by
    rcases hs with rfl | hs
    · exact hz
    · exact (t3 q hq hs).1
  have d0 : 0 ≤ sl1 nx := (S nx n1 n2 n3 n4).2.2.2.2.1
  have dich : ∀ p, (p = cur ∨ sn p = true) ∨ (p ≠ cur ∧ sn p = false) := fun p => by
    by_cases e : p = cur
    · exact Or.inl (Or.inl e)
    · cases hb : sn p with
      | true => exact Or.inl (Or.inr rfl)
      | false => exact Or.inr ⟨e, rfl⟩
  have hui : ∀ i, 1 ≤ i → i ≤ W → (∃ q, q ≤ M ∧ (q = cur ∨ sn q = true) ∧ hd q = i ∧ u' i = u i + sl1 nx) ∨ ((∀ p, p ≤ M → (p = cur ∨ sn p = true) → hd p ≠ i) ∧ u' i = u i) := fun i a b => by
    by_cases q : ∃ q, q ≤ M ∧ (q = cur ∨ sn q = true) ∧ hd q = i
    · obtain ⟨q, q1, q2, q3⟩ := q
      refine Or.inl ⟨q, q1, q2, q3, ?_⟩
      rw [← q3]
      exact x1 q q1 q2
    · have : ∀ p, p ≤ M → (p = cur ∨ sn p = true) → hd p ≠ i := fun p hp hs e => q ⟨p, hp, hs, e⟩
      exact Or.inr ⟨this, x2 i a b this⟩
  constructor
  · refine ⟨i1, i2, i3, ?_, ?_, ?_, ?_⟩
    · intro i p a1 a2 b1 b2
      have k := i4 i p a1 a2 b1 b2
      rcases hui i a1 a2 with ⟨q, q1, q2, q3, q4⟩ | ⟨q1, q2⟩
      · rcases dich p with w | ⟨w1, w2⟩
        · rw [q4, x3 p b1 b2 w]
          omega
        · rw [q4, x4 p b1 b2 w1 w2]
          have m1 := n5 p b1 b2 w1 w2
          have m2 := (S p b1 b2 w1 w2).2.2.2.1 q q1 q2
          rw [q3] at m2
          omega
      · rcases dich p with w | ⟨w1, w2⟩
        · rw [q2, x3 p b1 b2 w]
          omega
        · rw [q2, x4 p b1 b2 w1 w2]
          exact k
    · intro p b1 b2 hn
      have k := i5 p b1 b2 hn
      have hw := hdW p b2 hn
      rcases dich p with w | ⟨w1, w2⟩
      · rw [x1 p b2 w, x3 p b1 b2 w]
        omega
      · rw [x4 p b1 b2 w1 w2]
        rcases hui (hd p) hw.1 hw.2 with ⟨q, q1, q2, q3, q4⟩ | ⟨q1, q2⟩
        · exfalso
          have := hdI q p q1 b2 q3 (by omega)
          subst this
          rcases q2 with z | z
          · exact w1 z
          · rw [w2] at z
            cases z
        · rw [q2]
          exact k
    · intro p b1 b2
      have k := i6 p b1 b2
      rcases dich p with w | ⟨w1, w2⟩
      · rw [x3 p b1 b2 w]
        exact ⟨by omega, fun z => absurd z (hS0 p b2 w)⟩
      · rw [x4 p b1 b2 w1 w2]
        exact k
    · intro i a b
      have k := i7 i a b
      rcases hui i a b with ⟨q, q1, q2, q3, q4⟩ | ⟨q1, q2⟩
      · omega
      · omega
  · have sn' : ∀ p, (if p = cur then true else sn p) = true ↔ (p = cur ∨ sn p = true) := fun p => by
      by_cases e : p = cur
      · rw [if_pos e]
        exact ⟨fun _ => Or.inl e, fun _ => rfl⟩
      · rw [if_neg e]
        exact ⟨Or.inr, fun z => z.elim (fun z => absurd z e) id⟩
    have snf : ∀ p, (if p = cur then true else sn p) = false → p ≠ cur ∧ sn p = false := fun p h => by
      by_cases e : p = cur
      · rw [if_pos e] at h
        cases h
      · rw [if_neg e] at h
        exact ⟨e, h⟩
    have st1 : (st ≠ 0 → sn 0 = true) ∧ (st = 0 → cur = 0) := ⟨fun z => (t7 z).1, fun z => (t6 z).1⟩
    have s0 : 0 = cur ∨ sn 0 = true := by
      by_cases e : st = 0
      · exact Or.inl (st1.2 e).symm
      · exact Or.inr (st1.1 e)
    refine ⟨n2, ?_, ?_, ?_, ?_, ?_, ?_, ?_⟩
    · show (if nx = cur then true else sn nx) = false
      rw [if_neg n3]
      exact n4
    · intro p hp hs
      have hs := (sn' p).mp hs
      refine ⟨hS0 p hp hs, ?_⟩
      show (if p = cur then st else tm p) < st + 1
      by_cases e : p = cur
      · rw [if_pos e]
        omega
      · rw [if_neg e]
        have := (t3 p hp (hs.resolve_left e)).2
        omega
    · intro p b1 b2 hs
      show bf1 p ≤ M ∧ (if bf1 p = cur then true else sn (bf1 p)) = true ∧ ((if p = cur then true else sn p) = true → (if bf1 p = cur then st else tm (bf1 p)) < (if p = cur then st else tm p)) ∧ u' (hd (bf1 p)) + v' p = c (hd (bf1 p)) p
      by_cases w : p = cur ∨ sn p = true
      · -- seen before, or now
        obtain ⟨y1, y2⟩ := e0 p b2 (Or.inr w)
        have w' : sn p = true ∨ p = cur := w.symm
        obtain ⟨z1, z2, z3, z4⟩ := t4 p b1 b2 w'
        have zc : bf p ≠ cur := fun e => by rw [e, t2] at z2; cases z2
        rw [y2, x1 (bf p) z1 (Or.inr z2), x3 p b1 b2 w, if_neg zc, if_neg zc]
        refine ⟨z1, z2, fun _ => ?_, by omega⟩
        by_cases e : p = cur
        · rw [if_pos e]
          exact (t3 (bf p) z1 z2).2
        · rw [if_neg e]
          exact z3 (w.resolve_left e)
      · have pn : p = nx := by
          rcases hs with hs | hs
          · exact absurd ((sn' p).mp hs) w
          · exact hs
        subst pn
        obtain ⟨z1, z2, z3, z4, z5⟩ := S p b1 b2 n3 n4
        rw [x1 (bf1 p) z1 z2, x4 p b1 b2 n3 n4]
        refine ⟨z1, (sn' (bf1 p)).mpr z2, fun h => absurd ((sn' p).mp h) w, by omega⟩
    · intro p b1 b2 hf _
      obtain ⟨w1, w2⟩ := snf p hf
      obtain ⟨z1, z2, z3, z4, z5⟩ := S p b1 b2 w1 w2
      refine ⟨z1, (sn' (bf1 p)).mpr z2, ?_, fun q hq hs => ?_⟩
      · rw [x6 p b2 w1 w2, x1 (bf1 p) z1 z2, x4 p b1 b2 w1 w2]
        omega
      · have hs := (sn' q).mp hs
        rw [x6 p b2 w1 w2, x1 q hq hs, x4 p b1 b2 w1 w2]
        have := z4 q hq hs
        omega
    · intro h
      omega
    · intro _
      refine ⟨(sn' 0).mpr s0, ?_⟩
      rw [x5 0 (Nat.zero_le _) s0, (e0 0 (Nat.zero_le _) (Or.inl rfl)).1]
      by_cases e : st = 0
      · exact ((t6 e).2 0 (Nat.zero_le _)).2
      · exact (t7 e).2
    · have := cF_set t2 (M + 1) (by omega)
      omega
