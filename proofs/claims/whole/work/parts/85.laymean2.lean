/-! layMean -/
def moG (C : Cp) (day : Nat) (f : (Nat → Nat) → Nat) (G : Nat → Nat → Int64) (i : Nat) : Nat → Nat → Int64 := fun a j => if a = 49 ∧ j < i then lN (foD C day f (dgN (qS C) T6 Z6 j)) else G a j
theorem moG_s {C : Cp} {day i : Nat} {f : (Nat → Nat) → Nat} {G : Nat → Nat → Int64} : u2L (moG C day f G i) 49 i (lN (foD C day f (dgN (qS C) T6 Z6 i))) = moG C day f G (i + 1) := by
  funext a j
  rw [u2L_eq]
  unfold moG
  by_cases q : a = 49 ∧ j = i
  · rw [if_pos q, if_pos ⟨q.1, by omega⟩, q.2]
  · rw [if_neg q]
    by_cases w : a = 49 ∧ j < i
    · rw [if_pos w, if_pos ⟨w.1, by omega⟩]
    · rw [if_neg w, if_neg (by omega)]
def mxG (S N e k hh s : Nat) (val : Nat → Nat) (G : Nat → Nat → Int64) (u : Nat) : Nat → Nat → Int64 := fun a i => if a = 49 ∧ i < N ∧ u ≤ i then lN (tmM S e k hh s val i) else G a i
theorem mxG_s {S N e k hh s u : Nat} {val : Nat → Nat} {G : Nat → Nat → Int64} (hu : u < N) : u2L (mxG S N e k hh s val G (u + 1)) 49 u (lN (tmM S e k hh s val u)) = mxG S N e k hh s val G u := by
  funext a j
  rw [u2L_eq]
  unfold mxG
  by_cases q : a = 49 ∧ j = u
  · rw [if_pos q, if_pos ⟨q.1, by omega, by omega⟩, q.2]
  · rw [if_neg q]
    by_cases w : a = 49 ∧ j < N ∧ u + 1 ≤ j
    · rw [if_pos w, if_pos ⟨w.1, w.2.1, by omega⟩]
    · rw [if_neg w, if_neg (by omega)]
section
variable {sc : Nat × (Nat → Int32)} {h : Hp} {F : Nat → Nat → Int32} {G : Nat → Nat → Int64} {C : Cp} {x day k w e B : Nat} {f : (Nat → Nat) → Nat} {d2 d6 d8 : Int32}
theorem lm_sum {r : Option Value} {h' : Hp} {s i : Nat} {fv : Nat → Nat} {all : Int32} (hs : Shp h) (K : MK F C x) (hk : k ≤ 4) (hw : w < 5) (hss : s < qS C) (hi : i < 216) (hki : k * 6 ^ s ≤ i) (h49 : ∀ j, j ≤ k → G 49 (i - j * 6 ^ s) = lN (fv j)) (KK : Rn sc (mtk 169) 200 [some (.ref 39), some (.int (nI x)), some (.int d2), some (.int (nI k)), some (.int (nI w)), some (.int (nI e)), some (.int d6), some (.int all), some (.int d8), some (.int (nI s)), some (.int (nI i)), some (.int 1), some (.long (lN (sumC k (qV C s w) fv (k + 1)))), none, some (.int (nI (k + 1)))] [] (wIJ (nh h) F G) r h') : ∀ (d j : Nat), j + d = k + 1 → Rn sc (mtk 169) 146 [some (.ref 39), some (.int (nI x)), some (.int d2), some (.int (nI k)), some (.int (nI w)), some (.int (nI e)), some (.int d6), some (.int all), some (.int d8), some (.int (nI s)), some (.int (nI i)), some (.int 1), some (.long (lN (sumC k (qV C s w) fv j))), none, some (.int (nI j))] [] (wIJ (nh h) F G) r h' := by
  intro d
  obtain ⟨k1, k2, k3, k4, k5, k6, k7⟩ := id K
  induction d with
  | zero =>
    intro j hj
    obtain rfl : j = k + 1 := by omega
    refine bk_sound (cuts := [200]) 20 _ _ _ _ ?_
    refine br_t (nI_lt (by omega) (by omega)) ?_
    exact KK
  | succ d ih =>
    intro j hj
    have R := ih (j + 1) (by omega)
    rw [← nI_1, show sumC k (qV C s w) fv (j + 1) = sumC k (qV C s w) fv j + chR k (qV C s w) j * fv j from rfl, ← lN_add, ← lN_mul] at R
    have v12 := (k6 s w hss hw).1
    have jt : j * 6 ^ s ≤ k * 6 ^ s := Nat.mul_le_mul_right _ (by omega)
    have em : nI i - nI j * nI (6 ^ s) = nI (i - j * 6 ^ s) := by rw [pk_mul, pk_sub (by omega)]
    refine bk_sound (cuts := [146]) 60 _ _ _ _ ?_
    refine br_f (nI_nlt (by omega) (by omega)) ?_
    refine br_f (by decide) ?_
    refine And.intro ⟨rfl, rfl⟩ (And.intro rfl (Exists.intro _ (Exists.intro _ (And.intro (c_ofM hs K hss hw) ?_))))
    refine And.intro rfl (And.intro rfl (Exists.intro _ (Exists.intro _ (And.intro (c_chance hk (by omega) v12) ?_))))
    refine And.intro rfl ?_
    refine And.intro rfl (And.intro rfl (Exists.intro _ (Exists.intro _ (And.intro (c_sixes (by omega)) ?_))))
    refine And.intro (show _ ∧ inB (nI i - nI j * nI (6 ^ s)) 216 = true from ⟨rfl, by rw [em]; exact inB_nI (by omega) (by decide)⟩) ?_
    rw [em, nI_clamp (by omega), show zJ (wIJ (nh h) F G) (zA (wIJ (nh h) F G) 39 16) (i - j * 6 ^ s) = lN (fv j) from h49 j (by omega)]
    exact R
theorem lm_g {r : Option Value} {h' : Hp} {s N : Nat} {val : Nat → Nat} {all : Int32} (hs : Shp h) (K : MK F C x) (hN : N = 6 ^ qS C) (hk : k ≤ 4) (hw : w < 5) (he : e ≤ 1) (hss : s < qS C) (hB : B ≤ 1000000000000) (hv : ∀ i, val i ≤ B) (h49 : ∀ i, i < N → G 49 i = lN (val i)) (KK : ∀ o11 o12 o13 o14, Rn sc (mtk 169) 230 [some (.ref 39), some (.int (nI x)), some (.int d2), some (.int (nI k)), some (.int (nI w)), some (.int (nI e)), some (.int d6), some (.int all), some (.int d8), some (.int (nI s)), some (.int (nI 0 - 1)), o11, o12, o13, o14] [] (wIJ (nh h) F (mxG (qS C) N e k (qV C s w) s val G 0)) r h') : ∀ (u : Nat) (o11 o12 o13 o14 : Option Value), u ≤ N → Rn sc (mtk 169) 113 [some (.ref 39), some (.int (nI x)), some (.int d2), some (.int (nI k)), some (.int (nI w)), some (.int (nI e)), some (.int d6), some (.int all), some (.int d8), some (.int (nI s)), some (.int (nI u - 1)), o11, o12, o13, o14] [] (wIJ (nh h) F (mxG (qS C) N e k (qV C s w) s val G u)) r h' := by
  intro u
  obtain ⟨k1, k2, k3, k4, k5, k6, k7⟩ := id K
  have n216 : N ≤ 216 := by rw [hN]; exact six_b k2.2.2.2.1
  have H := NS_m k2.2.2.1 k2.2.2.2.1
  rw [← hN] at H
  induction u with
  | zero =>
    intro o11 o12 o13 o14 _
    refine bk_sound (cuts := [230]) 20 _ _ _ _ ?_
    refine br_t (by decide) ?_
    exact KK _ _ _ _
  | succ i ih =>
    intro o11 o12 o13 o14 hu
    have R := fun o11 o12 o13 o14 => ih o11 o12 o13 o14 (by omega)
    rw [i_dec (nI i), ← mxG_s (by omega)] at R
    have p6 := six_b (S := s) (by omega)
    have p1 : 1 ≤ 6 ^ s := Nat.pow_pos (by decide)
    have il : i / 6 ^ s ≤ i := Nat.div_le_self _ _
    have v12 := (k6 s w hss hw).1
    have ii : inB (nI i) 216 = true := inB_nI (by omega) (by decide)
    have ei : (nI i).toNatClampNeg = i := nI_clamp (by omega)
    have dge : dgN (qS C) T6 Z6 i s = i / 6 ^ s % 6 := dg6 hss
    rw [nI_pred]
    refine bk_sound (cuts := [146]) 60 _ _ _ _ ?_
    refine br_f (nI_pos (by omega)) ?_
    refine And.intro rfl (And.intro rfl (Exists.intro _ (Exists.intro _ (And.intro (c_sixes (by omega)) ?_))))
    refine And.intro (fun z => by have := (nI_eq (a := 6 ^ s) (b := 0) (by omega) (by omega)).mp z; omega) ?_
    rw [pk_div (by omega) p1 (by omega)]
    refine And.intro (by decide) ?_
    rw [show nI (i / 6 ^ s) - nI (i / 6 ^ s) / 6 * 6 = nI (i / 6 ^ s % 6) from pk_rem (d := 6) (by omega) (by decide) (by decide)]
    by_cases q : k ≤ i / 6 ^ s % 6
    · have kd : k ≤ dgN (qS C) T6 Z6 i s := by rw [dge]; exact q
      obtain ⟨s1, -⟩ := H.sub (by omega : i < N) hss kd
      have s1 : k * 6 ^ s ≤ i := s1
      refine br_f (nI_nlt q (by omega)) ?_
      have sb := sumC_b (k := k) (hh := qV C s w) (f := fun j => val (i - j * 6 ^ s)) (B := B) hk v12 (fun j _ => hv _)
      have sb2 : 12 ^ k * B ≤ 20736 * 1000000000000 := Nat.mul_le_mul sb.2 hB
      have cp := c_part12 (sc := sc) (h := wIJ (nh h) F (mxG (qS C) N e k (qV C s w) s val G (i + 1))) (sum := sumC k (qV C s w) (fun j => val (i - j * 6 ^ s)) (k + 1)) (k := k) (e := e) hk he (by omega)
      have S := lm_sum (sc := sc) (h := h) (F := F) (G := mxG (qS C) N e k (qV C s w) s val G (i + 1)) (x := x) (k := k) (w := w) (e := e) (d2 := d2) (d6 := d6) (d8 := d8) (r := r) (h' := h') (s := s) (i := i) (fv := fun j => val (i - j * 6 ^ s)) (all := all) hs K hk hw hss (by omega) s1 (fun j hj => by
        have : j * 6 ^ s ≤ k * 6 ^ s := Nat.mul_le_mul_right _ hj
        unfold mxG
        rw [if_neg (by omega)]
        exact h49 _ (by omega)) (by
        refine bk_sound (cuts := [113]) 40 _ _ _ _ ?_
        refine And.intro rfl ?_
        refine br_f (by decide) ?_
        refine And.intro rfl (And.intro rfl (Exists.intro _ (Exists.intro _ (And.intro (cp) ?_))))
        refine And.intro (⟨rfl, ii⟩) ?_
        have R := R (some (.int 1)) (some (.long (lN (sumC k (qV C s w) (fun j => val (i - j * 6 ^ s)) (k + 1))))) none (some (.int (nI (k + 1))))
        rw [show tmM (qS C) e k (qV C s w) s val i = mnE e (sumC k (qV C s w) (fun j => val (i - j * 6 ^ s)) (k + 1)) (12 ^ k) from if_pos kd] at R
        rw [ei]
        exact R) (k + 1) 0 (by omega)
      exact S
    · have kd : ¬ k ≤ dgN (qS C) T6 Z6 i s := by rw [dge]; exact q
      refine br_t (nI_lt (by omega) (by omega)) ?_
      have R := R (some (.int 0)) (some (.long 0)) none (some (.int 0))
      rw [show tmM (qS C) e k (qV C s w) s val i = 0 from if_neg kd] at R
      refine bk_sound (cuts := [113]) 60 _ _ _ _ ?_
      refine br_f (show ¬ nI k < 0 from nI_pos (by omega)) ?_
      refine br_t (by rfl) ?_
      refine And.intro rfl ?_
      refine br_t (by rfl) ?_
      refine And.intro (⟨rfl, ii⟩) ?_
      rw [ei]
      exact R
theorem lm_s {N : Nat} {fol : Nat → Nat} {all : Int32} (hs : Shp h) (K : MK F C x) (hN : N = 6 ^ qS C) (eall : all = nI N) (hk : k ≤ 4) (hw : w < 5) (he : e ≤ 1) (hB : B ≤ 1000000000000) (hfol : ∀ i, fol i ≤ B) : ∀ (s : Nat) (G1 : Nat → Nat → Int64), s ≤ qS C → (∀ i, i < N → G1 49 i = lN (mtM C e k w fol (qS C - s) i)) → ∃ G2, (∀ o10 o11 o12 o13 o14 : Option Value, Rn sc (mtk 169) 98 [some (.ref 39), some (.int (nI x)), some (.int d2), some (.int (nI k)), some (.int (nI w)), some (.int (nI e)), some (.int d6), some (.int all), some (.int d8), some (.int (nI s - 1)), o10, o11, o12, o13, o14] [] (wIJ (nh h) F G1) none (wIJ (nh h) F G2)) ∧ (∀ a, a ≠ 49 → G2 a = G1 a) ∧ ∀ i, i < N → G2 49 i = lN (mtM C e k w fol (qS C) i) := by
  obtain ⟨k1, k2, k3, k4, k5, k6, k7⟩ := id K
  have n216 : N ≤ 216 := by rw [hN]; exact six_b k2.2.2.2.1
  have H := NS_m k2.2.2.1 k2.2.2.2.1
  rw [← hN] at H
  have mb : ∀ d, d ≤ qS C → ∀ i, mtM C e k w fol d i ≤ B := by
    intro d
    induction d with
    | zero => exact fun _ => hfol
    | succ d ih => exact fun hd => tmM_le hk (k6 _ _ (by omega) hw).1 (ih (by omega))
  intro s
  induction s with
  | zero =>
    intro G1 _ h1
    refine ⟨G1, fun o10 o11 o12 o13 o14 => ?_, fun _ _ => rfl, h1⟩
    refine bk_sound (cuts := []) 20 _ _ _ _ ?_
    refine br_t (by decide) ?_
    exact ⟨trivial, rfl, rfl⟩
  | succ s ih =>
    intro G1 hss h1
    by_cases k0 : k = 0
    · -- nothing is to be done for none
      have e0 : ∀ d, d ≤ qS C → ∀ i, i < N → mtM C e k w fol d i = fol i := by
        subst k0
        intro d
        induction d with
        | zero => exact fun _ _ _ => rfl
        | succ d ihd =>
          intro hd i hi
          show tmM (qS C) e 0 _ _ (mtM C e 0 w fol d) i = fol i
          unfold tmM
          rw [if_pos (Nat.zero_le _)]
          show mnE e (0 + chR 0 _ 0 * mtM C e 0 w fol d (i - 0 * _)) 1 = fol i
          rw [Nat.zero_mul, Nat.sub_zero, ihd (by omega) i hi, show ∀ h, chR 0 h 0 = 1 from fun _ => rfl, Nat.zero_add, Nat.one_mul]
          have := mnE_id (e := e) (v := fol i) (a := 1) (by decide)
          rw [Nat.one_mul] at this
          exact this
      refine ⟨G1, fun o10 o11 o12 o13 o14 => ?_, fun _ _ => rfl, fun i hi => by rw [h1 i hi, e0 _ (by omega) i hi, e0 _ (Nat.le_refl _) i hi]⟩
      rw [nI_pred]
      refine bk_sound (cuts := []) 20 _ _ _ _ ?_
      refine br_f (nI_pos (by omega)) ?_
      refine br_t (show nI k ≤ 0 by rw [k0]; decide) ?_
      exact ⟨trivial, rfl, rfl⟩
    · have es : qS C - 1 - (qS C - (s + 1)) = s := by omega
      obtain ⟨G3, R, r1, r2⟩ := ih (mxG (qS C) N e k (qV C s w) s (mtM C e k w fol (qS C - (s + 1))) G1 0) (by omega) (fun i hi => by
        unfold mxG
        rw [if_pos ⟨rfl, hi, Nat.zero_le _⟩, show qS C - s = qS C - (s + 1) + 1 by omega]
        show _ = lN (tmM (qS C) e k (qV C (qS C - 1 - (qS C - (s + 1))) w) (qS C - 1 - (qS C - (s + 1))) (mtM C e k w fol (qS C - (s + 1))) i)
        rw [es])
      refine ⟨G3, ?_, fun a ha => ?_, r2⟩
      · intro o10 o11 o12 o13 o14
        have I := lm_g (sc := sc) (h := h) (F := F) (G := G1) (x := x) (k := k) (w := w) (e := e) (B := B) (d2 := d2) (d6 := d6) (d8 := d8) (r := none) (h' := wIJ (nh h) F G3) (s := s) (N := N) (val := mtM C e k w fol (qS C - (s + 1))) (all := all) hs K hN hk hw he (by omega) hB (mb _ (by omega)) h1 (fun o11 o12 o13 o14 => by
          have R := R (some (.int (nI 0 - 1))) o11 o12 o13 o14
          rw [i_dec (nI s)] at R
          refine bk_sound (cuts := [98]) 20 _ _ _ _ ?_
          exact R) N o11 o12 o13 o14 (Nat.le_refl _)
        have e0 : mxG (qS C) N e k (qV C s w) s (mtM C e k w fol (qS C - (s + 1))) G1 N = G1 := by
          funext a i
          unfold mxG
          rw [if_neg (by omega)]
        rw [e0] at I
        rw [nI_pred]
        refine bk_sound (cuts := [113]) 20 _ _ _ _ ?_
        refine br_f (nI_pos (by omega)) ?_
        refine br_f (show ¬ nI k ≤ 0 from nI_ge (a := 0) (b := k) (by omega) (by omega)) ?_
        rw [eall]
        rw [eall] at I
        exact I
      · rw [r1 a ha]
        funext i
        exact if_neg (fun z => ha z.1)
theorem lm_f {r : Option Value} {h' : Hp} {N : Nat} {o10 o11 o12 o13 o14 : Option Value} (hs : Shp h) (K : MK F C x) (hN : N = 6 ^ qS C) (h47 : ∀ i, i < N → G 47 i = lN (f (dgN (qS C) T6 Z6 i))) (KK : Rn sc (mtk 169) 88 [some (.ref 39), some (.int (nI x)), some (.int d2), some (.int (nI k)), some (.int (nI w)), some (.int (nI e)), some (.int d6), some (.int (nI N)), some (.int (bI (cmD C day))), some (.int (nI N)), o10, o11, o12, o13, o14] [] (wIJ (nh h) F (moG C day f G N)) r h') : ∀ (d i : Nat), i + d = N → Rn sc (mtk 169) 46 [some (.ref 39), some (.int (nI x)), some (.int d2), some (.int (nI k)), some (.int (nI w)), some (.int (nI e)), some (.int d6), some (.int (nI N)), some (.int (bI (cmD C day))), some (.int (nI i)), o10, o11, o12, o13, o14] [] (wIJ (nh h) F (moG C day f G i)) r h' := by
  intro d
  obtain ⟨k1, k2, k3, k4, k5, k6, k7⟩ := id K
  have n216 : N ≤ 216 := by rw [hN]; exact six_b k2.2.2.2.1
  have H := NS_m k2.2.2.1 k2.2.2.2.1
  rw [← hN] at H
  induction d with
  | zero =>
    intro i hi
    obtain rfl : i = N := by omega
    refine bk_sound (cuts := [88]) 20 _ _ _ _ ?_
    refine br_t (nI_le (Nat.le_refl _) (by omega)) ?_
    exact KK
  | succ d ih =>
    intro i hi
    have R := ih (i + 1) (by omega)
    rw [← nI_1 i, ← moG_s] at R
    have ii : inB (nI i) 216 = true := inB_nI (by omega) (by decide)
    have ei : (nI i).toNatClampNeg = i := nI_clamp (by omega)
    cases hcm : cmD C day with
    | false =>
      rw [hcm] at R
      rw [show foD C day f (dgN (qS C) T6 Z6 i) = f (dgN (qS C) T6 Z6 i) by unfold foD; rw [hcm]; rfl] at R
      have g47 : moG C day f G i 47 i = lN (f (dgN (qS C) T6 Z6 i)) := by
        unfold moG
        rw [if_neg (by omega)]
        exact h47 i (by omega)
      refine bk_sound (cuts := [46]) 40 _ _ _ _ ?_
      refine br_f (nI_ge (by omega) (by omega)) ?_
      refine And.intro rfl ?_
      refine And.intro rfl ?_
      refine br_t (by rfl) ?_
      refine And.intro (⟨rfl, ii⟩) ?_
      rw [ei, show zJ (wIJ (nh h) F (moG C day f G i)) (zA (wIJ (nh h) F (moG C day f G i)) 39 14) i = lN (f (dgN (qS C) T6 Z6 i)) from g47]
      refine And.intro (⟨rfl, ii⟩) ?_
      rw [ei]
      exact R
    | true =>
      rw [hcm] at R
      rw [show foD C day f (dgN (qS C) T6 Z6 i) = f (plD C (dgN (qS C) T6 Z6 i)) by unfold foD; rw [hcm]; rfl] at R
      obtain ⟨x1, x2⟩ := H.of (g := plD C (dgN (qS C) T6 Z6 i)) (fun s hs => by
        show plD C (dgN (qS C) T6 Z6 i) s < 6
        unfold plD
        rw [if_pos hs]
        omega) (fun s hs => if_neg (by omega))
      have ca := c_planed (sc := sc) (h := h) (F := F) (G := moG C day f G i) hs K (i := i) (by omega)
      generalize hx : ixN T6 (plD C (dgN (qS C) T6 Z6 i)) (qS C) = y at *
      have g47 : moG C day f G i 47 y = lN (f (plD C (dgN (qS C) T6 Z6 i))) := by
        unfold moG
        rw [if_neg (by omega), h47 y x1]
        exact congrArg (fun g => lN (f g)) x2
      have iy : inB (nI y) 216 = true := inB_nI (by omega) (by decide)
      have ey : (nI y).toNatClampNeg = y := nI_clamp (by omega)
      refine bk_sound (cuts := [46]) 40 _ _ _ _ ?_
      refine br_f (nI_ge (by omega) (by omega)) ?_
      refine And.intro rfl ?_
      refine And.intro rfl ?_
      refine br_f (by decide) ?_
      refine And.intro ⟨rfl, rfl⟩ (And.intro rfl (Exists.intro _ (Exists.intro _ (And.intro (ca) ?_))))
      refine And.intro (⟨rfl, iy⟩) ?_
      rw [ey, show zJ (wIJ (nh h) F (moG C day f G i)) (zA (wIJ (nh h) F (moG C day f G i)) 39 14) y = lN (f (plD C (dgN (qS C) T6 Z6 i))) from g47]
      refine And.intro (⟨rfl, ii⟩) ?_
      rw [ei]
      exact R
theorem c_layMean {N : Nat} (hs : Shp h) (K : MK F C x) (hN : N = 6 ^ qS C) (hk : k ≤ 4) (hw : w < 5) (he : e ≤ 1) (hd : day < 100) (hB : B ≤ 1000000000000) (hf : ∀ g, f g ≤ B) (h47 : ∀ i, i < N → G 47 i = lN (f (dgN (qS C) T6 Z6 i))) : ∃ G', Cc sc 169 [.ref 39, .int (nI x), .int (nI day), .int (nI k), .int (nI w), .int (nI e), .int 1] (wIJ (nh h) F G) none (wIJ (nh h) F G') ∧ (∀ a, a ≠ 49 → G' a = G a) ∧ ∀ i, i < N → G' 49 i = lN (mtM C e k w (fun i => foD C day f (dgN (qS C) T6 Z6 i)) (qS C) i) := by
  obtain ⟨k1, k2, k3, k4, k5, k6, k7⟩ := id K
  have n216 : N ≤ 216 := by rw [hN]; exact six_b k2.2.2.2.1
  have ix : inB (nI x) 3 = true := inB_nI k1 (by decide)
  have ex : (nI x).toNatClampNeg = x := nI_clamp (by omega)
  obtain ⟨G2, R, r1, r2⟩ := lm_s (sc := sc) (h := h) (F := F) (C := C) (x := x) (k := k) (w := w) (e := e) (B := B) (d2 := nI day) (d6 := 1) (d8 := bI (cmD C day)) (N := N) (fol := fun i => foD C day f (dgN (qS C) T6 Z6 i)) (all := nI N) hs K hN rfl hk hw he hB (fun i => foD_le hf _) (qS C) (moG C day f G N) (Nat.le_refl _) (fun i hi => by
    rw [Nat.sub_self]
    exact if_pos ⟨rfl, hi⟩)
  refine ⟨G2, ?_, fun a ha => ?_, r2⟩
  · have L := lm_f (sc := sc) (h := h) (F := F) (G := G) (C := C) (x := x) (day := day) (k := k) (w := w) (e := e) (f := f) (d2 := nI day) (d6 := 1) (r := none) (h' := wIJ (nh h) F G2) (N := N) (o10 := none) (o11 := none) (o12 := none) (o13 := none) (o14 := none) hs K hN h47 (by
      refine bk_sound (cuts := [98]) 20 _ _ _ _ ?_
      refine And.intro rfl ?_
      refine And.intro (⟨rfl, ix⟩) ?_
      rw [ex, show zI (wIJ (nh h) F (moG C day f G N)) (zA (wIJ (nh h) F (moG C day f G N)) 39 3) x = nI (qS C) from k4]
      exact R _ _ _ _ _) N 0 (by omega)
    have e0 : moG C day f G 0 = G := funext fun a => funext fun j => if_neg (by omega)
    rw [e0] at L
    have Z0 : Rn sc (mtk 169) 41 [some (.ref 39), some (.int (nI x)), some (.int (nI day)), some (.int (nI k)), some (.int (nI w)), some (.int (nI e)), some (.int 1), some (.int (nI N)), none, none, none, none, none, none, none] [.int (bI (cmD C day))] (wIJ (nh h) F G) none (wIJ (nh h) F G2) := by
      refine bk_sound (cuts := [46]) 20 _ _ _ _ ?_
      exact L
    refine cc_cut [41] 40 rfl rfl ?_
    refine And.intro rfl ?_
    refine And.intro (⟨rfl, ix⟩) ?_
    rw [ex, show zI (wIJ (nh h) F G) (zA (wIJ (nh h) F G) 39 3) x = nI (qS C) from k4]
    have c6 := c_sixes (sc := sc) (h := wIJ (nh h) F G) (s := qS C) k2.2.2.2.1
    rw [← hN] at c6
    refine And.intro rfl (And.intro rfl (Exists.intro _ (Exists.intro _ (And.intro (c6) ?_))))
    refine br_f (by decide) ?_
    refine And.intro rfl ?_
    refine And.intro (⟨rfl, ix⟩) ?_
    by_cases q : qP C = 0
    · refine br_t (show F 42 (nI x).toNatClampNeg ≤ 0 by rw [ex, k5, q]; decide) ?_
      rw [show cmD C day = false from decide_eq_false (by omega)] at Z0
      exact Z0
    · refine br_f (show ¬ F 42 (nI x).toNatClampNeg ≤ 0 by rw [ex, k5]; exact nI_ge (a := 0) (b := qP C) (by omega) (by omega)) ?_
      refine And.intro rfl ?_
      refine And.intro (⟨rfl, ix⟩) ?_
      rw [ex, show zI (wIJ (nh h) F G) (zA (wIJ (nh h) F G) 39 4) x = nI (qP C) from k5]
      refine And.intro (fun z => q ((nI_eq (a := qP C) (b := 0) (by omega) (by omega)).mp z)) ?_
      rw [show nI day - nI day / nI (qP C) * nI (qP C) = nI (day % qP C) from pk_rem (by omega) (by omega) (by omega)]
      have ml : day % qP C ≤ day := Nat.mod_le _ _
      by_cases w0 : day % qP C = 0
      · refine br_f (fun z => z (by rw [w0]; rfl)) ?_
        rw [show cmD C day = true from decide_eq_true ⟨by omega, w0⟩] at Z0
        exact Z0
      · refine br_t (fun z => w0 ((nI_eq (a := day % qP C) (b := 0) (by omega) (by omega)).mp z)) ?_
        rw [show cmD C day = false from decide_eq_false (fun z => w0 z.2)] at Z0
        exact Z0
  · rw [r1 a ha]
    funext j
    exact if_neg (fun z => ha z.1)
end
