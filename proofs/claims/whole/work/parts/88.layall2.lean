/-! layDay as a whole, layLone, layAll -/
section
variable {sc : Nat × (Nat → Int32)} {h : Hp} {F : Nat → Nat → Int32} {G : Nat → Nat → Int64} {C : Cp} {x day e B N rule n : Nat} {f : (Nat → Nat) → Nat}
/-- a loop that fills the first cells of a row of longs -/
def flG (c : Nat) (v : Nat → Int64) (G : Nat → Nat → Int64) (i : Nat) : Nat → Nat → Int64 := fun a j => if a = c ∧ j < i then v j else G a j
theorem flG_s {c i : Nat} {v : Nat → Int64} : u2L (flG c v G i) c i (v i) = flG c v G (i + 1) := by
  funext a j
  rw [u2L_eq]
  unfold flG
  by_cases q : a = c ∧ j = i
  · rw [if_pos q, if_pos ⟨q.1, by omega⟩, q.2]
  · rw [if_neg q]
    by_cases w : a = c ∧ j < i
    · rw [if_pos w, if_pos ⟨w.1, by omega⟩]
    · rw [if_neg w, if_neg (by omega)]
theorem flG_0 {c : Nat} {v : Nat → Int64} : flG c v G 0 = G := funext fun a => funext fun j => if_neg (by omega)
theorem ld_b {r : Option Value} {h' : Hp} {x1 x2 x3 x4 : Int32} {o7 o8 o9 o10 o11 o12 o13 o14 o15 : Option Value} (hN : N ≤ 216) (KK : Rn sc (mtk 171) 37 [some (.ref 39), some (.int x1), some (.int x2), some (.int x3), some (.int x4), some (.int (nI N)), some (.int (nI N)), o7, o8, o9, o10, o11, o12, o13, o14, o15] [] (wIJ (nh h) F (flG 50 (fun _ => -1) G N)) r h') : ∀ (d i : Nat), i + d = N → Rn sc (mtk 171) 14 [some (.ref 39), some (.int x1), some (.int x2), some (.int x3), some (.int x4), some (.int (nI N)), some (.int (nI i)), o7, o8, o9, o10, o11, o12, o13, o14, o15] [] (wIJ (nh h) F (flG 50 (fun _ => -1) G i)) r h' := by
  intro d
  induction d with
  | zero =>
    intro i hi
    obtain rfl : i = N := by omega
    refine bk_sound (cuts := [37]) 20 _ _ _ _ ?_
    refine br_t (nI_le (Nat.le_refl _) (by omega)) ?_
    exact KK
  | succ d ih =>
    intro i hi
    have R := ih (i + 1) (by omega)
    rw [← nI_1 i, ← flG_s] at R
    refine bk_sound (cuts := [14]) 20 _ _ _ _ ?_
    refine br_f (nI_ge (by omega) (by omega)) ?_
    refine And.intro rfl ?_
    refine And.intro (⟨rfl, inB_nI (n := 216) (by omega) (by decide)⟩) ?_
    rw [nI_clamp (by omega)]
    exact R
theorem ld_c {x1 x2 x3 x4 : Int32} {w : Nat → Int64} {o7 o8 o9 o10 o11 o12 o13 o14 o15 : Option Value} (hN : N ≤ 216) (h50 : ∀ i, i < N → G 50 i = w i) : ∀ (d i : Nat), i + d = N → Rn sc (mtk 171) 282 [some (.ref 39), some (.int x1), some (.int x2), some (.int x3), some (.int x4), some (.int (nI N)), some (.int (nI i)), o7, o8, o9, o10, o11, o12, o13, o14, o15] [] (wIJ (nh h) F (flG 47 w G i)) none (wIJ (nh h) F (flG 47 w G N)) := by
  intro d
  induction d with
  | zero =>
    intro i hi
    obtain rfl : i = N := by omega
    refine bk_sound (cuts := []) 20 _ _ _ _ ?_
    refine br_t (nI_le (Nat.le_refl _) (by omega)) ?_
    exact ⟨trivial, rfl, rfl⟩
  | succ d ih =>
    intro i hi
    have R := ih (i + 1) (by omega)
    rw [← nI_1 i, ← flG_s] at R
    have g : flG 47 w G i 50 i = w i := by
      unfold flG
      rw [if_neg (by omega)]
      exact h50 i (by omega)
    have ii : inB (nI i) 216 = true := inB_nI (by omega) (by decide)
    have ei : (nI i).toNatClampNeg = i := nI_clamp (by omega)
    refine bk_sound (cuts := [282]) 20 _ _ _ _ ?_
    refine br_f (nI_ge (by omega) (by omega)) ?_
    refine And.intro rfl ?_
    refine And.intro rfl ?_
    refine And.intro (⟨rfl, ii⟩) ?_
    rw [ei, show zJ (wIJ (nh h) F (flG 47 w G i)) (zA (wIJ (nh h) F (flG 47 w G i)) 39 17) i = w i from g]
    refine And.intro (⟨rfl, ii⟩) ?_
    rw [ei]
    exact R
theorem c_layDay (hs : Shp h) (K : MK F C x) (hN : N = 6 ^ qS C) (hr : rule ≤ 3) (he : e ≤ 1) (hd : day < 100) (hB : B ≤ 800000000000) (hf : ∀ g, f g ≤ B) (h47 : ∀ i, i < N → G 47 i = lN (f (dgN (qS C) T6 Z6 i))) : ∃ G', Cc sc 171 [.ref 39, .int (nI x), .int (nI rule), .int (nI day), .int (nI e)] (wIJ (nh h) F G) none (wIJ (nh h) F G') ∧ (∀ a, a ≠ 47 → a ≠ 48 → a ≠ 49 → a ≠ 50 → G' a = G a) ∧ ∀ i, i < N → ∃ y, outA (dayF (trC rule) rule (canD C rule (dgN (qS C) T6 Z6 i)) (fun k z => vlK C e day f k z (dgN (qS C) T6 Z6 i)) (lrR C rule) none) = y ∧ G' 47 i = lN y.1 ∧ G' 48 i = lN (10 * y.2.1 + y.2.2) := by
  obtain ⟨k1, k2, k3, k4, k5, k6, k7⟩ := id K
  have n216 : N ≤ 216 := by rw [hN]; exact six_b k2.2.2.2.1
  have ix : inB (nI x) 3 = true := inB_nI k1 (by decide)
  have ex : (nI x).toNatClampNeg = x := nI_clamp (by omega)
  have P0 : PM (flG 50 (fun _ => -1) G N) N (flG 50 (fun _ => -1) G N) (fun _ => none) := ⟨fun _ _ _ _ => rfl, fun i hi => if_pos ⟨rfl, hi⟩, fun i hi y hy => by cases hy⟩
  obtain ⟨G1, P1, R1⟩ := ld_k (sc := sc) (h := h) (F := F) (C := C) (x := x) (day := day) (e := e) (B := B) (rule := rule) (f := f) (G0 := flG 50 (fun _ => -1) G N) hs K hN (by omega) he hd hB hf (fun i hi => by unfold flG; rw [if_neg (by omega)]; exact h47 i hi) (qL C + 1) _ _ (Nat.le_refl _) P0
  obtain ⟨p1, p2, p3⟩ := P1
  -- what stands there
  have fin : ∀ i, i < N → ∃ y0, dayF (fun _ => trM rule) rule (canD C rule (dgN (qS C) T6 Z6 i)) (fun k z => vlK C e day f k z (dgN (qS C) T6 Z6 i)) (qL C) none = some y0 := fun i hi => by
    have lr : lrR C rule ≤ qL C := by unfold lrR; split <;> omega
    have sm := dayF_some (tr := fun _ => trM rule) (rule := rule) (can := canD C rule (dgN (qS C) T6 Z6 i)) (v := fun k z => vlK C e day f k z (dgN (qS C) T6 Z6 i)) (fun k => by
      unfold trM
      by_cases q2 : rule = 2
      · exact Or.inr (by rw [if_pos q2]; simp)
      · exact Or.inl (by rw [if_neg q2]; simp)) (qL C) none (Or.inr (Nat.le_trans (mnF_le _ _ _) lr))
    cases hd0 : dayF (fun _ => trM rule) rule (canD C rule (dgN (qS C) T6 Z6 i)) (fun k z => vlK C e day f k z (dgN (qS C) T6 Z6 i)) (qL C) none with
    | none => exact absurd hd0 sm
    | some y => exact ⟨y, rfl⟩
  refine ⟨flG 47 (G1 50) G1 N, ?_, fun a h1 h2 h3 h4 => ?_, fun i hi => ?_⟩
  · have E := R1 none (wIJ (nh h) F (flG 47 (G1 50) G1 N)) (fun o7 o8 o9 o10 o11 o12 o13 o14 o15 => by
      have L := ld_c (sc := sc) (h := h) (F := F) (G := G1) (x1 := nI x) (x2 := nI rule) (x3 := nI day) (x4 := nI e) (w := G1 50) (o7 := o7) (o8 := o8) (o9 := o9) (o10 := o10) (o11 := o11) (o12 := o12) (o13 := o13) (o14 := o14) (o15 := o15) n216 (fun i _ => rfl) N 0 (by omega)
      rw [flG_0] at L
      refine bk_sound (cuts := [282]) 20 _ _ _ _ ?_
      exact L)
    have L := ld_b (sc := sc) (h := h) (F := F) (G := G) (x1 := nI x) (x2 := nI rule) (x3 := nI day) (x4 := nI e) (r := none) (h' := wIJ (nh h) F (flG 47 (G1 50) G1 N)) (o7 := none) (o8 := none) (o9 := none) (o10 := none) (o11 := none) (o12 := none) (o13 := none) (o14 := none) (o15 := none) n216 (by
      refine bk_sound (cuts := [45]) 20 _ _ _ _ ?_
      refine And.intro rfl ?_
      refine And.intro (⟨rfl, ix⟩) ?_
      rw [ex, show zI (wIJ (nh h) F (flG 50 (fun _ => -1) G N)) (zA (wIJ (nh h) F (flG 50 (fun _ => -1) G N)) 39 2) x = nI (qL C) from k3]
      have E := E none none none none none none none none none
      rw [nI_pred] at E
      exact E) N 0 (by omega)
    rw [flG_0] at L
    have c6 := c_sixes (sc := sc) (h := wIJ (nh h) F G) (s := qS C) k2.2.2.2.1
    rw [← hN] at c6
    refine cc_cut [14] 20 rfl rfl ?_
    refine And.intro rfl ?_
    refine And.intro (⟨rfl, ix⟩) ?_
    rw [ex, show zI (wIJ (nh h) F G) (zA (wIJ (nh h) F G) 39 3) x = nI (qS C) from k4]
    refine And.intro rfl (And.intro rfl (Exists.intro _ (Exists.intro _ (And.intro (c6) ?_))))
    exact L
  · funext j
    unfold flG
    rw [if_neg (fun y => h1 y.1), p1 a h2 h3 h4]
    unfold flG
    rw [if_neg (fun y => h4 y.1)]
  · obtain ⟨y0, hy0⟩ := fin i hi
    have b0 : qB C 0 = 0 := (k7 0 (by omega)).2.1 rfl
    refine ⟨_, rfl, ?_, ?_⟩
    · show (if 47 = 47 ∧ i < N then G1 50 i else G1 47 i) = _
      rw [if_pos ⟨rfl, hi⟩, p2 i hi, ← dayM_eq (by omega) b0]
      show oA (dayF (fun _ => trM rule) rule (canD C rule (dgN (qS C) T6 Z6 i)) (fun k z => vlK C e day f k z (dgN (qS C) T6 Z6 i)) (qL C) none) = _
      rw [hy0]
      rfl
    · have q := (p3 i hi y0 hy0).2
      show (if 48 = 47 ∧ i < N then G1 50 i else G1 48 i) = _
      rw [if_neg (by omega), q, ← dayM_eq (by omega) b0, hy0]
      rfl
/-! layLone -/
theorem ll_a {r : Option Value} {h' : Hp} {x1 x2 : Int32} {w : Nat → Int64} (h47 : ∀ i, i < 5 → G 47 i = w i) (KK : Rn sc (mtk 172) 25 [some (.ref 39), some (.int x1), some (.int x2), some (.int (nI 5)), none, none, none, none] [] (wIJ (nh h) F (flG 49 w G 5)) r h') : ∀ (d i : Nat), i + d = 5 → Rn sc (mtk 172) 2 [some (.ref 39), some (.int x1), some (.int x2), some (.int (nI i)), none, none, none, none] [] (wIJ (nh h) F (flG 49 w G i)) r h' := by
  intro d
  induction d with
  | zero =>
    intro i hi
    obtain rfl : i = 5 := by omega
    refine bk_sound (cuts := [25]) 20 _ _ _ _ ?_
    refine br_t (by decide) ?_
    exact KK
  | succ d ih =>
    intro i hi
    have R := ih (i + 1) (by omega)
    rw [← nI_1 i, ← flG_s] at R
    have g : flG 49 w G i 47 i = w i := by
      unfold flG
      rw [if_neg (by omega)]
      exact h47 i (by omega)
    have ii : inB (nI i) 216 = true := inB_nI (by omega) (by decide)
    have ei : (nI i).toNatClampNeg = i := nI_clamp (by omega)
    refine bk_sound (cuts := [2]) 20 _ _ _ _ ?_
    refine br_f (show ¬ 5 ≤ nI i from nI_ge (a := i) (b := 5) (by omega) (by omega)) ?_
    refine And.intro rfl ?_
    refine And.intro rfl ?_
    refine And.intro (⟨rfl, ii⟩) ?_
    rw [ei, show zJ (wIJ (nh h) F (flG 49 w G i)) (zA (wIJ (nh h) F (flG 49 w G i)) 39 14) i = w i from g]
    refine And.intro (⟨rfl, ii⟩) ?_
    rw [ei]
    exact R
theorem ll_j {r : Option Value} {h' : Hp} {s m : Nat} {fv : Nat → Nat} {x2 : Int32} (hs : Shp h) (K : MK F C x) (hm : m ≤ 4) (hss : s < qS C) (h49 : ∀ j, j ≤ m → G 49 (m - j) = lN (fv j)) (KK : Rn sc (mtk 172) 95 [some (.ref 39), some (.int (nI x)), some (.int x2), some (.int (nI s)), some (.int (nI m)), some (.long (lN (sumC m (qV C s 1) fv (m + 1)))), none, some (.int (nI (m + 1)))] [] (wIJ (nh h) F G) r h') : ∀ (d j : Nat), j + d = m + 1 → Rn sc (mtk 172) 52 [some (.ref 39), some (.int (nI x)), some (.int x2), some (.int (nI s)), some (.int (nI m)), some (.long (lN (sumC m (qV C s 1) fv j))), none, some (.int (nI j))] [] (wIJ (nh h) F G) r h' := by
  intro d
  obtain ⟨k1, k2, k3, k4, k5, k6, k7⟩ := id K
  induction d with
  | zero =>
    intro j hj
    obtain rfl : j = m + 1 := by omega
    refine bk_sound (cuts := [95]) 20 _ _ _ _ ?_
    refine br_t (nI_lt (by omega) (by omega)) ?_
    exact KK
  | succ d ih =>
    intro j hj
    have R := ih (j + 1) (by omega)
    rw [← nI_1, show sumC m (qV C s 1) fv (j + 1) = sumC m (qV C s 1) fv j + chR m (qV C s 1) j * fv j from rfl, ← lN_add, ← lN_mul] at R
    have em : nI m - nI j = nI (m - j) := pk_sub (by omega)
    refine bk_sound (cuts := [52]) 40 _ _ _ _ ?_
    refine br_f (nI_nlt (by omega) (by omega)) ?_
    refine And.intro ⟨rfl, rfl⟩ (And.intro rfl (Exists.intro _ (Exists.intro _ (And.intro (c_ofM hs K hss (by decide : 1 < 5)) ?_))))
    refine And.intro rfl (And.intro rfl (Exists.intro _ (Exists.intro _ (And.intro (c_chance hm (by omega) (k6 s 1 hss (by decide)).1) ?_))))
    refine And.intro rfl ?_
    refine And.intro (show _ ∧ inB (nI m - nI j) 216 = true from ⟨rfl, by rw [em]; exact inB_nI (by omega) (by decide)⟩) ?_
    rw [em, nI_clamp (by omega), show zJ (wIJ (nh h) F G) (zA (wIJ (nh h) F G) 39 16) (m - j) = lN (fv j) from h49 j (by omega)]
    exact R
theorem ll_m {s : Nat} {ff ff' : Nat → Nat} (hs : Shp h) (K : MK F C x) (he : e ≤ 1) (hss : s < qS C) (hB : B ≤ 1000000000000) (hfB : ∀ m, m ≤ 4 → ff m ≤ B) (hf' : ∀ m, m ≤ 4 → ff' m = mnE e (sumC m (qV C s 1) (fun i => ff (m - i)) (m + 1)) (12 ^ m)) : ∀ (u : Nat) (G1 : Nat → Nat → Int64), u ≤ 5 → (∀ m, m ≤ 4 → G1 49 m = lN (if u ≤ m then ff' m else ff m)) → ∃ G2 : Nat → Nat → Int64, (∀ a, a ≠ 49 → G2 a = G1 a) ∧ (∀ m, m ≤ 4 → G2 49 m = lN (ff' m)) ∧ ∀ r h', (∀ o5 o6 o7, Rn sc (mtk 172) 116 [some (.ref 39), some (.int (nI x)), some (.int (nI e)), some (.int (nI s)), some (.int (nI 0 - 1)), o5, o6, o7] [] (wIJ (nh h) F G2) r h') → ∀ o5 o6 o7, Rn sc (mtk 172) 41 [some (.ref 39), some (.int (nI x)), some (.int (nI e)), some (.int (nI s)), some (.int (nI u - 1)), o5, o6, o7] [] (wIJ (nh h) F G1) r h' := by
  intro u
  obtain ⟨k1, k2, k3, k4, k5, k6, k7⟩ := id K
  induction u with
  | zero =>
    intro G1 _ g2
    refine ⟨G1, fun _ _ => rfl, fun m hm => by rw [g2 m hm, if_pos (Nat.zero_le _)], fun r h' R o5 o6 o7 => ?_⟩
    refine bk_sound (cuts := [116]) 20 _ _ _ _ ?_
    refine br_t (by decide) ?_
    exact R _ _ _
  | succ m ih =>
    intro G1 hm g2
    have v12 := (k6 s 1 hss (by decide)).1
    have sb := sumC_b (k := m) (hh := qV C s 1) (f := fun i => ff (m - i)) (B := B) (by omega) v12 (fun j _ => hfB _ (by omega))
    have sb2 : 12 ^ m * B ≤ 20736 * 1000000000000 := Nat.mul_le_mul sb.2 hB
    have ii : inB (nI m) 216 = true := inB_nI (by omega) (by decide)
    have ei : (nI m).toNatClampNeg = m := nI_clamp (by omega)
    obtain ⟨G3, t1, t2, t3⟩ := ih (u2L G1 49 m (lN (mnE e (sumC m (qV C s 1) (fun i => ff (m - i)) (m + 1)) (12 ^ m)))) (by omega) (fun y hy => by
      rw [u2L_eq]
      by_cases q : y = m
      · rw [if_pos ⟨rfl, q⟩, if_pos (by omega), q, hf' m (by omega)]
      · rw [if_neg (fun z => q z.2), g2 y hy]
        by_cases w : m + 1 ≤ y
        · rw [if_pos w, if_pos (by omega)]
        · rw [if_neg w, if_neg (by omega)])
    refine ⟨G3, fun a ha => ?_, t2, fun r h' R o5 o6 o7 => ?_⟩
    · rw [t1 a ha]
      funext j
      rw [u2L_eq, if_neg (fun z => ha z.1)]
    · have A := t3 r h' R
      rw [i_dec (nI m)] at A
      have J := ll_j (sc := sc) (h := h) (F := F) (G := G1) (C := C) (x := x) (r := r) (h' := h') (s := s) (m := m) (fv := fun i => ff (m - i)) (x2 := nI e) hs K (by omega) hss (fun j hj => by rw [g2 _ (by omega), if_neg (by omega)]) (by
        refine bk_sound (cuts := [41]) 30 _ _ _ _ ?_
        refine And.intro rfl ?_
        refine And.intro rfl (And.intro rfl (Exists.intro _ (Exists.intro _ (And.intro (c_part12 (by omega) he (by omega)) ?_))))
        refine And.intro (⟨rfl, ii⟩) ?_
        rw [ei]
        exact A _ _ _) (m + 1) 0 (by omega)
      rw [nI_pred]
      refine bk_sound (cuts := [52]) 30 _ _ _ _ ?_
      refine br_f (nI_pos (by omega)) ?_
      exact J
theorem ll_s {ff : Nat → Nat} (hs : Shp h) (K : MK F C x) (he : e ≤ 1) (hB : B ≤ 1000000000000) (hfB : ∀ m, m ≤ 4 → ff m ≤ B) : ∀ (s : Nat) (G1 : Nat → Nat → Int64), s ≤ qS C → (∀ m, m ≤ 4 → G1 49 m = lN (lzN C e ff (qS C - s) m)) → ∃ G2 : Nat → Nat → Int64, (∀ a, a ≠ 49 → G2 a = G1 a) ∧ (∀ m, m ≤ 4 → G2 49 m = lN (lzN C e ff (qS C) m)) ∧ ∀ r h', (∀ o4 o5 o6 o7, Rn sc (mtk 172) 122 [some (.ref 39), some (.int (nI x)), some (.int (nI e)), some (.int (nI 0 - 1)), o4, o5, o6, o7] [] (wIJ (nh h) F G2) r h') → ∀ o4 o5 o6 o7, Rn sc (mtk 172) 34 [some (.ref 39), some (.int (nI x)), some (.int (nI e)), some (.int (nI s - 1)), o4, o5, o6, o7] [] (wIJ (nh h) F G1) r h' := by
  intro s
  obtain ⟨k1, k2, k3, k4, k5, k6, k7⟩ := id K
  induction s with
  | zero =>
    intro G1 _ g2
    refine ⟨G1, fun _ _ => rfl, g2, fun r h' R o4 o5 o6 o7 => ?_⟩
    refine bk_sound (cuts := [122]) 20 _ _ _ _ ?_
    refine br_t (by decide) ?_
    exact R _ _ _ _
  | succ s ih =>
    intro G1 hss g2
    have es : qS C - 1 - (qS C - (s + 1)) = s := by omega
    obtain ⟨G2, t1, t2, t3⟩ := ll_m (sc := sc) (h := h) (F := F) (C := C) (x := x) (e := e) (B := B) (s := s) (ff := lzN C e ff (qS C - (s + 1))) (ff' := lzN C e ff (qS C - s)) hs K he (by omega) hB (fun m hm => lz_le (fun s hs => (k6 s 1 hs (by decide)).1) hfB _ (by omega) m hm) (fun m _ => by
      rw [show qS C - s = qS C - (s + 1) + 1 by omega]
      show mnE e (sumC m (qV C (qS C - 1 - (qS C - (s + 1))) 1) _ (m + 1)) (12 ^ m) = _
      rw [es]) 5 G1 (Nat.le_refl _) (fun m hm => by rw [if_neg (by omega)]; exact g2 m hm)
    obtain ⟨G3, y1, y2, y3⟩ := ih G2 (by omega) t2
    refine ⟨G3, fun a ha => (y1 a ha).trans (t1 a ha), y2, fun r h' R o4 o5 o6 o7 => ?_⟩
    have A := y3 r h' R
    rw [i_dec (nI s)] at A
    have M := t3 r h' (fun o5 o6 o7 => by
      refine bk_sound (cuts := [34]) 20 _ _ _ _ ?_
      exact A _ _ _ _)
    rw [nI_pred]
    refine bk_sound (cuts := [41]) 20 _ _ _ _ ?_
    refine br_f (nI_pos (by omega)) ?_
    exact M _ _ _
theorem ll_f {x2 : Int32} {ff : Nat → Nat} {o4 o5 o6 o7 : Option Value} (K : MK F C x) (h49 : ∀ i, i < 5 → G 49 i = lN (ff i)) : ∀ (d i : Nat), i + d = 5 → Rn sc (mtk 172) 124 [some (.ref 39), some (.int (nI x)), some (.int x2), some (.int (nI i)), o4, o5, o6, o7] [] (wIJ (nh h) F (flG 47 (fun m => lN ((if m ≤ qL C then 3000000 * qB C m else 0) + ff m)) G i)) none (wIJ (nh h) F (flG 47 (fun m => lN ((if m ≤ qL C then 3000000 * qB C m else 0) + ff m)) G 5)) := by
  intro d
  obtain ⟨k1, k2, k3, k4, k5, k6, k7⟩ := id K
  have ix : inB (nI x) 3 = true := inB_nI k1 (by decide)
  have ex : (nI x).toNatClampNeg = x := nI_clamp (by omega)
  induction d with
  | zero =>
    intro i hi
    obtain rfl : i = 5 := by omega
    refine bk_sound (cuts := []) 20 _ _ _ _ ?_
    refine br_t (by decide) ?_
    exact ⟨trivial, rfl, rfl⟩
  | succ d ih =>
    intro i hi
    have R := ih (i + 1) (by omega)
    rw [← nI_1 i, ← flG_s] at R
    generalize hGG : flG 47 (fun m => lN ((if m ≤ qL C then 3000000 * qB C m else 0) + ff m)) G i = GG at *
    have g : GG 49 i = lN (ff i) := by
      rw [← hGG]
      unfold flG
      rw [if_neg (by omega)]
      exact h49 i (by omega)
    have ii : inB (nI i) 216 = true := inB_nI (by omega) (by decide)
    have ei : (nI i).toNatClampNeg = i := nI_clamp (by omega)
    have ex5 : (5 : Int32) * nI x + nI i = nI (5 * x + i) := by rw [show (5 : Int32) = nI 5 from rfl, pk_mul, nI_add]
    refine bk_sound (cuts := [124]) 40 _ _ _ _ ?_
    refine br_f (show ¬ 5 ≤ nI i from nI_ge (a := i) (b := 5) (by omega) (by omega)) ?_
    refine And.intro rfl ?_
    refine And.intro rfl ?_
    refine And.intro (⟨rfl, ix⟩) ?_
    by_cases q : i ≤ qL C
    · obtain ⟨b9, -, b43⟩ := k7 i q
      refine br_f (show ¬ F 40 (nI x).toNatClampNeg < nI i by rw [ex, k3]; exact nI_nlt q (by omega)) ?_
      refine And.intro rfl ?_
      refine And.intro (show _ ∧ inB ((5 : Int32) * nI x + nI i) 15 = true from ⟨rfl, by rw [ex5]; exact inB_nI (by omega) (by decide)⟩) ?_
      rw [ex5, nI_clamp (by omega), show zI (wIJ (nh h) F GG) (zA (wIJ (nh h) F GG) 39 5) (5 * x + i) = nI (qB C i) from b43]
      refine And.intro rfl ?_
      refine And.intro (⟨rfl, ii⟩) ?_
      rw [ei, show zJ (wIJ (nh h) F GG) (zA (wIJ (nh h) F GG) 39 16) i = lN (ff i) from g]
      refine And.intro (⟨rfl, ii⟩) ?_
      rw [if_pos q, ← lN_add, ← lN_mul, ← nI_l (n := qB C i) (by omega)] at R
      rw [ei]
      exact R
    · refine br_t (show F 40 (nI x).toNatClampNeg < nI i by rw [ex, k3]; exact nI_lt (by omega) (by omega)) ?_
      refine And.intro rfl ?_
      refine And.intro (⟨rfl, ii⟩) ?_
      rw [ei, show zJ (wIJ (nh h) F GG) (zA (wIJ (nh h) F GG) 39 16) i = lN (ff i) from g]
      refine And.intro (⟨rfl, ii⟩) ?_
      rw [if_neg q, ← lN_add] at R
      rw [ei]
      exact R
theorem c_layLone {ff : Nat → Nat} (hs : Shp h) (K : MK F C x) (he : e ≤ 1) (hB : B ≤ 1000000000000) (hfB : ∀ m, m ≤ 4 → ff m ≤ B) (h47 : ∀ i, i < 5 → G 47 i = lN (ff i)) : ∃ G', Cc sc 172 [.ref 39, .int (nI x), .int (nI e)] (wIJ (nh h) F G) none (wIJ (nh h) F G') ∧ (∀ a, a ≠ 47 → a ≠ 49 → G' a = G a) ∧ ∀ m, m < 5 → G' 47 m = lN ((if m ≤ qL C then 3000000 * qB C m else 0) + lzN C e ff (qS C) m) := by
  obtain ⟨k1, k2, k3, k4, k5, k6, k7⟩ := id K
  have ix : inB (nI x) 3 = true := inB_nI k1 (by decide)
  have ex : (nI x).toNatClampNeg = x := nI_clamp (by omega)
  obtain ⟨G2, t1, t2, t3⟩ := ll_s (sc := sc) (h := h) (F := F) (C := C) (x := x) (e := e) (B := B) (ff := ff) hs K he hB hfB (qS C) (flG 49 (fun i => lN (ff i)) G 5) (Nat.le_refl _) (fun m hm => by
    rw [Nat.sub_self]
    exact if_pos ⟨rfl, by omega⟩)
  refine ⟨flG 47 (fun m => lN ((if m ≤ qL C then 3000000 * qB C m else 0) + lzN C e ff (qS C) m)) G2 5, ?_, fun a h1 h2 => ?_, fun m hm => if_pos ⟨rfl, hm⟩⟩
  · have L := ll_a (sc := sc) (h := h) (F := F) (G := G) (r := none) (h' := wIJ (nh h) F (flG 47 (fun m => lN ((if m ≤ qL C then 3000000 * qB C m else 0) + lzN C e ff (qS C) m)) G2 5)) (x1 := nI x) (x2 := nI e) (w := fun i => lN (ff i)) h47 (by
      have A := t3 none (wIJ (nh h) F (flG 47 (fun m => lN ((if m ≤ qL C then 3000000 * qB C m else 0) + lzN C e ff (qS C) m)) G2 5)) (fun o4 o5 o6 o7 => by
        have f := ll_f (sc := sc) (h := h) (F := F) (G := G2) (C := C) (x := x) (x2 := nI e) (ff := lzN C e ff (qS C)) (o4 := o4) (o5 := o5) (o6 := o6) (o7 := o7) K (fun i hi => t2 i (by omega)) 5 0 rfl
        rw [flG_0] at f
        refine bk_sound (cuts := [124]) 20 _ _ _ _ ?_
        exact f)
      refine bk_sound (cuts := [34]) 20 _ _ _ _ ?_
      refine And.intro rfl ?_
      refine And.intro (⟨rfl, ix⟩) ?_
      rw [ex, show zI (wIJ (nh h) F (flG 49 (fun i => lN (ff i)) G 5)) (zA (wIJ (nh h) F (flG 49 (fun i => lN (ff i)) G 5)) 39 3) x = nI (qS C) from k4]
      exact A _ _ _ _) 5 0 rfl
    rw [flG_0] at L
    refine cc_cut [2] 20 rfl rfl ?_
    exact L
  · funext j
    unfold flG
    rw [if_neg (fun z => h1 z.1), t1 a h2]
    unfold flG
    rw [if_neg (fun z => h2 z.1)]
end
