/-! crate: the model's side -/
theorem gain_gt {a b : Nat} (ha : a < 2 ^ 60) (hb : b < 2 ^ 60) : 0 < lg_cmp (lN a - lN b) 0 ↔ b < a := by
  rw [cmp_gt, l_sub, pk_lT (by omega), pk_lT (by omega)]
  · show (0 : Int) < (a : Int) - b ↔ b < a
    omega
  · rw [pk_lT (by omega), pk_lT (by omega)]
    omega
  · rw [pk_lT (by omega), pk_lT (by omega)]
    omega
theorem gain_0 {a b : Nat} (ha : a < 2 ^ 60) (hb : b < 2 ^ 60) : lg_cmp (lN a - lN b) 0 = 0 ↔ a = b := by
  rw [cmp_eq0, l_sub, pk_lT (by omega), pk_lT (by omega)]
  · show (a : Int) - b = 0 ↔ a = b
    omega
  · rw [pk_lT (by omega), pk_lT (by omega)]
    omega
  · rw [pk_lT (by omega), pk_lT (by omega)]
    omega
theorem pz_6 (C : Cp) : ∀ d i, pzF (zC C 5) i d = 6 ^ d := by
  intro d
  induction d with
  | zero => exact fun _ => rfl
  | succ d ih =>
    intro i
    show pzF (zC C 5) (i + 1) d * zC C 5 i = _
    rw [ih, zC_5, Nat.pow_succ]
theorem it_dg {C : Cp} {r s : Nat} (hs : s < qS C) : itR C r s = r / 6 ^ (qS C - 1 - s) % 6 := by
  unfold itR dgN
  rw [if_pos hs, zC_5]
  unfold tC
  rw [pz_6]
theorem nC_6 (C : Cp) : nC C 5 = 6 ^ qS C := pz_6 C _ _
section
variable {sc : Nat × (Nat → Int32)} {h : Hp} {F : Nat → Nat → Int32} {G : Nat → Nat → Int64} {C : Cp} {x n w : Nat}
/-- the model's number of a row -/
theorem row_m (S1 : 1 ≤ qS C) (S3 : qS C ≤ 3) {r : Nat} (ok : okR C r) : ixN T6 (g0C C) (qS C) + ixN T6 (itR C r) (qS C) < 6 ^ qS C ∧ dgN (qS C) T6 Z6 (ixN T6 (g0C C) (qS C) + ixN T6 (itR C r) (qS C)) = gRw C r := by
  have e := ixN_sum (T := T6) (g := g0C C) (g' := itR C r) (g2 := gRw C r) (qS C) (fun s hs => by
    unfold gRw g0C
    rw [if_pos hs, if_pos hs])
  rw [← e]
  refine (NS_m S1 S3).of (fun s hs => ?_) (fun s hs => if_neg (by omega))
  unfold gRw
  rw [if_pos hs]
  have := ok s hs
  show _ < 6
  omega
theorem it_m (S1 : 1 ≤ qS C) (S3 : qS C ≤ 3) {r : Nat} : ixN T6 (itR C r) (qS C) < 6 ^ qS C ∧ dgN (qS C) T6 Z6 (ixN T6 (itR C r) (qS C)) = itR C r := by
  refine (NS_m S1 S3).of (fun s hs => ?_) (fun s hs => ?_)
  · rw [it_dg hs]
    exact Nat.mod_lt _ (by decide)
  · unfold itR dgN
    exact if_neg (by omega)
theorem cr_in (hs : Shp h) (K : MK F C x) {r : Nat} (hr : r < 216) {l2 l3 l4 l5 l6 l7 rr : Option Value} {h' : Hp} (KK : ∀ (b : Bool) (o : Option Value), (b = true ↔ okR C r) → Rn sc (mtk 179) 197 [some (.ref 39), some (.int (nI x)), l2, l3, l4, l5, l6, l7, some (.int (nI r)), some (.int (nI (ixN T6 (itR C r) (qS C)))), some (.int (nI (wtR C r))), some (.int (bI b)), some (.int (nI (qS C))), o] [] (wIJ (nh h) F G) rr h') : ∀ (d s : Nat) (b : Bool) (o : Option Value), s + d = qS C → (b = true ↔ ∀ t, t < s → itR C r t + qV C t 0 < 6) → Rn sc (mtk 179) 101 [some (.ref 39), some (.int (nI x)), l2, l3, l4, l5, l6, l7, some (.int (nI r)), some (.int (nI (ixN T6 (itR C r) s))), some (.int (nI (ixN (fun s => qV C s 3) (itR C r) s))), some (.int (bI b)), some (.int (nI s)), o] [] (wIJ (nh h) F G) rr h' := by
  intro d
  obtain ⟨k1, k2, k3, k4, k5, k6, k7⟩ := id K
  have ix : inB (nI x) 3 = true := inB_nI k1 (by decide)
  have ex : (nI x).toNatClampNeg = x := nI_clamp (by omega)
  induction d with
  | zero =>
    intro s b o hsd hb
    obtain rfl : s = qS C := by omega
    refine bk_sound (cuts := [197]) 20 _ _ _ _ ?_
    refine And.intro rfl ?_
    refine And.intro (⟨rfl, ix⟩) ?_
    refine br_t (show F 41 (nI x).toNatClampNeg ≤ nI (qS C) by rw [ex, k4]; exact nI_le (Nat.le_refl _) (by omega)) ?_
    exact KK b o hb
  | succ d ih =>
    intro s b o hsd hb
    have v0 := (k6 s 0 (by omega) (by decide)).1
    have p6 := six_b (S := qS C - 1 - s) (by omega)
    have p1 : 1 ≤ 6 ^ (qS C - 1 - s) := Nat.pow_pos (by decide)
    have il : r / 6 ^ (qS C - 1 - s) ≤ r := Nat.div_le_self _ _
    have R := fun b' o' hb' => ih (s + 1) b' o' (by omega) hb'
    have ei := it_dg (C := C) (r := r) (by omega : s < qS C)
    rw [← nI_1, show ixN T6 (itR C r) (s + 1) = ixN T6 (itR C r) s + itR C r s * 6 ^ s from rfl, show ixN (fun s => qV C s 3) (itR C r) (s + 1) = ixN (fun s => qV C s 3) (itR C r) s + itR C r s * qV C s 3 from rfl, ei, ← nI_add, ← pk_mul, ← nI_add, ← pk_mul] at R
    have c6 := c_sixes (sc := sc) (h := wIJ (nh h) F G) (s := qS C - 1 - s) (by omega)
    rw [show nI (qS C - 1 - s) = F 41 (nI x).toNatClampNeg - 1 - nI s by rw [ex, k4, show nI (qS C) - 1 = nI (qS C - 1) from pk_sub (b := 1) (by omega), pk_sub (by omega)]] at c6
    have im : r / 6 ^ (qS C - 1 - s) % 6 < 6 := Nat.mod_lt _ (by decide)
    refine bk_sound (cuts := [101]) 90 _ _ _ _ ?_
    refine And.intro rfl ?_
    refine And.intro (⟨rfl, ix⟩) ?_
    refine br_f (show ¬ F 41 (nI x).toNatClampNeg ≤ nI s by rw [ex, k4]; exact nI_ge (by omega) (by omega)) ?_
    refine And.intro rfl ?_
    refine And.intro (⟨rfl, ix⟩) ?_
    refine And.intro rfl (And.intro rfl (Exists.intro _ (Exists.intro _ (And.intro (c6) ?_))))
    refine And.intro (fun z => by have := (nI_eq (a := 6 ^ (qS C - 1 - s)) (b := 0) (by omega) (by omega)).mp z; omega) ?_
    rw [pk_div (by omega) p1 (by omega)]
    refine And.intro (by decide) ?_
    rw [show nI (r / 6 ^ (qS C - 1 - s)) - nI (r / 6 ^ (qS C - 1 - s)) / 6 * 6 = nI (r / 6 ^ (qS C - 1 - s) % 6) from pk_rem (d := 6) (by omega) (by decide) (by decide)]
    refine And.intro rfl (And.intro rfl (Exists.intro _ (Exists.intro _ (And.intro (c_sixes (by omega)) ?_))))
    refine And.intro ⟨rfl, rfl⟩ (And.intro rfl (Exists.intro _ (Exists.intro _ (And.intro (c_ofM hs K (by omega : s < qS C) (by decide : 3 < 5)) ?_))))
    cases b with
    | false =>
      refine br_t (by rfl) ?_
      exact R false _ ⟨fun z => (by cases z), fun z => hb.mpr (fun t ht => z t (by omega))⟩
    | true =>
      refine br_f (by decide) ?_
      refine And.intro ⟨rfl, rfl⟩ (And.intro rfl (Exists.intro _ (Exists.intro _ (And.intro (c_ofM hs K (by omega : s < qS C) (by decide : 0 < 5)) ?_))))
      by_cases q : r / 6 ^ (qS C - 1 - s) % 6 + qV C s 0 < 6
      · refine br_f (show ¬ 6 ≤ nI (r / 6 ^ (qS C - 1 - s) % 6) + nI (qV C s 0) by rw [nI_add]; exact nI_ge (a := _) (b := 6) q (by omega)) ?_
        exact R true _ ⟨fun _ t ht => by
          by_cases y : t = s
          · rw [y, ei]; exact q
          · exact hb.mp rfl t (by omega), fun _ => rfl⟩
      · refine br_t (show 6 ≤ nI (r / 6 ^ (qS C - 1 - s) % 6) + nI (qV C s 0) by rw [nI_add]; exact nI_le (a := 6) (by omega) (by omega)) ?_
        exact R false _ ⟨fun z => (by cases z), fun z => absurd (by have := z s (by omega); rw [ei] at this; exact this) q⟩
theorem cr_row (hs : Shp h) (K : MK F C x) (hv : ∀ s, s < qS C → qV C s 0 < 6) (wl : ∀ r, wtR C r < 1000) (cs : Cc sc 160 [.ref 39, .int (nI x)] (wIJ (nh h) F G) (some (.int (nI (ixN T6 (g0C C) (qS C))))) (wIJ (nh h) F G)) (hG : ∀ i, i < 6 ^ qS C → G 47 i = lN (Vd C 0 0 n n (dgN (qS C) T6 Z6 i))) (vb : ∀ g, Vd C 0 0 n n g < 2 ^ 60) (hw : w ≤ 30) {l3 l4 rr : Option Value} {h' : Hp} (KK : ∀ o9 o10 o11 o12 o13 : Option Value, Rn sc (mtk 179) 300 [some (.ref 39), some (.int (nI x)), some (.int (nI w)), l3, l4, some (.int (nI (6 ^ qS C))), some (.int (nI (ixN T6 (itR C (crF C n w (6 ^ qS C)).1) (qS C)))), some (.int (nI (crF C n w (6 ^ qS C)).2)), some (.int (nI (6 ^ qS C))), o9, o10, o11, o12, o13] [] (wIJ (nh h) F G) rr h') : ∀ (d r : Nat) (v : Int32) (o9 o10 o11 o12 o13 : Option Value), r + d = 6 ^ qS C → (r = 0 → v = -9) → (0 < r → v = nI (crF C n w r).2) → Rn sc (mtk 179) 82 [some (.ref 39), some (.int (nI x)), some (.int (nI w)), l3, l4, some (.int (nI (6 ^ qS C))), some (.int (nI (ixN T6 (itR C (crF C n w r).1) (qS C)))), some (.int v), some (.int (nI r)), o9, o10, o11, o12, o13] [] (wIJ (nh h) F G) rr h' := by
  obtain ⟨k1, k2, k3, k4, k5, k6, k7⟩ := id K
  have n216 := six_b (S := qS C) k2.2.2.2.1
  have n1 : 1 ≤ 6 ^ qS C := Nat.pow_pos (by decide)
  intro d
  induction d with
  | zero =>
    intro r v o9 o10 o11 o12 o13 hr h0 h1
    obtain rfl : r = 6 ^ qS C := by omega
    rw [h1 (by omega)]
    refine bk_sound (cuts := [300]) 20 _ _ _ _ ?_
    refine br_t (nI_le (Nat.le_refl _) (by omega)) ?_
    exact KK _ _ _ _ _
  | succ d ih =>
    intro r v o9 o10 o11 o12 o13 hr h0 h1
    have R := fun v' o9 o10 o11 o12 o13 hv' => ih (r + 1) v' o9 o10 o11 o12 o13 (by omega) (fun z => by omega) hv'
    rw [← nI_1] at R
    obtain ⟨c1, c2, c3⟩ := crF_ok (C := C) (n := n) (w := w) hv r
    have wr := wl r
    have wb := wl (crF C n w r).1
    refine bk_sound (cuts := [101]) 30 _ _ _ _ ?_
    refine br_f (nI_ge (by omega) (by omega)) ?_
    refine cr_in hs K (r := r) (by omega) (fun b o hb => ?_) (qS C) 0 true o13 (by omega) ⟨fun _ t ht => (by omega), fun _ => rfl⟩
    cases b with
    | false =>
      have no : ¬ okR C r := fun z => by have := hb.mpr z; cases this
      rw [crF_f (fun z => no z.1)] at R
      have r0 : 0 < r := by
        rcases Nat.eq_zero_or_pos r with z | z
        · refine absurd (fun s hs => ?_) no
          rw [z, it_0]
          have := hv s hs
          show 0 + _ < 6
          omega
        · exact z
      refine bk_sound (cuts := [82]) 30 _ _ _ _ ?_
      refine br_t (by rfl) ?_
      refine br_t (by rfl) ?_
      refine br_t (by rfl) ?_
      exact R _ _ _ _ _ _ (fun _ => h1 r0)
    | true =>
      have ok : okR C r := hb.mp rfl
      by_cases w1 : wtR C r ≤ w
      · obtain ⟨a1, a2⟩ := row_m k2.2.2.1 k2.2.2.2.1 ok
        obtain ⟨b1, b2⟩ := row_m k2.2.2.1 k2.2.2.2.1 c1
        have ga := hG _ a1
        have gb := hG _ b1
        rw [a2] at ga
        rw [b2] at gb
        have va := vb (gRw C r)
        have vbb := vb (gRw C (crF C n w r).1)
        have ct := fun z => crF_t (C := C) (n := n) (w := w) (r := r) ⟨ok, w1, z⟩
        have cf : ¬ (Vd C 0 0 n n (gRw C (crF C n w r).1) < Vd C 0 0 n n (gRw C r) ∨ (Vd C 0 0 n n (gRw C r) = Vd C 0 0 n n (gRw C (crF C n w r).1) ∧ wtR C r < (crF C n w r).2)) → crF C n w (r + 1) = crF C n w r := fun z => crF_f (fun y => z y.2.2)
        generalize hA : Vd C 0 0 n n (gRw C r) = A at *
        generalize hB : Vd C 0 0 n n (gRw C (crF C n w r).1) = B at *
        generalize hi : ixN T6 (g0C C) (qS C) + ixN T6 (itR C r) (qS C) = ia at *
        generalize hj : ixN T6 (g0C C) (qS C) + ixN T6 (itR C (crF C n w r).1) (qS C) = ib at *
        refine bk_sound (cuts := [82]) 90 _ _ _ _ ?_
        refine br_f (by decide) ?_
        refine br_f (nI_nlt (by omega) (by omega)) ?_
        refine br_f (by decide) ?_
        refine And.intro rfl ?_
        refine And.intro ⟨rfl, rfl⟩ (And.intro rfl (Exists.intro _ (Exists.intro _ (And.intro (cs) ?_))))
        refine And.intro (show _ ∧ inB (nI (ixN T6 (g0C C) (qS C)) + nI (ixN T6 (itR C r) (qS C))) 216 = true from ⟨rfl, by rw [nI_add, hi]; exact inB_nI (by omega) (by decide)⟩) ?_
        rw [nI_add, hi, nI_clamp (by omega), show zJ (wIJ (nh h) F G) (zA (wIJ (nh h) F G) 39 14) ia = lN A from ga]
        refine And.intro rfl ?_
        refine And.intro ⟨rfl, rfl⟩ (And.intro rfl (Exists.intro _ (Exists.intro _ (And.intro (cs) ?_))))
        refine And.intro (show _ ∧ inB (nI (ixN T6 (g0C C) (qS C)) + nI (ixN T6 (itR C (crF C n w r).1) (qS C))) 216 = true from ⟨rfl, by rw [nI_add, hj]; exact inB_nI (by omega) (by decide)⟩) ?_
        rw [nI_add, hj, nI_clamp (by omega), show zJ (wIJ (nh h) F G) (zA (wIJ (nh h) F G) 39 14) ib = lN B from gb]
        refine br_f (by decide) ?_
        by_cases r0 : r = 0
        · subst r0
          rw [h0 rfl]
          refine br_t (by decide) ?_
          rw [crF_1] at R
          refine R _ _ _ _ _ _ (fun _ => ?_)
          rw [wt_0]
        · rw [h1 (by omega)]
          refine br_f (show ¬ nI (crF C n w r).2 < 0 from nI_nlt (b := 0) (by omega) (by omega)) ?_
          by_cases w2 : B < A
          · refine br_t (show 0 < lg_cmp (lN A - lN B) 0 from (gain_gt va vbb).mpr w2) ?_
            rw [ct (Or.inl w2)] at R
            exact R _ _ _ _ _ _ (fun _ => rfl)
          · refine br_f (show ¬ 0 < lg_cmp (lN A - lN B) 0 from fun z => w2 ((gain_gt va vbb).mp z)) ?_
            by_cases w3 : A = B
            · refine br_f (show ¬ ¬ lg_cmp (lN A - lN B) 0 = 0 from fun z => z ((gain_0 va vbb).mpr w3)) ?_
              by_cases w4 : wtR C r < (crF C n w r).2
              · refine br_f (nI_ge w4 (by omega)) ?_
                rw [ct (Or.inr ⟨w3, w4⟩)] at R
                exact R _ _ _ _ _ _ (fun _ => rfl)
              · refine br_t (nI_le (by omega) (by omega)) ?_
                rw [cf (fun z => by rcases z with y | y; exact w2 y; exact w4 y.2)] at R
                exact R _ _ _ _ _ _ (fun _ => rfl)
            · refine br_t (show ¬ lg_cmp (lN A - lN B) 0 = 0 from fun z => w3 ((gain_0 va vbb).mp z)) ?_
              rw [cf (fun z => by rcases z with y | y; exact w2 y; exact w3 y.1)] at R
              exact R _ _ _ _ _ _ (fun _ => rfl)
      · rw [crF_f (fun z => w1 z.2.1)] at R
        have r0 : 0 < r := by
          rcases Nat.eq_zero_or_pos r with z | z
          · rw [z, wt_0] at w1
            omega
          · exact z
        refine bk_sound (cuts := [82]) 40 _ _ _ _ ?_
        refine br_f (by decide) ?_
        refine br_t (nI_lt (by omega) (by omega)) ?_
        refine br_t (by rfl) ?_
        refine br_t (by rfl) ?_
        exact R _ _ _ _ _ _ (fun _ => h1 r0)
end
