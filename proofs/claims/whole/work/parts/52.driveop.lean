section
variable {sc : Nat × (Nat → Int32)} {h : Hp}
theorem allF_shift {f g : Nat → Bool} {m : Nat} : ∀ (d i : Nat), (∀ j, i ≤ j → j < i + d → f j = g (m + j)) → allF f i d = allF g (m + i) d := by
  intro d
  induction d with
  | zero => intro i _; rfl
  | succ d ih =>
    intro i h
    unfold allF
    rw [h i (by omega) (by omega), ih (i + 1) (fun j h1 h2 => h j (by omega) (by omega)), Nat.add_assoc]
theorem gXF_congr {g0 : Nat → Bool} {run b1 b2 : Nat → Bool} {pl : Nat → Nat} {n : Nat} (hb : ∀ x, x < n → run x = true → b1 x = b2 x) : ∀ x, x ≤ n → ∀ p, gXF g0 run b1 pl x p = gXF g0 run b2 pl x p := by
  intro x
  induction x with
  | zero => intro _ _; rfl
  | succ x ih =>
    intro hx p
    unfold gXF
    rw [ih (by omega) p]
    by_cases q : run x = true
    · rw [hb x (by omega) q]
    · rw [if_neg (fun z => q z.1), if_neg (fun z => q z.1)]
theorem bN_congr {b1 b2 : Nat → Bool} : ∀ n, (∀ x, x < n → b1 x = b2 x) → bN b1 n = bN b2 n := by
  intro n
  induction n with
  | zero => intro _; rfl
  | succ n ih =>
    intro h
    unfold bN
    rw [ih (fun x hx => h x (by omega)), h n (by omega)]
theorem gR_gM {c : Nat → Int32} {i np : Nat} (h0 : ∀ p, p < np → zI h 54 p = bI (dG0 h p)) : ∀ x p, p < np → gR h c i x p = bI (gMF (dG0 h) (dRun h) (dBrk h c i) (dPl h) x p) := by
  intro x
  induction x with
  | zero => intro p hp; exact h0 p hp
  | succ x ih =>
    intro p hp
    unfold gR gMF
    cases hr : dRun h x with
    | false =>
      rw [if_neg (by decide), if_neg (fun z => nomatch z.1)]
      exact ih p hp
    | true =>
      rw [if_pos rfl]
      unfold upd
      by_cases e : dPl h x = p
      · rw [if_pos e.symm, if_pos ⟨rfl, e⟩]
      · rw [if_neg (fun z => e z.symm), if_neg (fun z => e z.2)]
        exact ih p hp
theorem tk_neg (sz ln : Nat → Int32) (k lane i n : Int32) : (tk sz ln k lane i n).1 < 0 ∨ (tk sz ln k lane i n = (0, 0) ∧ (0 ≤ k.toInt ∧ k.toInt < 4) ∧ ¬ (sz k.toNatClampNeg).toInt < 0 ∧ ln k.toNatClampNeg = lane ∧ 0 ≤ n.toInt ∧ 0 ≤ i.toInt ∧ i.toInt + n.toInt ≤ (sz k.toNatClampNeg).toInt) := by
  unfold tk
  by_cases q1 : 0 ≤ k.toInt ∧ k.toInt < 4
  · rw [if_pos q1]
    by_cases q2 : 0 ≤ lane.toInt ∧ lane.toInt < 3
    · rw [if_pos q2]
      by_cases q3 : (sz k.toNatClampNeg).toInt < 0
      · rw [if_pos q3]; exact Or.inl (show (-11 : Int32) < 0 by decide)
      · rw [if_neg q3]
        by_cases q4 : ln k.toNatClampNeg = lane
        · rw [if_pos q4]
          by_cases q5 : n.toInt < 0
          · rw [if_pos q5]; exact Or.inl (show (-14 : Int32) < 0 by decide)
          · rw [if_neg q5]
            by_cases q6 : i.toInt < 0 ∨ (sz k.toNatClampNeg).toInt < i.toInt + n.toInt
            · rw [if_pos q6]; exact Or.inl (show (-13 : Int32) < 0 by decide)
            · rw [if_neg q6]
              exact Or.inr ⟨rfl, q1, q3, q4, by omega, by omega, by omega⟩
        · rw [if_neg q4]; exact Or.inl (show (-12 : Int32) < 0 by decide)
    · rw [if_neg q2]; exact Or.inl (show (-2 : Int32) < 0 by decide)
  · rw [if_neg q1]; exact Or.inl (show (-1 : Int32) < 0 by decide)
/-- parts alone have changed, with faults alike, and the way is forgotten -/
theorem finY0 {L : List (Nat × Nat)} {g : Hp} (hS : Sim0 h) (f : FrY L h g) (q1 : okO L = true) (q2 : (!inP L 30 0 && !inP L 39 37 && !inP L 15 3 && !inP L 39 26 && frP L 18 && frP L 58) = true) (e0 : zI g 1 7 = zI g 39 0) (q3 : (frP L 61 && frP L 62 && frP L 63 && (List.range 8).all (fun i => frP L (31 + i))) = true) (q4 : inP L 15 1 = false) (sP : SimP g) (e : zI g 15 6 = 0) : Sim0 g ∧ KpO h g ∧ KpW h g := by
  have hs := hS.1
  simp only [okO, List.all_cons, List.all_nil, Bool.and_eq_true, Bool.not_eq_true', Bool.and_true] at q1
  obtain ⟨⟨⟨q0, q1⟩, q5⟩, q6⟩ := q1
  obtain ⟨p1, p2, p3, p4, p5, p6, p7, p8, p9, p10, p11, p12⟩ := q1
  refine ⟨⟨f.shp hs, f.simA0 hs q2 e0 hS.2.1, f.simR hs q3 hS.2.2.1, f.simC hs ?_ hS.2.2.2.1, sP, f.simZ hs q4 q5 p11 q0 hS.2.2.2.2.2⟩, KpO_of f.2.2.2.1 ?_ (f.J hs (by decide) p6) (f.s hs (by decide) q5), Or.inl e⟩
  · simp only [Bool.and_eq_true, Bool.not_eq_true']
    exact ⟨⟨⟨⟨⟨⟨⟨q5, q6⟩, p8⟩, p9⟩, p10⟩, p11⟩, p12⟩, q0⟩
  · intro a ha
    rcases ha with rfl | rfl | rfl | rfl | rfl | rfl | rfl | rfl | rfl
    · exact f.I hs (by decide) p2
    · exact f.I hs (by decide) p3
    · exact f.I hs (by decide) p4
    · exact f.I hs (by decide) p7
    · exact f.I hs (by decide) p8
    · exact f.I hs (by decide) p9
    · exact f.I hs (by decide) p10
    · exact f.I hs (by decide) p11
    · exact f.I hs (by decide) p12
theorem zIr_rwI {h : Hp} {a x : Nat} {f : Nat → Int32} (hx : x ≠ a) : zI (rwI h a f) x = zI h x := va_up_ne _ _ hx
theorem zI_rwI (h : Hp) (a : Nat) (f : Nat → Int32) : zI (rwI h a f) a = f := va_up_self _ _ _
theorem op_drive (hS : Sim0 h) (k lane i n : Int32) : Op1 sc 113 205 [.int k, .int lane, .int i, .int n] h := by
  have hs := hS.1
  have hP := hS.2.2.2.2.1
  have hR := hS.2.2.1
  rcases tk_neg (zI h 61) (zI h 62) k lane i n with q | ⟨htk, q1, q2, q3, q4, q5, q6⟩
  · have ne : ¬ (tk (zI h 61) (zI h 62) k lane i n).1 = 0 := fun z => by rw [z] at q; exact absurd q (by decide)
    have hX := c_takeCells (sc := sc) hs hR k lane i n
    have hM := c_barred (sc := sc) (h := upI h 1 7 (tk (zI h 61) (zI h 62) k lane i n).2) hs k lane i n
    generalize hT : tk (zI h 61) (zI h 62) k lane i n = T at *
    rw [show tk (zI (upI h 1 7 T.2) 61) (zI (upI h 1 7 T.2) 62) k lane i n = T from hT, if_neg ne] at hM
    refine ⟨.int T.1, upI h 1 7 T.2, upI (upI h 1 7 T.2) 39 0 T.2, ?_, ?_, (fin_flt hS T.2).1, (fin_flt hS T.2).2.O⟩
    · rw [← nh_eq hs] at hX ⊢
      refine cc_of 40 rfl rfl ?_
      refine And.intro ⟨rfl, rfl⟩ (And.intro rfl (Exists.intro _ (Exists.intro _ (And.intro (hX) ?_))))
      refine br_f ne ?_
      exact ⟨Or.inl rfl, rfl, rfl⟩
    · refine cc_nh (h := upI h 1 7 T.2) (F := fun h => upI h 39 0 T.2) hs ?_
      rw [← nh_eq (h := upI h 1 7 T.2) hs] at hM
      refine cc_of 40 rfl rfl ?_
      refine And.intro ⟨rfl, rfl⟩ (And.intro rfl (Exists.intro _ (Exists.intro _ (And.intro (hM) ?_))))
      refine br_f (fun z => by rw [i_le] at z; rw [i_lt] at q; omega) ?_
      exact ⟨Or.inl rfl, rfl, rfl⟩
  · obtain ⟨k, hk, rfl⟩ := i_of q1.1 (n := 4) q1.2 (by decide)
    have ek : (nI k).toNatClampNeg = k := nI_clamp (by omega)
    rw [ek] at q2 q3 q6
    have rk := hR k hk
    rcases rk with ⟨y1, y2⟩ | ⟨sz, ln, y1, y2, y3, y4, y5, y6, y7⟩
    · rw [y1] at q2; exact absurd (by decide) q2
    rw [y3, nI_toInt (by omega)] at q6
    obtain ⟨i, hi, rfl⟩ := i_of (a := i) (n := 61) (by omega) (by omega) (by decide)
    obtain ⟨n, hn, rfl⟩ := i_of (a := n) (n := 61) (by omega) (by omega) (by decide)
    rw [nI_toInt (by omega), nI_toInt (by omega)] at q6
    have ik : inB (nI k) 4 = true := inB_nI hk (by decide)
    -- the heap with the fault cleared
    have f0 : Fr [(1, 7)] h (upI h 1 7 0) := (Fr.refl _ h).upI rfl
    have hs0 : Shp (upI h 1 7 0) := hs
    have hP0 : SimP (upI h 1 7 0) := f0.simP rfl hP
    have hX := c_takeCells (sc := sc) hs hR (nI k) lane (nI i) (nI n)
    rw [htk] at hX
    have hrun := c_running (sc := sc) hs0 hP0
    have s16 : rs (okL (upI h 1 7 0)) 4 < 16 := rs_lt _ 4
    have hb : bc (rs (okL (upI h 1 7 0)) 4) ≤ 4 := by unfold bc; omega
    have e3 : (3 : Int32) * nI (bc (rs (okL (upI h 1 7 0)) 4)) = nI (3 * bc (rs (okL (upI h 1 7 0)) 4)) := pk_mul 3 _
    have hso : ∀ x, x < 12 → dRun (upI h 1 7 0) x = true → ∃ st, st < 3 ∧ zI h 52 (dPl (upI h 1 7 0) x) = nI st := by
      intro x hx hr
      obtain ⟨w1, w2, w3⟩ := run_pl (np := 0) (PlM_of hP0) hx hr
      rcases place_of hP0 hx with ⟨u1, u2, u3⟩ | ⟨p, np, n1, n2, n3, v1, v2, v3, v4, v5, v6, v7⟩
      · rw [u2] at w1
        exact absurd w1.symm (by first | assumption | (simp (discharger := omega) only [i_lt, i_le, i_eq, bI_tz, decide_eq_false_iff_not, Int32.reduceToInt, nI_toInt, tm1, tm2, tm3, tm4, tm9]; done) | (simp (discharger := omega) only [i_lt, i_le, i_eq, bI_tz, decide_eq_false_iff_not, Int32.reduceToInt, nI_toInt, tm1, tm2, tm3, tm4, tm9]; omega) | omega)
      · obtain ⟨np', c1, c2, c3, c4, c5, c6, c7⟩ := hP0
        obtain rfl : np' = np := nI_inj12 c1 n1 (c3.symm.trans n3)
        obtain ⟨a, kd, st, hrr, gd, hd, pl, z1, z2, z3, z4, z5, z6, z7, z8, z9, z10, z11, z12, z13, z14, z15, -⟩ := c4 p n2
        have epl : dPl (upI h 1 7 0) x = p := by unfold dPl; rw [v2]; exact nI_clamp (by omega)
        rw [epl]
        exact ⟨st, by omega, z15⟩
    have eD : allF (drw (zI h (32 + 2 * k))) i (3 * bc (rs (okL (upI h 1 7 0)) 4)) = allF (drw (zI h 63)) (60 * k + i) (3 * bc (rs (okL (upI h 1 7 0)) 4)) ∨ ¬ 3 * bc (rs (okL (upI h 1 7 0)) 4) ≤ n := by
      by_cases q : 3 * bc (rs (okL (upI h 1 7 0)) 4) ≤ n
      · refine Or.inl (allF_shift _ _ fun j h1 h2 => ?_)
        unfold drw
        rw [y7 j (by omega)]
      · exact Or.inr q
    -- the class, up to its last call
    have X : ∀ (r : Int32) (g : Hp), (3 * bc (rs (okL (upI h 1 7 0)) 4) ≤ n → allF (drw (zI h (32 + 2 * k))) i (3 * bc (rs (okL (upI h 1 7 0)) 4)) = true → Cc sc 86 [.ref 15, .ref (31 + 2 * k), .int (nI i)] (upI (nh h) 1 7 0) (some (.int r)) g) → (¬ (3 * bc (rs (okL (upI h 1 7 0)) 4) ≤ n ∧ allF (drw (zI h (32 + 2 * k))) i (3 * bc (rs (okL (upI h 1 7 0)) 4)) = true) → r = -2 ∧ g = upI (nh h) 1 7 0) → Cc sc 113 [.ref 1, .int (nI k), .int lane, .int (nI i), .int (nI n)] (nh h) (some (.int r)) g := by
      intro r g G1 G2
      have hX' : Cc sc 135 [.ref 1, .int (nI k), .int lane, .int (nI i), .int (nI n)] (nh h) (some (.int 0)) (upI (nh h) 1 7 0) := by rw [nh_eq hs]; exact hX
      have hrun' : Cc sc 84 [.ref 15] (upI (nh h) 1 7 0) (some (.int (nI (rs (okL (upI h 1 7 0)) 4)))) (upI (nh h) 1 7 0) := by rw [nh_eq hs]; exact hrun
      refine cc_of 60 rfl rfl ?_
      refine And.intro ⟨rfl, rfl⟩ (And.intro rfl (Exists.intro _ (Exists.intro _ (And.intro (hX') ?_))))
      refine br_t (by rfl) ?_
      refine And.intro rfl ?_
      refine And.intro ⟨rfl, rfl⟩ (And.intro rfl (Exists.intro _ (Exists.intro _ (And.intro (hrun') ?_))))
      refine And.intro rfl (And.intro rfl (Exists.intro _ (Exists.intro _ (And.intro (c_bitCount s16) ?_))))
      by_cases w1 : 3 * bc (rs (okL (upI h 1 7 0)) 4) ≤ n
      · refine br_f (show ¬ nI n < 3 * nI (bc (rs (okL (upI h 1 7 0)) 4)) by rw [e3]; exact nI_nlt w1 (by omega)) ?_
        refine And.intro rfl ?_
        refine And.intro (⟨rfl, ik⟩) ?_
        rw [ek, show zA (upI (nh h) 1 7 0) (zA (upI (nh h) 1 7 0) 1 5) k = 31 + 2 * k from row_A hk]
        have eC : zA (upI (nh h) 1 7 0) (31 + 2 * k) 2 = 32 + 2 * k := row_C hk
        have hD := c_areDraws (sc := sc) (h := upI (nh h) 1 7 0) (a := 31 + 2 * k) (row_K hk) (by rw [eC]; exact row_CK hk) (by rw [eC]; exact row_CN hk) (i := i) (n := 3 * bc (rs (okL (upI h 1 7 0)) 4)) (by omega)
        rw [eC, show zI (upI (nh h) 1 7 0) (32 + 2 * k) = zI h (32 + 2 * k) from va_up_ne _ _ (by omega), ← e3] at hD
        refine And.intro ⟨rfl, row_K hk⟩ (And.intro rfl (Exists.intro _ (Exists.intro _ (And.intro (hD) ?_))))
        cases w2 : allF (drw (zI h (32 + 2 * k))) i (3 * bc (rs (okL (upI h 1 7 0)) 4)) with
        | false =>
          obtain ⟨rfl, rfl⟩ := G2 (fun z => by rw [w2] at z; exact nomatch z.2)
          refine br_f (by exact fun z => z rfl) ?_
          exact ⟨Or.inl rfl, rfl, rfl⟩
        | true =>
          refine br_t (by decide) ?_
          refine And.intro rfl ?_
          refine And.intro rfl ?_
          refine And.intro (⟨rfl, ik⟩) ?_
          rw [ek, show zA (upI (nh h) 1 7 0) (zA (upI (nh h) 1 7 0) 1 5) k = 31 + 2 * k from row_A hk]
          refine And.intro ⟨rfl, rfl⟩ (And.intro rfl (Exists.intro _ (Exists.intro _ (And.intro (G1 w1 w2) ?_))))
          exact ⟨Or.inl rfl, rfl, rfl⟩
      · obtain ⟨rfl, rfl⟩ := G2 (fun z => w1 z.1)
        refine br_t (show nI n < 3 * nI (bc (rs (okL (upI h 1 7 0)) 4)) by rw [e3]; exact nI_lt (by omega) (by omega)) ?_
        exact ⟨Or.inl rfl, rfl, rfl⟩
    by_cases good : 3 * bc (rs (okL (upI h 1 7 0)) 4) ≤ n ∧ allF (drw (zI h (32 + 2 * k))) i (3 * bc (rs (okL (upI h 1 7 0)) 4)) = true
    · obtain ⟨w1, w2⟩ := good
      obtain ⟨np, c1, c2, c3, c4, c5, c6, c7⟩ := hP
      -- start of the class's loop
      have i0 : DInv (upI h 1 7 0) (zI (upI h 1 7 0) (32 + 2 * k)) i 0 (zI (upI h 1 7 0)) := by
        refine ⟨fun _ _ _ => rfl, fun _ _ => rfl, fun p np' m1 m2 m3 => ?_⟩
        obtain rfl : np' = np := nI_inj12 m2 c1 (m1.symm.trans c3)
        obtain ⟨a, kd, st, hr, gd, hd, pl, z1, z2, z3, z4, z5, z6, z7, z8, z9, z10, z11, z12, z13, z14, z15, z16, z17, z18, z19, z20⟩ := c4 p m3
        show zI (upI h 1 7 0) (zA h 16 p) 3 = bI (dG0 (upI h 1 7 0) p)
        rw [z1, zIr_upI (by omega), z11]
        unfold dG0
        rw [show zI (upI h 1 7 0) 54 p = bI gd from z17]
        cases gd <;> rfl
      obtain ⟨f', d1, d2⟩ := driveOut_loop (sc := sc) (h := upI h 1 7 0) hs0 hP0 hS.2.1.2.2.2 hk rfl (by omega : i + 3 * bc (rs (okL (upI h 1 7 0)) 4) ≤ 60) 12 0 (zI (upI h 1 7 0)) none rfl i0
      -- the model's heap
      have E : ∀ x j, x < 65 → (x ≠ 15 ∨ j ≠ 6) → zI (upI (wI (nh (upI h 1 7 0)) f') 15 6 0) x j = zI (upI h 1 7 0) x j := fun x j h1 h2 => by
        rw [zI_upI]
        by_cases e : x = 15
        · rw [if_pos e, if_neg (by omega), e]
          exact d1.1 15 j (Or.inl (by decide))
        · rw [if_neg e]
          exact d1.1 x j (Or.inl h1)
      have Er : ∀ x, x < 65 → x ≠ 15 → zI (upI (wI (nh (upI h 1 7 0)) f') 15 6 0) x = zI (upI h 1 7 0) x := fun x h1 h2 => funext fun j => E x j h1 (Or.inl h2)
      have hs1 : Shp (upI (wI (nh (upI h 1 7 0)) f') 15 6 0) := shp_nh hs0
      have okE : okL (upI (wI (nh (upI h 1 7 0)) f') 15 6 0) = okL (upI h 1 7 0) := by
        funext l
        unfold okL
        congr 1
        funext x
        unfold okM
        rw [Er 57 (by decide) (by decide), Er 54 (by decide) (by decide)]
      have plE : dPl (upI (wI (nh (upI h 1 7 0)) f') 15 6 0) = dPl (upI h 1 7 0) := by
        funext x
        unfold dPl
        rw [Er 57 (by decide) (by decide)]
      have runE : dRun (upI (wI (nh (upI h 1 7 0)) f') 15 6 0) = dRun (upI h 1 7 0) := by
        funext x
        unfold dRun
        rw [okE]
      have g0E : dG0 (upI (wI (nh (upI h 1 7 0)) f') 15 6 0) = dG0 (upI h 1 7 0) := by
        funext x
        unfold dG0
        rw [Er 54 (by decide) (by decide)]
      have brE : ∀ c i, dBrk (upI (wI (nh (upI h 1 7 0)) f') 15 6 0) c i = dBrk (upI h 1 7 0) c i := fun c i => by
        funext x
        unfold dBrk
        rw [okE, plE, Er 58 (by decide) (by decide), Er 52 (by decide) (by decide)]
      have z63 : zI (upI (wI (nh (upI h 1 7 0)) f') 15 6 0) 63 = zI h 63 := Er 63 (by decide) (by decide)
      have hPM : PlM (upI (wI (nh (upI h 1 7 0)) f') 15 6 0) := by
        intro x hx
        rw [Er 57 (by decide) (by decide)]
        exact PlM_of hP0 x hx
      have brA : ∀ x, x < 12 → dRun (upI h 1 7 0) x = true → dBrk (upI h 1 7 0) (zI (upI h 1 7 0) (32 + 2 * k)) i x = dBrk (upI h 1 7 0) (zI h 63) (60 * k + i) x := by
        intro x hx hr
        have hcn := cN_run hx hr
        rw [cN_12] at hcn
        unfold dBrk
        rw [zIr_upI (by omega), y7 _ (by omega), Nat.add_assoc]
      have hM := c_drive_m (sc := sc) (h := upI (wI (nh (upI h 1 7 0)) f') 15 6 0) hs1 hPM (k := k) (i := i) (n := n) (lane := lane) hk (by rw [Er 61 (by decide) (by decide), Er 62 (by decide) (by decide)]; exact htk) (by omega) (by rw [runE, plE, Er 52 (by decide) (by decide)]; exact hso) (Or.inr ⟨rfl, rfl, by
        rw [okE, z63, decide_eq_true w1, ← eD.resolve_right (fun z => z w1), w2]
        rfl⟩)
      rw [z63, runE, brE] at hM
      have eN : bN (fun x => dRun (upI h 1 7 0) x && dBrk (upI h 1 7 0) (zI (upI h 1 7 0) (32 + 2 * k)) i x) 12 = bN (fun x => dRun (upI h 1 7 0) x && dBrk (upI h 1 7 0) (zI h 63) (60 * k + i) x) 12 := by
        refine bN_congr 12 (fun x hx => ?_)
        by_cases hr : dRun (upI h 1 7 0) x = true
        · show (dRun (upI h 1 7 0) x && _) = (dRun (upI h 1 7 0) x && _)
          rw [brA x hx hr]
        · show (dRun (upI h 1 7 0) x && _) = (dRun (upI h 1 7 0) x && _)
          rw [Bool.eq_false_iff.mpr hr, Bool.false_and, Bool.false_and]
      refine ⟨_, _, _, ?_, hM, ?_⟩
      · refine cc_nh (F := fun _ => upI (wI (nh (upI h 1 7 0)) f') 15 6 0) hs (X _ _ (fun _ _ => ?_) (fun z => absurd ⟨w1, w2⟩ z))
        rw [← eN]
        have hrun' : Cc sc 84 [.ref 15] (nh (upI h 1 7 0)) (some (.int (nI (rs (okL (upI h 1 7 0)) 4)))) (nh (upI h 1 7 0)) := by rw [nh_eq hs0]; exact hrun
        refine cc_cut [14] 40 rfl rfl ?_
        refine And.intro ⟨rfl, rfl⟩ (And.intro rfl (Exists.intro _ (Exists.intro _ (And.intro (hrun') ?_))))
        exact d2
      · have FG : FrY [(1, 7), (15, 6), (54, 1000), (39, 0)] h (upI (rwI (upI (wI (nh (upI h 1 7 0)) f') 15 6 0) 54 (gR (upI (wI (nh (upI h 1 7 0)) f') 15 6 0) (zI h 63) (60 * k + i) 12)) 39 0 0) := by
          have e1 : nh (upI h 1 7 0) = upI h 1 7 0 := nh_eq hs0
          rw [e1]
          refine ⟨rfl, rfl, rfl, rfl, fun a j ha hka => ⟨?_, rfl⟩⟩
          have n54 : a ≠ 54 := fun e => by rw [e, inP_of (by decide)] at ha; cases ha
          have n39 : ¬ (a = 39 ∧ j = 0) := fun e => by rw [e.1, e.2] at ha; cases ha
          have n15 : ¬ (a = 15 ∧ j = 6) := fun e => by rw [e.1, e.2] at ha; cases ha
          have n1 : ¬ (a = 1 ∧ j = 7) := fun e => by rw [e.1, e.2] at ha; cases ha
          have h1 : f' a j = zI (upI h 1 7 0) a j := by
            rw [d1.2.1 a (fun p np' m1 m2 m3 e => ?_)]
            obtain rfl : np' = np := nI_inj12 m2 c1 (m1.symm.trans c3)
            obtain ⟨a', kd, st, hr, gd, hd, pl, z1, z2, z3, z4, -⟩ := c4 p m3
            have : zK h a = pkd kd := by rw [← e]; show zK h (zA h 16 p) = _; rw [z1, z4]
            rw [this, kin_part z3] at hka
            cases hka
          have h2 : zI (upI h 1 7 0) a j = zI h a j := by
            rw [zI_upI]
            by_cases e : a = 1
            · rw [if_pos e, if_neg (fun z => n1 ⟨e, z⟩), e]
            · rw [if_neg e]
          have h3 : zI (upI (wI (upI h 1 7 0) f') 15 6 0) a j = zI h a j := by
            rw [zI_upI]
            by_cases e : a = 15
            · rw [if_pos e, if_neg (fun z => n15 ⟨e, z⟩), ← e]
              exact h1.trans h2
            · rw [if_neg e]
              exact h1.trans h2
          rw [zI_upI]
          by_cases e : a = 39
          · rw [if_pos e, if_neg (fun z => n39 ⟨e, z⟩), ← e]
            rw [zIr_rwI n54]
            exact h3
          · rw [if_neg e]
            rw [zIr_rwI n54]
            exact h3
        have g54 : ∀ p, p < np → gR (upI (wI (nh (upI h 1 7 0)) f') 15 6 0) (zI h 63) (60 * k + i) 12 p = bI (gMF (dG0 (upI h 1 7 0)) (dRun (upI h 1 7 0)) (dBrk (upI h 1 7 0) (zI h 63) (60 * k + i)) (dPl (upI h 1 7 0)) 12 p) := by
          intro p hp
          have := gR_gM (h := upI (wI (nh (upI h 1 7 0)) f') 15 6 0) (c := zI h 63) (i := 60 * k + i) (np := np) (fun p hp => by
            rw [g0E, Er 54 (by decide) (by decide)]
            obtain ⟨a, kd, st, hr, gd, hd, pl, z1, z2, z3, z4, z5, z6, z7, z8, z9, z10, z11, z12, z13, z14, z15, z16, z17, z18, z19, z20⟩ := c4 p hp
            unfold dG0
            rw [show zI (upI h 1 7 0) 54 p = bI gd from z17]
            cases gd <;> rfl) 12 p hp
          rw [g0E, runE, brE, plE] at this
          exact this
        have inj : ∀ x y, x < 12 → y < 12 → dRun (upI h 1 7 0) x = true → dRun (upI h 1 7 0) y = true → dPl (upI h 1 7 0) x = dPl (upI h 1 7 0) y → x = y := by
          intro x y hx hy rx ry e
          obtain ⟨a1, a2, a3⟩ := run_pl (np := 0) (PlM_of hP0) hx rx
          obtain ⟨b1, b2, b3⟩ := run_pl (np := 0) (PlM_of hP0) hy ry
          rcases c6 x hx with ⟨u1, u2⟩ | ⟨p, u0, u1, u2, u3⟩
          · exact absurd ((show zI h 57 x = _ from a1).symm.trans u2) (by first | assumption | (simp (discharger := omega) only [i_lt, i_le, i_eq, bI_tz, decide_eq_false_iff_not, Int32.reduceToInt, nI_toInt, tm1, tm2, tm3, tm4, tm9]; done) | (simp (discharger := omega) only [i_lt, i_le, i_eq, bI_tz, decide_eq_false_iff_not, Int32.reduceToInt, nI_toInt, tm1, tm2, tm3, tm4, tm9]; omega) | omega)
          rcases c6 y hy with ⟨v1, v2⟩ | ⟨p', v0, v1, v2, v3⟩
          · exact absurd ((show zI h 57 y = _ from b1).symm.trans v2) (by first | assumption | (simp (discharger := omega) only [i_lt, i_le, i_eq, bI_tz, decide_eq_false_iff_not, Int32.reduceToInt, nI_toInt, tm1, tm2, tm3, tm4, tm9]; done) | (simp (discharger := omega) only [i_lt, i_le, i_eq, bI_tz, decide_eq_false_iff_not, Int32.reduceToInt, nI_toInt, tm1, tm2, tm3, tm4, tm9]; omega) | omega)
          have ep : p = p' := (nI_eq (by omega) (by omega)).mp (u2.symm.trans ((show zI h 57 x = _ from a1).trans (by rw [e]; exact (show zI h 57 y = _ from b1).symm.trans v2)))
          rw [ep, v3] at u3
          exact ((nI_eq (by omega) (by omega)).mp u3).symm
        have gg := (gX_eq (g0 := dG0 (upI h 1 7 0)) (brk := dBrk (upI h 1 7 0) (zI h 63) (60 * k + i)) inj (fun x hx hr => (run_pl (np := 0) (PlM_of hP0) hx hr).2.2) 12 (Nat.le_refl _)).1
        generalize hG : upI (rwI (upI (wI (nh (upI h 1 7 0)) f') 15 6 0) 54 (gR (upI (wI (nh (upI h 1 7 0)) f') 15 6 0) (zI h 63) (60 * k + i) 12)) 39 0 0 = G at *
        have G54 : zI G 54 = gR (upI (wI (nh (upI h 1 7 0)) f') 15 6 0) (zI h 63) (60 * k + i) 12 := by rw [← hG, zIr_upI (by decide), zI_rwI]
        have G17 : zI G 1 7 = 0 := by rw [← hG, zIr_upI (by decide), zIr_rwI (by decide), zIr_upI (by decide)]; exact (d1.1 1 7 (Or.inl (by decide)))
        have Gp : ∀ a j, 65 ≤ a → zI G a j = f' a j := fun a j ha => by
          rw [← hG, zI_upI, if_neg (by omega)]
          rw [zIr_rwI (by omega), zI_upI, if_neg (by omega)]
          rfl
        refine finY0 hS FG rfl rfl (by rw [G17, ← hG, zI_up_self]) rfl rfl ?_ (by rw [← hG, zIr_upI (by decide), zIr_rwI (by decide), zI_up_self])
        refine SimP_fl (h := h) FG.2.1 FG.2.2.2.1 (FG.s hs (by decide) rfl) (FG.s hs (by decide) rfl) (FG.I hs (by decide) rfl) (FG.I hs (by decide) rfl) (FG.I hs (by decide) rfl) (FG.I hs (by decide) rfl) (FG.I hs (by decide) rfl) (FG.I hs (by decide) rfl) (fun _ _ _ x _ _ => by rw [FG.I hs (a := 55) (by decide) rfl]) ?_ ⟨np, c1, c2, c3, c4, c5, c6, c7⟩
        intro p np' m1 m2 m3
        obtain rfl : np' = np := nI_inj12 m1 c1 (m2.symm.trans c2)
        obtain ⟨a, kd, st, hr, gd, hd, pl, z1, z2, z3, z4, z5, z6, z7, z8, z9, z10, z11, z12, z13, z14, z15, z16, z17, z18, z19, z20⟩ := c4 p m3
        rw [z1]
        have ef : ∀ j, j ≠ 3 → f' a j = zI h a j := fun j hj => by
          rw [d1.1 a j (Or.inr hj), zIr_upI (by omega)]
        refine ⟨fun j h3 h4 => by rw [Gp a j z2, ef j h3], gXF (dG0 (upI h 1 7 0)) (dRun (upI h 1 7 0)) (dBrk (upI h 1 7 0) (zI h 63) (60 * k + i)) (dPl (upI h 1 7 0)) 12 p, hd, ?_, ?_, ?_, ?_, ?_⟩
        · have := d1.2.2 p np' c3 c1 m3
          rw [show zA (upI h 1 7 0) 16 p = a from z1] at this
          rw [Gp a 3 z2, this, gXF_congr brA 12 (Nat.le_refl _) p]
        · rw [G54, g54 p m3, gg p]
        · rw [Gp a 4 z2, ef 4 (by decide)]; exact z12
        · rw [FG.I hs (a := 55) (by decide) rfl]; exact z18
        · rw [z13]
          cases pl with
          | none => exact Or.inl (by decide)
          | some x => exact Or.inr (z20 x rfl).2.2
    · refine ⟨.int (-2), upI h 1 7 0, upI (upI h 1 7 0) 39 0 0, ?_, ?_, (fin_flt hS 0).1, (fin_flt hS 0).2.O⟩
      · have := X (-2) (upI (nh h) 1 7 0) (fun a b => absurd ⟨a, b⟩ good) (fun _ => ⟨rfl, rfl⟩)
        exact cc_nh (F := fun h => upI h 1 7 0) hs this
      · refine c_drive_m (h := upI h 1 7 0) hs0 (PlM_of hP0) hk htk (by omega) hso (Or.inl ⟨rfl, rfl, ?_⟩)
        by_cases w1 : 3 * bc (rs (okL (upI h 1 7 0)) 4) ≤ n
        · rw [decide_eq_true w1]
          have := eD.resolve_right (fun z => z w1)
          show (true && allF (drw (zI h 63)) (60 * k + i) _) = false
          rw [← this]
          cases w2 : allF (drw (zI h (32 + 2 * k))) i (3 * bc (rs (okL (upI h 1 7 0)) 4)) with
          | false => rfl
          | true => exact absurd ⟨w1, w2⟩ good
        · rw [decide_eq_false w1]
          rfl
end
