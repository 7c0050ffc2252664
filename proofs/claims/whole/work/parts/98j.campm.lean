/-! camp, the model's rows -/
section
variable {sc : Nat × (Nat → Int32)} {h : Hp} {F : Nat → Nat → Int32} {G : Nat → Nat → Int64} {t : Nat → Int32}
theorem cb_loop {nc l : Nat} (hn : nc < 3) (hl : l ≤ 4) {x1 x2 x3 x4 x5 : Int32} : ∀ (d x : Nat) (F1 : Nat → Nat → Int32), x + d = l + 1 → 1 ≤ x → F1 39 1 = nI nc → F1 39 9 = nI l → ∃ F', (∀ y, x ≤ y → y ≤ l → F' 43 (5 * nc + y) = F1 45 y) ∧ (∀ a i, ¬ (a = 43 ∧ 5 * nc + x ≤ i ∧ i ≤ 5 * nc + l) → F' a i = F1 a i) ∧ ∀ (rr : Option Value) (h' : Hp), Rn sc (mtk 158) 140 [some (.ref 39), some (.int x1), some (.int x2), some (.int x3), some (.int x4), some (.int x5), some (.int (nI (l + 1)))] [] (wIJ (nh h) F' G) rr h' → Rn sc (mtk 158) 104 [some (.ref 39), some (.int x1), some (.int x2), some (.int x3), some (.int x4), some (.int x5), some (.int (nI x))] [] (wIJ (nh h) F1 G) rr h' := by
  intro d
  induction d with
  | zero =>
    intro x F1 hx h1 e1 e9
    obtain rfl : x = l + 1 := by omega
    refine ⟨F1, fun y h2 h3 => by omega, fun _ _ _ => rfl, fun rr h' K => ?_⟩
    refine bk_sound (cuts := [140]) 20 _ _ _ _ ?_
    refine And.intro rfl ?_
    refine br_t (show F1 39 9 < nI (l + 1) by rw [e9]; exact nI_lt (by omega) (by omega)) ?_
    exact K
  | succ d ih =>
    intro x F1 hx h1 e1 e9
    have e5 : 5 * F1 39 1 + nI x = nI (5 * nc + x) := by rw [e1, show (5 : Int32) = nI 5 from rfl, pk_mul, nI_add]
    have i5 : inB (5 * F1 39 1 + nI x) 15 = true := by rw [e5]; exact inB_nI (by omega) (by decide)
    have c5 : (5 * F1 39 1 + nI x).toNatClampNeg = 5 * nc + x := by rw [e5]; exact nI_clamp (by omega)
    have ix : inB (nI x) 5 = true := inB_nI (by omega) (by decide)
    have cx : (nI x).toNatClampNeg = x := nI_clamp (by omega)
    obtain ⟨F', d1, d2, d3⟩ := ih (x + 1) (u2 F1 43 (5 * nc + x) (F1 45 x)) (by omega) (by omega) (by rw [u2_eq, if_neg (by omega)]; exact e1) (by rw [u2_eq, if_neg (by omega)]; exact e9)
    refine ⟨F', fun y h2 h3 => ?_, fun a i h2 => by rw [d2 a i (by omega), u2_eq, if_neg (by omega)], fun rr h' K => ?_⟩
    · by_cases z : y = x
      · rw [d2 43 _ (by omega), u2_eq, if_pos ⟨rfl, by omega⟩, z]
      · rw [d1 y (by omega) h3, u2_eq, if_neg (by omega)]
    · have K2 := d3 rr h' K
      rw [← nI_1] at K2
      refine bk_sound (cuts := [104]) 40 _ _ _ _ ?_
      refine And.intro rfl ?_
      refine br_f (show ¬ F1 39 9 < nI x by rw [e9]; exact nI_nlt (by omega) (by omega)) ?_
      refine And.intro rfl ?_
      refine And.intro rfl ?_
      refine And.intro rfl ?_
      refine And.intro (⟨rfl, ix⟩) ?_
      rw [cx]
      refine And.intro (show _ ∧ inB (5 * F1 39 1 + nI x) 15 = true from ⟨rfl, i5⟩) ?_
      rw [show (5 * zI (wIJ (nh h) F1 G) 39 1 + nI x).toNatClampNeg = 5 * nc + x from c5]
      exact K2
theorem cn_loop {nc S : Nat} (hn : nc < 3) (hS : S ≤ 3) {x1 x2 x3 x4 x5 : Int32} : ∀ (d x : Nat) (F1 : Nat → Nat → Int32), x + d = 5 * S → F1 39 1 = nI nc → F1 39 10 = nI S → ∃ F', (∀ y, x ≤ y → y < 5 * S → F' 44 (15 * nc + y) = F1 46 y) ∧ (∀ a i, ¬ (a = 44 ∧ 15 * nc + x ≤ i ∧ i < 15 * nc + 5 * S) → F' a i = F1 a i) ∧ ∀ (rr : Option Value) (h' : Hp), Rn sc (mtk 158) 182 [some (.ref 39), some (.int x1), some (.int x2), some (.int x3), some (.int x4), some (.int x5), some (.int (nI (5 * S)))] [] (wIJ (nh h) F' G) rr h' → Rn sc (mtk 158) 143 [some (.ref 39), some (.int x1), some (.int x2), some (.int x3), some (.int x4), some (.int x5), some (.int (nI x))] [] (wIJ (nh h) F1 G) rr h' := by
  intro d
  induction d with
  | zero =>
    intro x F1 hx e1 e10
    obtain rfl : x = 5 * S := by omega
    refine ⟨F1, fun y h2 h3 => by omega, fun _ _ _ => rfl, fun rr h' K => ?_⟩
    refine bk_sound (cuts := [182]) 20 _ _ _ _ ?_
    refine And.intro rfl ?_
    refine br_t (show 5 * F1 39 10 ≤ nI (5 * S) by rw [e10, show (5 : Int32) = nI 5 from rfl, pk_mul]; exact nI_le (Nat.le_refl _) (by omega)) ?_
    exact K
  | succ d ih =>
    intro x F1 hx e1 e10
    have e5 : 15 * F1 39 1 + nI x = nI (15 * nc + x) := by rw [e1, show (15 : Int32) = nI 15 from rfl, pk_mul, nI_add]
    have i5 : inB (15 * F1 39 1 + nI x) 45 = true := by rw [e5]; exact inB_nI (by omega) (by decide)
    have c5 : (15 * F1 39 1 + nI x).toNatClampNeg = 15 * nc + x := by rw [e5]; exact nI_clamp (by omega)
    have ix : inB (nI x) 15 = true := inB_nI (by omega) (by decide)
    have cx : (nI x).toNatClampNeg = x := nI_clamp (by omega)
    obtain ⟨F', d1, d2, d3⟩ := ih (x + 1) (u2 F1 44 (15 * nc + x) (F1 46 x)) (by omega) (by rw [u2_eq, if_neg (by omega)]; exact e1) (by rw [u2_eq, if_neg (by omega)]; exact e10)
    refine ⟨F', fun y h2 h3 => ?_, fun a i h2 => by rw [d2 a i (by omega), u2_eq, if_neg (by omega)], fun rr h' K => ?_⟩
    · by_cases z : y = x
      · rw [d2 44 _ (by omega), u2_eq, if_pos ⟨rfl, by omega⟩, z]
      · rw [d1 y (by omega) h3, u2_eq, if_neg (by omega)]
    · have K2 := d3 rr h' K
      rw [← nI_1] at K2
      refine bk_sound (cuts := [143]) 40 _ _ _ _ ?_
      refine And.intro rfl ?_
      refine br_f (show ¬ 5 * F1 39 10 ≤ nI x by rw [e10, show (5 : Int32) = nI 5 from rfl, pk_mul]; exact nI_ge (by omega) (by omega)) ?_
      refine And.intro rfl ?_
      refine And.intro rfl ?_
      refine And.intro rfl ?_
      refine And.intro (⟨rfl, ix⟩) ?_
      rw [cx]
      refine And.intro (show _ ∧ inB (15 * F1 39 1 + nI x) 45 = true from ⟨rfl, i5⟩) ?_
      rw [show (15 * zI (wIJ (nh h) F1 G) 39 1 + nI x).toNatClampNeg = 15 * nc + x from c5]
      exact K2
/-- what the model's camp may write, nc camps being there -/
def WM (nc a i : Nat) : Prop := (a = 39 ∧ (i = 0 ∨ i = 1 ∨ (7 ≤ i ∧ i ≤ 11))) ∨ a = 45 ∨ a = 46 ∨ ((a = 40 ∨ a = 41 ∨ a = 42) ∧ i = nc) ∨ (a = 43 ∧ 5 * nc + 1 ≤ i ∧ i ≤ 5 * nc + 4) ∨ (a = 44 ∧ 15 * nc ≤ i ∧ i < 15 * nc + 15)
theorem c_camp_m {k i n nc : Nat} {lane : Int32} (hs : Shp h) (hk : k < 4) (hi : i + n ≤ 60) (htk : tk (zI h 61) (zI h 62) (nI k) lane (nI i) (nI n) = (0, 0)) (ht : ∀ j, j < n → zI h 63 (60 * k + i + j) = t j) (hn : nc ≤ 3) (e1 : zI h 39 1 = nI nc) : ∃ F', Cc sc 158 [.ref 39, .int (nI k), .int lane, .int (nI i), .int (nI n)] h (some (.int (if (txR t n).1 = true then (if nc = 3 then -4 else nI nc) else -100 - nI (txR t n).2))) (wIJ (nh h) F' (zJ h)) ∧ F' 39 0 = 0 ∧ (((txR t n).1 = true ∧ nc ≠ 3) ∨ ∀ a j, ¬ (a = 39 ∧ (j = 0 ∨ (7 ≤ j ∧ j ≤ 11))) → a ≠ 45 → a ≠ 46 → F' a j = zI h a j) ∧ ((txR t n).1 = true → nc ≠ 3 → (∀ a j, ¬ WM nc a j → F' a j = zI h a j) ∧ F' 39 1 = nI (nc + 1) ∧ F' 40 nc = nI (tL t n) ∧ F' 41 nc = nI (tAll t n).2.2 ∧ F' 42 nc = (tPl t n).2.2 ∧ (∀ r w, r < (tAll t n).2.2 → w < 5 → F' 44 (15 * nc + 5 * r + w) = tN t n r w) ∧ ∀ y, 1 ≤ y → y ≤ tL t n → F' 43 (5 * nc + y) = tB t n y) := by
  have hb := c_barred (sc := sc) hs (nI k) lane (nI i) (nI n)
  rw [htk, if_pos rfl] at hb
  have hb' : Cc sc 146 [.ref 39, .int (nI k), .int lane, .int (nI i), .long (nI n).toInt64] (nh h) (some (.int 0)) (nh h) := by rw [nh_eq hs]; exact hb
  have e60 : 60 * nI k + nI i = nI (60 * k + i) := by rw [show (60 : Int32) = nI 60 from rfl, pk_mul, nI_add]
  obtain ⟨F1, C1, a1, a2, a3⟩ := c_readsCamp (sc := sc) (h := h) (F := zI h) (G := zJ h) (b := 60 * k + i) (L := n) (t := t) (by omega) (by omega) ht
  rw [← e60] at C1
  have f1 : F1 39 1 = nI nc := by rw [a2 39 1 (by omega) (by omega) (by omega)]; exact e1
  have cr : ∀ (F2 : Nat → Nat → Int32) (v : Int32), Cc sc 143 [.ref 39, .int v] (wIJ (nh h) F2 (zJ h)) (some (.int v)) (wIJ (nh h) (u2 F2 39 0 0) (zJ h)) := fun F2 v => by
    refine cc_of 20 rfl rfl ?_
    refine And.intro rfl ?_
    exact ⟨Or.inl rfl, rfl, rfl⟩
  have pre : ∀ rr h', (bI (txR t n).1 = 0 → Rn sc (mtk 158) 35 [some (.ref 39), some (.int (nI k)), some (.int lane), some (.int (nI i)), some (.int (nI n)), some (.int 0), none] [] (wIJ (nh h) F1 (zJ h)) rr h') → (¬ bI (txR t n).1 = 0 → Rn sc (mtk 158) 47 [some (.ref 39), some (.int (nI k)), some (.int lane), some (.int (nI i)), some (.int (nI n)), some (.int 0), none] [] (wIJ (nh h) F1 (zJ h)) rr h') → Cc sc 158 [.ref 39, .int (nI k), .int lane, .int (nI i), .int (nI n)] h rr h' := fun rr h' K1 K2 => by
    refine cc_nh (F := fun _ => h') hs ?_
    refine cc_cut [35, 47] 40 rfl rfl ?_
    refine And.intro ⟨rfl, rfl⟩ (And.intro rfl (Exists.intro _ (Exists.intro _ (And.intro (hb') ?_))))
    refine br_t (by decide) ?_
    refine And.intro ⟨rfl, rfl⟩ (And.intro rfl (Exists.intro _ (Exists.intro _ (And.intro (C1) ?_))))
    refine br_c (fun q => ?_) (fun q => ?_)
    · exact K2 q
    · exact K1 (Decidable.not_not.mp q)
  by_cases q1 : (txR t n).1 = true
  · rw [if_pos q1]
    obtain ⟨r1, r2, r3, r4, r5⟩ := a3 q1
    obtain ⟨l1, l2, s1, s2, p1, p2, p3⟩ := tx_nums q1
    have nz : ¬ bI (txR t n).1 = 0 := by rw [q1]; decide
    by_cases q2 : nc = 3
    · rw [if_pos q2]
      refine ⟨u2 F1 39 0 0, pre _ _ (fun z => absurd z nz) (fun _ => ?_), by rw [u2_eq, if_pos ⟨rfl, rfl⟩], Or.inr (fun a j h1 h2 h3 => by rw [u2_eq, if_neg (by omega)]; exact a2 a j (by omega) h2 h3), fun _ z => absurd q2 z⟩
      refine bk_sound (cuts := []) 30 _ _ _ _ ?_
      refine And.intro rfl ?_
      refine br_f (show ¬ ¬ F1 39 1 = 3 from fun z => z (by rw [f1, q2]; rfl)) ?_
      refine And.intro ⟨rfl, rfl⟩ (And.intro rfl (Exists.intro _ (Exists.intro _ (And.intro (cr F1 (-4)) ?_))))
      exact ⟨Or.inl rfl, rfl, rfl⟩
    · rw [if_neg q2]
      have n3 : nc < 3 := by omega
      have ic : inB (F1 39 1) 3 = true := by rw [f1]; exact inB_nI n3 (by decide)
      have cc : (F1 39 1).toNatClampNeg = nc := by rw [f1]; exact nI_clamp (by omega)
      generalize eF : u2 (u2 (u2 F1 40 nc (F1 39 9)) 41 nc (F1 39 10)) 42 nc (F1 39 11) = F2
      have k2 : ∀ a j, ¬ ((a = 40 ∨ a = 41 ∨ a = 42) ∧ j = nc) → F2 a j = F1 a j := fun a j hn => by rw [← eF, u2_eq, if_neg (by omega), u2_eq, if_neg (by omega), u2_eq, if_neg (by omega)]
      have w1 : F2 39 1 = nI nc := by rw [k2 39 1 (by omega)]; exact f1
      obtain ⟨F3, b1, b2, b3⟩ := cb_loop (sc := sc) (h := h) (G := zJ h) n3 l2 (x1 := nI k) (x2 := lane) (x3 := nI i) (x4 := nI n) (x5 := 0) (tL t n) 1 F2 (by omega) (by omega) w1 (by rw [k2 39 9 (by omega)]; exact r1)
      obtain ⟨F4, d1, d2, d3⟩ := cn_loop (sc := sc) (h := h) (G := zJ h) n3 s2 (x1 := nI k) (x2 := lane) (x3 := nI i) (x4 := nI n) (x5 := 0) (5 * (tAll t n).2.2) 0 F3 (by omega) (by rw [b2 39 1 (by omega)]; exact w1) (by rw [b2 39 10 (by omega), k2 39 10 (by omega)]; exact r2)
      have k4 : ∀ a j, ¬ (a = 43 ∧ 5 * nc + 1 ≤ j ∧ j ≤ 5 * nc + 4) → ¬ (a = 44 ∧ 15 * nc ≤ j ∧ j < 15 * nc + 15) → F4 a j = F2 a j := fun a j h1 h2 => by rw [d2 a j (by omega), b2 a j (by omega)]
      have w4 : F4 39 1 = nI nc := by rw [k4 39 1 (by omega) (by omega)]; exact w1
      have k5 : ∀ a j, a ≠ 39 → u2 (u2 F4 39 1 (F4 39 1 + 1)) 39 0 0 a j = F4 a j := fun a j ha => by rw [u2_eq, if_neg (by omega), u2_eq, if_neg (by omega)]
      refine ⟨u2 (u2 F4 39 1 (F4 39 1 + 1)) 39 0 0, pre _ _ (fun z => absurd z nz) (fun _ => ?_), by rw [u2_eq, if_pos ⟨rfl, rfl⟩], Or.inl ⟨q1, q2⟩, fun _ _ => ⟨fun a j hw => ?_, ?_, ?_, ?_, ?_, fun r w hr hw => ?_, fun y h1 h2 => ?_⟩⟩
      · have E : Rn sc (mtk 158) 182 [some (.ref 39), some (.int (nI k)), some (.int lane), some (.int (nI i)), some (.int (nI n)), some (.int 0), some (.int (nI (5 * (tAll t n).2.2)))] [] (wIJ (nh h) F4 (zJ h)) (some (.int (nI nc))) (wIJ (nh h) (u2 (u2 F4 39 1 (F4 39 1 + 1)) 39 0 0) (zJ h)) := by
          have c5 := cr (u2 F4 39 1 (F4 39 1 + 1)) (u2 F4 39 1 (F4 39 1 + 1) 39 1 - 1)
          refine bk_sound (cuts := []) 40 _ _ _ _ ?_
          refine And.intro rfl ?_
          refine And.intro rfl ?_
          refine And.intro rfl ?_
          refine And.intro ⟨rfl, rfl⟩ (And.intro rfl (Exists.intro _ (Exists.intro _ (And.intro (c5) ?_))))
          refine ⟨Or.inl rfl, congrArg (fun v => some (Value.int v)) (show u2 F4 39 1 (F4 39 1 + 1) 39 1 - 1 = nI nc from ?_), rfl⟩
          rw [u2_eq, if_pos ⟨rfl, rfl⟩, w4, nI_1, nI_pred]
        have E1 := d3 _ _ E
        have E2 : Rn sc (mtk 158) 140 [some (.ref 39), some (.int (nI k)), some (.int lane), some (.int (nI i)), some (.int (nI n)), some (.int 0), some (.int (nI (tL t n + 1)))] [] (wIJ (nh h) F3 (zJ h)) (some (.int (nI nc))) (wIJ (nh h) (u2 (u2 F4 39 1 (F4 39 1 + 1)) 39 0 0) (zJ h)) := by
          refine bk_sound (cuts := [143]) 10 _ _ _ _ ?_
          exact E1
        have E3 := b3 _ _ E2
        rw [← eF] at E3
        refine bk_sound (cuts := [104]) 60 _ _ _ _ ?_
        refine And.intro rfl ?_
        refine br_t (show ¬ F1 39 1 = 3 by rw [f1]; exact fun z => q2 ((nI_eq (a := nc) (b := 3) (by omega) (by omega)).mp z)) ?_
        refine And.intro rfl ?_
        refine And.intro rfl ?_
        refine And.intro rfl ?_
        refine And.intro (⟨rfl, ic⟩) ?_
        rw [show (zI (wIJ (nh h) F1 (zJ h)) 39 1).toNatClampNeg = nc from cc, show zA (wIJ (nh h) F1 (zJ h)) 39 2 = 40 from rfl]
        refine And.intro rfl ?_
        refine And.intro rfl ?_
        refine And.intro rfl ?_
        refine And.intro (⟨rfl, ic⟩) ?_
        rw [show (zI (upI (wIJ (nh h) F1 (zJ h)) 40 nc (zI (wIJ (nh h) F1 (zJ h)) 39 9)) 39 1).toNatClampNeg = nc from cc, show zA (upI (wIJ (nh h) F1 (zJ h)) 40 nc (zI (wIJ (nh h) F1 (zJ h)) 39 9)) 39 3 = 41 from rfl]
        refine And.intro rfl ?_
        refine And.intro rfl ?_
        refine And.intro rfl ?_
        refine And.intro (⟨rfl, ic⟩) ?_
        rw [show (zI (upI (upI (wIJ (nh h) F1 (zJ h)) 40 nc (zI (wIJ (nh h) F1 (zJ h)) 39 9)) 41 nc (zI (upI (wIJ (nh h) F1 (zJ h)) 40 nc (zI (wIJ (nh h) F1 (zJ h)) 39 9)) 39 10)) 39 1).toNatClampNeg = nc from cc]
        exact E3
      · unfold WM at hw
        rw [u2_eq, if_neg (by omega), u2_eq, if_neg (by omega), k4 a j (by omega) (by omega), k2 a j (by omega)]
        exact a2 a j (by omega) (by omega) (by omega)
      · rw [u2_eq, if_neg (by omega), u2_eq, if_pos ⟨rfl, rfl⟩, w4, nI_1]
      · rw [k5 40 nc (by omega), k4 40 nc (by omega) (by omega), ← eF, u2_eq, if_neg (by omega), u2_eq, if_neg (by omega), u2_eq, if_pos ⟨rfl, rfl⟩]
        exact r1
      · rw [k5 41 nc (by omega), k4 41 nc (by omega) (by omega), ← eF, u2_eq, if_neg (by omega), u2_eq, if_pos ⟨rfl, rfl⟩]
        exact r2
      · rw [k5 42 nc (by omega), k4 42 nc (by omega) (by omega), ← eF, u2_eq, if_pos ⟨rfl, rfl⟩]
        exact r3
      · rw [k5 44 _ (by omega), Nat.add_assoc, d1 (5 * r + w) (by omega) (by omega), b2 46 _ (by omega), k2 46 _ (by omega)]
        exact r4 r w hr hw
      · rw [k5 43 _ (by omega), d2 43 _ (by omega), b1 y h1 h2, k2 45 _ (by omega)]
        exact r5 y h1 h2
  · rw [if_neg q1]
    have z0 : bI (txR t n).1 = 0 := by rw [Bool.eq_false_iff.mpr q1]; rfl
    refine ⟨u2 F1 39 0 0, pre _ _ (fun _ => ?_) (fun z => absurd z0 z), by rw [u2_eq, if_pos ⟨rfl, rfl⟩], Or.inr (fun a j h1 h2 h3 => by rw [u2_eq, if_neg (by omega)]; exact a2 a j (by omega) h2 h3), fun z => absurd z q1⟩
    have c5 := cr F1 (-100 - F1 39 7)
    refine bk_sound (cuts := []) 30 _ _ _ _ ?_
    refine And.intro rfl ?_
    refine And.intro ⟨rfl, rfl⟩ (And.intro rfl (Exists.intro _ (Exists.intro _ (And.intro (c5) ?_))))
    exact ⟨Or.inl rfl, congrArg (fun v => some (Value.int v)) (by rw [a1]), rfl⟩
end
