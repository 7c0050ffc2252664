/-! camp -/
section
variable {sc : Nat × (Nat → Int32)} {h : Hp} {t : Nat → Int32}
/-- the class's heap with one more camp -/
def nCamp (g : Hp) (nc : Nat) : Hp := upI (upA (iC7 (nwC g 0 5) (zc g + 1)) 2 nc (zc g + 1)) 1 1 (nI (nc + 1))
theorem c_camp_x {k i n nc : Nat} {lane : Int32} (hs : Shp h) (hR : SimR h) (hz : 64 ≤ zc h) (hk : k < 4) (hi : i + n ≤ 60) (htk : tk (zI h 61) (zI h 62) (nI k) lane (nI i) (nI n) = (0, 0)) (ht : ∀ j, j < n → zI h (32 + 2 * k) (i + j) = t j) (z5 : zI h 5 0 = 0) (hn : nc ≤ 3) (e1 : zI h 1 1 = nI nc) : ∃ F', (∀ a j, a ≠ 3 → a ≠ 4 → ¬ (a = 5 ∧ 1 ≤ j) → F' a j = zI (upI h 1 7 0) a j) ∧ (txR t n).2 ≤ n ∧ ((txR t n).1 = true → RdX t n F') ∧ (((txR t n).1 = true ∧ nc ≠ 3) ∨ Cc sc 91 [.ref 1, .int (nI k), .int lane, .int (nI i), .int (nI n)] h (some (.int (if (txR t n).1 = true then (if nc = 3 then -4 else nI nc) else -100 - nI (txR t n).2))) (wIJ (nh (upA (upI h 1 7 0) 3 0 (31 + 2 * k))) F' (zJ h))) ∧ ((txR t n).1 = true → nc ≠ 3 → Cc sc 91 [.ref 1, .int (nI k), .int lane, .int (nI i), .int (nI n)] h (some (.int (nI nc))) (nCamp (wIJ (nh (upA (upI h 1 7 0) 3 0 (31 + 2 * k))) F' (zJ h)) nc)) := by
  have hX := c_takeCells (sc := sc) hs hR (nI k) lane (nI i) (nI n)
  rw [htk] at hX
  have hX' : Cc sc 135 [.ref 1, .int (nI k), .int lane, .int (nI i), .int (nI n)] (nh h) (some (.int 0)) (upI (nh h) 1 7 0) := by rw [nh_eq hs]; exact hX
  obtain ⟨F1, C1, a1, a2, a3⟩ := c_firstFault (sc := sc) (h := upI h 1 7 0) (t := t) (k := k) (f := i) (L := n) hs hk hi (fun j hj => by rw [zIr_upI (by omega)]; exact ht j hj) z5
  have C1' : Cc sc 52 [.ref 3, .ref (31 + 2 * k), .int (nI i), .int (nI n)] (upI (nh h) 1 7 0) (some (.int (if (txR t n).1 = true then -9 else nI (txR t n).2))) (wIJ (nh (upA (upI h 1 7 0) 3 0 (31 + 2 * k))) F1 (zJ h)) := by rw [nh_eq hs]; exact C1
  have f1 : F1 1 1 = nI nc := by rw [a2 1 1 (by omega) (by omega) (by omega)]; exact e1
  have ik : inB (nI k) 4 = true := inB_nI hk (by decide)
  have ek : (nI k).toNatClampNeg = k := nI_clamp (by omega)
  have pre : ∀ rr h', Rn sc (mtk 91) 35 [some (.ref 1), some (.int (nI k)), some (.int lane), some (.int (nI i)), some (.int (nI n)), some (.int 0), none] [.int (if (txR t n).1 = true then -9 else nI (txR t n).2)] (wIJ (nh (upA (upI h 1 7 0) 3 0 (31 + 2 * k))) F1 (zJ h)) rr h' → Cc sc 91 [.ref 1, .int (nI k), .int lane, .int (nI i), .int (nI n)] h rr h' := fun rr h' K => by
    refine cc_nh (F := fun _ => h') hs ?_
    refine cc_cut [35] 40 rfl rfl ?_
    refine And.intro ⟨rfl, rfl⟩ (And.intro rfl (Exists.intro _ (Exists.intro _ (And.intro (hX') ?_))))
    refine br_t (by rfl) ?_
    refine And.intro rfl ?_
    refine And.intro rfl ?_
    refine And.intro (⟨rfl, ik⟩) ?_
    rw [ek, show zA (upI (nh h) 1 7 0) (zA (upI (nh h) 1 7 0) 1 5) k = 31 + 2 * k from row_A hk]
    refine And.intro ⟨rfl, rfl⟩ (And.intro rfl (Exists.intro _ (Exists.intro _ (And.intro (C1') ?_))))
    exact K
  have hs1 : Shp (wIJ (nh (upA (upI h 1 7 0) 3 0 (31 + 2 * k))) F1 (zJ h)) := shp_nh (shp_3 (h := upI h 1 7 0) hs _)
  have zg1 : 64 ≤ zc (wIJ (nh (upA (upI h 1 7 0) 3 0 (31 + 2 * k))) F1 (zJ h)) := hz
  have i1 : zI (wIJ (nh (upA (upI h 1 7 0) 3 0 (31 + 2 * k))) F1 (zJ h)) 1 1 = nI nc := f1
  refine ⟨F1, a2, a1, a3, ?_⟩
  generalize wIJ (nh (upA (upI h 1 7 0) 3 0 (31 + 2 * k))) F1 (zJ h) = g1 at pre hs1 zg1 i1 ⊢
  have k1 : kin 10 (zK g1 1) = true := by rw [(hs1.1 1 (by decide)).1]; rfl
  refine ⟨?_, fun q1 q2 => ?_⟩
  · by_cases q : (txR t n).1 = true ∧ nc ≠ 3
    · exact Or.inl q
    · refine Or.inr ?_
      by_cases q1 : (txR t n).1 = true
      · have q2 : nc = 3 := Decidable.not_not.mp fun z => q ⟨q1, z⟩
        rw [if_pos q1, if_pos q2]
        refine pre _ _ ?_
        rw [if_pos q1]
        refine bk_sound (cuts := []) 40 _ _ _ _ ?_
        refine br_t (by rfl) ?_
        refine And.intro (k1) ?_
        refine br_f (show ¬ zI g1 1 1 < 3 by rw [i1, q2]; decide) ?_
        exact ⟨Or.inl rfl, rfl, rfl⟩
      · rw [if_neg q1]
        refine pre _ _ ?_
        rw [if_neg q1]
        refine bk_sound (cuts := []) 40 _ _ _ _ ?_
        refine br_f (show ¬ nI (txR t n).2 = -9 by first | assumption | (simp (discharger := omega) only [i_lt, i_le, i_eq, bI_tz, decide_eq_false_iff_not, Int32.reduceToInt, nI_toInt, tm1, tm2, tm3, tm4, tm9]; done) | (simp (discharger := omega) only [i_lt, i_le, i_eq, bI_tz, decide_eq_false_iff_not, Int32.reduceToInt, nI_toInt, tm1, tm2, tm3, tm4, tm9]; omega) | omega) ?_
        exact ⟨Or.inl rfl, rfl, rfl⟩
  · have n3 : nc < 3 := by omega
    have ec : (nI nc).toNatClampNeg = nc := nI_clamp (by omega)
    have c0 : ¬ zc g1 + 1 = 0 := by omega
    have zA1 : zc (nwC g1 0 5) = zc g1 + 1 := rfl
    have kk : ∀ x, x < 65 → zK (nwC g1 0 5) x = K0 x ∧ zN (nwC g1 0 5) x = N0 x := fun x hx => by
      rw [zKr_nw (by omega), zNr_nw (by omega)]
      exact hs1.1 x hx
    have aa : ∀ q ∈ FAs, zA (nwC g1 0 5) q.1 q.2.1 = q.2.2 := fun q hq => by
      have : ∀ q ∈ FAs, q.1 ≤ 64 := by decide
      rw [zAr_nw (by have := this q hq; omega)]
      exact hs1.2 q hq
    have CI := c_Camp_init (sc := sc) (A := nwC g1 0 5) (c := zc g1 + 1) (by omega) (by omega) zK_nw1 (kk 3 (by decide)).1 (kk 4 (by decide)).1 (kk 5 (by decide)).1 (aa (3, 8, 4) (by decide)) (aa (3, 9, 5) (by decide))
    have k2 : ∀ x, x < 65 → zK (iC7 (nwC g1 0 5) (zc g1 + 1)) x = K0 x ∧ zN (iC7 (nwC g1 0 5) (zc g1 + 1)) x = N0 x := fun x hx => by
      have := iC7_K (A := nwC g1 0 5) (c := zc g1 + 1) (x := x) (by omega) (by omega)
      rw [this.1, this.2]
      exact kk x hx
    have k3 : kin 10 (zK (iC7 (nwC g1 0 5) (zc g1 + 1)) 1) = true := by rw [(k2 1 (by decide)).1]; rfl
    have e2 : zI (upA (iC7 (nwC g1 0 5) (zc g1 + 1)) 2 nc (zc g1 + 1)) 1 1 = nI nc := by
      rw [zI_upA, iC7_I (by omega) (by omega) (by omega), zIr_nw (by omega)]
      exact i1
    refine pre _ _ ?_
    rw [if_pos q1]
    refine bk_sound (cuts := []) 90 _ _ _ _ ?_
    refine br_t (by rfl) ?_
    refine And.intro (k1) ?_
    refine br_t (show zI g1 1 1 < 3 by rw [i1]; exact nI_lt (a := nc) (b := 3) n3 (by omega)) ?_
    refine And.intro (k1) ?_
    refine And.intro (k1) ?_
    rw [i1, show zA g1 1 0 = 2 from hs1.2 (1, 0, 2) (by decide)]
    refine And.intro (show kin 10 (zK (nwC g1 0 5) 1) = true by rw [(kk 1 (by decide)).1]; rfl) ?_
    rw [show nf 0 = 5 from rfl, show zA (nwC g1 0 5) 1 2 = 3 from aa (1, 2, 3) (by decide)]
    refine And.intro ⟨rfl, c0⟩ (And.intro rfl (Exists.intro _ (Exists.intro _ (And.intro (CI) ?_))))
    refine And.intro (⟨?_, Or.inl ⟨?_, ?_⟩⟩) ?_
    · show inB (nI nc) (zN (iC7 (nwC g1 0 5) (zc g1 + 1)) 2) = true
      rw [(k2 2 (by decide)).2]
      exact inB_nI (n := 3) n3 (by decide)
    · show zK (iC7 (nwC g1 0 5) (zc g1 + 1)) 2 = 15
      rw [(k2 2 (by decide)).1]
      rfl
    · show zK (iC7 (nwC g1 0 5) (zc g1 + 1)) (zc g1 + 1) = 0
      rw [(iC7_K (A := nwC g1 0 5) (c := zc g1 + 1) (x := zc g1 + 1) (by omega) (by omega)).1]
      exact zK_nw1
    rw [ec]
    refine And.intro (k3) ?_
    refine And.intro (k3) ?_
    refine And.intro (k3) ?_
    refine ⟨Or.inl rfl, ?_, ?_⟩
    · rw [zI_up_self]
      refine congrArg (fun v => some (Value.int v)) (show zI (upA (iC7 (nwC g1 0 5) (zc g1 + 1)) 2 nc (zc g1 + 1)) 1 1 + 1 - 1 = nI nc from ?_)
      rw [e2, nI_1, nI_pred]
    · show upI (upA (iC7 (nwC g1 0 5) (zc g1 + 1)) 2 nc (zc g1 + 1)) 1 1 (zI (upA (iC7 (nwC g1 0 5) (zc g1 + 1)) 2 nc (zc g1 + 1)) 1 1 + 1) = nCamp g1 nc
      rw [e2, nI_1]
      rfl
/-- what is in that heap -/
theorem nCamp_f {g : Hp} {nc : Nat} (hs : Shp g) (hz : 64 ≤ zc g) : Shp (nCamp g nc) ∧ zc (nCamp g nc) = zc g + 3 ∧ zs (nCamp g nc) = zs g + 25 ∧ (∀ x, x ≤ zc g → zK (nCamp g nc) x = zK g x ∧ zN (nCamp g nc) x = zN g x) ∧ (∀ x, zc g + 3 < x → zK (nCamp g nc) x = zK g x) ∧ zK (nCamp g nc) (zc g + 1) = 0 ∧ (zK (nCamp g nc) (zc g + 2) = 12 ∧ zN (nCamp g nc) (zc g + 2) = 15) ∧ (zK (nCamp g nc) (zc g + 3) = 12 ∧ zN (nCamp g nc) (zc g + 3) = 5) ∧ (∀ x, x ≠ 2 → x ≤ zc g → zA (nCamp g nc) x = zA g x) ∧ (∀ j, zA (nCamp g nc) 2 j = if j = nc then zc g + 1 else zA g 2 j) ∧ (zA (nCamp g nc) (zc g + 1) 3 = zc g + 2 ∧ zA (nCamp g nc) (zc g + 1) 4 = zc g + 3) := by
  have k : ∀ x, x ≠ zc g + 1 → x ≠ zc g + 2 → x ≠ zc g + 3 → zK (nCamp g nc) x = zK g x ∧ zN (nCamp g nc) x = zN g x := fun x h1 h2 h3 => by
    have := iC7_K (A := nwC g 0 5) (c := zc g + 1) (x := x) h2 h3
    exact ⟨this.1.trans (zKr_nw h1), this.2.trans (zNr_nw h1)⟩
  have n4 : zN (nwC g 0 5) 4 = 15 := by rw [zNr_nw (by omega), (hs.1 4 (by decide)).2]; rfl
  have n5 : zN (iC5 (nwC g 0 5) (zc g + 1)) 5 = 5 := by
    show zN (iC4 (nwC g 0 5) (zc g + 1)) 5 = 5
    rw [(iC4_r (A := nwC g 0 5) (x := 5) (by show 5 ≠ zc g + 1 + 1; omega)).2.1, zNr_nw (by omega), (hs.1 5 (by decide)).2]
    rfl
  have a : ∀ x, x ≠ 2 → x ≤ zc g → zA (nCamp g nc) x = zA g x := fun x h1 h2 => by
    show zA (upA (iC7 (nwC g 0 5) (zc g + 1)) 2 nc (zc g + 1)) x = _
    rw [zAr_upA h1, iC7_A (A := nwC g 0 5) (by omega) (by show x ≠ zc g + 1 + 1; omega) (by show x ≠ zc g + 1 + 2; omega), zAr_nw (by omega)]
  have z := iC7_z (A := nwC g 0 5) (c := zc g + 1)
  rw [n4, n5] at z
  refine ⟨⟨fun x hx => ?_, fun q hq => ?_⟩, congrArg Prod.fst z, congrArg Prod.snd z, fun x hx => k x (by omega) (by omega) (by omega), fun x hx => (k x (by omega) (by omega) (by omega)).1, ?_, ⟨(iC7_n1 (A := nwC g 0 5) (c := zc g + 1)).1, (iC7_n1 (A := nwC g 0 5) (c := zc g + 1)).2.trans n4⟩, ⟨(iC7_n2 (A := nwC g 0 5) (c := zc g + 1)).1, (iC7_n2 (A := nwC g 0 5) (c := zc g + 1)).2.trans n5⟩, a, fun j => ?_, ?_⟩
  · rw [(k x (by omega) (by omega) (by omega)).1, (k x (by omega) (by omega) (by omega)).2]
    exact hs.1 x hx
  · have : ∀ q ∈ FAs, q.1 ≤ 64 ∧ q.1 ≠ 2 := by decide
    rw [a q.1 (this q hq).2 (by have := (this q hq).1; omega)]
    exact hs.2 q hq
  · exact (iC7_K (A := nwC g 0 5) (c := zc g + 1) (x := zc g + 1) (by show zc g + 1 ≠ zc g + 1 + 1; omega) (by show zc g + 1 ≠ zc g + 1 + 2; omega)).1.trans zK_nw1
  · show zA (upA (iC7 (nwC g 0 5) (zc g + 1)) 2 nc (zc g + 1)) 2 j = _
    rw [zA_upA, if_pos rfl, iC7_A (A := nwC g 0 5) (by omega) (by show 2 ≠ zc g + 1 + 1; omega) (by show 2 ≠ zc g + 1 + 2; omega), zAr_nw (by omega)]
  · show zA (upA (iC7 (nwC g 0 5) (zc g + 1)) 2 nc (zc g + 1)) (zc g + 1) 3 = _ ∧ zA (upA (iC7 (nwC g 0 5) (zc g + 1)) 2 nc (zc g + 1)) (zc g + 1) 4 = _
    rw [zAr_upA (by omega)]
    exact iC7_a (A := nwC g 0 5) (c := zc g + 1) (Nat.le_refl _)
theorem nCamp_i {g : Hp} {nc : Nat} (hz : 64 ≤ zc g) : (∀ x, x ≤ zc g → zJ (nCamp g nc) x = zJ g x) ∧ (∀ a i, a ≤ zc g → ¬ (a = 1 ∧ i = 1) → zI (nCamp g nc) a i = zI g a i) ∧ zI (nCamp g nc) 1 1 = nI (nc + 1) ∧ (zI (nCamp g nc) (zc g + 1) 0 = zI g 3 5 ∧ zI (nCamp g nc) (zc g + 1) 1 = zI g 3 6 ∧ zI (nCamp g nc) (zc g + 1) 2 = zI g 3 7) ∧ zI (nCamp g nc) (zc g + 2) = zI g 4 ∧ zI (nCamp g nc) (zc g + 3) = zI g 5 := by
  have r : ∀ x, x ≠ 1 → zI (nCamp g nc) x = zI (iC7 (nwC g 0 5) (zc g + 1)) x := fun x hx => zIr_upI hx
  refine ⟨fun x hx => ?_, fun a i ha hn => ?_, zI_up_self _ _ _ _, ?_, ?_, ?_⟩
  · exact (iC7_J (A := nwC g 0 5) (c := zc g + 1) (x := x) (by show x ≠ zc g + 1 + 1; omega) (by show x ≠ zc g + 1 + 2; omega)).trans (zJr_nw (by omega))
  · have e : zI (iC7 (nwC g 0 5) (zc g + 1)) a = zI g a := (iC7_I (A := nwC g 0 5) (c := zc g + 1) (x := a) (by omega) (by show a ≠ zc g + 1 + 1; omega) (by show a ≠ zc g + 1 + 2; omega)).trans (zIr_nw (by omega))
    by_cases q : a = 1
    · show zI (upI (upA (iC7 (nwC g 0 5) (zc g + 1)) 2 nc (zc g + 1)) 1 1 (nI (nc + 1))) a i = _
      rw [q] at e
      rw [zI_upI, if_pos q, if_neg (fun z => hn ⟨q, z⟩), zI_upA, e, q]
    · rw [r a q, e]
  · rw [r _ (by omega)]
    have := iC7_c (A := nwC g 0 5) (c := zc g + 1) (by omega) (Nat.le_refl _)
    rw [show zI (nwC g 0 5) 3 = zI g 3 from zIr_nw (by omega)] at this
    exact this
  · rw [r _ (by omega)]
    exact (iC7_i1 (A := nwC g 0 5) (c := zc g + 1) (by omega)).trans (zIr_nw (by omega))
  · rw [r _ (by omega)]
    exact (iC7_i2 (A := nwC g 0 5) (c := zc g + 1) (by omega) (Nat.le_refl _)).trans (zIr_nw (by omega))
theorem op_camp (hS : Sim0 h) (k lane i n : Int32) : Op1 sc 91 158 [.int k, .int lane, .int i, .int n] h := by
  have hs := hS.1
  have hR := hS.2.2.1
  rcases tk_neg (zI h 61) (zI h 62) k lane i n with q | ⟨htk, q1, q2, q3, q4, q5, q6⟩
  · have ne : ¬ (tk (zI h 61) (zI h 62) k lane i n).1 = 0 := fun z => by rw [z] at q; exact absurd q (by decide)
    have hX := c_takeCells (sc := sc) hs hR k lane i n
    have hM := c_barred (sc := sc) (h := upI h 1 7 (tk (zI h 61) (zI h 62) k lane i n).2) hs k lane i n
    generalize hT : tk (zI h 61) (zI h 62) k lane i n = T at *
    rw [show tk (zI (upI h 1 7 T.2) 61) (zI (upI h 1 7 T.2) 62) k lane i n = T from hT, if_neg ne] at hM
    refine ⟨.int T.1, upI h 1 7 T.2, upI (upI h 1 7 T.2) 39 0 T.2, ?_, ?_, (fin_flt hS T.2).1, (fin_flt hS T.2).2.O⟩
    · rw [← nh_eq hs] at hX ⊢
      refine cc_of 40 rfl rfl ?_
      refine And.intro ⟨rfl, rfl⟩ (And.intro rfl (Exists.intro _ (Exists.intro _ (And.intro (hX) ?_))))
      refine br_f ne ?_
      exact ⟨Or.inl rfl, rfl, rfl⟩
    · refine cc_nh (h := upI h 1 7 T.2) (F := fun h => upI h 39 0 T.2) hs ?_
      rw [← nh_eq (h := upI h 1 7 T.2) hs] at hM
      refine cc_of 40 rfl rfl ?_
      refine And.intro ⟨rfl, rfl⟩ (And.intro rfl (Exists.intro _ (Exists.intro _ (And.intro (hM) ?_))))
      refine br_f (fun z => by rw [i_le] at z; rw [i_lt] at q; omega) ?_
      exact ⟨Or.inl rfl, rfl, rfl⟩
  · obtain ⟨k, hk, rfl⟩ := i_of q1.1 (n := 4) q1.2 (by decide)
    have ek : (nI k).toNatClampNeg = k := nI_clamp (by omega)
    rw [ek] at q2 q3 q6
    rcases hR k hk with ⟨y1, y2⟩ | ⟨sz, ln, y1, y2, y3, y4, y5, y6, y7⟩
    · rw [y1] at q2; exact absurd (by decide) q2
    rw [y3, nI_toInt (by omega)] at q6
    obtain ⟨i, hi, rfl⟩ := i_of (a := i) (n := 61) (by omega) (by omega) (by decide)
    obtain ⟨n, hn, rfl⟩ := i_of (a := n) (n := 61) (by omega) (by omega) (by decide)
    rw [nI_toInt (by omega), nI_toInt (by omega)] at q6
    obtain ⟨nc, d1, d2, d3, d4, d5⟩ := hS.2.2.2.1
    obtain ⟨w1, w2, w3, w4, w5, w6⟩ := hS.2.2.2.2.2
    have hin : i + n ≤ 60 := by omega
    obtain ⟨F1, x1, x2, x3, x4, x5⟩ := c_camp_x (sc := sc) (h := h) (t := fun j => zI h (32 + 2 * k) (i + j)) (k := k) (i := i) (n := n) (nc := nc) (lane := lane) hs hR w1 hk hin htk (fun _ _ => rfl) w5 d1 d2
    generalize ht : (fun j => zI h (32 + 2 * k) (i + j)) = t at x2 x3 x4 x5
    have tt : ∀ j, j < n → zI h 63 (60 * k + i + j) = t j := fun j hj => by rw [← ht, Nat.add_assoc]; exact (y7 (i + j) (by omega)).symm
    have hs1 : Shp (wIJ (nh (upA (upI h 1 7 0) 3 0 (31 + 2 * k))) F1 (zJ h)) := shp_nh (shp_3 (h := upI h 1 7 0) hs _)
    have gE : wIJ (nh (upA (upI h 1 7 0) 3 0 (31 + 2 * k))) F1 (zJ h) = wIJ (upA h 3 0 (31 + 2 * k)) F1 (zJ h) := by
      rw [nh_eq (shp_3 (h := upI h 1 7 0) hs _)]
      rfl
    have x1' : ∀ a j, a ≠ 3 → a ≠ 4 → ¬ (a = 5 ∧ 1 ≤ j) → ¬ (a = 1 ∧ j = 7) → F1 a j = zI h a j := fun a j h1 h2 h3 h4 => by
      rw [x1 a j h1 h2 h3, zI_upI]
      by_cases e : a = 1
      · rw [if_pos e, if_neg (fun z => h4 ⟨e, z⟩), e]
      · rw [if_neg e]
    have x17 : F1 1 7 = 0 := by rw [x1 1 7 (by omega) (by omega) (by omega), zI_up_self]
    have gr : ∀ a, a ≠ 1 → a ≠ 3 → a ≠ 4 → a ≠ 5 → F1 a = zI h a := fun a h1 h2 h3 h4 => funext fun j => x1' a j h2 h3 (by omega) (by omega)
    rw [gE] at x4 x5 hs1
    have gA : ∀ a, a ≠ 3 → zA (wIJ (upA h 3 0 (31 + 2 * k)) F1 (zJ h)) a = zA h a := fun a ha => va_up_ne _ _ ha
    generalize hg1 : wIJ (upA h 3 0 (31 + 2 * k)) F1 (zJ h) = g1 at x4 x5 hs1 gA
    have gI : zI g1 = F1 := by rw [← hg1]; rfl
    have gJ : zJ g1 = zJ h := by rw [← hg1]; rfl
    have gK : zK g1 = zK h := by rw [← hg1]; rfl
    have gN : zN g1 = zN h := by rw [← hg1]; rfl
    have gz : g1.1 = h.1 := by rw [← hg1]; rfl
    by_cases new : (txR t n).1 = true ∧ nc ≠ 3
    · have X := x5 new.1 new.2
      have n3 : nc < 3 := by omega
      have zz : zc g1 = zc h ∧ zs g1 = zs h := ⟨congrArg Prod.fst gz, congrArg Prod.snd gz⟩
      obtain ⟨u1, u2', u3, u4, u5, u6, u7, u8, u9, u10, u11⟩ := nCamp_f (nc := nc) hs1 (by rw [zz.1]; exact w1)
      obtain ⟨v1, v2, v3, v4, v5, v6⟩ := nCamp_i (g := g1) (nc := nc) (by rw [zz.1]; exact w1)
      obtain ⟨r1, r2, r3, r4, r5⟩ := x3 new.1
      generalize hg2 : nCamp g1 nc = g2 at X u1 u2' u3 u4 u5 u6 u7 u8 u9 u10 u11 v1 v2 v3 v4 v5 v6
      rw [zz.1] at u2' u4 u5 u6 u7 u8 u9 u10 u11 v1 v2 v4 v5 v6
      rw [zz.2] at u3
      rw [gI] at v2 v4 v5 v6
      rw [gK, gN] at u4
      rw [gK] at u5
      rw [gJ] at v1
      have gi : ∀ a j, a ≤ zc h → a ≠ 3 → a ≠ 4 → ¬ (a = 5 ∧ 1 ≤ j) → ¬ (a = 1 ∧ (j = 1 ∨ j = 7)) → zI g2 a j = zI h a j := fun a j h0 h1 h2 h3 h4 => by
        rw [v2 a j h0 (by omega)]
        exact x1' a j h1 h2 h3 (by omega)
      have gir : ∀ a, a ≤ 64 → a ≠ 1 → a ≠ 3 → a ≠ 4 → a ≠ 5 → zI g2 a = zI h a := fun a h0 h1 h2 h3 h4 => funext fun j => gi a j (by omega) h2 h3 (by omega) (by omega)
      obtain ⟨F2, M, m1, -, m3⟩ := c_camp_m (sc := sc) (h := g2) (t := t) (k := k) (i := i) (n := n) (nc := nc) (lane := lane) u1 hk hin (by rw [gir 61 (by decide) (by decide) (by decide) (by decide) (by decide), gir 62 (by decide) (by decide) (by decide) (by decide) (by decide)]; exact htk) (fun j hj => by rw [gir 63 (by decide) (by decide) (by decide) (by decide) (by decide)]; exact tt j hj) d1 (by rw [gir 39 (by decide) (by decide) (by decide) (by decide) (by decide)]; exact d3)
      obtain ⟨o1, o2, o3, o4, o5, o6, o7⟩ := m3 new.1 new.2
      rw [if_pos new.1, if_neg new.2] at M
      have hE : wIJ (nh g2) F2 (zJ g2) = wIJ g2 F2 (zJ g2) := by rw [nh_eq u1]
      rw [hE] at M
      have hi : ∀ a j, 65 ≤ a → F2 a j = zI g2 a j := fun a j ha => o1 a j (by unfold WM; omega)
      refine ⟨_, g2, wIJ g2 F2 (zJ g2), X, M, ?_⟩
      refine sim_camp (g := wIJ g2 F2 (zJ g2)) (t := t) (L := n) (nc := nc) hS u1 d2 n3 u2' u3 u4 u5 u6 u7 u8 ?_ ?_ u11 (v1 10 (by omega)) ?_ ?_ o2 ?_ new.1 ⟨?_, o3⟩ ⟨?_, o4⟩ ⟨?_, o5⟩ ?_ ?_
      · intro x h1 h2 h3
        show zA g2 x = _
        rw [u9 x h1 h3, gA x h2]
      · intro j
        show zA g2 2 j = _
        rw [u10 j, gA 2 (by decide)]
      · intro a j ha hw
        show F2 a j = _
        rw [o1 a j (fun z => hw (by unfold WC; exact Or.inr (Or.inr (Or.inr (Or.inr z)))))]
        exact gi a j ha (fun z => hw (by unfold WC; omega)) (fun z => hw (by unfold WC; omega)) (fun z => hw (by unfold WC; omega)) (fun z => hw (by unfold WC; omega))
      · show F2 1 1 = _
        rw [o1 1 1 (by unfold WM; omega)]
        exact v3
      · show F2 1 7 = F2 39 0
        rw [m1, o1 1 7 (by unfold WM; omega), v2 1 7 (by omega) (by omega)]
        exact x17
      · show F2 (zc h + 1) 0 = _
        rw [hi _ _ (by omega), v4.1]
        exact r1
      · show F2 (zc h + 1) 1 = _
        rw [hi _ _ (by omega), v4.2.1]
        exact r2
      · show F2 (zc h + 1) 2 = _
        rw [hi _ _ (by omega), v4.2.2]
        exact r3
      · intro r w hr hw
        refine ⟨?_, o6 r w hr hw⟩
        show F2 (zc h + 2) _ = _
        rw [hi _ _ (by omega), v5]
        exact r4 r w hr hw
      · intro y hy
        refine ⟨?_, ?_⟩
        · show F2 (zc h + 3) _ = _
          rw [hi _ _ (by omega), v6]
          exact r5 y hy
        · show F2 43 _ = _
          by_cases e0 : y = 0
          · rw [e0, o1 43 _ (by unfold WM; omega), gir 43 (by decide) (by decide) (by decide) (by decide) (by decide)]
            exact (w6 nc n3).trans (by unfold tB; rw [if_pos rfl])
          · exact o7 y (by omega) hy
    · have X := x4.resolve_left new
      obtain ⟨F2, M, m1, m2, -⟩ := c_camp_m (sc := sc) (h := g1) (t := t) (k := k) (i := i) (n := n) (nc := nc) (lane := lane) hs1 hk hin (by rw [gI, gr 61 (by decide) (by decide) (by decide) (by decide), gr 62 (by decide) (by decide) (by decide) (by decide)]; exact htk) (fun j hj => by rw [gI, gr 63 (by decide) (by decide) (by decide) (by decide)]; exact tt j hj) d1 (by rw [gI, gr 39 (by decide) (by decide) (by decide) (by decide)]; exact d3)
      have m2 := m2.resolve_left new
      have fr : ∀ a j, a ≠ 3 → a ≠ 4 → ¬ (a = 5 ∧ 1 ≤ j) → ¬ (a = 1 ∧ j = 7) → ¬ (a = 39 ∧ (j = 0 ∨ (7 ≤ j ∧ j ≤ 11))) → a ≠ 45 → a ≠ 46 → F2 a j = zI h a j := fun a j h1 h2 h3 h4 h5 h6 h7 => by rw [m2 a j h5 h6 h7, gI]; exact x1' a j h1 h2 h3 h4
      have e17 : F2 1 7 = 0 := by rw [m2 1 7 (by omega) (by omega) (by omega), gI]; exact x17
      have hE : wIJ (nh g1) F2 (zJ g1) = wIJ g1 F2 (zJ g1) := by rw [nh_eq hs1]
      rw [hE] at M
      have bf : BF (upI (upI h 1 7 0) 39 0 0) (wIJ g1 F2 (zJ g1)) := by
        refine ⟨gz, gK, gN, fun a h1 h2 h3 => gA a h1, fun a j hn => ?_⟩
        show F2 a j = _
        rw [zI_upI]
        by_cases e : a = 39
        · rw [if_pos e, e]
          by_cases e0 : j = 0
          · rw [if_pos e0, e0]; exact m1
          · rw [if_neg e0, fr 39 j (by omega) (by omega) (by omega) (by omega) (fun z => hn (by unfold Scr; omega)) (by omega) (by omega), zIr_upI (by decide)]
        · rw [if_neg e, zI_upI]
          by_cases e1 : a = 1
          · rw [if_pos e1, e1]
            by_cases e7 : j = 7
            · rw [if_pos e7, e7]; exact e17
            · rw [if_neg e7]; exact fr 1 j (by omega) (by omega) (by omega) (by omega) (by omega) (by omega) (by omega)
          · rw [if_neg e1]
            exact fr a j (fun z => hn (by unfold Scr; omega)) (fun z => hn (by unfold Scr; omega)) (fun z => hn (by unfold Scr; omega)) (by omega) (by omega) (fun z => hn (by unfold Scr; omega)) (fun z => hn (by unfold Scr; omega))
      refine ⟨_, g1, wIJ g1 F2 (zJ g1), X, M, bf.sim hs1 (fin_flt hS 0).1, ?_, ?_⟩
      · refine ⟨by show zA g1 6 0 = _; rw [gA 6 (by decide)], fun a ha => funext fun j => fr a j (by omega) (by omega) (by omega) (by omega) (by omega) (by omega) (by omega), by show zJ g1 10 = _; rw [gJ], by show _ ≤ (F2 1 1).toNatClampNeg; rw [fr 1 1 (by omega) (by omega) (by omega) (by omega) (by omega) (by omega) (by omega)]; exact Nat.le_refl _, fun x hx => ⟨by show zA g1 2 x = _; rw [gA 2 (by decide)], fr 40 x (by omega) (by omega) (by omega) (by omega) (by omega) (by omega) (by omega), fr 41 x (by omega) (by omega) (by omega) (by omega) (by omega) (by omega) (by omega), fr 42 x (by omega) (by omega) (by omega) (by omega) (by omega) (by omega) (by omega), fun y _ => fr 43 _ (by omega) (by omega) (by omega) (by omega) (by omega) (by omega) (by omega), fun y _ => fr 44 _ (by omega) (by omega) (by omega) (by omega) (by omega) (by omega) (by omega)⟩⟩
      · exact Or.inr ⟨fr 15 6 (by omega) (by omega) (by omega) (by omega) (by omega) (by omega) (by omega), fr 15 1 (by omega) (by omega) (by omega) (by omega) (by omega) (by omega) (by omega), fr 39 18 (by omega) (by omega) (by omega) (by omega) (by omega) (by omega) (by omega), fun a ha => funext fun j => fr a j (by omega) (by omega) (by omega) (by omega) (by omega) (by omega) (by omega)⟩
end
