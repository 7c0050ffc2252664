/-- the cells that were there are as they were -/
def Old (h g : Hp) : Prop := ∀ a, 65 ≤ a → a ≤ zc h → zI g a = zI h a ∧ zA g a = zA h a ∧ zK g a = zK h a ∧ zN g a = zN h a
theorem CampOK_old {h g : Hp} {j : Nat} (o : Old h g) (z : ∀ a, zc h < a → zK h a = 99) (e2 : zA g 2 j = zA h 2 j) (e40 : zI g 40 j = zI h 40 j) (e41 : zI g 41 j = zI h 41 j) (e42 : zI g 42 j = zI h 42 j) (e43 : ∀ k, k < 5 → zI g 43 (5 * j + k) = zI h 43 (5 * j + k)) (e44 : ∀ k, k < 15 → zI g 44 (15 * j + k) = zI h 44 (15 * j + k)) (hC : CampOK h j) : CampOK g j := by
  obtain ⟨c, nb, br, L, S, P, q1, q2, q3, q4, q5, q6, q7, q8, q9, q10, q11, q12, q13, q14, q15, q16, q17, q18, q19, q20, q21, q22, q23, q24, q25⟩ := hC
  have hz : ∀ a, zK h a ≠ 99 → a ≤ zc h := fun a ha => Nat.le_of_not_lt fun w => ha (z a w)
  obtain ⟨i1, i2, i3, i4⟩ := o c q4 (hz c (by rw [q8]; decide))
  obtain ⟨n1, n2, n3, n4⟩ := o nb q5 (hz nb (by rw [q9]; decide))
  obtain ⟨b1, b2, b3, b4⟩ := o br q6 (hz br (by rw [q11]; decide))
  refine ⟨c, nb, br, L, S, P, by rw [e2]; exact q1, by rw [i2]; exact q2, by rw [i2]; exact q3, q4, q5, q6, q7, by rw [i3]; exact q8, by rw [n3]; exact q9, by rw [n4]; exact q10, by rw [b3]; exact q11, by rw [b4]; exact q12, q13, q14, q15, q16, q17, by rw [i1]; exact q18, by rw [e40]; exact q19, by rw [i1]; exact q20, by rw [e41]; exact q21, by rw [i1]; exact q22, by rw [e42]; exact q23, fun s w hs hw => ?_, fun k hk => ?_⟩
  · obtain ⟨v, v1, v2, v3, v4⟩ := q24 s w hs hw
    refine ⟨v, v1, v2, by rw [n1]; exact v3, ?_⟩
    rw [Nat.add_assoc, e44 (5 * s + w) (by omega), ← Nat.add_assoc]
    exact v4
  · obtain ⟨v, v1, v2, v3, v4⟩ := q25 k hk
    exact ⟨v, v1, v2, by rw [b1]; exact v3, by rw [e43 k (by omega)]; exact v4⟩
theorem pkd_99 (kd : Nat) : pkd kd ≠ 99 := by
  unfold pkd
  split
  · decide
  · split <;> decide
theorem PartOK_old {h g : Hp} {p : Nat} (o : Old h g) (z : ∀ a, zc h < a → zK h a = 99) (e16 : zA g 16 p = zA h 16 p) (e51 : zI g 51 p = zI h 51 p) (e52 : zI g 52 p = zI h 52 p) (e53 : zI g 53 p = zI h 53 p) (e54 : zI g 54 p = zI h 54 p) (e55 : zI g 55 p = zI h 55 p) (e56 : zI g 56 p = zI h 56 p) (e17 : zI g 17 = zI h 17) (hP : PartOK h p) : PartOK g p := by
  obtain ⟨a, kd, st, hr, gd, hd, pl, z1, z2, z3, z4, z5⟩ := hP
  have hz : ∀ a, zK h a ≠ 99 → a ≤ zc h := fun a ha => Nat.le_of_not_lt fun w => ha (z a w)
  obtain ⟨i1, i2, i3, i4⟩ := o a z2 (hz a (by rw [z4]; exact pkd_99 kd))
  refine ⟨a, kd, st, hr, gd, hd, pl, by rw [e16]; exact z1, z2, z3, by rw [i3]; exact z4, ?_⟩
  rw [i1, e51, e52, e53, e54, e55, e56, e17]
  exact z5
section
variable {sc : Nat × (Nat → Int32)} {h : Hp}
def mPart (h : Hp) (kd np st hr : Nat) : Hp := upI (upI (upI (upI (upI (upI h 51 np (nI kd)) 52 np (nI st)) 53 np (nI hr)) 54 np 1) 56 np (-9)) 39 18 (nI (np + 1))
theorem c_inMN (k : Int32) {l m : Int64} {n n0 : Int} (hl : l.toInt = n0) (hm : m.toInt = n) : Cc sc 139 [.long k.toInt64, .long l, .long m] h (some (.int (bI (decide (n0 ≤ k.toInt ∧ k.toInt ≤ n))))) h := by
  have := c_in (sc := sc) (h := h) k.toInt64 l m
  rw [wide, hl, hm] at this
  exact this
theorem c_part_m (hs : Shp h) {kd np st hr : Nat} (hkd : kd ≤ 2) (hst : st ≤ 2) (h1 : 1 ≤ hr) (h9 : hr ≤ 9) (hn : np < 12) (e : zI h 39 18 = nI np) : Cc sc 185 [.ref 39, .int (nI kd), .int (nI st), .int (nI hr)] h (some (.int (nI np))) (mPart h kd np st hr) := by
  have ip : inB (nI np) 12 = true := inB_nI (by omega) (by decide)
  have ep : (nI np).toNatClampNeg = np := nI_clamp (by omega)
  have e0 : zI (nh h) 39 18 = nI np := e
  refine cc_nh (F := fun h => mPart h kd np st hr) hs (cc_of 80 rfl rfl ?_)
  refine And.intro rfl (And.intro rfl (Exists.intro _ (Exists.intro _ (And.intro (c_inN _ (m := 2) (n := 2) (by decide)) ?_))))
  refine br_f (by first | assumption | (simp (discharger := omega) only [i_lt, i_le, i_eq, bI_tz, decide_eq_false_iff_not, Int32.reduceToInt, nI_toInt, tm1, tm2, tm3, tm4, tm9]; done) | (simp (discharger := omega) only [i_lt, i_le, i_eq, bI_tz, decide_eq_false_iff_not, Int32.reduceToInt, nI_toInt, tm1, tm2, tm3, tm4, tm9]; omega) | omega) ?_
  refine And.intro rfl (And.intro rfl (Exists.intro _ (Exists.intro _ (And.intro (c_noYardSort _) ?_))))
  refine br_f (by first | assumption | (simp (discharger := omega) only [i_lt, i_le, i_eq, bI_tz, decide_eq_false_iff_not, Int32.reduceToInt, nI_toInt, tm1, tm2, tm3, tm4, tm9]; done) | (simp (discharger := omega) only [i_lt, i_le, i_eq, bI_tz, decide_eq_false_iff_not, Int32.reduceToInt, nI_toInt, tm1, tm2, tm3, tm4, tm9]; omega) | omega) ?_
  refine And.intro rfl (And.intro rfl (Exists.intro _ (Exists.intro _ (And.intro (c_inMN _ (l := 1) (m := 9) (n0 := 1) (n := 9) (by decide) (by decide)) ?_))))
  refine br_t (by first | assumption | (simp (discharger := omega) only [i_lt, i_le, i_eq, bI_tz, decide_eq_false_iff_not, Int32.reduceToInt, nI_toInt, tm1, tm2, tm3, tm4, tm9]; done) | (simp (discharger := omega) only [i_lt, i_le, i_eq, bI_tz, decide_eq_false_iff_not, Int32.reduceToInt, nI_toInt, tm1, tm2, tm3, tm4, tm9]; omega) | omega) ?_
  refine And.intro rfl ?_
  refine br_t (show ¬ zI (nh h) 39 18 = 12 by rw [e0, show (12 : Int32) = nI 12 from rfl, nI_eq (by omega) (by omega)]; omega) ?_
  refine And.intro rfl ?_
  refine And.intro rfl ?_
  rw [e0]
  refine And.intro (⟨rfl, ip⟩) ?_
  rw [ep]
  refine And.intro rfl ?_
  refine And.intro rfl ?_
  rw [show zI (upI (nh h) (zA (nh h) 39 19) np (nI kd)) 39 18 = nI np from e0]
  refine And.intro (⟨rfl, ip⟩) ?_
  rw [ep]
  refine And.intro rfl ?_
  refine And.intro rfl ?_
  rw [show zI (upI (upI (nh h) (zA (nh h) 39 19) np (nI kd)) (zA (upI (nh h) (zA (nh h) 39 19) np (nI kd)) 39 20) np (nI st)) 39 18 = nI np from e0]
  refine And.intro (⟨rfl, ip⟩) ?_
  rw [ep]
  refine And.intro rfl ?_
  refine And.intro rfl ?_
  generalize hg : upI (upI (upI (nh h) _ np (nI kd)) _ np (nI st)) _ np (nI hr) = g
  have hg' : g = upI (upI (upI (nh h) 51 np (nI kd)) 52 np (nI st)) 53 np (nI hr) := hg.symm
  subst hg'
  rw [show zI (upI (upI (upI (nh h) 51 np (nI kd)) 52 np (nI st)) 53 np (nI hr)) 39 18 = nI np from e0]
  refine And.intro (⟨rfl, ip, Or.inr rfl⟩) ?_
  rw [ep]
  refine And.intro rfl ?_
  refine And.intro rfl ?_
  generalize hg : upI (upI (upI (upI (nh h) _ np (nI kd)) _ np (nI st)) _ np (nI hr)) _ np 1 = g
  have hg' : g = upI (upI (upI (upI (nh h) 51 np (nI kd)) 52 np (nI st)) 53 np (nI hr)) 54 np 1 := hg.symm
  subst hg'
  rw [show zI (upI (upI (upI (upI (nh h) 51 np (nI kd)) 52 np (nI st)) 53 np (nI hr)) 54 np 1) 39 18 = nI np from e0]
  refine And.intro (⟨rfl, ip⟩) ?_
  rw [ep]
  refine And.intro rfl ?_
  refine And.intro rfl ?_
  refine And.intro rfl ?_
  rw [zI_up_self]
  refine ⟨Or.inl rfl, ?_, ?_⟩
  · refine congrArg (fun v => some (Value.int v)) (show zI (nh h) 39 18 + 1 - 1 = nI np from ?_)
    rw [e0, nI_1, nI_pred]
  · show upI (upI (upI (upI (upI (upI (nh h) 51 np (nI kd)) 52 np (nI st)) 53 np (nI hr)) 54 np 1) 56 np (-9)) 39 18 (zI (nh h) 39 18 + 1) = _
    rw [e0, nI_1]
    rfl
theorem shp_nw {h : Hp} (hs : Shp h) (hz : 64 ≤ zc h) (k n : Nat) : Shp (nwC h k n) := by
  constructor
  · intro a ha
    rw [zKr_nw (by omega), zNr_nw (by omega)]
    exact hs.1 a ha
  · intro q hq
    have : ∀ q ∈ FAs, q.1 ≤ 64 := by decide
    rw [zAr_nw (by have := this q hq; omega)]
    exact hs.2 q hq
theorem shp_upA {h : Hp} (hs : Shp h) {a : Nat} (j v : Nat) (ha : ∀ q ∈ FAs, q.1 ≠ a) : Shp (upA h a j v) := by
  refine ⟨hs.1, ?_⟩
  intro q hq
  rw [zAr_upA (ha q hq)]
  exact hs.2 q hq
theorem op_part (hS : Sim0 h) (k s u : Int32) : Op1 sc 101 185 [.int k, .int s, .int u] h := by
  have hs := hS.1
  have hP := hS.2.2.2.2.1
  obtain ⟨np, c1, c2, c3, c4, c5, c6, c7⟩ := hP
  obtain ⟨nc, d1, d2, d3, d4, d5⟩ := hS.2.2.2.1
  obtain ⟨y1, y2, y3, y4, y5, y6⟩ := hS.2.2.2.2.2
  by_cases q : (0 ≤ k.toInt ∧ k.toInt < 3) ∧ (0 ≤ s.toInt ∧ s.toInt < 3) ∧ (1 ≤ u.toInt ∧ u.toInt ≤ 9)
  · obtain ⟨q1, q2, q3⟩ := q
    obtain ⟨kd, hk, rfl⟩ := i_of q1.1 (n := 3) q1.2 (by decide)
    obtain ⟨st, hst, rfl⟩ := i_of q2.1 (n := 3) q2.2 (by decide)
    obtain ⟨hr, hhr, rfl⟩ := i_of (a := u) (n := 10) (by omega) (by omega) (by decide)
    have q3' := q3
    rw [nI_toInt (by omega)] at q3'
    by_cases qn : np < 12
    · have hs1 : Shp (nPart h kd np (nI st) (nI hr)) := shp_upA (h := iPart (nwC h (pkd kd) 6) (zc h + 1) (nI np) (nI st) (nI hr)) (shp_nw hs y1 (pkd kd) 6) np (zc h + 1) (by decide)
      have E : ∀ x, x ≤ 64 → x ≠ 15 → zI (nPart h kd np (nI st) (nI hr)) x = zI h x := fun x h1 h2 => by
        unfold nPart
        rw [zIr_upI h2, zIr_upI h2, zI_upA, zI_iPart (by omega), zIr_nw (by omega)]
      have E15 : ∀ j, zI (nPart h kd np (nI st) (nI hr)) 15 j = if j = 1 then nI (np + 1) else if j = 6 then 0 else zI h 15 j := fun j => by
        unfold nPart
        rw [zI_upI, if_pos rfl]
        by_cases e1 : j = 1
        · rw [if_pos e1, if_pos e1]
        · rw [if_neg e1, if_neg e1, zI_upI, if_pos rfl]
          by_cases e6 : j = 6
          · rw [if_pos e6, if_pos e6]
          · rw [if_neg e6, if_neg e6, zI_upA, zI_iPart (by omega), zIr_nw (by omega)]
      refine ⟨.int (nI np), nPart h kd np (nI st) (nI hr), mPart (nPart h kd np (nI st) (nI hr)) kd np st hr, ?_, c_part_m hs1 (by omega) (by omega) (by omega) (by omega) qn (by rw [E 39 (by decide) (by decide)]; exact c3), ?_⟩
      · refine cc_nh (F := fun h => nPart h kd np (nI st) (nI hr)) hs (cc_of 60 rfl rfl ?_)
        refine br_f (show ¬ (nI kd < 0) by first | assumption | (simp (discharger := omega) only [i_lt, i_le, i_eq, bI_tz, decide_eq_false_iff_not, Int32.reduceToInt, nI_toInt, tm1, tm2, tm3, tm4, tm9]; done) | (simp (discharger := omega) only [i_lt, i_le, i_eq, bI_tz, decide_eq_false_iff_not, Int32.reduceToInt, nI_toInt, tm1, tm2, tm3, tm4, tm9]; omega) | omega) ?_
        refine br_f (show ¬ (3 ≤ nI kd) by first | assumption | (simp (discharger := omega) only [i_lt, i_le, i_eq, bI_tz, decide_eq_false_iff_not, Int32.reduceToInt, nI_toInt, tm1, tm2, tm3, tm4, tm9]; done) | (simp (discharger := omega) only [i_lt, i_le, i_eq, bI_tz, decide_eq_false_iff_not, Int32.reduceToInt, nI_toInt, tm1, tm2, tm3, tm4, tm9]; omega) | omega) ?_
        refine And.intro rfl (And.intro rfl (Exists.intro _ (Exists.intro _ (And.intro (c_isYardSort _) ?_))))
        refine br_f (by first | assumption | (simp (discharger := omega) only [i_lt, i_le, i_eq, bI_tz, decide_eq_false_iff_not, Int32.reduceToInt, nI_toInt, tm1, tm2, tm3, tm4, tm9]; done) | (simp (discharger := omega) only [i_lt, i_le, i_eq, bI_tz, decide_eq_false_iff_not, Int32.reduceToInt, nI_toInt, tm1, tm2, tm3, tm4, tm9]; omega) | omega) ?_
        refine br_f (show ¬ (nI hr < 1) by first | assumption | (simp (discharger := omega) only [i_lt, i_le, i_eq, bI_tz, decide_eq_false_iff_not, Int32.reduceToInt, nI_toInt, tm1, tm2, tm3, tm4, tm9]; done) | (simp (discharger := omega) only [i_lt, i_le, i_eq, bI_tz, decide_eq_false_iff_not, Int32.reduceToInt, nI_toInt, tm1, tm2, tm3, tm4, tm9]; omega) | omega) ?_
        refine br_t (show nI hr ≤ 9 by first | assumption | (simp (discharger := omega) only [i_lt, i_le, i_eq, bI_tz, decide_eq_false_iff_not, Int32.reduceToInt, nI_toInt, tm1, tm2, tm3, tm4, tm9]; done) | (simp (discharger := omega) only [i_lt, i_le, i_eq, bI_tz, decide_eq_false_iff_not, Int32.reduceToInt, nI_toInt, tm1, tm2, tm3, tm4, tm9]; omega) | omega) ?_
        refine And.intro rfl ?_
        refine And.intro ⟨rfl, rfl⟩ (And.intro rfl (Exists.intro _ (Exists.intro _ (And.intro (c_addPart (h := nh h) (shp_nh hs) (by omega : kd ≤ 2) qn c2 y1 (nI st) (nI hr)) ?_))))
        exact ⟨Or.inl rfl, rfl, rfl⟩
      · generalize hH : nPart h kd np (nI st) (nI hr) = H at *
        have F : ∀ x, x ≤ 64 → x ≠ 15 → x ≠ 51 → x ≠ 52 → x ≠ 53 → x ≠ 54 → x ≠ 56 → x ≠ 39 → zI (mPart H kd np st hr) x = zI h x := fun x h1 h2 h3 h4 h5 h6 h7 h8 => by
          unfold mPart
          rw [zIr_upI (by omega), zIr_upI (by omega), zIr_upI (by omega), zIr_upI (by omega), zIr_upI (by omega), zIr_upI (by omega), E x h1 h2]
        have F15 : ∀ j, zI (mPart H kd np st hr) 15 j = if j = 1 then nI (np + 1) else if j = 6 then 0 else zI h 15 j := fun j => by
          unfold mPart
          rw [zIr_upI (by omega), zIr_upI (by omega), zIr_upI (by omega), zIr_upI (by omega), zIr_upI (by omega), zIr_upI (by omega), E15 j]
        have F39 : ∀ j, zI (mPart H kd np st hr) 39 j = if j = 18 then nI (np + 1) else zI h 39 j := fun j => by
          unfold mPart
          rw [zI_upI, if_pos rfl, zIr_upI (by omega), zIr_upI (by omega), zIr_upI (by omega), zIr_upI (by omega), zIr_upI (by omega), E 39 (by decide) (by decide)]
        have G : ∀ x v, (x = 51 ∧ v = nI kd) ∨ (x = 52 ∧ v = nI st) ∨ (x = 53 ∧ v = nI hr) ∨ (x = 54 ∧ v = 1) ∨ (x = 56 ∧ v = -9) → ∀ j, zI (mPart H kd np st hr) x j = if j = np then v else zI h x j := by
          intro x v hx j
          unfold mPart
          simp only [zI_upI]
          rw [E 51 (by decide) (by decide), E 52 (by decide) (by decide), E 53 (by decide) (by decide), E 54 (by decide) (by decide), E 56 (by decide) (by decide)]
          rcases hx with ⟨rfl, rfl⟩ | ⟨rfl, rfl⟩ | ⟨rfl, rfl⟩ | ⟨rfl, rfl⟩ | ⟨rfl, rfl⟩
          all_goals simp
        have A0 : zA (mPart H kd np st hr) = zA (upA (nwC h (pkd kd) 6) 16 np (zc h + 1)) := by rw [← hH]; rfl
        have K0' : zK (mPart H kd np st hr) = zK (nwC h (pkd kd) 6) := by rw [← hH]; rfl
        have N0' : zN (mPart H kd np st hr) = zN (nwC h (pkd kd) 6) := by rw [← hH]; rfl
        have J0' : zJ (mPart H kd np st hr) = zJ (nwC h (pkd kd) 6) := by rw [← hH]; rfl
        have Z0 : (mPart H kd np st hr).1 = (zc h + 1, zs h + 6) := by rw [← hH]; rfl
        have A1 : ∀ x, x ≠ 16 → x ≤ zc h → zA (mPart H kd np st hr) x = zA h x := fun x h1 h2 => by rw [A0, zAr_upA h1, zAr_nw (by omega)]
        have A16 : ∀ p, zA (mPart H kd np st hr) 16 p = if p = np then zc h + 1 else zA h 16 p := fun p => by
          rw [A0, zA_upA, if_pos rfl, zAr_nw (by omega)]
        have B : ∀ x, 65 ≤ x → x ≤ zc h → zI (mPart H kd np st hr) x = zI h x := fun x h1 h2 => by
          unfold mPart
          rw [zIr_upI (by omega), zIr_upI (by omega), zIr_upI (by omega), zIr_upI (by omega), zIr_upI (by omega), zIr_upI (by omega), ← hH]
          unfold nPart
          rw [zIr_upI (by omega), zIr_upI (by omega), zI_upA, zI_iPart (by omega), zIr_nw (by omega)]
        have NW : ∀ j, zI (mPart H kd np st hr) (zc h + 1) j = zI (iPart (nwC h (pkd kd) 6) (zc h + 1) (nI np) (nI st) (nI hr)) (zc h + 1) j := fun j => by
          unfold mPart
          rw [zIr_upI (by omega), zIr_upI (by omega), zIr_upI (by omega), zIr_upI (by omega), zIr_upI (by omega), zIr_upI (by omega), ← hH]
          unfold nPart
          rw [zIr_upI (by omega), zIr_upI (by omega), zI_upA]
        have O : Old h (mPart H kd np st hr) := fun a h1 h2 => ⟨B a h1 h2, A1 a (by omega) h2, by rw [K0', zKr_nw (by omega)], by rw [N0', zNr_nw (by omega)]⟩
        have n12 : (nI np).toNatClampNeg = np := nI_clamp (by omega)
        have n13 : (nI (np + 1)).toNatClampNeg = np + 1 := nI_clamp (by omega)
        refine ⟨⟨hs1, ?_, ?_, ?_, ?_, ?_⟩, ?_, Or.inl (by rw [F15, if_neg (by decide), if_pos rfl])⟩
        · refine SimA_congr ?_ ?_ ?_ ?_ ?_ ?_ ?_ ?_ hS.2.1
          · rw [F 1 (by decide) (by decide) (by decide) (by decide) (by decide) (by decide) (by decide) (by decide)]
          · rw [F39, if_neg (by decide)]
          · rw [F 30 (by decide) (by decide) (by decide) (by decide) (by decide) (by decide) (by decide) (by decide)]
          · rw [F39, if_neg (by decide)]
          · rw [F15, if_neg (by decide), if_neg (by decide)]
          · rw [F39, if_neg (by decide)]
          · exact F 18 (by decide) (by decide) (by decide) (by decide) (by decide) (by decide) (by decide) (by decide)
          · exact F 58 (by decide) (by decide) (by decide) (by decide) (by decide) (by decide) (by decide) (by decide)
        · intro j hj
          refine RowOK_congr ?_ ?_ (fun i _ => ?_) ?_ ?_ (hS.2.2.1 j hj)
          · rw [F 61 (by decide) (by decide) (by decide) (by decide) (by decide) (by decide) (by decide) (by decide)]
          · rw [F 62 (by decide) (by decide) (by decide) (by decide) (by decide) (by decide) (by decide) (by decide)]
          · rw [F 63 (by decide) (by decide) (by decide) (by decide) (by decide) (by decide) (by decide) (by decide)]
          · exact F (31 + 2 * j) (by omega) (by omega) (by omega) (by omega) (by omega) (by omega) (by omega) (by omega)
          · exact F (32 + 2 * j) (by omega) (by omega) (by omega) (by omega) (by omega) (by omega) (by omega) (by omega)
        · refine ⟨nc, d1, ?_, ?_, fun j hj => CampOK_old O y4 ?_ ?_ ?_ ?_ ?_ ?_ (d4 j hj), ?_⟩
          · rw [F 1 (by decide) (by decide) (by decide) (by decide) (by decide) (by decide) (by decide) (by decide)]
            exact d2
          · rw [F39, if_neg (by decide)]
            exact d3
          · rw [A1 2 (by decide) (by omega)]
          · rw [F 40 (by decide) (by decide) (by decide) (by decide) (by decide) (by decide) (by decide) (by decide)]
          · rw [F 41 (by decide) (by decide) (by decide) (by decide) (by decide) (by decide) (by decide) (by decide)]
          · rw [F 42 (by decide) (by decide) (by decide) (by decide) (by decide) (by decide) (by decide) (by decide)]
          · rw [F 43 (by decide) (by decide) (by decide) (by decide) (by decide) (by decide) (by decide) (by decide)]
            exact fun _ _ => rfl
          · rw [F 44 (by decide) (by decide) (by decide) (by decide) (by decide) (by decide) (by decide) (by decide)]
            exact fun _ _ => rfl
          · intro i j hi hj hij
            obtain ⟨c, nb, br, L, S, P, w1, w2, w3, w4, w5, w6, w7, w8, -⟩ := d4 i hi
            obtain ⟨c', nb', br', L', S', P', v1, v2, v3, v4, v5, v6, v7, v8, -⟩ := d4 j hj
            have hz : ∀ a, zK h a ≠ 99 → a ≤ zc h := fun a ha => Nat.le_of_not_lt fun w => ha (y4 a w)
            have := d5 i j hi hj hij
            have m1 := hz c (by rw [w8]; decide)
            have m2 := hz c' (by rw [v8]; decide)
            rw [A1 2 (by decide) (by omega), A1 (zA h 2 i) (by rw [w1]; omega) (by rw [w1]; exact m1), A1 (zA h 2 j) (by rw [v1]; omega) (by rw [v1]; exact m2)]
            exact this
        · refine ⟨np + 1, by omega, by rw [F15, if_pos rfl], by rw [F39, if_pos rfl], fun p hp => ?_, fun p h1 h2 => ?_, ?_, ?_⟩
          · by_cases e : p = np
            · subst e
              refine ⟨zc h + 1, kd, st, hr, true, false, none, by rw [A16, if_pos rfl], by omega, by omega, by rw [K0']; exact zK_nw1, ?_, by omega, ?_, by omega, by omega, ?_, ?_, ?_, ?_, by rw [G 51 (nI kd) (by simp), if_pos rfl], by rw [G 52 (nI st) (by simp), if_pos rfl], by rw [G 53 (nI hr) (by simp), if_pos rfl], by rw [G 54 1 (by simp), if_pos rfl]; rfl, ?_, by rw [G 56 (-9) (by simp), if_pos rfl]; rfl, fun x hx => nomatch hx⟩
              · rw [NW]; simp [iPart, zI_upI]
              · rw [NW]; simp [iPart, zI_upI]
              · rw [NW]; simp [iPart, zI_upI]
              · rw [NW]; simp [iPart, zI_upI, bI]
              · rw [NW]; simp [iPart, zI_upI, bI]
              · rw [NW]; simp [iPart, zI_upI, plI]
              · rw [F 55 (by decide) (by decide) (by decide) (by decide) (by decide) (by decide) (by decide) (by decide)]
                exact c5 p (Nat.le_refl _) (by omega)
            · exact PartOK_old O y4 (by rw [A16, if_neg e]) (by rw [G 51 (nI kd) (by simp), if_neg e]) (by rw [G 52 (nI st) (by simp), if_neg e]) (by rw [G 53 (nI hr) (by simp), if_neg e]) (by rw [G 54 1 (by simp), if_neg e]) (by rw [F 55 (by decide) (by decide) (by decide) (by decide) (by decide) (by decide) (by decide) (by decide)]) (by rw [G 56 (-9) (by simp), if_neg e]) (F 17 (by decide) (by decide) (by decide) (by decide) (by decide) (by decide) (by decide) (by decide)) (c4 p (by omega))
          · rw [F 55 (by decide) (by decide) (by decide) (by decide) (by decide) (by decide) (by decide) (by decide)]
            exact c5 p (by omega) h2
          · intro x hx
            rw [F 17 (by decide) (by decide) (by decide) (by decide) (by decide) (by decide) (by decide) (by decide), F 57 (by decide) (by decide) (by decide) (by decide) (by decide) (by decide) (by decide) (by decide)]
            rcases c6 x hx with z | ⟨p, z0, z1, z2, z3⟩
            · exact Or.inl z
            · exact Or.inr ⟨p, by omega, z1, z2, by rw [G 56 (-9) (by simp), if_neg (by omega)]; exact z3⟩
          · have hz : ∀ p, p < np → zA h 16 p ≤ zc h := fun p hp => by
              obtain ⟨a, kd, st, hr, gd, hd, pl, z1, z2, z3, z4, z5⟩ := c4 p hp
              rw [z1]
              exact Nat.le_of_not_lt fun w => absurd (y4 a w) (by rw [z4]; exact pkd_99 kd)
            intro p p' hp hp' hpp
            rw [A16, A16]
            by_cases e1 : p = np
            · have := hz p' (by omega)
              rw [if_pos e1, if_neg (by omega)]
              omega
            · have := hz p (by omega)
              rw [if_neg e1]
              by_cases e2 : p' = np
              · rw [if_pos e2]
                omega
              · rw [if_neg e2]
                exact c7 p p' (by omega) (by omega) hpp
        · refine ⟨?_, ?_, ?_, ?_, ?_, ?_⟩
          · rw [show zc (mPart H kd np st hr) = zc h + 1 by rw [show zc (mPart H kd np st hr) = (mPart H kd np st hr).1.1 from rfl, Z0]]
            omega
          · rw [show zc (mPart H kd np st hr) = zc h + 1 by rw [show zc (mPart H kd np st hr) = (mPart H kd np st hr).1.1 from rfl, Z0], F15, if_pos rfl, F 1 (by decide) (by decide) (by decide) (by decide) (by decide) (by decide) (by decide) (by decide), n13]
            rw [c2, n12] at y2
            omega
          · rw [show zs (mPart H kd np st hr) = zs h + 6 by rw [show zs (mPart H kd np st hr) = (mPart H kd np st hr).1.2 from rfl, Z0], F15, if_pos rfl, F 1 (by decide) (by decide) (by decide) (by decide) (by decide) (by decide) (by decide) (by decide), n13]
            rw [c2, n12] at y3
            omega
          · intro a ha
            rw [show zc (mPart H kd np st hr) = zc h + 1 by rw [show zc (mPart H kd np st hr) = (mPart H kd np st hr).1.1 from rfl, Z0]] at ha
            rw [K0', zKr_nw (by omega)]
            exact y4 a (by omega)
          · rw [F 5 (by decide) (by decide) (by decide) (by decide) (by decide) (by decide) (by decide) (by decide)]
            exact y5
          · intro j hj
            rw [F 43 (by decide) (by decide) (by decide) (by decide) (by decide) (by decide) (by decide) (by decide)]
            exact y6 j hj
        · refine ⟨by rw [A1 6 (by decide) (by omega)], ?_, by rw [J0', zJr_nw (by omega)], ?_, fun x hx => ⟨by rw [A1 2 (by decide) (by omega)], ?_, ?_, ?_, ?_, ?_⟩⟩
          · intro a ha
            exact F a (by omega) (by omega) (by omega) (by omega) (by omega) (by omega) (by omega) (by omega)
          · rw [F 1 (by decide) (by decide) (by decide) (by decide) (by decide) (by decide) (by decide) (by decide)]
            exact Nat.le_refl _
          · rw [F 40 (by decide) (by decide) (by decide) (by decide) (by decide) (by decide) (by decide) (by decide)]
          · rw [F 41 (by decide) (by decide) (by decide) (by decide) (by decide) (by decide) (by decide) (by decide)]
          · rw [F 42 (by decide) (by decide) (by decide) (by decide) (by decide) (by decide) (by decide) (by decide)]
          · rw [F 43 (by decide) (by decide) (by decide) (by decide) (by decide) (by decide) (by decide) (by decide)]
            exact fun _ _ => rfl
          · rw [F 44 (by decide) (by decide) (by decide) (by decide) (by decide) (by decide) (by decide) (by decide)]
            exact fun _ _ => rfl
    · have n12 : np = 12 := by omega
      subst n12
      refine ⟨.int (-4), h, h, ?_, ?_, hS, (fin_same hS).2.O⟩
      · refine cc_nh (F := fun h => h) hs (cc_of 60 rfl rfl ?_)
        refine br_f (show ¬ (nI kd < 0) by first | assumption | (simp (discharger := omega) only [i_lt, i_le, i_eq, bI_tz, decide_eq_false_iff_not, Int32.reduceToInt, nI_toInt, tm1, tm2, tm3, tm4, tm9]; done) | (simp (discharger := omega) only [i_lt, i_le, i_eq, bI_tz, decide_eq_false_iff_not, Int32.reduceToInt, nI_toInt, tm1, tm2, tm3, tm4, tm9]; omega) | omega) ?_
        refine br_f (show ¬ (3 ≤ nI kd) by first | assumption | (simp (discharger := omega) only [i_lt, i_le, i_eq, bI_tz, decide_eq_false_iff_not, Int32.reduceToInt, nI_toInt, tm1, tm2, tm3, tm4, tm9]; done) | (simp (discharger := omega) only [i_lt, i_le, i_eq, bI_tz, decide_eq_false_iff_not, Int32.reduceToInt, nI_toInt, tm1, tm2, tm3, tm4, tm9]; omega) | omega) ?_
        refine And.intro rfl (And.intro rfl (Exists.intro _ (Exists.intro _ (And.intro (c_isYardSort _) ?_))))
        refine br_f (by first | assumption | (simp (discharger := omega) only [i_lt, i_le, i_eq, bI_tz, decide_eq_false_iff_not, Int32.reduceToInt, nI_toInt, tm1, tm2, tm3, tm4, tm9]; done) | (simp (discharger := omega) only [i_lt, i_le, i_eq, bI_tz, decide_eq_false_iff_not, Int32.reduceToInt, nI_toInt, tm1, tm2, tm3, tm4, tm9]; omega) | omega) ?_
        refine br_f (show ¬ (nI hr < 1) by first | assumption | (simp (discharger := omega) only [i_lt, i_le, i_eq, bI_tz, decide_eq_false_iff_not, Int32.reduceToInt, nI_toInt, tm1, tm2, tm3, tm4, tm9]; done) | (simp (discharger := omega) only [i_lt, i_le, i_eq, bI_tz, decide_eq_false_iff_not, Int32.reduceToInt, nI_toInt, tm1, tm2, tm3, tm4, tm9]; omega) | omega) ?_
        refine br_t (show nI hr ≤ 9 by first | assumption | (simp (discharger := omega) only [i_lt, i_le, i_eq, bI_tz, decide_eq_false_iff_not, Int32.reduceToInt, nI_toInt, tm1, tm2, tm3, tm4, tm9]; done) | (simp (discharger := omega) only [i_lt, i_le, i_eq, bI_tz, decide_eq_false_iff_not, Int32.reduceToInt, nI_toInt, tm1, tm2, tm3, tm4, tm9]; omega) | omega) ?_
        refine And.intro rfl ?_
        have hc : Cc sc 79 [.ref 15, .int (nI kd), .int (nI st), .int (nI hr)] (nh h) (some (.int (-4))) (nh h) := by
          refine cc_of 20 rfl rfl ?_
          refine And.intro rfl ?_
          refine br_f (show ¬ zI (nh h) 15 1 < 12 by rw [show zI (nh h) 15 1 = nI 12 from c2]; decide) ?_
          exact ⟨Or.inl rfl, rfl, rfl⟩
        refine And.intro ⟨rfl, rfl⟩ (And.intro rfl (Exists.intro _ (Exists.intro _ (And.intro (hc) ?_))))
        exact ⟨Or.inl rfl, rfl, rfl⟩
      · refine cc_nh (F := fun h => h) hs (cc_of 60 rfl rfl ?_)
        refine And.intro rfl (And.intro rfl (Exists.intro _ (Exists.intro _ (And.intro (c_inN _ (m := 2) (n := 2) (by decide)) ?_))))
        refine br_f (by first | assumption | (simp (discharger := omega) only [i_lt, i_le, i_eq, bI_tz, decide_eq_false_iff_not, Int32.reduceToInt, nI_toInt, tm1, tm2, tm3, tm4, tm9]; done) | (simp (discharger := omega) only [i_lt, i_le, i_eq, bI_tz, decide_eq_false_iff_not, Int32.reduceToInt, nI_toInt, tm1, tm2, tm3, tm4, tm9]; omega) | omega) ?_
        refine And.intro rfl (And.intro rfl (Exists.intro _ (Exists.intro _ (And.intro (c_noYardSort _) ?_))))
        refine br_f (by first | assumption | (simp (discharger := omega) only [i_lt, i_le, i_eq, bI_tz, decide_eq_false_iff_not, Int32.reduceToInt, nI_toInt, tm1, tm2, tm3, tm4, tm9]; done) | (simp (discharger := omega) only [i_lt, i_le, i_eq, bI_tz, decide_eq_false_iff_not, Int32.reduceToInt, nI_toInt, tm1, tm2, tm3, tm4, tm9]; omega) | omega) ?_
        refine And.intro rfl (And.intro rfl (Exists.intro _ (Exists.intro _ (And.intro (c_inMN _ (l := 1) (m := 9) (n0 := 1) (n := 9) (by decide) (by decide)) ?_))))
        refine br_t (by first | assumption | (simp (discharger := omega) only [i_lt, i_le, i_eq, bI_tz, decide_eq_false_iff_not, Int32.reduceToInt, nI_toInt, tm1, tm2, tm3, tm4, tm9]; done) | (simp (discharger := omega) only [i_lt, i_le, i_eq, bI_tz, decide_eq_false_iff_not, Int32.reduceToInt, nI_toInt, tm1, tm2, tm3, tm4, tm9]; omega) | omega) ?_
        refine And.intro rfl ?_
        refine br_f (show ¬ ¬ zI (nh h) 39 18 = 12 from fun z => z c3) ?_
        exact ⟨Or.inl rfl, rfl, rfl⟩
  · refine ⟨.int (-2), h, h, ?_, ?_, hS, (fin_same hS).2.O⟩
    · refine cc_nh (F := fun h => h) hs (cc_of 60 rfl rfl ?_)
      by_cases q1 : k.toInt < 0
      · refine br_t (show k < 0 by first | assumption | (simp (discharger := omega) only [i_lt, i_le, i_eq, bI_tz, decide_eq_false_iff_not, Int32.reduceToInt, nI_toInt, tm1, tm2, tm3, tm4, tm9]; done) | (simp (discharger := omega) only [i_lt, i_le, i_eq, bI_tz, decide_eq_false_iff_not, Int32.reduceToInt, nI_toInt, tm1, tm2, tm3, tm4, tm9]; omega) | omega) ?_
        exact ⟨Or.inl rfl, rfl, rfl⟩
      · refine br_f (show ¬ (k < 0) by first | assumption | (simp (discharger := omega) only [i_lt, i_le, i_eq, bI_tz, decide_eq_false_iff_not, Int32.reduceToInt, nI_toInt, tm1, tm2, tm3, tm4, tm9]; done) | (simp (discharger := omega) only [i_lt, i_le, i_eq, bI_tz, decide_eq_false_iff_not, Int32.reduceToInt, nI_toInt, tm1, tm2, tm3, tm4, tm9]; omega) | omega) ?_
        by_cases q2 : 3 ≤ k.toInt
        · refine br_t (show 3 ≤ k by first | assumption | (simp (discharger := omega) only [i_lt, i_le, i_eq, bI_tz, decide_eq_false_iff_not, Int32.reduceToInt, nI_toInt, tm1, tm2, tm3, tm4, tm9]; done) | (simp (discharger := omega) only [i_lt, i_le, i_eq, bI_tz, decide_eq_false_iff_not, Int32.reduceToInt, nI_toInt, tm1, tm2, tm3, tm4, tm9]; omega) | omega) ?_
          exact ⟨Or.inl rfl, rfl, rfl⟩
        · refine br_f (show ¬ (3 ≤ k) by first | assumption | (simp (discharger := omega) only [i_lt, i_le, i_eq, bI_tz, decide_eq_false_iff_not, Int32.reduceToInt, nI_toInt, tm1, tm2, tm3, tm4, tm9]; done) | (simp (discharger := omega) only [i_lt, i_le, i_eq, bI_tz, decide_eq_false_iff_not, Int32.reduceToInt, nI_toInt, tm1, tm2, tm3, tm4, tm9]; omega) | omega) ?_
          refine And.intro rfl (And.intro rfl (Exists.intro _ (Exists.intro _ (And.intro (c_isYardSort _) ?_))))
          by_cases q3 : 0 ≤ s.toInt ∧ s.toInt < 3
          · refine br_f (by first | assumption | (simp (discharger := omega) only [i_lt, i_le, i_eq, bI_tz, decide_eq_false_iff_not, Int32.reduceToInt, nI_toInt, tm1, tm2, tm3, tm4, tm9]; done) | (simp (discharger := omega) only [i_lt, i_le, i_eq, bI_tz, decide_eq_false_iff_not, Int32.reduceToInt, nI_toInt, tm1, tm2, tm3, tm4, tm9]; omega) | omega) ?_
            by_cases q4 : u.toInt < 1
            · refine br_t (show u < 1 by first | assumption | (simp (discharger := omega) only [i_lt, i_le, i_eq, bI_tz, decide_eq_false_iff_not, Int32.reduceToInt, nI_toInt, tm1, tm2, tm3, tm4, tm9]; done) | (simp (discharger := omega) only [i_lt, i_le, i_eq, bI_tz, decide_eq_false_iff_not, Int32.reduceToInt, nI_toInt, tm1, tm2, tm3, tm4, tm9]; omega) | omega) ?_
              exact ⟨Or.inl rfl, rfl, rfl⟩
            · refine br_f (show ¬ (u < 1) by first | assumption | (simp (discharger := omega) only [i_lt, i_le, i_eq, bI_tz, decide_eq_false_iff_not, Int32.reduceToInt, nI_toInt, tm1, tm2, tm3, tm4, tm9]; done) | (simp (discharger := omega) only [i_lt, i_le, i_eq, bI_tz, decide_eq_false_iff_not, Int32.reduceToInt, nI_toInt, tm1, tm2, tm3, tm4, tm9]; omega) | omega) ?_
              refine br_f (show ¬ (u ≤ 9) by first | assumption | (simp (discharger := omega) only [i_lt, i_le, i_eq, bI_tz, decide_eq_false_iff_not, Int32.reduceToInt, nI_toInt, tm1, tm2, tm3, tm4, tm9]; done) | (simp (discharger := omega) only [i_lt, i_le, i_eq, bI_tz, decide_eq_false_iff_not, Int32.reduceToInt, nI_toInt, tm1, tm2, tm3, tm4, tm9]; omega) | omega) ?_
              exact ⟨Or.inl rfl, rfl, rfl⟩
          · refine br_t (by first | assumption | (simp (discharger := omega) only [i_lt, i_le, i_eq, bI_tz, decide_eq_false_iff_not, Int32.reduceToInt, nI_toInt, tm1, tm2, tm3, tm4, tm9]; done) | (simp (discharger := omega) only [i_lt, i_le, i_eq, bI_tz, decide_eq_false_iff_not, Int32.reduceToInt, nI_toInt, tm1, tm2, tm3, tm4, tm9]; omega) | omega) ?_
            exact ⟨Or.inl rfl, rfl, rfl⟩
    · refine cc_nh (F := fun h => h) hs (cc_of 60 rfl rfl ?_)
      refine And.intro rfl (And.intro rfl (Exists.intro _ (Exists.intro _ (And.intro (c_inN _ (m := 2) (n := 2) (by decide)) ?_))))
      by_cases q1 : 0 ≤ k.toInt ∧ k.toInt < 3
      · refine br_f (by first | assumption | (simp (discharger := omega) only [i_lt, i_le, i_eq, bI_tz, decide_eq_false_iff_not, Int32.reduceToInt, nI_toInt, tm1, tm2, tm3, tm4, tm9]; done) | (simp (discharger := omega) only [i_lt, i_le, i_eq, bI_tz, decide_eq_false_iff_not, Int32.reduceToInt, nI_toInt, tm1, tm2, tm3, tm4, tm9]; omega) | omega) ?_
        refine And.intro rfl (And.intro rfl (Exists.intro _ (Exists.intro _ (And.intro (c_noYardSort _) ?_))))
        by_cases q2 : 0 ≤ s.toInt ∧ s.toInt < 3
        · refine br_f (by first | assumption | (simp (discharger := omega) only [i_lt, i_le, i_eq, bI_tz, decide_eq_false_iff_not, Int32.reduceToInt, nI_toInt, tm1, tm2, tm3, tm4, tm9]; done) | (simp (discharger := omega) only [i_lt, i_le, i_eq, bI_tz, decide_eq_false_iff_not, Int32.reduceToInt, nI_toInt, tm1, tm2, tm3, tm4, tm9]; omega) | omega) ?_
          refine And.intro rfl (And.intro rfl (Exists.intro _ (Exists.intro _ (And.intro (c_inMN _ (l := 1) (m := 9) (n0 := 1) (n := 9) (by decide) (by decide)) ?_))))
          refine br_f (by first | assumption | (simp (discharger := omega) only [i_lt, i_le, i_eq, bI_tz, decide_eq_false_iff_not, Int32.reduceToInt, nI_toInt, tm1, tm2, tm3, tm4, tm9]; done) | (simp (discharger := omega) only [i_lt, i_le, i_eq, bI_tz, decide_eq_false_iff_not, Int32.reduceToInt, nI_toInt, tm1, tm2, tm3, tm4, tm9]; omega) | omega) ?_
          exact ⟨Or.inl rfl, rfl, rfl⟩
        · refine br_t (by first | assumption | (simp (discharger := omega) only [i_lt, i_le, i_eq, bI_tz, decide_eq_false_iff_not, Int32.reduceToInt, nI_toInt, tm1, tm2, tm3, tm4, tm9]; done) | (simp (discharger := omega) only [i_lt, i_le, i_eq, bI_tz, decide_eq_false_iff_not, Int32.reduceToInt, nI_toInt, tm1, tm2, tm3, tm4, tm9]; omega) | omega) ?_
          exact ⟨Or.inl rfl, rfl, rfl⟩
      · refine br_t (by first | assumption | (simp (discharger := omega) only [i_lt, i_le, i_eq, bI_tz, decide_eq_false_iff_not, Int32.reduceToInt, nI_toInt, tm1, tm2, tm3, tm4, tm9]; done) | (simp (discharger := omega) only [i_lt, i_le, i_eq, bI_tz, decide_eq_false_iff_not, Int32.reduceToInt, nI_toInt, tm1, tm2, tm3, tm4, tm9]; omega) | omega) ?_
        exact ⟨Or.inl rfl, rfl, rfl⟩
end
