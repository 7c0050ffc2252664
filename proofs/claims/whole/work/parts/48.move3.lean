section
variable {sc : Nat × (Nat → Int32)} {h : Hp}
theorem mvM_K (h : Hp) (p : Nat) (gd : Bool) (pl tp : Option Nat) (sp : Bool) : zK (mvM h p gd pl tp sp) = zK h ∧ zN (mvM h p gd pl tp sp) = zN h ∧ zA (mvM h p gd pl tp sp) = zA h ∧ zJ (mvM h p gd pl tp sp) = zJ h ∧ (mvM h p gd pl tp sp).1 = h.1 := by
  cases pl <;> cases tp <;> exact ⟨rfl, rfl, rfl, rfl, rfl⟩
theorem mvX_K (h : Hp) (a p : Nat) (pl tp : Option Nat) (sp : Bool) : zK (mvX h a p pl tp sp) = zK h ∧ zN (mvX h a p pl tp sp) = zN h ∧ zA (mvX h a p pl tp sp) = zA h ∧ zJ (mvX h a p pl tp sp) = zJ h ∧ (mvX h a p pl tp sp).1 = h.1 := by
  cases pl <;> cases tp <;> cases sp <;> exact ⟨rfl, rfl, rfl, rfl, rfl⟩
theorem mvX_low {a p : Nat} {pl tp : Option Nat} {sp : Bool} {x : Nat} (h1 : x ≠ 17) (h2 : x ≠ 15) (h3 : x ≠ a) : zI (mvX h a p pl tp sp) x = zI h x := by
  cases pl <;> cases tp <;> cases sp <;> simp (discharger := assumption) only [mvX, mvT, zIr_upI, if_true, if_false, Bool.false_eq_true]
theorem mvM_low {p : Nat} {gd : Bool} {pl tp : Option Nat} {sp : Bool} {x : Nat} (h1 : x ≠ 57) (h2 : x ≠ 54) (h3 : x ≠ 56) : zI (mvM h p gd pl tp sp) x = zI h x := by
  cases pl <;> cases tp <;> simp (discharger := assumption) only [mvM, zIr_upI]
theorem mvX_17 {a p : Nat} {pl tp : Option Nat} {sp : Bool} (ha : 65 ≤ a) (z : Nat) : zI (mvX h a p pl tp sp) 17 z = if tp = some z then nI p else if pl = some z then -9 else zI h 17 z := by
  have n1 : ¬ 17 = a := by omega
  have n2 : ¬ (17 : Nat) = 15 := by decide
  cases tp with
  | none =>
    rw [if_neg (by simp)]
    show zI (upI (upI (mvT h a pl sp) a 5 (-9)) 15 6 0) 17 z = _
    rw [zI_upI, if_neg n2, zI_upI, if_neg n1]
    cases pl with
    | none => rw [if_neg (by simp)]; rfl
    | some y =>
      have : zI (mvT h a (some y) sp) 17 z = if z = y then -9 else zI h 17 z := by
        cases sp
        · show zI (upI h 17 y (-9)) 17 z = _
          rw [zI_upI, if_pos rfl]
        · show zI (upI (upI h 17 y (-9)) a 3 0) 17 z = _
          rw [zI_upI, if_neg n1, zI_upI, if_pos rfl]
      rw [this]
      by_cases e : z = y
      · rw [if_pos e, if_pos (by rw [e])]
      · rw [if_neg e, if_neg (fun w => e (Option.some.inj w).symm)]
  | some x =>
    show zI (upI (upI (upI (mvT h a pl sp) a 5 (nI x)) 17 x (nI p)) 15 6 0) 17 z = _
    rw [zI_upI, if_neg n2, zI_upI, if_pos rfl]
    by_cases e0 : z = x
    · rw [if_pos e0, if_pos (by rw [e0])]
    · rw [if_neg e0, if_neg (fun w => e0 (Option.some.inj w).symm), zI_upI, if_neg n1]
      cases pl with
      | none => rw [if_neg (by simp)]; rfl
      | some y =>
        have : zI (mvT h a (some y) sp) 17 z = if z = y then -9 else zI h 17 z := by
          cases sp
          · show zI (upI h 17 y (-9)) 17 z = _
            rw [zI_upI, if_pos rfl]
          · show zI (upI (upI h 17 y (-9)) a 3 0) 17 z = _
            rw [zI_upI, if_neg n1, zI_upI, if_pos rfl]
        rw [this]
        by_cases e : z = y
        · rw [if_pos e, if_pos (by rw [e])]
        · rw [if_neg e, if_neg (fun w => e (Option.some.inj w).symm)]
def mvB (h : Hp) (p : Nat) (gd : Bool) (pl : Option Nat) (sp : Bool) : Hp := match pl with
    | none => h
    | some y => upI (upI h 57 y (-9)) 54 p (bI (gd && !sp))
theorem mvM_n (h : Hp) (p : Nat) (gd : Bool) (pl : Option Nat) (sp : Bool) : mvM h p gd pl none sp = upI (mvB h p gd pl sp) 56 p (-9) := by cases pl <;> rfl
theorem mvM_s (h : Hp) (p : Nat) (gd : Bool) (pl : Option Nat) (x : Nat) (sp : Bool) : mvM h p gd pl (some x) sp = upI (upI (mvB h p gd pl sp) 56 p (nI x)) 57 x (nI p) := by cases pl <;> rfl
theorem mvM_57 {p : Nat} {gd : Bool} {pl tp : Option Nat} {sp : Bool} (z : Nat) : zI (mvM h p gd pl tp sp) 57 z = if tp = some z then nI p else if pl = some z then -9 else zI h 57 z := by
  have base : zI (mvB h p gd pl sp) 57 z = if pl = some z then -9 else zI h 57 z := by
    cases pl with
    | none => rw [if_neg (by simp)]; rfl
    | some y =>
      show zI (upI (upI h 57 y (-9)) 54 p (bI (gd && !sp))) 57 z = _
      rw [zI_upI, if_neg (by decide), zI_upI, if_pos rfl]
      by_cases e : z = y
      · rw [if_pos e, if_pos (by rw [e])]
      · rw [if_neg e, if_neg (fun w => e (Option.some.inj w).symm)]
  cases tp with
  | none =>
    rw [if_neg (by simp), ← base]
    rw [mvM_n, zI_upI, if_neg (by decide)]
  | some x =>
    rw [mvM_s, zI_upI, if_pos rfl]
    by_cases e0 : z = x
    · rw [if_pos e0, if_pos (by rw [e0])]
    · rw [if_neg e0, if_neg (fun w => e0 (Option.some.inj w).symm), ← base, zI_upI, if_neg (by decide)]
theorem mvM_54 {p : Nat} {gd : Bool} {pl tp : Option Nat} {sp : Bool} (e54 : zI h 54 p = bI gd) (q : Nat) : zI (mvM h p gd pl tp sp) 54 q = if q = p then bI (mvG gd pl sp) else zI h 54 q := by
  have base : zI (mvB h p gd pl sp) 54 q = if q = p then bI (mvG gd pl sp) else zI h 54 q := by
    cases pl with
    | none =>
      by_cases e : q = p
      · rw [if_pos e, e]; exact e54
      · rw [if_neg e]; rfl
    | some y =>
      show zI (upI (upI h 57 y (-9)) 54 p (bI (gd && !sp))) 54 q = _
      rw [zI_upI, if_pos rfl]
      by_cases e : q = p
      · rw [if_pos e, if_pos e]; rfl
      · rw [if_neg e, if_neg e, zI_upI, if_neg (by decide)]
  cases tp with
  | none =>
    rw [← base]
    rw [mvM_n, zI_upI, if_neg (by decide)]
  | some x =>
    rw [← base]
    rw [mvM_s, zI_upI, if_neg (by decide), zI_upI, if_neg (by decide)]
theorem mvM_56 {p : Nat} {gd : Bool} {pl tp : Option Nat} {sp : Bool} (q : Nat) : zI (mvM h p gd pl tp sp) 56 q = if q = p then plI tp else zI h 56 q := by
  have base : zI (mvB h p gd pl sp) 56 q = zI h 56 q := by
    cases pl with
    | none => rfl
    | some y =>
      show zI (upI (upI h 57 y (-9)) 54 p (bI (gd && !sp))) 56 q = _
      rw [zI_upI, if_neg (by decide), zI_upI, if_neg (by decide)]
  cases tp with
  | none =>
    rw [mvM_n, zI_upI, if_pos rfl, base]
    rfl
  | some x =>
    rw [mvM_s, zI_upI, if_neg (by decide), zI_upI, if_pos rfl, base]
    rfl
theorem mvX_a {a p : Nat} {gd : Bool} {pl tp : Option Nat} {sp : Bool} (ha : 65 ≤ a) (e3 : zI h a 3 = bI gd) (i : Nat) : zI (mvX h a p pl tp sp) a i = if i = 3 then bI (mvG gd pl sp) else if i = 5 then plI tp else zI h a i := by
  have n1 : ¬ a = 17 := by omega
  have n2 : ¬ a = 15 := by omega
  have base : zI (mvT h a pl sp) a i = if i = 3 then bI (mvG gd pl sp) else zI h a i := by
    cases pl with
    | none =>
      by_cases e : i = 3
      · rw [if_pos e, e]; exact e3
      · rw [if_neg e]; rfl
    | some y =>
      cases sp
      · show zI (upI h 17 y (-9)) a i = _
        rw [zI_upI, if_neg n1]
        by_cases e : i = 3
        · rw [if_pos e, e, e3]; show _ = bI (gd && true); rw [Bool.and_true]
        · rw [if_neg e]
      · show zI (upI (upI h 17 y (-9)) a 3 0) a i = _
        rw [zI_upI, if_pos rfl]
        by_cases e : i = 3
        · rw [if_pos e, if_pos e]; show _ = bI (gd && false); rw [Bool.and_false]; rfl
        · rw [if_neg e, if_neg e, zI_upI, if_neg n1]
  cases tp with
  | none =>
    show zI (upI (upI (mvT h a pl sp) a 5 (-9)) 15 6 0) a i = _
    rw [zI_upI, if_neg n2, zI_upI, if_pos rfl, base]
    by_cases e : i = 5
    · rw [if_pos e, if_neg (by omega), if_pos e]; rfl
    · rw [if_neg e, if_neg e]
  | some x =>
    show zI (upI (upI (upI (mvT h a pl sp) a 5 (nI x)) 17 x (nI p)) 15 6 0) a i = _
    rw [zI_upI, if_neg n2, zI_upI, if_neg n1, zI_upI, if_pos rfl, base]
    by_cases e : i = 5
    · rw [if_pos e, if_neg (by omega), if_pos e]; rfl
    · rw [if_neg e, if_neg e]
theorem mvX_15 {a p : Nat} {pl tp : Option Nat} {sp : Bool} (ha : 65 ≤ a) (i : Nat) : zI (mvX h a p pl tp sp) 15 i = if i = 6 then 0 else zI h 15 i := by
  have n1 : ¬ 15 = a := by omega
  have n2 : ¬ (15 : Nat) = 17 := by decide
  have base : zI (mvT h a pl sp) 15 i = zI h 15 i := mvT_zI (by decide) (Or.inl n1)
  cases tp with
  | none =>
    show zI (upI (upI (mvT h a pl sp) a 5 (-9)) 15 6 0) 15 i = _
    rw [zI_upI, if_pos rfl, zI_upI, if_neg n1, base]
  | some x =>
    show zI (upI (upI (upI (mvT h a pl sp) a 5 (nI x)) 17 x (nI p)) 15 6 0) 15 i = _
    rw [zI_upI, if_pos rfl, zI_upI, if_neg n2, zI_upI, if_neg n1, base]
theorem op_move (hS : Sim0 h) (p lo so dr : Int32) : Op1 sc 105 191 [.int p, .int lo, .int so, .int dr] h := by
  refine on_nh (P := fun h => Op1 sc 105 191 [.int p, .int lo, .int so, .int dr] h) hS (fun hS => ?_)
  have hs := hS.1
  have hP := hS.2.2.2.2.1
  obtain ⟨np, c1, c2, c3, c4, c5, c6, c7⟩ := hP
  by_cases q0 : (0 ≤ p.toInt ∧ p.toInt < np) ∧ (lo.toInt = -9 ∨ ((0 ≤ lo.toInt ∧ lo.toInt < 4) ∧ (0 ≤ so.toInt ∧ so.toInt < 3)))
  · obtain ⟨q1, q2⟩ := q0
    by_cases q3 : 0 ≤ dr.toInt ∧ dr.toInt < 12
    · obtain ⟨p, hp, rfl⟩ := i_of q1.1 (n := np) q1.2 (by omega)
      obtain ⟨a, kd, st, hr, gd, hd, pl, z1, z2, z3, z4, z5, z6, z7, z8, z9, z10, z11, z12, z13, z14, z15, z16, z17, z18, z19, z20⟩ := c4 p hp
      have ip : inB (nI p) 12 = true := inB_nI (by omega) (by decide)
      have ep : (nI p).toNatClampNeg = p := nI_clamp (by omega)
      have k4 : kin 4 (zK (nh h) a) = true := by rw [z4]; exact kin_part z3
      have hx : ∀ x, pl = some x → x < 12 := fun x e => (z20 x e).1
      obtain ⟨tp, htp⟩ : ∃ tp : Option Nat, (lo = -9 ∧ tp = none) ∨ ∃ l t : Nat, l < 4 ∧ t < 3 ∧ lo = nI l ∧ so = nI t ∧ tp = some (3 * l + t) := by
        rcases q2 with e | ⟨e1, e2⟩
        · exact ⟨none, Or.inl ⟨by rw [i_eq, e]; decide, rfl⟩⟩
        · obtain ⟨l, hl, rfl⟩ := i_of e1.1 (n := 4) e1.2 (by decide)
          obtain ⟨t, ht, rfl⟩ := i_of e2.1 (n := 3) e2.2 (by decide)
          exact ⟨some (3 * l + t), Or.inr ⟨l, t, hl, ht, rfl, rfl, rfl⟩⟩
      have ht : ∀ x, tp = some x → x < 12 := by
        intro x e
        rcases htp with ⟨-, z⟩ | ⟨l, t, hl, ht, -, -, z⟩
        · rw [z] at e; cases e
        · rw [z] at e; cases e; omega
      have X : ∀ (r : Int32) (g : Hp), Cc sc 80 [.ref 15, .ref a, .int (plI tp), .int dr] (nh h) (some (.int r)) g → Cc sc 105 [.ref 1, .int (nI p), .int lo, .int so, .int dr] (nh h) (some (.int r)) g := fun r g hc => by
        refine cc_of 80 rfl rfl ?_
        refine And.intro ⟨rfl, rfl⟩ (And.intro rfl (Exists.intro _ (Exists.intro _ (And.intro (c_isPart hs c1 c2 (nI p)) ?_))))
        refine br_f (by first | assumption | (simp (discharger := omega) only [i_lt, i_le, i_eq, bI_tz, decide_eq_false_iff_not, Int32.reduceToInt, nI_toInt, tm1, tm2, tm3, tm4, tm9]; done) | (simp (discharger := omega) only [i_lt, i_le, i_eq, bI_tz, decide_eq_false_iff_not, Int32.reduceToInt, nI_toInt, tm1, tm2, tm3, tm4, tm9]; omega) | omega) ?_
        rcases htp with ⟨rfl, rfl⟩ | ⟨l, t, hl, ht', rfl, rfl, rfl⟩
        · refine br_t (by rfl) ?_
          refine br_f (show ¬ (dr < 0) by first | assumption | (simp (discharger := omega) only [i_lt, i_le, i_eq, bI_tz, decide_eq_false_iff_not, Int32.reduceToInt, nI_toInt, tm1, tm2, tm3, tm4, tm9]; done) | (simp (discharger := omega) only [i_lt, i_le, i_eq, bI_tz, decide_eq_false_iff_not, Int32.reduceToInt, nI_toInt, tm1, tm2, tm3, tm4, tm9]; omega) | omega) ?_
          refine br_t (show dr < 12 by first | assumption | (simp (discharger := omega) only [i_lt, i_le, i_eq, bI_tz, decide_eq_false_iff_not, Int32.reduceToInt, nI_toInt, tm1, tm2, tm3, tm4, tm9]; done) | (simp (discharger := omega) only [i_lt, i_le, i_eq, bI_tz, decide_eq_false_iff_not, Int32.reduceToInt, nI_toInt, tm1, tm2, tm3, tm4, tm9]; omega) | omega) ?_
          refine And.intro rfl ?_
          refine And.intro rfl ?_
          refine And.intro rfl ?_
          refine And.intro (⟨rfl, ip⟩) ?_
          rw [ep, show zA (nh h) (zA (nh h) (zA (nh h) 1 4) 0) p = a from z1]
          refine br_f (by exact fun z => z rfl) ?_
          refine And.intro ⟨rfl, rfl⟩ (And.intro rfl (Exists.intro _ (Exists.intro _ (And.intro (hc) ?_))))
          exact ⟨Or.inl rfl, rfl, rfl⟩
        · refine br_f (show ¬ (nI l = -9) by first | assumption | (simp (discharger := omega) only [i_lt, i_le, i_eq, bI_tz, decide_eq_false_iff_not, Int32.reduceToInt, nI_toInt, tm1, tm2, tm3, tm4, tm9]; done) | (simp (discharger := omega) only [i_lt, i_le, i_eq, bI_tz, decide_eq_false_iff_not, Int32.reduceToInt, nI_toInt, tm1, tm2, tm3, tm4, tm9]; omega) | omega) ?_
          refine And.intro rfl (And.intro rfl (Exists.intro _ (Exists.intro _ (And.intro (c_isYardLorry _) ?_))))
          refine br_f (by first | assumption | (simp (discharger := omega) only [i_lt, i_le, i_eq, bI_tz, decide_eq_false_iff_not, Int32.reduceToInt, nI_toInt, tm1, tm2, tm3, tm4, tm9]; done) | (simp (discharger := omega) only [i_lt, i_le, i_eq, bI_tz, decide_eq_false_iff_not, Int32.reduceToInt, nI_toInt, tm1, tm2, tm3, tm4, tm9]; omega) | omega) ?_
          refine And.intro rfl (And.intro rfl (Exists.intro _ (Exists.intro _ (And.intro (c_isYardSort _) ?_))))
          refine br_t (by first | assumption | (simp (discharger := omega) only [i_lt, i_le, i_eq, bI_tz, decide_eq_false_iff_not, Int32.reduceToInt, nI_toInt, tm1, tm2, tm3, tm4, tm9]; done) | (simp (discharger := omega) only [i_lt, i_le, i_eq, bI_tz, decide_eq_false_iff_not, Int32.reduceToInt, nI_toInt, tm1, tm2, tm3, tm4, tm9]; omega) | omega) ?_
          refine br_f (show ¬ (dr < 0) by first | assumption | (simp (discharger := omega) only [i_lt, i_le, i_eq, bI_tz, decide_eq_false_iff_not, Int32.reduceToInt, nI_toInt, tm1, tm2, tm3, tm4, tm9]; done) | (simp (discharger := omega) only [i_lt, i_le, i_eq, bI_tz, decide_eq_false_iff_not, Int32.reduceToInt, nI_toInt, tm1, tm2, tm3, tm4, tm9]; omega) | omega) ?_
          refine br_t (show dr < 12 by first | assumption | (simp (discharger := omega) only [i_lt, i_le, i_eq, bI_tz, decide_eq_false_iff_not, Int32.reduceToInt, nI_toInt, tm1, tm2, tm3, tm4, tm9]; done) | (simp (discharger := omega) only [i_lt, i_le, i_eq, bI_tz, decide_eq_false_iff_not, Int32.reduceToInt, nI_toInt, tm1, tm2, tm3, tm4, tm9]; omega) | omega) ?_
          refine And.intro rfl ?_
          refine And.intro rfl ?_
          refine And.intro rfl ?_
          refine And.intro (⟨rfl, ip⟩) ?_
          rw [ep, show zA (nh h) (zA (nh h) (zA (nh h) 1 4) 0) p = a from z1]
          refine br_t (show ¬ nI l = -9 by first | assumption | (simp (discharger := omega) only [i_lt, i_le, i_eq, bI_tz, decide_eq_false_iff_not, Int32.reduceToInt, nI_toInt, tm1, tm2, tm3, tm4, tm9]; done) | (simp (discharger := omega) only [i_lt, i_le, i_eq, bI_tz, decide_eq_false_iff_not, Int32.reduceToInt, nI_toInt, tm1, tm2, tm3, tm4, tm9]; omega) | omega) ?_
          have e2 : nI l * 3 + nI t = plI (some (3 * l + t)) := by
            show nI l * 3 + nI t = nI (3 * l + t)
            rw [show (3 : Int32) = nI 3 from rfl, pk_mul, nI_add, Nat.mul_comm]
          rw [← e2] at hc
          refine And.intro ⟨rfl, rfl⟩ (And.intro rfl (Exists.intro _ (Exists.intro _ (And.intro (hc) ?_))))
          exact ⟨Or.inl rfl, rfl, rfl⟩
      have e57 : ∀ x, x < 12 → (zI (nh h) 17 x = -9 ↔ (zI (nh h) 57 x).toInt < 0) := fun x hx => by
        rcases c6 x hx with ⟨w1, w2⟩ | ⟨p', w0, w1, w2, w3⟩
        · rw [w1, w2]; exact ⟨fun _ => by decide, fun _ => rfl⟩
        · rw [w1, w2, nI_toInt (by omega)]
          exact ⟨fun w => absurd w (by first | assumption | (simp (discharger := omega) only [i_lt, i_le, i_eq, bI_tz, decide_eq_false_iff_not, Int32.reduceToInt, nI_toInt, tm1, tm2, tm3, tm4, tm9]; done) | (simp (discharger := omega) only [i_lt, i_le, i_eq, bI_tz, decide_eq_false_iff_not, Int32.reduceToInt, nI_toInt, tm1, tm2, tm3, tm4, tm9]; omega) | omega), fun w => absurd w (by omega)⟩
      by_cases B : hd = true ∨ pl = tp ∨ ∃ x, tp = some x ∧ (hF kd st hr (x % 3) = -9 ∨ ¬ zI (nh h) 17 x = -9)
      · refine ⟨.int (-3), nh h, nh h, X _ _ (c_carry hs z2 z3 z4 z5 z7 z6 z8 z9 z10 z12 z13 hx ht dr (Or.inl ⟨rfl, rfl, B⟩)), c_move_m hs c1 c3 hp z3 z14 z15 z6 z8 z9 z16 z17 z18 z19 hx lo so dr q3 htp (Or.inl ⟨rfl, rfl, ?_⟩), hS, (fin_same hS).2.O⟩
        rcases B with B | B | ⟨x, B1, B2⟩
        · exact Or.inl B
        · exact Or.inr (Or.inl B)
        · exact Or.inr (Or.inr ⟨x, B1, by rw [← e57 x (ht x B1)]; exact B2⟩)
      · have B1 : hd = false := by
          cases hd with
          | false => rfl
          | true => exact absurd (Or.inl rfl) B
        have B2 : pl ≠ tp := fun z => B (Or.inr (Or.inl z))
        have B3 : ∀ x, tp = some x → ¬ hF kd st hr (x % 3) = -9 ∧ zI (nh h) 17 x = -9 := fun x e => ⟨fun z => B (Or.inr (Or.inr ⟨x, e, Or.inl z⟩)), Decidable.not_not.mp fun z => B (Or.inr (Or.inr ⟨x, e, Or.inr z⟩))⟩
        obtain ⟨r, hr1, hr2⟩ : ∃ r : Int32, ((tp = none ∧ r = 0) ∨ ∃ x, tp = some x ∧ r = hF kd st hr (x % 3) ∧ ¬ hF kd st hr (x % 3) = -9 ∧ zI (nh h) 17 x = -9) ∧ ((tp = none ∧ r = 0) ∨ ∃ x, tp = some x ∧ r = hF kd st hr (x % 3) ∧ ¬ hF kd st hr (x % 3) = -9 ∧ (zI (nh h) 57 x).toInt < 0) := by
          cases tp with
          | none => exact ⟨0, Or.inl ⟨rfl, rfl⟩, Or.inl ⟨rfl, rfl⟩⟩
          | some x => exact ⟨_, Or.inr ⟨x, rfl, rfl, (B3 x rfl).1, (B3 x rfl).2⟩, Or.inr ⟨x, rfl, rfl, (B3 x rfl).1, (e57 x (ht x rfl)).mp (B3 x rfl).2⟩⟩
        have esp : zI (nh h) 15 3 = zI (nh h) 39 26 := hS.2.1.2.2.1
        generalize hsp : decide (dr.toInt < (zI (nh h) 15 3).toInt) = sp
        have hX := c_carry (sc := sc) hs z2 z3 z4 z5 z7 z6 z8 z9 z10 z12 z13 hx ht dr (Or.inr ⟨B1, B2, rfl, hr1⟩)
        rw [hsp] at hX
        obtain ⟨x1, x2, x3, x4, x5⟩ := mvX_K (nh h) a p pl tp sp
        have lowX : ∀ x, 16 ≤ x → x < 65 → x ≠ 17 → zI (mvX (nh h) a p pl tp sp) x = zI (nh h) x := fun x h1 h2 h3 => mvX_low h3 (by omega) (by omega)
        have hs1 : Shp (mvX (nh h) a p pl tp sp) := by unfold Shp; rw [x1, x2, x3]; exact hs
        have hM := c_move_m (sc := sc) (h := mvX (nh h) a p pl tp sp) (gd := gd) (r := r) hs1 c1 (by rw [lowX 39 (by decide) (by decide) (by decide)]; exact c3) hp z3 (by rw [lowX 51 (by decide) (by decide) (by decide)]; exact z14) (by rw [lowX 52 (by decide) (by decide) (by decide)]; exact z15) z6 z8 z9 (by rw [lowX 53 (by decide) (by decide) (by decide)]; exact z16) (by rw [lowX 54 (by decide) (by decide) (by decide)]; exact z17) (by rw [lowX 55 (by decide) (by decide) (by decide)]; exact z18) (by rw [lowX 56 (by decide) (by decide) (by decide)]; exact z19) hx lo so dr q3 htp (Or.inr ⟨B1, B2, rfl, by rw [lowX 57 (by decide) (by decide) (by decide)]; exact hr2⟩)
        rw [lowX 39 (by decide) (by decide) (by decide), ← esp, hsp] at hM
        refine ⟨.int r, _, _, X _ _ hX, hM, ?_⟩
        obtain ⟨y1, y2, y3, y4, y5⟩ := mvM_K (mvX (nh h) a p pl tp sp) p gd pl tp sp
        have f17 : ∀ z, zI (mvM (mvX (nh h) a p pl tp sp) p gd pl tp sp) 17 z = if tp = some z then nI p else if pl = some z then -9 else zI (nh h) 17 z := fun z => by
          rw [mvM_low (by decide) (by decide) (by decide)]; exact mvX_17 z2 z
        have f57 : ∀ z, zI (mvM (mvX (nh h) a p pl tp sp) p gd pl tp sp) 57 z = if tp = some z then nI p else if pl = some z then -9 else zI (nh h) 57 z := fun z => by
          rw [mvM_57, lowX 57 (by decide) (by decide) (by decide)]
        have f54 : ∀ q, zI (mvM (mvX (nh h) a p pl tp sp) p gd pl tp sp) 54 q = if q = p then bI (mvG gd pl sp) else zI (nh h) 54 q := fun q => by
          rw [mvM_54 (by rw [lowX 54 (by decide) (by decide) (by decide)]; exact z17), lowX 54 (by decide) (by decide) (by decide)]
        have f56 : ∀ q, zI (mvM (mvX (nh h) a p pl tp sp) p gd pl tp sp) 56 q = if q = p then plI tp else zI (nh h) 56 q := fun q => by
          rw [mvM_56, lowX 56 (by decide) (by decide) (by decide)]
        have fa : ∀ i, zI (mvM (mvX (nh h) a p pl tp sp) p gd pl tp sp) a i = if i = 3 then bI (mvG gd pl sp) else if i = 5 then plI tp else zI (nh h) a i := fun i => by
          rw [mvM_low (by omega) (by omega) (by omega)]; exact mvX_a z2 z11 i
        have fo : ∀ x, x ≠ 17 → x ≠ 15 → x ≠ a → x ≠ 57 → x ≠ 54 → x ≠ 56 → zI (mvM (mvX (nh h) a p pl tp sp) p gd pl tp sp) x = zI (nh h) x := fun x h1 h2 h3 h4 h5 h6 => by
          rw [mvM_low h4 h5 h6, mvX_low h1 h2 h3]
        have f15 : ∀ i, zI (mvM (mvX (nh h) a p pl tp sp) p gd pl tp sp) 15 i = if i = 6 then 0 else zI (nh h) 15 i := fun i => by
          rw [mvM_low (by decide) (by decide) (by decide)]; exact mvX_15 z2 i
        have F : FrY [(15, 6), (17, 1000), (57, 1000), (54, 1000), (56, 1000)] (nh h) (mvM (mvX (nh h) a p pl tp sp) p gd pl tp sp) := by
          refine ⟨y5.trans x5, y1.trans x1, y2.trans x2, y3.trans x3, fun x i hi hk => ?_⟩
          have n17 : x ≠ 17 := fun e => by rw [e, inP_of (by decide)] at hi; cases hi
          have n57 : x ≠ 57 := fun e => by rw [e, inP_of (by decide)] at hi; cases hi
          have n54 : x ≠ 54 := fun e => by rw [e, inP_of (by decide)] at hi; cases hi
          have n56 : x ≠ 56 := fun e => by rw [e, inP_of (by decide)] at hi; cases hi
          have na : x ≠ a := fun e => by rw [e, k4] at hk; cases hk
          refine ⟨?_, by rw [y4, x4]⟩
          by_cases e15 : x = 15
          · subst e15
            rw [f15, if_neg (fun e => by rw [e] at hi; cases hi)]
          · rw [fo x n17 e15 na n57 n54 n56]
        generalize mvM (mvX (nh h) a p pl tp sp) p gd pl tp sp = g at *
        refine finY hS F rfl rfl rfl rfl ?_ (by rw [f15, if_pos rfl])
        refine ⟨np, c1, by rw [F.s hs (by decide) rfl]; exact c2, by rw [F.s hs (by decide) rfl]; exact c3, fun p' hp' => ?_, fun p' h1 h2 => by rw [F.I hs (a := 55) (by decide) rfl]; exact c5 p' h1 h2, fun x hx' => ?_, by rw [F.2.2.2.1]; exact c7⟩
        · by_cases e : p' = p
          · subst e
            refine ⟨a, kd, st, hr, mvG gd pl sp, false, tp, by rw [F.2.2.2.1]; exact z1, z2, z3, by rw [F.2.1]; exact z4, by rw [fa, if_neg (by decide), if_neg (by decide)]; exact z5, z6, by rw [fa, if_neg (by decide), if_neg (by decide)]; exact z7, z8, z9, by rw [fa, if_neg (by decide), if_neg (by decide)]; exact z10, by rw [fa, if_pos rfl], by rw [fa, if_neg (by decide), if_neg (by decide), z12, B1], by rw [fa, if_neg (by decide), if_pos rfl], by rw [F.I hs (a := 51) (by decide) rfl]; exact z14, by rw [F.I hs (a := 52) (by decide) rfl]; exact z15, by rw [F.I hs (a := 53) (by decide) rfl]; exact z16, by rw [f54, if_pos rfl], by rw [F.I hs (a := 55) (by decide) rfl, z18, B1], by rw [f56, if_pos rfl], fun x e => ⟨ht x e, by rw [f17, if_pos e], rfl⟩⟩
          · obtain ⟨a', kd', st', hr', gd', hd', pl', w1, w2, w3, w4, w5, w6, w7, w8, w9, w10, w11, w12, w13, w14, w15, w16, w17, w18, w19, w20⟩ := c4 p' hp'
            have na : a' ≠ a := fun z => c7 p' p hp' hp e (by rw [w1, z1, z])
            have eo := fo a' (by omega) (by omega) na (by omega) (by omega) (by omega)
            refine ⟨a', kd', st', hr', gd', hd', pl', by rw [F.2.2.2.1]; exact w1, w2, w3, by rw [F.2.1]; exact w4, by rw [eo]; exact w5, w6, by rw [eo]; exact w7, w8, w9, by rw [eo]; exact w10, by rw [eo]; exact w11, by rw [eo]; exact w12, by rw [eo]; exact w13, by rw [F.I hs (a := 51) (by decide) rfl]; exact w14, by rw [F.I hs (a := 52) (by decide) rfl]; exact w15, by rw [F.I hs (a := 53) (by decide) rfl]; exact w16, by rw [f54, if_neg e]; exact w17, by rw [F.I hs (a := 55) (by decide) rfl]; exact w18, by rw [f56, if_neg e]; exact w19, fun x ex => ?_⟩
            obtain ⟨v1, v2, v3⟩ := w20 x ex
            refine ⟨v1, ?_, v3⟩
            rw [f17, if_neg (fun et => ?_), if_neg (fun et => ?_)]
            · exact v2
            · have := (z20 x et).2.1
              rw [v2] at this
              exact e ((nI_eq (by omega) (by omega)).mp this)
            · have := (B3 x et).2
              rw [v2] at this
              exact absurd this (by first | assumption | (simp (discharger := omega) only [i_lt, i_le, i_eq, bI_tz, decide_eq_false_iff_not, Int32.reduceToInt, nI_toInt, tm1, tm2, tm3, tm4, tm9]; done) | (simp (discharger := omega) only [i_lt, i_le, i_eq, bI_tz, decide_eq_false_iff_not, Int32.reduceToInt, nI_toInt, tm1, tm2, tm3, tm4, tm9]; omega) | omega)
        · rw [f17, f57]
          by_cases et : tp = some x
          · rw [if_pos et, if_pos et]
            exact Or.inr ⟨p, hp, rfl, rfl, by rw [f56, if_pos rfl, et]; rfl⟩
          · rw [if_neg et, if_neg et]
            by_cases epl : pl = some x
            · rw [if_pos epl, if_pos epl]
              exact Or.inl ⟨rfl, rfl⟩
            · rw [if_neg epl, if_neg epl]
              rcases c6 x hx' with w | ⟨p', w0, w1, w2, w3⟩
              · exact Or.inl w
              · refine Or.inr ⟨p', w0, w1, w2, ?_⟩
                rw [f56, if_neg (fun e => ?_)]
                · exact w3
                · rw [e, z19] at w3
                  cases pl with
                  | none => exact absurd (show nI x = -9 from w3.symm) (by first | assumption | (simp (discharger := omega) only [i_lt, i_le, i_eq, bI_tz, decide_eq_false_iff_not, Int32.reduceToInt, nI_toInt, tm1, tm2, tm3, tm4, tm9]; done) | (simp (discharger := omega) only [i_lt, i_le, i_eq, bI_tz, decide_eq_false_iff_not, Int32.reduceToInt, nI_toInt, tm1, tm2, tm3, tm4, tm9]; omega) | omega)
                  | some y =>
                    have := hx y rfl
                    exact epl (by rw [(nI_eq (by omega) (by omega)).mp (show nI y = nI x from w3)])
    · refine ⟨.int (-2), nh h, nh h, ?_, ?_, hS, (fin_same hS).2.O⟩
      · refine cc_of 80 rfl rfl ?_
        refine And.intro ⟨rfl, rfl⟩ (And.intro rfl (Exists.intro _ (Exists.intro _ (And.intro (c_isPart hs c1 c2 p) ?_))))
        refine br_f (by first | assumption | (simp (discharger := omega) only [i_lt, i_le, i_eq, bI_tz, decide_eq_false_iff_not, Int32.reduceToInt, nI_toInt, tm1, tm2, tm3, tm4, tm9]; done) | (simp (discharger := omega) only [i_lt, i_le, i_eq, bI_tz, decide_eq_false_iff_not, Int32.reduceToInt, nI_toInt, tm1, tm2, tm3, tm4, tm9]; omega) | omega) ?_
        have fin : bk sc [] (some (.int (-2))) (nh h) (fun pc ls st h' => Rn sc (mtk 105) pc ls st h' (some (.int (-2))) (nh h)) (mtk 105) 60 30 [some (.ref 1), some (.int p), some (.int lo), some (.int so), some (.int dr)] [] (nh h) := by
          by_cases q4 : dr.toInt < 0
          · refine br_t (show dr < 0 by first | assumption | (simp (discharger := omega) only [i_lt, i_le, i_eq, bI_tz, decide_eq_false_iff_not, Int32.reduceToInt, nI_toInt, tm1, tm2, tm3, tm4, tm9]; done) | (simp (discharger := omega) only [i_lt, i_le, i_eq, bI_tz, decide_eq_false_iff_not, Int32.reduceToInt, nI_toInt, tm1, tm2, tm3, tm4, tm9]; omega) | omega) ?_
            exact ⟨Or.inl rfl, rfl, rfl⟩
          · refine br_f (show ¬ (dr < 0) by first | assumption | (simp (discharger := omega) only [i_lt, i_le, i_eq, bI_tz, decide_eq_false_iff_not, Int32.reduceToInt, nI_toInt, tm1, tm2, tm3, tm4, tm9]; done) | (simp (discharger := omega) only [i_lt, i_le, i_eq, bI_tz, decide_eq_false_iff_not, Int32.reduceToInt, nI_toInt, tm1, tm2, tm3, tm4, tm9]; omega) | omega) ?_
            refine br_f (show ¬ (dr < 12) by first | assumption | (simp (discharger := omega) only [i_lt, i_le, i_eq, bI_tz, decide_eq_false_iff_not, Int32.reduceToInt, nI_toInt, tm1, tm2, tm3, tm4, tm9]; done) | (simp (discharger := omega) only [i_lt, i_le, i_eq, bI_tz, decide_eq_false_iff_not, Int32.reduceToInt, nI_toInt, tm1, tm2, tm3, tm4, tm9]; omega) | omega) ?_
            exact ⟨Or.inl rfl, rfl, rfl⟩
        rcases q2 with e | ⟨e1, e2⟩
        · refine br_t (show lo = -9 by first | assumption | (simp (discharger := omega) only [i_lt, i_le, i_eq, bI_tz, decide_eq_false_iff_not, Int32.reduceToInt, nI_toInt, tm1, tm2, tm3, tm4, tm9]; done) | (simp (discharger := omega) only [i_lt, i_le, i_eq, bI_tz, decide_eq_false_iff_not, Int32.reduceToInt, nI_toInt, tm1, tm2, tm3, tm4, tm9]; omega) | omega) ?_
          by_cases q4 : dr.toInt < 0
          · refine br_t (show dr < 0 by first | assumption | (simp (discharger := omega) only [i_lt, i_le, i_eq, bI_tz, decide_eq_false_iff_not, Int32.reduceToInt, nI_toInt, tm1, tm2, tm3, tm4, tm9]; done) | (simp (discharger := omega) only [i_lt, i_le, i_eq, bI_tz, decide_eq_false_iff_not, Int32.reduceToInt, nI_toInt, tm1, tm2, tm3, tm4, tm9]; omega) | omega) ?_
            exact ⟨Or.inl rfl, rfl, rfl⟩
          · refine br_f (show ¬ (dr < 0) by first | assumption | (simp (discharger := omega) only [i_lt, i_le, i_eq, bI_tz, decide_eq_false_iff_not, Int32.reduceToInt, nI_toInt, tm1, tm2, tm3, tm4, tm9]; done) | (simp (discharger := omega) only [i_lt, i_le, i_eq, bI_tz, decide_eq_false_iff_not, Int32.reduceToInt, nI_toInt, tm1, tm2, tm3, tm4, tm9]; omega) | omega) ?_
            refine br_f (show ¬ (dr < 12) by first | assumption | (simp (discharger := omega) only [i_lt, i_le, i_eq, bI_tz, decide_eq_false_iff_not, Int32.reduceToInt, nI_toInt, tm1, tm2, tm3, tm4, tm9]; done) | (simp (discharger := omega) only [i_lt, i_le, i_eq, bI_tz, decide_eq_false_iff_not, Int32.reduceToInt, nI_toInt, tm1, tm2, tm3, tm4, tm9]; omega) | omega) ?_
            exact ⟨Or.inl rfl, rfl, rfl⟩
        · refine br_f (show ¬ (lo = -9) by first | assumption | (simp (discharger := omega) only [i_lt, i_le, i_eq, bI_tz, decide_eq_false_iff_not, Int32.reduceToInt, nI_toInt, tm1, tm2, tm3, tm4, tm9]; done) | (simp (discharger := omega) only [i_lt, i_le, i_eq, bI_tz, decide_eq_false_iff_not, Int32.reduceToInt, nI_toInt, tm1, tm2, tm3, tm4, tm9]; omega) | omega) ?_
          refine And.intro rfl (And.intro rfl (Exists.intro _ (Exists.intro _ (And.intro (c_isYardLorry _) ?_))))
          refine br_f (by first | assumption | (simp (discharger := omega) only [i_lt, i_le, i_eq, bI_tz, decide_eq_false_iff_not, Int32.reduceToInt, nI_toInt, tm1, tm2, tm3, tm4, tm9]; done) | (simp (discharger := omega) only [i_lt, i_le, i_eq, bI_tz, decide_eq_false_iff_not, Int32.reduceToInt, nI_toInt, tm1, tm2, tm3, tm4, tm9]; omega) | omega) ?_
          refine And.intro rfl (And.intro rfl (Exists.intro _ (Exists.intro _ (And.intro (c_isYardSort _) ?_))))
          refine br_t (by first | assumption | (simp (discharger := omega) only [i_lt, i_le, i_eq, bI_tz, decide_eq_false_iff_not, Int32.reduceToInt, nI_toInt, tm1, tm2, tm3, tm4, tm9]; done) | (simp (discharger := omega) only [i_lt, i_le, i_eq, bI_tz, decide_eq_false_iff_not, Int32.reduceToInt, nI_toInt, tm1, tm2, tm3, tm4, tm9]; omega) | omega) ?_
          by_cases q4 : dr.toInt < 0
          · refine br_t (show dr < 0 by first | assumption | (simp (discharger := omega) only [i_lt, i_le, i_eq, bI_tz, decide_eq_false_iff_not, Int32.reduceToInt, nI_toInt, tm1, tm2, tm3, tm4, tm9]; done) | (simp (discharger := omega) only [i_lt, i_le, i_eq, bI_tz, decide_eq_false_iff_not, Int32.reduceToInt, nI_toInt, tm1, tm2, tm3, tm4, tm9]; omega) | omega) ?_
            exact ⟨Or.inl rfl, rfl, rfl⟩
          · refine br_f (show ¬ (dr < 0) by first | assumption | (simp (discharger := omega) only [i_lt, i_le, i_eq, bI_tz, decide_eq_false_iff_not, Int32.reduceToInt, nI_toInt, tm1, tm2, tm3, tm4, tm9]; done) | (simp (discharger := omega) only [i_lt, i_le, i_eq, bI_tz, decide_eq_false_iff_not, Int32.reduceToInt, nI_toInt, tm1, tm2, tm3, tm4, tm9]; omega) | omega) ?_
            refine br_f (show ¬ (dr < 12) by first | assumption | (simp (discharger := omega) only [i_lt, i_le, i_eq, bI_tz, decide_eq_false_iff_not, Int32.reduceToInt, nI_toInt, tm1, tm2, tm3, tm4, tm9]; done) | (simp (discharger := omega) only [i_lt, i_le, i_eq, bI_tz, decide_eq_false_iff_not, Int32.reduceToInt, nI_toInt, tm1, tm2, tm3, tm4, tm9]; omega) | omega) ?_
            exact ⟨Or.inl rfl, rfl, rfl⟩
      · refine cc_of 80 rfl rfl ?_
        rcases q2 with e | ⟨e1, e2⟩
        · refine br_f (show ¬ (¬ lo = -9) by first | assumption | (simp (discharger := omega) only [i_lt, i_le, i_eq, bI_tz, decide_eq_false_iff_not, Int32.reduceToInt, nI_toInt, tm1, tm2, tm3, tm4, tm9]; done) | (simp (discharger := omega) only [i_lt, i_le, i_eq, bI_tz, decide_eq_false_iff_not, Int32.reduceToInt, nI_toInt, tm1, tm2, tm3, tm4, tm9]; omega) | omega) ?_
          refine And.intro ⟨rfl, rfl⟩ (And.intro rfl (Exists.intro _ (Exists.intro _ (And.intro (c_noPart (h := nh h) hs c1 c3 p) ?_))))
          refine br_f (by first | assumption | (simp (discharger := omega) only [i_lt, i_le, i_eq, bI_tz, decide_eq_false_iff_not, Int32.reduceToInt, nI_toInt, tm1, tm2, tm3, tm4, tm9]; done) | (simp (discharger := omega) only [i_lt, i_le, i_eq, bI_tz, decide_eq_false_iff_not, Int32.reduceToInt, nI_toInt, tm1, tm2, tm3, tm4, tm9]; omega) | omega) ?_
          refine br_t (by decide) ?_
          refine And.intro rfl (And.intro rfl (Exists.intro _ (Exists.intro _ (And.intro (c_inN dr (m := 11) (n := 11) (by decide)) ?_))))
          refine br_f (by rw [bI_z, decide_eq_false_iff_not]; omega) ?_
          exact ⟨Or.inl rfl, rfl, rfl⟩
        · refine br_t (show ¬ lo = -9 by first | assumption | (simp (discharger := omega) only [i_lt, i_le, i_eq, bI_tz, decide_eq_false_iff_not, Int32.reduceToInt, nI_toInt, tm1, tm2, tm3, tm4, tm9]; done) | (simp (discharger := omega) only [i_lt, i_le, i_eq, bI_tz, decide_eq_false_iff_not, Int32.reduceToInt, nI_toInt, tm1, tm2, tm3, tm4, tm9]; omega) | omega) ?_
          refine And.intro ⟨rfl, rfl⟩ (And.intro rfl (Exists.intro _ (Exists.intro _ (And.intro (c_noPart (h := nh h) hs c1 c3 p) ?_))))
          refine br_f (by first | assumption | (simp (discharger := omega) only [i_lt, i_le, i_eq, bI_tz, decide_eq_false_iff_not, Int32.reduceToInt, nI_toInt, tm1, tm2, tm3, tm4, tm9]; done) | (simp (discharger := omega) only [i_lt, i_le, i_eq, bI_tz, decide_eq_false_iff_not, Int32.reduceToInt, nI_toInt, tm1, tm2, tm3, tm4, tm9]; omega) | omega) ?_
          refine br_f (by exact fun z => z rfl) ?_
          refine And.intro rfl (And.intro rfl (Exists.intro _ (Exists.intro _ (And.intro (c_noLorry _) ?_))))
          refine br_f (by first | assumption | (simp (discharger := omega) only [i_lt, i_le, i_eq, bI_tz, decide_eq_false_iff_not, Int32.reduceToInt, nI_toInt, tm1, tm2, tm3, tm4, tm9]; done) | (simp (discharger := omega) only [i_lt, i_le, i_eq, bI_tz, decide_eq_false_iff_not, Int32.reduceToInt, nI_toInt, tm1, tm2, tm3, tm4, tm9]; omega) | omega) ?_
          refine And.intro rfl (And.intro rfl (Exists.intro _ (Exists.intro _ (And.intro (c_noYardSort _) ?_))))
          refine br_t (by first | assumption | (simp (discharger := omega) only [i_lt, i_le, i_eq, bI_tz, decide_eq_false_iff_not, Int32.reduceToInt, nI_toInt, tm1, tm2, tm3, tm4, tm9]; done) | (simp (discharger := omega) only [i_lt, i_le, i_eq, bI_tz, decide_eq_false_iff_not, Int32.reduceToInt, nI_toInt, tm1, tm2, tm3, tm4, tm9]; omega) | omega) ?_
          refine And.intro rfl (And.intro rfl (Exists.intro _ (Exists.intro _ (And.intro (c_inN dr (m := 11) (n := 11) (by decide)) ?_))))
          refine br_f (by rw [bI_z, decide_eq_false_iff_not]; omega) ?_
          exact ⟨Or.inl rfl, rfl, rfl⟩
  · refine ⟨.int (-1), nh h, nh h, ?_, ?_, hS, (fin_same hS).2.O⟩
    · refine cc_of 80 rfl rfl ?_
      refine And.intro ⟨rfl, rfl⟩ (And.intro rfl (Exists.intro _ (Exists.intro _ (And.intro (c_isPart hs c1 c2 p) ?_))))
      by_cases q1 : 0 ≤ p.toInt ∧ p.toInt < np
      · refine br_f (by first | assumption | (simp (discharger := omega) only [i_lt, i_le, i_eq, bI_tz, decide_eq_false_iff_not, Int32.reduceToInt, nI_toInt, tm1, tm2, tm3, tm4, tm9]; done) | (simp (discharger := omega) only [i_lt, i_le, i_eq, bI_tz, decide_eq_false_iff_not, Int32.reduceToInt, nI_toInt, tm1, tm2, tm3, tm4, tm9]; omega) | omega) ?_
        refine br_f (show ¬ (lo = -9) by first | assumption | (simp (discharger := omega) only [i_lt, i_le, i_eq, bI_tz, decide_eq_false_iff_not, Int32.reduceToInt, nI_toInt, tm1, tm2, tm3, tm4, tm9]; done) | (simp (discharger := omega) only [i_lt, i_le, i_eq, bI_tz, decide_eq_false_iff_not, Int32.reduceToInt, nI_toInt, tm1, tm2, tm3, tm4, tm9]; omega) | omega) ?_
        refine And.intro rfl (And.intro rfl (Exists.intro _ (Exists.intro _ (And.intro (c_isYardLorry _) ?_))))
        by_cases q2 : 0 ≤ lo.toInt ∧ lo.toInt < 4
        · refine br_f (by first | assumption | (simp (discharger := omega) only [i_lt, i_le, i_eq, bI_tz, decide_eq_false_iff_not, Int32.reduceToInt, nI_toInt, tm1, tm2, tm3, tm4, tm9]; done) | (simp (discharger := omega) only [i_lt, i_le, i_eq, bI_tz, decide_eq_false_iff_not, Int32.reduceToInt, nI_toInt, tm1, tm2, tm3, tm4, tm9]; omega) | omega) ?_
          refine And.intro rfl (And.intro rfl (Exists.intro _ (Exists.intro _ (And.intro (c_isYardSort _) ?_))))
          refine br_f (by first | assumption | (simp (discharger := omega) only [i_lt, i_le, i_eq, bI_tz, decide_eq_false_iff_not, Int32.reduceToInt, nI_toInt, tm1, tm2, tm3, tm4, tm9]; done) | (simp (discharger := omega) only [i_lt, i_le, i_eq, bI_tz, decide_eq_false_iff_not, Int32.reduceToInt, nI_toInt, tm1, tm2, tm3, tm4, tm9]; omega) | omega) ?_
          exact ⟨Or.inl rfl, rfl, rfl⟩
        · refine br_t (by first | assumption | (simp (discharger := omega) only [i_lt, i_le, i_eq, bI_tz, decide_eq_false_iff_not, Int32.reduceToInt, nI_toInt, tm1, tm2, tm3, tm4, tm9]; done) | (simp (discharger := omega) only [i_lt, i_le, i_eq, bI_tz, decide_eq_false_iff_not, Int32.reduceToInt, nI_toInt, tm1, tm2, tm3, tm4, tm9]; omega) | omega) ?_
          exact ⟨Or.inl rfl, rfl, rfl⟩
      · refine br_t (by first | assumption | (simp (discharger := omega) only [i_lt, i_le, i_eq, bI_tz, decide_eq_false_iff_not, Int32.reduceToInt, nI_toInt, tm1, tm2, tm3, tm4, tm9]; done) | (simp (discharger := omega) only [i_lt, i_le, i_eq, bI_tz, decide_eq_false_iff_not, Int32.reduceToInt, nI_toInt, tm1, tm2, tm3, tm4, tm9]; omega) | omega) ?_
        exact ⟨Or.inl rfl, rfl, rfl⟩
    · refine cc_of 80 rfl rfl ?_
      by_cases q1 : 0 ≤ p.toInt ∧ p.toInt < np
      · refine br_t (show ¬ lo = -9 by first | assumption | (simp (discharger := omega) only [i_lt, i_le, i_eq, bI_tz, decide_eq_false_iff_not, Int32.reduceToInt, nI_toInt, tm1, tm2, tm3, tm4, tm9]; done) | (simp (discharger := omega) only [i_lt, i_le, i_eq, bI_tz, decide_eq_false_iff_not, Int32.reduceToInt, nI_toInt, tm1, tm2, tm3, tm4, tm9]; omega) | omega) ?_
        refine And.intro ⟨rfl, rfl⟩ (And.intro rfl (Exists.intro _ (Exists.intro _ (And.intro (c_noPart (h := nh h) hs c1 c3 p) ?_))))
        refine br_f (by first | assumption | (simp (discharger := omega) only [i_lt, i_le, i_eq, bI_tz, decide_eq_false_iff_not, Int32.reduceToInt, nI_toInt, tm1, tm2, tm3, tm4, tm9]; done) | (simp (discharger := omega) only [i_lt, i_le, i_eq, bI_tz, decide_eq_false_iff_not, Int32.reduceToInt, nI_toInt, tm1, tm2, tm3, tm4, tm9]; omega) | omega) ?_
        refine br_f (by exact fun z => z rfl) ?_
        refine And.intro rfl (And.intro rfl (Exists.intro _ (Exists.intro _ (And.intro (c_noLorry _) ?_))))
        by_cases q2 : 0 ≤ lo.toInt ∧ lo.toInt < 4
        · refine br_f (by first | assumption | (simp (discharger := omega) only [i_lt, i_le, i_eq, bI_tz, decide_eq_false_iff_not, Int32.reduceToInt, nI_toInt, tm1, tm2, tm3, tm4, tm9]; done) | (simp (discharger := omega) only [i_lt, i_le, i_eq, bI_tz, decide_eq_false_iff_not, Int32.reduceToInt, nI_toInt, tm1, tm2, tm3, tm4, tm9]; omega) | omega) ?_
          refine And.intro rfl (And.intro rfl (Exists.intro _ (Exists.intro _ (And.intro (c_noYardSort _) ?_))))
          refine br_f (by first | assumption | (simp (discharger := omega) only [i_lt, i_le, i_eq, bI_tz, decide_eq_false_iff_not, Int32.reduceToInt, nI_toInt, tm1, tm2, tm3, tm4, tm9]; done) | (simp (discharger := omega) only [i_lt, i_le, i_eq, bI_tz, decide_eq_false_iff_not, Int32.reduceToInt, nI_toInt, tm1, tm2, tm3, tm4, tm9]; omega) | omega) ?_
          exact ⟨Or.inl rfl, rfl, rfl⟩
        · refine br_t (by first | assumption | (simp (discharger := omega) only [i_lt, i_le, i_eq, bI_tz, decide_eq_false_iff_not, Int32.reduceToInt, nI_toInt, tm1, tm2, tm3, tm4, tm9]; done) | (simp (discharger := omega) only [i_lt, i_le, i_eq, bI_tz, decide_eq_false_iff_not, Int32.reduceToInt, nI_toInt, tm1, tm2, tm3, tm4, tm9]; omega) | omega) ?_
          exact ⟨Or.inl rfl, rfl, rfl⟩
      · by_cases q5 : lo.toInt = -9
        · refine br_f (show ¬ (¬ lo = -9) by first | assumption | (simp (discharger := omega) only [i_lt, i_le, i_eq, bI_tz, decide_eq_false_iff_not, Int32.reduceToInt, nI_toInt, tm1, tm2, tm3, tm4, tm9]; done) | (simp (discharger := omega) only [i_lt, i_le, i_eq, bI_tz, decide_eq_false_iff_not, Int32.reduceToInt, nI_toInt, tm1, tm2, tm3, tm4, tm9]; omega) | omega) ?_
          refine And.intro ⟨rfl, rfl⟩ (And.intro rfl (Exists.intro _ (Exists.intro _ (And.intro (c_noPart (h := nh h) hs c1 c3 p) ?_))))
          refine br_t (by first | assumption | (simp (discharger := omega) only [i_lt, i_le, i_eq, bI_tz, decide_eq_false_iff_not, Int32.reduceToInt, nI_toInt, tm1, tm2, tm3, tm4, tm9]; done) | (simp (discharger := omega) only [i_lt, i_le, i_eq, bI_tz, decide_eq_false_iff_not, Int32.reduceToInt, nI_toInt, tm1, tm2, tm3, tm4, tm9]; omega) | omega) ?_
          exact ⟨Or.inl rfl, rfl, rfl⟩
        · refine br_t (show ¬ lo = -9 by first | assumption | (simp (discharger := omega) only [i_lt, i_le, i_eq, bI_tz, decide_eq_false_iff_not, Int32.reduceToInt, nI_toInt, tm1, tm2, tm3, tm4, tm9]; done) | (simp (discharger := omega) only [i_lt, i_le, i_eq, bI_tz, decide_eq_false_iff_not, Int32.reduceToInt, nI_toInt, tm1, tm2, tm3, tm4, tm9]; omega) | omega) ?_
          refine And.intro ⟨rfl, rfl⟩ (And.intro rfl (Exists.intro _ (Exists.intro _ (And.intro (c_noPart (h := nh h) hs c1 c3 p) ?_))))
          refine br_t (by first | assumption | (simp (discharger := omega) only [i_lt, i_le, i_eq, bI_tz, decide_eq_false_iff_not, Int32.reduceToInt, nI_toInt, tm1, tm2, tm3, tm4, tm9]; done) | (simp (discharger := omega) only [i_lt, i_le, i_eq, bI_tz, decide_eq_false_iff_not, Int32.reduceToInt, nI_toInt, tm1, tm2, tm3, tm4, tm9]; omega) | omega) ?_
          exact ⟨Or.inl rfl, rfl, rfl⟩
end
