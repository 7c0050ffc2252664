/-! drive -/
def cN (f : Nat → Bool) : Nat → Nat
  | 0 => 0
  | x + 1 => cN f x + (if f (x / 3) then 1 else 0)
theorem cN_12 (f : Nat → Bool) : cN f 12 = 3 * bc (rs f 4) := by
  have e : rs f 4 = (if f 0 then 1 else 0) + (if f 1 then 2 else 0) + (if f 2 then 4 else 0) + (if f 3 then 8 else 0) := by simp [rs]
  rw [e]
  simp only [cN, show 0 / 3 = 0 from rfl, show 1 / 3 = 0 from rfl, show 2 / 3 = 0 from rfl, show 3 / 3 = 1 from rfl, show 4 / 3 = 1 from rfl, show 5 / 3 = 1 from rfl, show 6 / 3 = 2 from rfl, show 7 / 3 = 2 from rfl, show 8 / 3 = 2 from rfl, show 9 / 3 = 3 from rfl, show 10 / 3 = 3 from rfl, show 11 / 3 = 3 from rfl]
  cases f 0 <;> cases f 1 <;> cases f 2 <;> cases f 3 <;> decide
theorem cN_le (f : Nat → Bool) : ∀ (d x : Nat), cN f x ≤ cN f (x + d) := by
  intro d
  induction d with
  | zero => intro x; exact Nat.le_refl _
  | succ d ih =>
    intro x
    have := ih x
    show cN f x ≤ cN f (x + d) + _
    omega
theorem cN_run {f : Nat → Bool} {x : Nat} (hx : x < 12) (hf : f (x / 3) = true) : cN f x + 1 ≤ cN f 12 := by
  have := cN_le f (12 - (x + 1)) (x + 1)
  rw [show x + 1 + (12 - (x + 1)) = 12 by omega] at this
  have e : cN f (x + 1) = cN f x + 1 := by rw [cN, if_pos hf]
  omega
def bN (b : Nat → Bool) : Nat → Nat
  | 0 => 0
  | x + 1 => bN b x + (if b x then 1 else 0)
def gXF (g0 : Nat → Bool) (run brk : Nat → Bool) (pl : Nat → Nat) : Nat → Nat → Bool
  | 0, p => g0 p
  | x + 1, p => if run x = true ∧ brk x = true ∧ pl x = p then false else gXF g0 run brk pl x p
def gMF (g0 : Nat → Bool) (run brk : Nat → Bool) (pl : Nat → Nat) : Nat → Nat → Bool
  | 0, p => g0 p
  | x + 1, p => if run x = true ∧ pl x = p then !brk x else gMF g0 run brk pl x p
theorem gX_eq {g0 : Nat → Bool} {run brk : Nat → Bool} {pl : Nat → Nat} {n : Nat} (hi : ∀ x y, x < n → y < n → run x = true → run y = true → pl x = pl y → x = y) (hg : ∀ x, x < n → run x = true → g0 (pl x) = true) : ∀ x, x ≤ n → (∀ p, gXF g0 run brk pl x p = gMF g0 run brk pl x p) ∧ ∀ y, x ≤ y → y < n → run y = true → gXF g0 run brk pl x (pl y) = true := by
  intro x
  induction x with
  | zero => exact fun _ => ⟨fun _ => rfl, fun y _ hy hr => hg y hy hr⟩
  | succ x ih =>
    intro hx
    obtain ⟨i1, i2⟩ := ih (by omega)
    constructor
    · intro p
      unfold gXF gMF
      by_cases q : run x = true ∧ pl x = p
      · rw [if_pos q]
        cases hb : brk x with
        | true => rw [if_pos ⟨q.1, rfl, q.2⟩]; rfl
        | false =>
          rw [if_neg (fun z => nomatch z.2.1), ← q.2, i2 x (Nat.le_refl _) (by omega) q.1]
          rfl
      · rw [if_neg q, if_neg (fun z => q ⟨z.1, z.2.2⟩)]
        exact i1 p
    · intro y h1 h2 h3
      unfold gXF
      rw [if_neg (fun z => absurd (hi x y (by omega) h2 z.1 h3 z.2.2) (by omega))]
      exact i2 y (by omega) h2 h3
/-- the same heap with other ints -/
def wI (h : Hp) (f : Nat → Nat → Int32) : Hp := (h.1, zK h, zN h, f, zJ h, zA h)
section
variable {sc : Nat × (Nat → Int32)} {h : Hp}
def drw (c : Nat → Int32) (j : Nat) : Bool := decide (0 ≤ (c j).toInt) && decide ((c j).toInt < 12)
theorem areDraws_loop {a : Nat} (hk : zK h a = 5) (hkc : zK h (zA h a 2) = 12) (hnc : zN h (zA h a 2) = 60) {i n : Nat} (hin : i + n ≤ 60) : ∀ (d j : Nat), j + d = n → Rn sc (mtk 50) 2 [some (.ref a), some (.int (nI i)), some (.int (nI n)), some (.int (nI (i + j)))] [] h (some (.int (bI (allF (drw (zI h (zA h a 2))) (i + j) d)))) h := by
  intro d
  have k0 : kin 5 (zK h a) = true := by rw [hk]; rfl
  have en : nI i + nI n = nI (i + n) := nI_add i n
  induction d with
  | zero =>
    intro j hj
    refine bk_sound (cuts := []) 20 _ _ _ _ ?_
    refine br_t (show nI i + nI n ≤ nI (i + j) by rw [en]; exact nI_le (by omega) (by omega)) ?_
    exact ⟨Or.inr ⟨rfl, Or.inr rfl⟩, rfl, rfl⟩
  | succ d ih =>
    intro j hj
    have ij : inB (nI (i + j)) (zN h (zA h a 2)) = true := by rw [hnc]; exact inB_nI (by omega) (by decide)
    have ej : (nI (i + j)).toNatClampNeg = i + j := nI_clamp (by omega)
    refine bk_sound (cuts := [2]) 30 _ _ _ _ ?_
    refine br_f (show ¬ nI i + nI n ≤ nI (i + j) by rw [en]; exact nI_ge (by omega) (by omega)) ?_
    refine And.intro (k0) ?_
    refine And.intro (⟨hkc, ij⟩) ?_
    rw [ej]
    unfold allF
    by_cases q1 : (zI h (zA h a 2) (i + j)).toInt < 0
    · refine br_t (show zI h (zA h a 2) (i + j) < 0 by first | assumption | (simp (discharger := omega) only [i_lt, i_le, i_eq, bI_tz, decide_eq_false_iff_not, Int32.reduceToInt, nI_toInt, tm1, tm2, tm3, tm4, tm9]; done) | (simp (discharger := omega) only [i_lt, i_le, i_eq, bI_tz, decide_eq_false_iff_not, Int32.reduceToInt, nI_toInt, tm1, tm2, tm3, tm4, tm9]; omega) | omega) ?_
      rw [show drw (zI h (zA h a 2)) (i + j) = false by unfold drw; rw [decide_eq_false (by omega)]; rfl]
      exact ⟨Or.inr ⟨rfl, Or.inl rfl⟩, rfl, rfl⟩
    · refine br_f (show ¬ (zI h (zA h a 2) (i + j) < 0) by first | assumption | (simp (discharger := omega) only [i_lt, i_le, i_eq, bI_tz, decide_eq_false_iff_not, Int32.reduceToInt, nI_toInt, tm1, tm2, tm3, tm4, tm9]; done) | (simp (discharger := omega) only [i_lt, i_le, i_eq, bI_tz, decide_eq_false_iff_not, Int32.reduceToInt, nI_toInt, tm1, tm2, tm3, tm4, tm9]; omega) | omega) ?_
      refine And.intro (k0) ?_
      refine And.intro (⟨hkc, ij⟩) ?_
      rw [ej]
      by_cases q2 : (zI h (zA h a 2) (i + j)).toInt < 12
      · refine br_t (show zI h (zA h a 2) (i + j) < 12 by first | assumption | (simp (discharger := omega) only [i_lt, i_le, i_eq, bI_tz, decide_eq_false_iff_not, Int32.reduceToInt, nI_toInt, tm1, tm2, tm3, tm4, tm9]; done) | (simp (discharger := omega) only [i_lt, i_le, i_eq, bI_tz, decide_eq_false_iff_not, Int32.reduceToInt, nI_toInt, tm1, tm2, tm3, tm4, tm9]; omega) | omega) ?_
        rw [show drw (zI h (zA h a 2)) (i + j) = true by unfold drw; rw [decide_eq_true (by omega), decide_eq_true q2]; rfl]
        have := ih (j + 1) (by omega)
        rw [← Nat.add_assoc, ← nI_1] at this
        exact this
      · refine br_f (show ¬ (zI h (zA h a 2) (i + j) < 12) by first | assumption | (simp (discharger := omega) only [i_lt, i_le, i_eq, bI_tz, decide_eq_false_iff_not, Int32.reduceToInt, nI_toInt, tm1, tm2, tm3, tm4, tm9]; done) | (simp (discharger := omega) only [i_lt, i_le, i_eq, bI_tz, decide_eq_false_iff_not, Int32.reduceToInt, nI_toInt, tm1, tm2, tm3, tm4, tm9]; omega) | omega) ?_
        rw [show drw (zI h (zA h a 2)) (i + j) = false by unfold drw; rw [decide_eq_false q2, Bool.and_false]]
        exact ⟨Or.inr ⟨rfl, Or.inl rfl⟩, rfl, rfl⟩
theorem c_areDraws {a : Nat} (hk : zK h a = 5) (hkc : zK h (zA h a 2) = 12) (hnc : zN h (zA h a 2) = 60) {i n : Nat} (hin : i + n ≤ 60) : Cc sc 50 [.ref a, .int (nI i), .int (nI n)] h (some (.int (bI (allF (drw (zI h (zA h a 2))) i n)))) h := by
  refine cc_cut [2] 10 rfl rfl ?_
  exact areDraws_loop hk hkc hnc hin n 0 (by omega)
/-- which part stands at a place; whether its lorry runs; whether it breaks -/
def dPl (h : Hp) (x : Nat) : Nat := (zI h 57 x).toNatClampNeg
def dRun (h : Hp) (x : Nat) : Bool := okL h (x / 3)
def dBrk (h : Hp) (c : Nat → Int32) (i x : Nat) : Bool := decide ((c (i + cN (okL h) x)).toInt < (zI h 58 (zI h 52 (dPl h x)).toNatClampNeg).toInt)
def dG0 (h : Hp) (p : Nat) : Bool := !decide (zI h 54 p = 0)
theorem run_pl {np : Nat} (hP : PlM h) {x : Nat} (hx : x < 12) (hr : dRun h x = true) : zI h 57 x = nI (dPl h x) ∧ dPl h x < 12 ∧ dG0 h (dPl h x) = true := by
  have ok : okM h x = true := allF_get 3 (3 * (x / 3)) hr x (by omega) (by omega)
  rcases plM_ok hP hx with ⟨w2, w3⟩ | ⟨p, n1, w2, w7⟩
  · rw [w3] at ok; cases ok
  · have e : dPl h x = p := by unfold dPl; rw [w2]; exact nI_clamp (by omega)
    rw [e]
    refine ⟨w2, n1, ?_⟩
    rw [w7] at ok
    exact ok
/-- what the class has done to parts before a place -/
def DInv (h : Hp) (c : Nat → Int32) (i x : Nat) (f : Nat → Nat → Int32) : Prop := (∀ a j, a < 65 ∨ j ≠ 3 → f a j = zI h a j) ∧ (∀ a, (∀ p np, zI h 39 18 = nI np → np ≤ 12 → p < np → zA h 16 p ≠ a) → f a = zI h a) ∧ ∀ p np, zI h 39 18 = nI np → np ≤ 12 → p < np → f (zA h 16 p) 3 = bI (gXF (dG0 h) (dRun h) (dBrk h c i) (dPl h) x p)
theorem bit_cond {s x : Nat} (hs : s < 16) (hx : x < 12) : (nI s >>> (nI x / 3 &&& 31)) &&& 1 = nI (s / 2 ^ (x / 3) % 2) := by
  rw [show nI x / 3 = nI (x / 3) from pk_div (a := x) (d := 3) (by omega) (by decide) (by decide)]
  exact shr_bit (by omega) (by omega)
theorem driveOut_loop (hs : Shp h) (hP : SimP h) (hA : ∀ j, j < 3 → zI h 18 j = zI h 58 j) {k i n : Nat} (hk : k < 4) (hn : n = 3 * bc (rs (okL h) 4)) (hin : i + n ≤ 60) : ∀ (d x : Nat) (f : Nat → Nat → Int32) (o : Option Value), x + d = 12 → DInv h (zI h (32 + 2 * k)) i x f → ∃ f', DInv h (zI h (32 + 2 * k)) i 12 f' ∧ Rn sc (mtk 86) 14 [some (.ref 15), some (.ref (31 + 2 * k)), some (.int (nI i)), some (.int (nI (rs (okL h) 4))), some (.int (nI (i + cN (okL h) x))), some (.int (nI (bN (fun x => dRun h x && dBrk h (zI h (32 + 2 * k)) i x) x))), some (.int (nI x)), o] [] (wI (nh h) f) (some (.int (nI (bN (fun x => dRun h x && dBrk h (zI h (32 + 2 * k)) i x) 12)))) (upI (wI (nh h) f') 15 6 0) := by
  intro d
  have s16 : rs (okL h) 4 < 16 := rs_lt _ 4
  have hPM := PlM_of hP
  induction d with
  | zero =>
    intro x f o hx hf
    refine ⟨f, by rw [show x = 12 by omega] at hf; exact hf, bk_sound (cuts := []) 20 _ _ _ _ ?_⟩
    refine br_t (show 12 ≤ nI x by first | assumption | (simp (discharger := omega) only [i_lt, i_le, i_eq, bI_tz, decide_eq_false_iff_not, Int32.reduceToInt, nI_toInt, tm1, tm2, tm3, tm4, tm9]; done) | (simp (discharger := omega) only [i_lt, i_le, i_eq, bI_tz, decide_eq_false_iff_not, Int32.reduceToInt, nI_toInt, tm1, tm2, tm3, tm4, tm9]; omega) | omega) ?_
    refine And.intro (⟨rfl, Or.inl rfl⟩) ?_
    rw [show x = 12 by omega]
    exact ⟨Or.inl rfl, rfl, rfl⟩
  | succ d ih =>
    intro x f o hx hf
    have e3 : nI x / 3 = nI (x / 3) := pk_div (a := x) (d := 3) (by omega) (by decide) (by decide)
    have eb : (nI (rs (okL h) 4) >>> (nI x / 3 &&& 31)) &&& 1 = nI (rs (okL h) 4 / 2 ^ (x / 3) % 2) := bit_cond s16 (by omega)
    rw [bit_rs (okL h) (by omega : x / 3 < 4)] at eb
    cases hr : okL h (x / 3) with
    | false =>
      obtain ⟨f', g1, g2⟩ := ih (x + 1) f o (by omega) (by
        refine ⟨hf.1, hf.2.1, fun p np n1 n2 n3 => ?_⟩
        rw [hf.2.2 p np n1 n2 n3, gXF, if_neg (fun z => by have := z.1; unfold dRun at this; rw [hr] at this; cases this)])
      rw [show cN (okL h) (x + 1) = cN (okL h) x by rw [cN, hr]; rfl, show bN (fun x => dRun h x && dBrk h (zI h (32 + 2 * k)) i x) (x + 1) = bN (fun x => dRun h x && dBrk h (zI h (32 + 2 * k)) i x) x by rw [bN]; simp only [dRun, hr]; rfl, ← nI_1] at g2
      refine ⟨f', g1, bk_sound (cuts := [14]) 30 _ _ _ _ ?_⟩
      refine br_f (show ¬ (12 ≤ nI x) by first | assumption | (simp (discharger := omega) only [i_lt, i_le, i_eq, bI_tz, decide_eq_false_iff_not, Int32.reduceToInt, nI_toInt, tm1, tm2, tm3, tm4, tm9]; done) | (simp (discharger := omega) only [i_lt, i_le, i_eq, bI_tz, decide_eq_false_iff_not, Int32.reduceToInt, nI_toInt, tm1, tm2, tm3, tm4, tm9]; omega) | omega) ?_
      refine And.intro (by decide) ?_
      rw [hr] at eb
      refine br_f (show ¬ ¬ (nI (rs (okL h) 4) >>> (nI x / 3 &&& 31)) &&& 1 = 0 from fun z => z eb) ?_
      exact g2
    | true =>
      have hrun : dRun h x = true := hr
      obtain ⟨w1, w2, w3⟩ := run_pl (np := 0) hPM (by omega : x < 12) hrun
      have hcn := cN_run (by omega : x < 12) hr
      rw [cN_12, ← hn] at hcn
      obtain ⟨p, np, n1, n2, n3, v1, v2, v3, v4, v5, v6, v7⟩ : ∃ p np, np ≤ 12 ∧ p < np ∧ zI h 39 18 = nI np ∧ zI h 17 x = nI p ∧ zI h 57 x = nI p ∧ zI h 56 p = nI x ∧ kin 4 (zK h (zA h 16 p)) = true ∧ 65 ≤ zA h 16 p ∧ zI h (zA h 16 p) 3 = zI h 54 p ∧ okM h x = !decide (zI h 54 p = 0) := by
        rcases place_of hP (by omega : x < 12) with ⟨u1, u2, u3⟩ | u
        · rw [u2] at w1
          exact absurd w1.symm (by first | assumption | (simp (discharger := omega) only [i_lt, i_le, i_eq, bI_tz, decide_eq_false_iff_not, Int32.reduceToInt, nI_toInt, tm1, tm2, tm3, tm4, tm9]; done) | (simp (discharger := omega) only [i_lt, i_le, i_eq, bI_tz, decide_eq_false_iff_not, Int32.reduceToInt, nI_toInt, tm1, tm2, tm3, tm4, tm9]; omega) | omega)
        · exact u
      obtain ⟨np', c1, c2, c3, c4, c5, c6, c7⟩ := hP
      obtain rfl : np' = np := nI_inj12 c1 n1 (c3.symm.trans n3)
      obtain ⟨a, kd, st, hrr, gd, hd, pl, z1, z2, z3, z4, z5, z6, z7, z8, z9, z10, z11, z12, z13, z14, z15, z16, z17, z18, z19, z20⟩ := c4 p n2
      have epl : dPl h x = p := by unfold dPl; rw [v2]; exact nI_clamp (by omega)
      have ip : inB (nI p) 12 = true := inB_nI (by omega) (by decide)
      have ep : (nI p).toNatClampNeg = p := nI_clamp (by omega)
      have ix : inB (nI x) 12 = true := inB_nI (by omega) (by decide)
      have ex : (nI x).toNatClampNeg = x := nI_clamp (by omega)
      have ic : inB (nI (i + cN (okL h) x)) 60 = true := inB_nI (by omega) (by decide)
      have ec : (nI (i + cN (okL h) x)).toNatClampNeg = i + cN (okL h) x := nI_clamp (by omega)
      have is : inB (nI st) 3 = true := inB_nI (by omega) (by decide)
      have es : (nI st).toNatClampNeg = st := nI_clamp (by omega)
      have k4 : kin 4 (zK (nh h) a) = true := by rw [nh_K z2, z4]; exact kin_part z3
      have hb : dBrk h (zI h (32 + 2 * k)) i x = decide ((zI h (32 + 2 * k) (i + cN (okL h) x)).toInt < (zI h 18 st).toInt) := by
        unfold dBrk
        rw [epl, z15, es, hA st (by omega)]
      have f17 : f 17 x = nI p := (hf.1 17 x (Or.inl (by decide))).trans v1
      have fc : f (32 + 2 * k) (i + cN (okL h) x) = zI h (32 + 2 * k) (i + cN (okL h) x) := hf.1 _ _ (Or.inl (by omega))
      have fs : f a 1 = nI st := (hf.1 a 1 (Or.inr (by decide))).trans z7
      have f18 : f 18 st = zI h 18 st := hf.1 _ _ (Or.inl (by decide))
      have common : ∀ (f' : Nat → Nat → Int32) (R : Prop), True := fun _ _ => trivial
      by_cases q : (zI h (32 + 2 * k) (i + cN (okL h) x)).toInt < (zI h 18 st).toInt
      · have hbt : dBrk h (zI h (32 + 2 * k)) i x = true := by rw [hb]; exact decide_eq_true q
        obtain ⟨f', g1, g2⟩ := ih (x + 1) (va_up f a (upd (f a) 3 0)) (some (.ref a)) (by omega) (by
          refine ⟨fun b j hbj => ?_, fun b hb' => ?_, fun p' np'' m1 m2 m3 => ?_⟩
          · by_cases e : b = a
            · rw [e, va_up_self]
              unfold upd
              rw [if_neg (by omega), ← e]
              exact hf.1 b j hbj
            · rw [va_up_ne _ _ e]
              exact hf.1 b j hbj
          · rw [va_up_ne _ _ (fun e => hb' p np' n3 n1 n2 (z1.trans e.symm))]
            exact hf.2.1 b hb'
          · obtain rfl : np'' = np' := nI_inj12 m2 n1 (m1.symm.trans n3)
            rw [gXF]
            by_cases e : p' = p
            · rw [e, if_pos ⟨hrun, hbt, epl⟩, z1, va_up_self]
              unfold upd
              rw [if_pos rfl]
              rfl
            · rw [if_neg (fun z => e (z.2.2.symm.trans epl)), va_up_ne _ _ (fun z => c7 p' p m3 n2 e (z.trans z1.symm))]
              exact hf.2.2 p' np'' m1 m2 m3)
        rw [show cN (okL h) (x + 1) = cN (okL h) x + 1 by rw [cN, hr]; rfl, show bN (fun x => dRun h x && dBrk h (zI h (32 + 2 * k)) i x) (x + 1) = bN (fun x => dRun h x && dBrk h (zI h (32 + 2 * k)) i x) x + 1 by rw [bN]; simp only [hrun, hbt]; rfl, ← nI_1, ← nI_1, ← Nat.add_assoc, ← nI_1] at g2
        refine ⟨f', g1, bk_sound (cuts := [14]) 40 _ _ _ _ ?_⟩
        refine br_f (show ¬ (12 ≤ nI x) by first | assumption | (simp (discharger := omega) only [i_lt, i_le, i_eq, bI_tz, decide_eq_false_iff_not, Int32.reduceToInt, nI_toInt, tm1, tm2, tm3, tm4, tm9]; done) | (simp (discharger := omega) only [i_lt, i_le, i_eq, bI_tz, decide_eq_false_iff_not, Int32.reduceToInt, nI_toInt, tm1, tm2, tm3, tm4, tm9]; omega) | omega) ?_
        refine And.intro (by decide) ?_
        rw [hr] at eb
        refine br_t (show ¬ (nI (rs (okL h) 4) >>> (nI x / 3 &&& 31)) &&& 1 = 0 by rw [eb]; decide) ?_
        refine And.intro rfl ?_
        refine And.intro rfl ?_
        refine And.intro (⟨rfl, ix⟩) ?_
        rw [ex, show zI (wI (nh h) f) (zA (wI (nh h) f) 15 2) x = nI p from f17]
        refine And.intro (⟨rfl, ip⟩) ?_
        rw [ep, show zA (wI (nh h) f) (zA (wI (nh h) f) 15 0) p = a from z1]
        refine And.intro (show kin 5 (zK (nh h) (31 + 2 * k)) = true by rw [row_K hk]; rfl) ?_
        rw [show zA (wI (nh h) f) (31 + 2 * k) 2 = 32 + 2 * k from row_C hk]
        refine And.intro (show zK (nh h) (32 + 2 * k) = 12 ∧ inB (nI (i + cN (okL h) x)) (zN (nh h) (32 + 2 * k)) = true from ⟨row_CK hk, by rw [row_CN hk]; exact ic⟩) ?_
        rw [ec, show zI (wI (nh h) f) (32 + 2 * k) (i + cN (okL h) x) = zI h (32 + 2 * k) (i + cN (okL h) x) from fc]
        refine And.intro rfl ?_
        refine And.intro (k4) ?_
        rw [show zI (wI (nh h) f) a 1 = nI st from fs]
        refine And.intro (⟨rfl, is⟩) ?_
        rw [es, show zI (wI (nh h) f) (zA (wI (nh h) f) 15 4) st = zI h 18 st from f18]
        refine br_f (show ¬ (zI h 18 st ≤ zI h (32 + 2 * k) (i + cN (okL h) x)) by first | assumption | (simp (discharger := omega) only [i_lt, i_le, i_eq, bI_tz, decide_eq_false_iff_not, Int32.reduceToInt, nI_toInt, tm1, tm2, tm3, tm4, tm9]; done) | (simp (discharger := omega) only [i_lt, i_le, i_eq, bI_tz, decide_eq_false_iff_not, Int32.reduceToInt, nI_toInt, tm1, tm2, tm3, tm4, tm9]; omega) | omega) ?_
        refine And.intro (⟨k4, Or.inl rfl⟩) ?_
        exact g2
      · have hbt : dBrk h (zI h (32 + 2 * k)) i x = false := by rw [hb]; exact decide_eq_false q
        obtain ⟨f', g1, g2⟩ := ih (x + 1) f (some (.ref a)) (by omega) (by
          refine ⟨hf.1, hf.2.1, fun p' np'' m1 m2 m3 => ?_⟩
          rw [gXF, if_neg (fun z => by rw [hbt] at z; exact nomatch z.2.1)]
          exact hf.2.2 p' np'' m1 m2 m3)
        rw [show cN (okL h) (x + 1) = cN (okL h) x + 1 by rw [cN, hr]; rfl, show bN (fun x => dRun h x && dBrk h (zI h (32 + 2 * k)) i x) (x + 1) = bN (fun x => dRun h x && dBrk h (zI h (32 + 2 * k)) i x) x by rw [bN]; simp only [hrun, hbt]; rfl, ← nI_1, ← Nat.add_assoc, ← nI_1] at g2
        refine ⟨f', g1, bk_sound (cuts := [14]) 40 _ _ _ _ ?_⟩
        refine br_f (show ¬ (12 ≤ nI x) by first | assumption | (simp (discharger := omega) only [i_lt, i_le, i_eq, bI_tz, decide_eq_false_iff_not, Int32.reduceToInt, nI_toInt, tm1, tm2, tm3, tm4, tm9]; done) | (simp (discharger := omega) only [i_lt, i_le, i_eq, bI_tz, decide_eq_false_iff_not, Int32.reduceToInt, nI_toInt, tm1, tm2, tm3, tm4, tm9]; omega) | omega) ?_
        refine And.intro (by decide) ?_
        rw [hr] at eb
        refine br_t (show ¬ (nI (rs (okL h) 4) >>> (nI x / 3 &&& 31)) &&& 1 = 0 by rw [eb]; decide) ?_
        refine And.intro rfl ?_
        refine And.intro rfl ?_
        refine And.intro (⟨rfl, ix⟩) ?_
        rw [ex, show zI (wI (nh h) f) (zA (wI (nh h) f) 15 2) x = nI p from f17]
        refine And.intro (⟨rfl, ip⟩) ?_
        rw [ep, show zA (wI (nh h) f) (zA (wI (nh h) f) 15 0) p = a from z1]
        refine And.intro (show kin 5 (zK (nh h) (31 + 2 * k)) = true by rw [row_K hk]; rfl) ?_
        rw [show zA (wI (nh h) f) (31 + 2 * k) 2 = 32 + 2 * k from row_C hk]
        refine And.intro (show zK (nh h) (32 + 2 * k) = 12 ∧ inB (nI (i + cN (okL h) x)) (zN (nh h) (32 + 2 * k)) = true from ⟨row_CK hk, by rw [row_CN hk]; exact ic⟩) ?_
        rw [ec, show zI (wI (nh h) f) (32 + 2 * k) (i + cN (okL h) x) = zI h (32 + 2 * k) (i + cN (okL h) x) from fc]
        refine And.intro rfl ?_
        refine And.intro (k4) ?_
        rw [show zI (wI (nh h) f) a 1 = nI st from fs]
        refine And.intro (⟨rfl, is⟩) ?_
        rw [es, show zI (wI (nh h) f) (zA (wI (nh h) f) 15 4) st = zI h 18 st from f18]
        refine br_t (show zI h 18 st ≤ zI h (32 + 2 * k) (i + cN (okL h) x) by first | assumption | (simp (discharger := omega) only [i_lt, i_le, i_eq, bI_tz, decide_eq_false_iff_not, Int32.reduceToInt, nI_toInt, tm1, tm2, tm3, tm4, tm9]; done) | (simp (discharger := omega) only [i_lt, i_le, i_eq, bI_tz, decide_eq_false_iff_not, Int32.reduceToInt, nI_toInt, tm1, tm2, tm3, tm4, tm9]; omega) | omega) ?_
        exact g2
end
