section
variable {sc : Nat × (Nat → Int32)} {h : Hp}
theorem copy_loop2 {k o i j n : Nat} (ho : o < 4) (hj : j + n ≤ 60) (hs : Shp h) : ∀ (d x : Nat) (v : Int32) (f : Nat → Int32), x + d = n → v = nI x → (∀ y, f y = if 60 * o + j ≤ y ∧ y < 60 * o + j + x then zI h 64 (y - (60 * o + j)) else zI h 63 y) → Rn sc (mtk 213) 144 [some (.ref 39), some (.int (nI k)), some (.int (nI i)), some (.int (nI o)), some (.int (nI j)), some (.int (nI n)), some (.int v)] [] (rwI (nh h) 63 f) (some (.int (nI n))) (upI (rwI (nh h) 63 (fun y => if 60 * o + j ≤ y ∧ y < 60 * o + j + n then zI h 64 (y - (60 * o + j)) else zI h 63 y)) 39 0 0) := by
  intro d
  induction d with
  | zero =>
    intro x v f hx hv hf
    subst hv
    refine bk_sound (cuts := []) 20 _ _ _ _ ?_
    refine br_t (nI_le (by omega) (by omega)) ?_
    refine And.intro ⟨rfl, rfl⟩ (And.intro rfl (Exists.intro _ (Exists.intro _ (And.intro (c_refused (h := rwI (nh h) 63 f) (shp_nh hs) (nI n)) ?_))))
    rw [show f = (fun y => if 60 * o + j ≤ y ∧ y < 60 * o + j + n then zI h 64 (y - (60 * o + j)) else zI h 63 y) from funext fun y => by rw [hf y, show x = n by omega]]
    exact ⟨Or.inl rfl, rfl, rfl⟩
  | succ d ih =>
    intro x v f hx hv hf
    subst hv
    refine bk_sound (cuts := [144]) 30 _ _ _ _ ?_
    refine br_f (nI_ge (by omega) (by omega)) ?_
    have ei : (60 : Int32) * nI o + nI j + nI x = nI (60 * o + j + x) := by rw [show (60 : Int32) = nI 60 from rfl, pk_mul, nI_add, nI_add]
    have ex : (nI x).toNatClampNeg = x := nI_clamp (by omega)
    refine And.intro rfl ?_
    refine And.intro rfl ?_
    refine And.intro (⟨rfl, inB_nI (n := 60) (by omega) (by decide)⟩) ?_
    refine And.intro (⟨rfl, by rw [ei]; exact inB_nI (n := 240) (by omega) (by decide)⟩) ?_
    rw [ei, nI_clamp (by omega), ex]
    show Rn sc (mtk 213) 144 [some (.ref 39), some (.int (nI k)), some (.int (nI i)), some (.int (nI o)), some (.int (nI j)), some (.int (nI n)), some (.int (nI x + Int32.ofInt 1))] [] (upI (rwI (nh h) 63 f) 63 (60 * o + j + x) (zI h 64 x)) _ _
    rw [upI_rwI]
    refine ih (x + 1) _ _ (by omega) (by rw [ofI1, nI_1]) (fun y => ?_)
    unfold upd
    rw [hf y]
    by_cases e1 : y = 60 * o + j + x
    · rw [if_pos e1, if_pos (by omega), show y - (60 * o + j) = x by omega]
    · rw [if_neg e1]
      by_cases e2 : 60 * o + j ≤ y ∧ y < 60 * o + j + x
      · rw [if_pos e2, if_pos (by omega)]
      · rw [if_neg e2, if_neg (by omega)]
theorem copy_loop1 {k o i j n : Nat} (hk : k < 4) (ho : o < 4) (hi : i + n ≤ 60) (hj : j + n ≤ 60) (hs : Shp h) : ∀ (d x : Nat) (v : Int32) (f : Nat → Int32), x + d = n → v = nI x → (∀ y, f y = if y < x then zI h 63 (60 * k + i + y) else zI h 64 y) → Rn sc (mtk 213) 107 [some (.ref 39), some (.int (nI k)), some (.int (nI i)), some (.int (nI o)), some (.int (nI j)), some (.int (nI n)), some (.int v)] [] (rwI (nh h) 64 f) (some (.int (nI n))) (upI (rwI (rwI (nh h) 64 (fun y => if y < n then zI h 63 (60 * k + i + y) else zI h 64 y)) 63 (fun y => if 60 * o + j ≤ y ∧ y < 60 * o + j + n then zI h 63 (60 * k + i + (y - (60 * o + j))) else zI h 63 y)) 39 0 0) := by
  intro d
  induction d with
  | zero =>
    intro x v f hx hv hf
    subst hv
    refine bk_sound (cuts := [144]) 20 _ _ _ _ ?_
    refine br_t (nI_le (by omega) (by omega)) ?_
    have ef : f = (fun y => if y < n then zI h 63 (60 * k + i + y) else zI h 64 y) := funext fun y => by rw [hf y, show x = n by omega]
    have := copy_loop2 (sc := sc) (h := rwI h 64 f) (k := k) (i := i) (o := o) (j := j) (n := n) ho hj hs n 0 0 (zI h 63) (by omega) nI_0.symm (fun y => by rw [if_neg (by omega)]; rfl)
    rw [show rwI (nh (rwI h 64 f)) 63 (zI h 63) = rwI (nh h) 64 f from rwI_id (nh (rwI h 64 f)) 63] at this
    have e2 : (fun y => if 60 * o + j ≤ y ∧ y < 60 * o + j + n then zI (rwI h 64 f) 64 (y - (60 * o + j)) else zI (rwI h 64 f) 63 y) = (fun y => if 60 * o + j ≤ y ∧ y < 60 * o + j + n then zI h 63 (60 * k + i + (y - (60 * o + j))) else zI h 63 y) := by
      funext y
      by_cases q : 60 * o + j ≤ y ∧ y < 60 * o + j + n
      · rw [if_pos q, if_pos q]
        show f (y - (60 * o + j)) = _
        rw [ef]
        show (if y - (60 * o + j) < n then zI h 63 (60 * k + i + (y - (60 * o + j))) else zI h 64 (y - (60 * o + j))) = _
        rw [if_pos (by omega)]
      · rw [if_neg q, if_neg q]
        rfl
    rw [e2] at this
    rw [← ef]
    exact this
  | succ d ih =>
    intro x v f hx hv hf
    subst hv
    refine bk_sound (cuts := [107]) 30 _ _ _ _ ?_
    refine br_f (nI_ge (by omega) (by omega)) ?_
    have ei : (60 : Int32) * nI k + nI i + nI x = nI (60 * k + i + x) := by rw [show (60 : Int32) = nI 60 from rfl, pk_mul, nI_add, nI_add]
    have ex : (nI x).toNatClampNeg = x := nI_clamp (by omega)
    refine And.intro rfl ?_
    refine And.intro rfl ?_
    refine And.intro (⟨rfl, by rw [ei]; exact inB_nI (n := 240) (by omega) (by decide)⟩) ?_
    refine And.intro (⟨rfl, inB_nI (n := 60) (by omega) (by decide)⟩) ?_
    rw [ei, ex, nI_clamp (n := 60 * k + i + x) (by omega)]
    show Rn sc (mtk 213) 107 [some (.ref 39), some (.int (nI k)), some (.int (nI i)), some (.int (nI o)), some (.int (nI j)), some (.int (nI n)), some (.int (nI x + Int32.ofInt 1))] [] (upI (rwI (nh h) 64 f) 64 x (zI h 63 (60 * k + i + x))) _ _
    rw [upI_rwI]
    refine ih (x + 1) _ _ (by omega) (by rw [ofI1, nI_1]) (fun y => ?_)
    unfold upd
    rw [hf y]
    by_cases e1 : y = x
    · rw [if_pos e1, if_pos (by omega), e1]
    · rw [if_neg e1]
      by_cases e2 : y < x
      · rw [if_pos e2, if_pos (by omega)]
      · rw [if_neg e2, if_neg (by omega)]
def cpM (h : Hp) (k o i j n : Nat) : Hp := upI (rwI (rwI h 64 (fun y => if y < n then zI h 63 (60 * k + i + y) else zI h 64 y)) 63 (fun y => if 60 * o + j ≤ y ∧ y < 60 * o + j + n then zI h 63 (60 * k + i + (y - (60 * o + j))) else zI h 63 y)) 39 0 0
theorem c_copy_m (hs : Shp h) {k o : Nat} (hk : k < 4) (ho : o < 4) (i j n : Int32) {r : Int32} {g : Hp}
  (H : (r = -11 ∧ g = upI h 39 0 1 ∧ ((zI h 61 k).toInt < 0 ∨ (zI h 61 o).toInt < 0)) ∨
    (¬ (zI h 61 k).toInt < 0 ∧ ¬ (zI h 61 o).toInt < 0 ∧ ((r = -12 ∧ g = upI h 39 0 2 ∧ ¬ zI h 62 k = zI h 62 o) ∨
      (zI h 62 k = zI h 62 o ∧ (zI h 61 k).toInt ≤ 60 ∧ (zI h 61 o).toInt ≤ 60 ∧
        ((r = -13 ∧ g = upI h 39 0 3 ∧ (n.toInt < 0 ∨ i.toInt < 0 ∨ (zI h 61 k).toInt < i.toInt + n.toInt ∨ j.toInt < 0 ∨ (zI h 61 o).toInt < j.toInt + n.toInt)) ∨
          (r = n ∧ g = cpM h k o i.toNatClampNeg j.toNatClampNeg n.toNatClampNeg ∧ ¬ (n.toInt < 0 ∨ i.toInt < 0 ∨ (zI h 61 k).toInt < i.toInt + n.toInt ∨ j.toInt < 0 ∨ (zI h 61 o).toInt < j.toInt + n.toInt))))))) :
  Cc sc 213 [.ref 39, .int (nI k), .int i, .int (nI o), .int j, .int n] h (some (.int r)) g := by
  have ik : inB (nI k) 4 = true := inB_nI hk (by decide)
  have io : inB (nI o) 4 = true := inB_nI ho (by decide)
  have ek : (nI k).toNatClampNeg = k := nI_clamp (by omega)
  have eo : (nI o).toNatClampNeg = o := nI_clamp (by omega)
  rw [← nh_eq hs] at H
  rw [← nh_eq hs]
  refine cc_cut [107] 100 rfl rfl ?_
  refine And.intro rfl (And.intro rfl (Exists.intro _ (Exists.intro _ (And.intro (c_noSheet _) ?_))))
  refine br_f (by first | assumption | (simp (discharger := omega) only [i_lt, i_le, i_eq, bI_tz, decide_eq_false_iff_not, Int32.reduceToInt, nI_toInt, tm1, tm2, tm3, tm4, tm9]; done) | (simp (discharger := omega) only [i_lt, i_le, i_eq, bI_tz, decide_eq_false_iff_not, Int32.reduceToInt, nI_toInt, tm1, tm2, tm3, tm4, tm9]; omega) | omega) ?_
  refine And.intro rfl (And.intro rfl (Exists.intro _ (Exists.intro _ (And.intro (c_noSheet _) ?_))))
  refine br_t (by first | assumption | (simp (discharger := omega) only [i_lt, i_le, i_eq, bI_tz, decide_eq_false_iff_not, Int32.reduceToInt, nI_toInt, tm1, tm2, tm3, tm4, tm9]; done) | (simp (discharger := omega) only [i_lt, i_le, i_eq, bI_tz, decide_eq_false_iff_not, Int32.reduceToInt, nI_toInt, tm1, tm2, tm3, tm4, tm9]; omega) | omega) ?_
  refine And.intro rfl ?_
  refine And.intro (⟨rfl, ik⟩) ?_
  rw [ek]
  rcases H with ⟨rfl, rfl, h3⟩ | ⟨h1, h2, h3⟩
  · by_cases q : (zI (nh h) 61 k).toInt < 0
    · refine br_t (show zI (nh h) 61 k < 0 by first | assumption | (simp (discharger := omega) only [i_lt, i_le, i_eq, bI_tz, decide_eq_false_iff_not, Int32.reduceToInt, nI_toInt, tm1, tm2, tm3, tm4, tm9]; done) | (simp (discharger := omega) only [i_lt, i_le, i_eq, bI_tz, decide_eq_false_iff_not, Int32.reduceToInt, nI_toInt, tm1, tm2, tm3, tm4, tm9]; omega) | omega) ?_
      refine And.intro ⟨rfl, rfl⟩ (And.intro rfl (Exists.intro _ (Exists.intro _ (And.intro (c_failed (h := nh h) (shp_nh hs) 1) ?_))))
      exact ⟨Or.inl rfl, rfl, rfl⟩
    · refine br_f (show ¬ (zI (nh h) 61 k < 0) by first | assumption | (simp (discharger := omega) only [i_lt, i_le, i_eq, bI_tz, decide_eq_false_iff_not, Int32.reduceToInt, nI_toInt, tm1, tm2, tm3, tm4, tm9]; done) | (simp (discharger := omega) only [i_lt, i_le, i_eq, bI_tz, decide_eq_false_iff_not, Int32.reduceToInt, nI_toInt, tm1, tm2, tm3, tm4, tm9]; omega) | omega) ?_
      refine And.intro rfl ?_
      refine And.intro (⟨rfl, io⟩) ?_
      rw [eo]
      have := h3.resolve_left q
      refine br_f (show ¬ ((0 : Int32) ≤ zI (nh h) 61 o) by first | assumption | (simp (discharger := omega) only [i_lt, i_le, i_eq, bI_tz, decide_eq_false_iff_not, Int32.reduceToInt, nI_toInt, tm1, tm2, tm3, tm4, tm9]; done) | (simp (discharger := omega) only [i_lt, i_le, i_eq, bI_tz, decide_eq_false_iff_not, Int32.reduceToInt, nI_toInt, tm1, tm2, tm3, tm4, tm9]; omega) | omega) ?_
      refine And.intro ⟨rfl, rfl⟩ (And.intro rfl (Exists.intro _ (Exists.intro _ (And.intro (c_failed (h := nh h) (shp_nh hs) 1) ?_))))
      exact ⟨Or.inl rfl, rfl, rfl⟩
  · refine br_f (show ¬ (zI (nh h) 61 k < 0) by first | assumption | (simp (discharger := omega) only [i_lt, i_le, i_eq, bI_tz, decide_eq_false_iff_not, Int32.reduceToInt, nI_toInt, tm1, tm2, tm3, tm4, tm9]; done) | (simp (discharger := omega) only [i_lt, i_le, i_eq, bI_tz, decide_eq_false_iff_not, Int32.reduceToInt, nI_toInt, tm1, tm2, tm3, tm4, tm9]; omega) | omega) ?_
    refine And.intro rfl ?_
    refine And.intro (⟨rfl, io⟩) ?_
    rw [eo]
    refine br_t (show (0 : Int32) ≤ zI (nh h) 61 o by first | assumption | (simp (discharger := omega) only [i_lt, i_le, i_eq, bI_tz, decide_eq_false_iff_not, Int32.reduceToInt, nI_toInt, tm1, tm2, tm3, tm4, tm9]; done) | (simp (discharger := omega) only [i_lt, i_le, i_eq, bI_tz, decide_eq_false_iff_not, Int32.reduceToInt, nI_toInt, tm1, tm2, tm3, tm4, tm9]; omega) | omega) ?_
    refine And.intro rfl ?_
    refine And.intro (⟨rfl, ik⟩) ?_
    rw [ek]
    refine And.intro rfl ?_
    refine And.intro (⟨rfl, io⟩) ?_
    rw [eo]
    rcases h3 with ⟨rfl, rfl, h5⟩ | ⟨h3, b1, b2, h4⟩
    · refine br_f h5 ?_
      refine And.intro ⟨rfl, rfl⟩ (And.intro rfl (Exists.intro _ (Exists.intro _ (And.intro (c_failed (h := nh h) (shp_nh hs) 2) ?_))))
      exact ⟨Or.inl rfl, rfl, rfl⟩
    · refine br_t h3 ?_
      refine And.intro rfl ?_
      refine And.intro (⟨rfl, ik⟩) ?_
      rw [ek]
      refine And.intro rfl (And.intro rfl (Exists.intro _ (Exists.intro _ (And.intro (c_isBeyond i n (zI (nh h) 61 k)) ?_))))
      rcases h4 with ⟨rfl, rfl, h5⟩ | ⟨rfl, rfl, h5⟩
      · by_cases q : i.toInt < 0 ∨ n.toInt < 0 ∨ (zI (nh h) 61 k).toInt < i.toInt + n.toInt
        · refine br_t (by rw [bI_z, decide_eq_true q]; decide) ?_
          refine And.intro ⟨rfl, rfl⟩ (And.intro rfl (Exists.intro _ (Exists.intro _ (And.intro (c_failed (h := nh h) (shp_nh hs) 3) ?_))))
          exact ⟨Or.inl rfl, rfl, rfl⟩
        · refine br_f (by rw [bI_z]; exact fun z => z (decide_eq_false q)) ?_
          refine And.intro rfl ?_
          refine And.intro (⟨rfl, io⟩) ?_
          rw [eo]
          refine And.intro rfl (And.intro rfl (Exists.intro _ (Exists.intro _ (And.intro (c_isBeyond j n (zI (nh h) 61 o)) ?_))))
          refine br_f (by rw [bI_z, decide_eq_false_iff_not]; omega) ?_
          refine And.intro ⟨rfl, rfl⟩ (And.intro rfl (Exists.intro _ (Exists.intro _ (And.intro (c_failed (h := nh h) (shp_nh hs) 3) ?_))))
          exact ⟨Or.inl rfl, rfl, rfl⟩
      · refine br_f (by rw [bI_z, decide_eq_false_iff_not]; omega) ?_
        refine And.intro rfl ?_
        refine And.intro (⟨rfl, io⟩) ?_
        rw [eo]
        refine And.intro rfl (And.intro rfl (Exists.intro _ (Exists.intro _ (And.intro (c_isBeyond j r (zI (nh h) 61 o)) ?_))))
        refine br_t (by rw [bI_z, decide_eq_false_iff_not]; omega) ?_
        obtain ⟨i, hi, rfl⟩ := i_of (a := i) (n := 61) (by omega) (by omega) (by decide)
        obtain ⟨j, hj, rfl⟩ := i_of (a := j) (n := 61) (by omega) (by omega) (by decide)
        obtain ⟨n, hn, rfl⟩ := i_of (a := r) (n := 61) (by omega) (by omega) (by decide)
        rw [nI_toInt (by omega), nI_toInt (by omega), nI_toInt (by omega)] at h5
        rw [nI_clamp (by omega), nI_clamp (by omega), nI_clamp (by omega)]
        have := copy_loop1 (sc := sc) (h := h) hk ho (i := i) (j := j) (n := n) (by omega) (by omega) hs n 0 0 (zI h 64) (by omega) nI_0.symm (fun y => by rw [if_neg (by omega)])
        rw [show rwI (nh h) 64 (zI h 64) = nh h from rwI_id (nh h) 64] at this
        exact this
theorem op_copy (hS : Sim0 h) (k i o j n : Int32) : Op0 sc 118 213 [.int k, .int i, .int o, .int j, .int n] h := by
  have hs := hS.1
  by_cases q1 : (0 ≤ k.toInt ∧ k.toInt < 4) ∧ (0 ≤ o.toInt ∧ o.toInt < 4)
  · obtain ⟨q1, q2⟩ := q1
    obtain ⟨k, hk, rfl⟩ := i_of q1.1 (n := 4) q1.2 (by decide)
    obtain ⟨o, ho, rfl⟩ := i_of q2.1 (n := 4) q2.2 (by decide)
    have hrk := hS.2.2.1 k hk
    have hro := hS.2.2.1 o ho
    obtain ⟨rk1, rk2⟩ := RowOK_ln hrk
    obtain ⟨ro1, ro2⟩ := RowOK_ln hro
    have sk := RowOK_sz hrk
    have so := RowOK_sz hro
    by_cases n0 : (zI h 61 k).toInt < 0 ∨ (zI h 61 o).toInt < 0
    · exact ⟨.int (-11), upI h 1 7 1, upI (upI h 1 7 1) 39 0 1, c_copy_x hs hk ho i j n (Or.inl ⟨rfl, rfl, by rw [← rk1, ← ro1]; exact n0⟩), c_copy_m (h := upI h 1 7 1) hs hk ho i j n (Or.inl ⟨rfl, rfl, n0⟩), fin_flt hS 1⟩
    · have nk : ¬ (zI h 61 k).toInt < 0 := fun z => n0 (Or.inl z)
      have no : ¬ (zI h 61 o).toInt < 0 := fun z => n0 (Or.inr z)
      obtain ⟨e1, e2⟩ := rk2 nk
      obtain ⟨e3, e4⟩ := ro2 no
      have nk' : ¬ zI h (31 + 2 * k) 0 = -9 := fun z => nk (rk1.mpr z)
      have no' : ¬ zI h (31 + 2 * o) 0 = -9 := fun z => no (ro1.mpr z)
      by_cases l0 : zI h 62 k = zI h 62 o
      · have l1 : zI h (31 + 2 * k) 0 = zI h (31 + 2 * o) 0 := by rw [e1, e3]; exact l0
        by_cases b : n.toInt < 0 ∨ i.toInt < 0 ∨ (zI h 61 k).toInt < i.toInt + n.toInt ∨ j.toInt < 0 ∨ (zI h 61 o).toInt < j.toInt + n.toInt
        · refine ⟨.int (-13), upI h 1 7 3, upI (upI h 1 7 3) 39 0 3, c_copy_x hs hk ho i j n (Or.inr ⟨nk', no', Or.inr ⟨l1, ?_⟩⟩), c_copy_m (h := upI h 1 7 3) hs hk ho i j n (Or.inr ⟨nk, no, Or.inr ⟨l0, sk, so, Or.inl ⟨rfl, rfl, b⟩⟩⟩), fin_flt hS 3⟩
          rw [e2, e4]
          exact ⟨by omega, by omega, by omega, by omega, Or.inl ⟨rfl, rfl, b⟩⟩
        · have z61 : ∀ a, 40 ≤ a → zI (rwI (upI h 1 7 0) (32 + 2 * o) (va_cpy (zI h (32 + 2 * k)) (zI h (32 + 2 * o)) i.toNatClampNeg j.toNatClampNeg n.toNatClampNeg)) a = zI h a := by
            intro a ha
            show va_up (va_up (zI h) 1 _) (32 + 2 * o) _ a = zI h a
            rw [va_up_ne _ _ (by omega), va_up_ne _ _ (by omega)]
          refine ⟨.int n, _, _, c_copy_x hs hk ho i j n (Or.inr ⟨nk', no', Or.inr ⟨l1, by rw [e2]; omega, by rw [e2]; omega, by rw [e4]; omega, by rw [e4]; omega, Or.inr ⟨rfl, rfl, by rw [e2, e4]; exact b⟩⟩⟩), c_copy_m (h := rwI (upI h 1 7 0) (32 + 2 * o) (va_cpy (zI h (32 + 2 * k)) (zI h (32 + 2 * o)) i.toNatClampNeg j.toNatClampNeg n.toNatClampNeg)) hs hk ho i j n (Or.inr ⟨?_, ?_, Or.inr ⟨?_, ?_, ?_, Or.inr ⟨rfl, rfl, ?_⟩⟩⟩), ?_⟩
          · rw [z61 61 (by decide)]; exact nk
          · rw [z61 61 (by decide)]; exact no
          · rw [z61 62 (by decide)]; exact l0
          · rw [z61 61 (by decide)]; exact sk
          · rw [z61 61 (by decide)]; exact so
          · rw [z61 61 (by decide)]; exact b
          · unfold cpM
            rw [z61 63 (by decide), z61 64 (by decide)]
            have c1 := clamp0 (n := i) (by omega)
            have c2 := clamp0 (n := j) (by omega)
            have c3 := clamp0 (n := n) (by omega)
            generalize i.toNatClampNeg = i', j.toNatClampNeg = j', n.toNatClampNeg = n' at c1 c2 c3 ⊢
            have f : Fr [(1, 7), (32 + 2 * o, 1000), (64, 1000), (63, 1000), (39, 0)] h (upI (rwI (rwI (rwI (upI h 1 7 0) (32 + 2 * o) (va_cpy (zI h (32 + 2 * k)) (zI h (32 + 2 * o)) i' j' n')) 64 (fun y => if y < n' then zI h 63 (60 * k + i' + y) else zI h 64 y)) 63 (fun y => if 60 * o + j' ≤ y ∧ y < 60 * o + j' + n' then zI h 63 (60 * k + i' + (y - (60 * o + j'))) else zI h 63 y)) 39 0 0) := (((((Fr.refl _ h).upI rfl).rwI (by simp)).rwI (by simp)).rwI (by simp)).upI (by simp [inP])
            have g61 : ∀ a, a = 61 ∨ a = 62 ∨ (31 ≤ a ∧ a ≤ 38 ∧ a ≠ 32 + 2 * o) → zI (upI (rwI (rwI (rwI (upI h 1 7 0) (32 + 2 * o) (va_cpy (zI h (32 + 2 * k)) (zI h (32 + 2 * o)) i' j' n')) 64 (fun y => if y < n' then zI h 63 (60 * k + i' + y) else zI h 64 y)) 63 (fun y => if 60 * o + j' ≤ y ∧ y < 60 * o + j' + n' then zI h 63 (60 * k + i' + (y - (60 * o + j'))) else zI h 63 y)) 39 0 0) a = zI h a := by
              intro a ha
              refine f.I ?_
              simp only [frP, List.all_cons, List.all_nil, Bool.and_eq_true, bne_iff_ne, and_true, ne_eq]
              omega
            refine fin0 hS f ?_ ?_ ?_ (rows_but (j := o) hS.2.2.1 ?_ (fun x _ _ => by rw [g61 61 (by omega)]) (fun x _ _ => by rw [g61 62 (by omega)]) ?_ (fun x hx hne => ⟨by rw [g61 _ (by omega)], by rw [g61 _ (by omega)]⟩))
            · obtain rfl | rfl | rfl | rfl : o = 0 ∨ o = 1 ∨ o = 2 ∨ o = 3 := by omega
              all_goals rfl
            · obtain rfl | rfl | rfl | rfl : o = 0 ∨ o = 1 ∨ o = 2 ∨ o = 3 := by omega
              all_goals rfl
            · refine f.simA0 ?_ ?_ hS.2.1
              · obtain rfl | rfl | rfl | rfl : o = 0 ∨ o = 1 ∨ o = 2 ∨ o = 3 := by omega
                all_goals rfl
              · obtain rfl | rfl | rfl | rfl : o = 0 ∨ o = 1 ∨ o = 2 ∨ o = 3 := by omega
                all_goals rfl
            · rcases hro with ⟨z1, z2⟩ | ⟨no, lno, z1, z2, z3, z4, z5, z6, z7⟩
              · exact absurd z2 no'
              · rcases hrk with ⟨y1, y2⟩ | ⟨nk, lnk, y1, y2, y3, y4, y5, y6, y7⟩
                · exact absurd y2 nk'
                · rw [y3, z3, nI_toInt (by omega), nI_toInt (by omega)] at b
                  refine Or.inr ⟨no, lno, z1, z2, by rw [g61 61 (by omega)]; exact z3, by rw [g61 _ (by omega)]; exact z4, by rw [g61 62 (by omega)]; exact z5, by rw [g61 _ (by omega)]; exact z6, fun x hx => ?_⟩
                  have e1 : zI (upI (rwI (rwI (rwI (upI h 1 7 0) (32 + 2 * o) (va_cpy (zI h (32 + 2 * k)) (zI h (32 + 2 * o)) i' j' n')) 64 (fun y => if y < n' then zI h 63 (60 * k + i' + y) else zI h 64 y)) 63 (fun y => if 60 * o + j' ≤ y ∧ y < 60 * o + j' + n' then zI h 63 (60 * k + i' + (y - (60 * o + j'))) else zI h 63 y)) 39 0 0) (32 + 2 * o) = va_cpy (zI h (32 + 2 * k)) (zI h (32 + 2 * o)) i' j' n' := by
                    show va_up (va_up (va_up (va_up (va_up (zI h) 1 _) (32 + 2 * o) _) 64 _) 63 _) 39 _ (32 + 2 * o) = _
                    rw [va_up_ne _ _ (by omega), va_up_ne _ _ (by omega), va_up_ne _ _ (by omega), va_up_self]
                  rw [e1]
                  show _ = (if 60 * o + j' ≤ 60 * o + x ∧ 60 * o + x < 60 * o + j' + n' then zI h 63 (60 * k + i' + (60 * o + x - (60 * o + j'))) else zI h 63 (60 * o + x))
                  by_cases w : j' ≤ x ∧ x < j' + n'
                  · rw [pk_cpy_in w.1 w.2, if_pos (by omega), y7 _ (by omega)]
                    congr 1
                    omega
                  · rw [pk_cpy_out (by omega), if_neg (by omega)]
                    exact z7 x hx
            · intro x hx hne y hy
              show (if 60 * o + j' ≤ 60 * x + y ∧ 60 * x + y < 60 * o + j' + n' then zI h 63 (60 * k + i' + (60 * x + y - (60 * o + j'))) else zI h 63 (60 * x + y)) = _
              rw [if_neg (by omega)]
      · exact ⟨.int (-12), upI h 1 7 2, upI (upI h 1 7 2) 39 0 2, c_copy_x hs hk ho i j n (Or.inr ⟨nk', no', Or.inl ⟨rfl, rfl, by rw [e1, e3]; exact l0⟩⟩), c_copy_m (h := upI h 1 7 2) hs hk ho i j n (Or.inr ⟨nk, no, Or.inl ⟨rfl, rfl, l0⟩⟩), fin_flt hS 2⟩
  · refine ⟨.int (-1), upI h 1 7 0, upI (upI h 1 7 0) 39 0 0, ?_, ?_, fin_flt hS 0⟩
    · refine cc_nh (F := fun h => upI h 1 7 0) hs (cc_of 60 rfl rfl ?_)
      refine And.intro rfl ?_
      refine And.intro rfl (And.intro rfl (Exists.intro _ (Exists.intro _ (And.intro (c_isSheet _) ?_))))
      by_cases q2 : 0 ≤ k.toInt ∧ k.toInt < 4
      · refine br_f (by first | assumption | (simp (discharger := omega) only [i_lt, i_le, i_eq, bI_tz, decide_eq_false_iff_not, Int32.reduceToInt, nI_toInt, tm1, tm2, tm3, tm4, tm9]; done) | (simp (discharger := omega) only [i_lt, i_le, i_eq, bI_tz, decide_eq_false_iff_not, Int32.reduceToInt, nI_toInt, tm1, tm2, tm3, tm4, tm9]; omega) | omega) ?_
        refine And.intro rfl (And.intro rfl (Exists.intro _ (Exists.intro _ (And.intro (c_isSheet _) ?_))))
        refine br_f (by first | assumption | (simp (discharger := omega) only [i_lt, i_le, i_eq, bI_tz, decide_eq_false_iff_not, Int32.reduceToInt, nI_toInt, tm1, tm2, tm3, tm4, tm9]; done) | (simp (discharger := omega) only [i_lt, i_le, i_eq, bI_tz, decide_eq_false_iff_not, Int32.reduceToInt, nI_toInt, tm1, tm2, tm3, tm4, tm9]; omega) | omega) ?_
        exact ⟨Or.inl rfl, rfl, rfl⟩
      · refine br_t (by first | assumption | (simp (discharger := omega) only [i_lt, i_le, i_eq, bI_tz, decide_eq_false_iff_not, Int32.reduceToInt, nI_toInt, tm1, tm2, tm3, tm4, tm9]; done) | (simp (discharger := omega) only [i_lt, i_le, i_eq, bI_tz, decide_eq_false_iff_not, Int32.reduceToInt, nI_toInt, tm1, tm2, tm3, tm4, tm9]; omega) | omega) ?_
        exact ⟨Or.inl rfl, rfl, rfl⟩
    · refine cc_nh (h := upI h 1 7 0) (F := fun h => upI h 39 0 0) hs (cc_of 60 rfl rfl ?_)
      refine And.intro rfl (And.intro rfl (Exists.intro _ (Exists.intro _ (And.intro (c_noSheet _) ?_))))
      by_cases q2 : 0 ≤ k.toInt ∧ k.toInt < 4
      · refine br_f (by first | assumption | (simp (discharger := omega) only [i_lt, i_le, i_eq, bI_tz, decide_eq_false_iff_not, Int32.reduceToInt, nI_toInt, tm1, tm2, tm3, tm4, tm9]; done) | (simp (discharger := omega) only [i_lt, i_le, i_eq, bI_tz, decide_eq_false_iff_not, Int32.reduceToInt, nI_toInt, tm1, tm2, tm3, tm4, tm9]; omega) | omega) ?_
        refine And.intro rfl (And.intro rfl (Exists.intro _ (Exists.intro _ (And.intro (c_noSheet _) ?_))))
        refine br_f (by first | assumption | (simp (discharger := omega) only [i_lt, i_le, i_eq, bI_tz, decide_eq_false_iff_not, Int32.reduceToInt, nI_toInt, tm1, tm2, tm3, tm4, tm9]; done) | (simp (discharger := omega) only [i_lt, i_le, i_eq, bI_tz, decide_eq_false_iff_not, Int32.reduceToInt, nI_toInt, tm1, tm2, tm3, tm4, tm9]; omega) | omega) ?_
        refine And.intro ⟨rfl, rfl⟩ (And.intro rfl (Exists.intro _ (Exists.intro _ (And.intro (c_refused (h := nh (upI h 1 7 0)) (shp_nh hs) (-1)) ?_))))
        exact ⟨Or.inl rfl, rfl, rfl⟩
      · refine br_t (by first | assumption | (simp (discharger := omega) only [i_lt, i_le, i_eq, bI_tz, decide_eq_false_iff_not, Int32.reduceToInt, nI_toInt, tm1, tm2, tm3, tm4, tm9]; done) | (simp (discharger := omega) only [i_lt, i_le, i_eq, bI_tz, decide_eq_false_iff_not, Int32.reduceToInt, nI_toInt, tm1, tm2, tm3, tm4, tm9]; omega) | omega) ?_
        refine And.intro ⟨rfl, rfl⟩ (And.intro rfl (Exists.intro _ (Exists.intro _ (And.intro (c_refused (h := nh (upI h 1 7 0)) (shp_nh hs) (-1)) ?_))))
        exact ⟨Or.inl rfl, rfl, rfl⟩
end
