/-! runs -/
def allF (f : Nat → Bool) : Nat → Nat → Bool
  | _, 0 => true
  | i, d + 1 => f i && allF f (i + 1) d
theorem allF_get {f : Nat → Bool} : ∀ (d i : Nat), allF f i d = true → ∀ j, i ≤ j → j < i + d → f j = true := by
  intro d
  induction d with
  | zero => intro i _ j h1 h2; omega
  | succ d ih =>
    intro i h j h1 h2
    unfold allF at h
    rw [Bool.and_eq_true] at h
    by_cases e : j = i
    · rw [e]; exact h.1
    · exact ih (i + 1) h.2 j (by omega) (by omega)
theorem allF_congr {f g : Nat → Bool} : ∀ (d i : Nat), (∀ j, i ≤ j → j < i + d → f j = g j) → allF f i d = allF g i d := by
  intro d
  induction d with
  | zero => intro i _; rfl
  | succ d ih =>
    intro i h
    unfold allF
    rw [h i (by omega) (by omega), ih (i + 1) (fun j h1 h2 => h j (by omega) (by omega))]
def okM (h : Hp) (x : Nat) : Bool := !decide ((zI h 57 x).toInt < 0) && !decide (zI h 54 (zI h 57 x).toNatClampNeg = 0)
def okL (h : Hp) (l : Nat) : Bool := allF (okM h) (3 * l) 3
def rs (f : Nat → Bool) : Nat → Nat
  | 0 => 0
  | l + 1 => rs f l + (if f l then 2 ^ l else 0)
theorem rs_lt (f : Nat → Bool) (l : Nat) : rs f l < 2 ^ l := by
  induction l with
  | zero => exact Nat.one_pos
  | succ l ih =>
    unfold rs
    rw [Nat.pow_succ]
    split <;> omega
theorem or_bit : ∀ l : Fin 4, ∀ s : Fin (2 ^ l.val), nI s.val ||| ((1 : Int32) <<< (nI l.val &&& 31)) = nI (s.val + 2 ^ l.val) := by decide
theorem or_zero : ∀ s : Fin 16, nI s.val ||| 0 = nI s.val := by decide
def bc (s : Nat) : Nat := s % 2 + s / 2 % 2 + s / 4 % 2 + s / 8 % 2
theorem bit_rs (f : Nat → Bool) {l : Nat} (hl : l < 4) : rs f 4 / 2 ^ l % 2 = if f l then 1 else 0 := by
  have e : rs f 4 = (if f 0 then 1 else 0) + (if f 1 then 2 else 0) + (if f 2 then 4 else 0) + (if f 3 then 8 else 0) := by simp [rs]
  rw [e]
  obtain rfl | rfl | rfl | rfl : l = 0 ∨ l = 1 ∨ l = 2 ∨ l = 3 := by omega
  all_goals cases f 0 <;> cases f 1 <;> cases f 2 <;> cases f 3 <;> decide
section
variable {sc : Nat × (Nat → Int32)} {h : Hp}
theorem s_l32 : ∀ n : Fin 32, ((nI n.val &&& 31).toBitVec.smod 32).toNat = n.val := by decide +kernel
theorem shr_bit {u k : Nat} (hu : u < 2 ^ 31) (hk : k < 31) : (nI u >>> (nI k &&& 31)) &&& 1 = nI (u / 2 ^ k % 2) := by
  rw [pk_shrN hu (nI k &&& 31) k (s_l32 ⟨k, by omega⟩)]
  have : u / 2 ^ k ≤ u := Nat.div_le_self _ _
  exact pk_andN (n := u / 2 ^ k) (by omega) 1 (by decide)
theorem c_hasBit {u k : Nat} (hu : u < 2 ^ 31) (hk : k < 31) : Cc sc 141 [.int (nI u), .int (nI k)] h (some (.int (bI (decide (u / 2 ^ k % 2 = 1))))) h := by
  refine cc_of 30 rfl rfl ?_
  have e := shr_bit hu hk
  have m : u / 2 ^ k % 2 < 2 := Nat.mod_lt _ (by decide)
  by_cases q : u / 2 ^ k % 2 = 1
  · refine br_f (show ¬ ¬ (nI u >>> (nI k &&& 31)) &&& 1 = 1 from fun z => z (by rw [e, q]; rfl)) ?_
    exact ⟨Or.inr ⟨rfl, Or.inr rfl⟩, by rw [decide_eq_true q]; rfl, rfl⟩
  · refine br_t (show ¬ (nI u >>> (nI k &&& 31)) &&& 1 = 1 by rw [e, show u / 2 ^ k % 2 = 0 by omega]; decide) ?_
    exact ⟨Or.inr ⟨rfl, Or.inl rfl⟩, by rw [decide_eq_false q]; rfl, rfl⟩
def bcF (s : Nat) : Nat → Nat → Nat
  | _, 0 => 0
  | k, d + 1 => s / 2 ^ k % 2 + bcF s (k + 1) d
theorem bits_loop {s : Nat} (hs : s < 16) : ∀ (d k acc : Nat), k + d = 4 → acc ≤ k → Rn sc (mtk 201) 4 [some (.int (nI s)), some (.int (nI acc)), some (.int (nI k))] [] h (some (.int (nI (acc + bcF s k d)))) h := by
  intro d
  induction d with
  | zero =>
    intro k acc hk ha
    refine bk_sound (cuts := []) 20 _ _ _ _ ?_
    refine br_t (show 4 ≤ nI k by first | assumption | (simp (discharger := omega) only [i_lt, i_le, i_eq, bI_tz, decide_eq_false_iff_not, Int32.reduceToInt, nI_toInt, tm1, tm2, tm3, tm4, tm9]; done) | (simp (discharger := omega) only [i_lt, i_le, i_eq, bI_tz, decide_eq_false_iff_not, Int32.reduceToInt, nI_toInt, tm1, tm2, tm3, tm4, tm9]; omega) | omega) ?_
    exact ⟨Or.inl rfl, rfl, rfl⟩
  | succ d ih =>
    intro k acc hk ha
    refine bk_sound (cuts := [4]) 30 _ _ _ _ ?_
    refine br_f (show ¬ (4 ≤ nI k) by first | assumption | (simp (discharger := omega) only [i_lt, i_le, i_eq, bI_tz, decide_eq_false_iff_not, Int32.reduceToInt, nI_toInt, tm1, tm2, tm3, tm4, tm9]; done) | (simp (discharger := omega) only [i_lt, i_le, i_eq, bI_tz, decide_eq_false_iff_not, Int32.reduceToInt, nI_toInt, tm1, tm2, tm3, tm4, tm9]; omega) | omega) ?_
    have m : s / 2 ^ k % 2 < 2 := Nat.mod_lt _ (by decide)
    have := ih (k + 1) (acc + s / 2 ^ k % 2) (by omega) (by omega)
    rw [← nI_add, ← shr_bit (by omega) (by omega), ← nI_1, Nat.add_assoc] at this
    exact this
theorem bcF_bc (s : Nat) : bcF s 0 4 = bc s := by
  simp [bcF, bc]
  omega
theorem c_bits {s : Nat} (hs : s < 16) : Cc sc 201 [.int (nI s)] h (some (.int (nI (bc s)))) h := by
  refine cc_cut [4] 10 rfl rfl ?_
  have := bits_loop (sc := sc) (h := h) hs 4 0 0 rfl (Nat.le_refl _)
  rw [Nat.zero_add, bcF_bc] at this
  exact this
def bcA (x : Int32) : Int32 := x - ((x.toUInt32 >>> ((1 : Int32).toUInt32 &&& Int32.toUInt32 31)).toInt32 &&& 1431655765)
def bcB (a : Int32) : Int32 := (a &&& 858993459) + ((a.toUInt32 >>> ((2 : Int32).toUInt32 &&& Int32.toUInt32 31)).toInt32 &&& 858993459)
def bcC (b : Int32) : Int32 := (b + (b.toUInt32 >>> ((4 : Int32).toUInt32 &&& Int32.toUInt32 31)).toInt32) &&& 252645135
def bcD (b : Int32) : Int32 := b + (b.toUInt32 >>> ((8 : Int32).toUInt32 &&& Int32.toUInt32 31)).toInt32
def bcE (b : Int32) : Int32 := b + (b.toUInt32 >>> ((16 : Int32).toUInt32 &&& Int32.toUInt32 31)).toInt32
theorem bc_all : ∀ s : Fin 16, bcE (bcD (bcC (bcB (bcA (nI s.val))))) &&& 63 = nI (bc s.val) := by decide +kernel
theorem c_bitCount {s : Nat} (hs : s < 16) : Cc sc 0 [.int (nI s)] h (some (.int (nI (bc s)))) h := by
  refine cc_of 60 rfl rfl ?_
  exact ⟨Or.inl rfl, congrArg (fun v => some (Value.int v)) (bc_all ⟨s, hs⟩), rfl⟩
/-- a place, both sides -/
theorem place_of (hP : SimP h) {x : Nat} (hx : x < 12) : (zI h 17 x = -9 ∧ zI h 57 x = -9 ∧ okM h x = false) ∨ ∃ p np, np ≤ 12 ∧ p < np ∧ zI h 39 18 = nI np ∧ zI h 17 x = nI p ∧ zI h 57 x = nI p ∧ zI h 56 p = nI x ∧ kin 4 (zK h (zA h 16 p)) = true ∧ 65 ≤ zA h 16 p ∧ zI h (zA h 16 p) 3 = zI h 54 p ∧ okM h x = !decide (zI h 54 p = 0) := by
  obtain ⟨np, c1, c2, c3, c4, c5, c6, c7⟩ := hP
  rcases c6 x hx with ⟨w1, w2⟩ | ⟨p, w0, w1, w2, w3⟩
  · refine Or.inl ⟨w1, w2, ?_⟩
    unfold okM
    rw [w2]
    rfl
  · obtain ⟨a, kd, st, hr, gd, hd, pl, z1, z2, z3, z4, z5, z6, z7, z8, z9, z10, z11, z12, z13, z14, z15, z16, z17, z18, z19, z20⟩ := c4 p w0
    refine Or.inr ⟨p, np, c1, w0, c3, w1, w2, w3, by rw [z1, z4]; exact kin_part z3, by rw [z1]; exact z2, by rw [z1, z11, z17], ?_⟩
    unfold okM
    rw [w2, nI_clamp (by omega), decide_eq_false (by rw [nI_toInt (by omega)]; omega)]
    rfl
theorem canGo_loop (hs : Shp h) (hP : SimP h) {l : Nat} (hl : l < 4) : ∀ (d t : Nat) (o : Option Value), t + d = 3 → Rn sc (mtk 85) 2 [some (.ref 15), some (.int (nI l)), some (.int (nI t)), o] [] (nh h) (some (.int (bI (allF (okM h) (3 * l + t) d)))) (nh h) := by
  intro d
  induction d with
  | zero =>
    intro t o ht
    refine bk_sound (cuts := []) 20 _ _ _ _ ?_
    refine br_t (show 3 ≤ nI t by first | assumption | (simp (discharger := omega) only [i_lt, i_le, i_eq, bI_tz, decide_eq_false_iff_not, Int32.reduceToInt, nI_toInt, tm1, tm2, tm3, tm4, tm9]; done) | (simp (discharger := omega) only [i_lt, i_le, i_eq, bI_tz, decide_eq_false_iff_not, Int32.reduceToInt, nI_toInt, tm1, tm2, tm3, tm4, tm9]; omega) | omega) ?_
    exact ⟨Or.inr ⟨rfl, Or.inr rfl⟩, rfl, rfl⟩
  | succ d ih =>
    intro t o ht
    have e1 : nI l * 3 + nI t = nI (3 * l + t) := by rw [show (3 : Int32) = nI 3 from rfl, pk_mul, nI_add, Nat.mul_comm]
    have ib : inB (nI (3 * l + t)) 12 = true := inB_nI (by omega) (by decide)
    have ec : (nI (3 * l + t)).toNatClampNeg = 3 * l + t := nI_clamp (by omega)
    refine bk_sound (cuts := [2]) 30 _ _ _ _ ?_
    refine br_f (show ¬ (3 ≤ nI t) by first | assumption | (simp (discharger := omega) only [i_lt, i_le, i_eq, bI_tz, decide_eq_false_iff_not, Int32.reduceToInt, nI_toInt, tm1, tm2, tm3, tm4, tm9]; done) | (simp (discharger := omega) only [i_lt, i_le, i_eq, bI_tz, decide_eq_false_iff_not, Int32.reduceToInt, nI_toInt, tm1, tm2, tm3, tm4, tm9]; omega) | omega) ?_
    refine And.intro rfl ?_
    refine And.intro (⟨rfl, by rw [e1]; exact ib⟩) ?_
    rw [e1, ec]
    unfold allF
    rcases place_of hP (x := 3 * l + t) (by omega) with ⟨w1, w2, w3⟩ | ⟨p, np, n1, n2, n3, w1, w2, w3, w4, w5, w6, w7⟩
    · refine br_t (show zI (nh h) 17 (3 * l + t) = -9 from w1) ?_
      rw [w3]
      exact ⟨Or.inr ⟨rfl, Or.inl rfl⟩, rfl, rfl⟩
    · have ip : inB (nI p) 12 = true := inB_nI (by omega) (by decide)
      have ep : (nI p).toNatClampNeg = p := nI_clamp (by omega)
      refine br_f (show ¬ zI (nh h) 17 (3 * l + t) = -9 by rw [show zI (nh h) 17 (3 * l + t) = nI p from w1]; first | assumption | (simp (discharger := omega) only [i_lt, i_le, i_eq, bI_tz, decide_eq_false_iff_not, Int32.reduceToInt, nI_toInt, tm1, tm2, tm3, tm4, tm9]; done) | (simp (discharger := omega) only [i_lt, i_le, i_eq, bI_tz, decide_eq_false_iff_not, Int32.reduceToInt, nI_toInt, tm1, tm2, tm3, tm4, tm9]; omega) | omega) ?_
      refine And.intro rfl ?_
      rw [show zI (nh h) (zA (nh h) 15 2) (3 * l + t) = nI p from w1]
      refine And.intro (⟨rfl, ip⟩) ?_
      rw [ep]
      rw [← nh_eq hs] at w4 w6
      refine And.intro (w4) ?_
      rw [w7]
      by_cases q : zI h 54 p = 0
      · refine br_f (show ¬ ¬ zI (nh h) (zA (nh h) 16 p) 3 = 0 from fun z => z (w6.trans q)) ?_
        rw [decide_eq_true q]
        exact ⟨Or.inr ⟨rfl, Or.inl rfl⟩, rfl, rfl⟩
      · refine br_t (show ¬ zI (nh h) (zA (nh h) 16 p) 3 = 0 by rw [w6]; exact q) ?_
        rw [decide_eq_false q]
        have := ih (t + 1) (some (.int (nI p))) (by omega)
        rw [← nI_1, ← Nat.add_assoc] at this
        exact this
theorem c_canGo (hs : Shp h) (hP : SimP h) {l : Nat} (hl : l < 4) : Cc sc 85 [.ref 15, .int (nI l)] h (some (.int (bI (okL h l)))) h := by
  refine cc_nh (F := fun h => h) hs (cc_cut [2] 10 rfl rfl ?_)
  exact canGo_loop hs hP hl 3 0 none rfl
theorem running_loop (hs : Shp h) (hP : SimP h) : ∀ (d l : Nat), l + d = 4 → Rn sc (mtk 84) 4 [some (.ref 15), some (.int (nI (rs (okL h) l))), some (.int (nI l))] [] (nh h) (some (.int (nI (rs (okL h) 4)))) (nh h) := by
  intro d
  induction d with
  | zero =>
    intro l hl
    refine bk_sound (cuts := []) 20 _ _ _ _ ?_
    refine br_t (show 4 ≤ nI l by first | assumption | (simp (discharger := omega) only [i_lt, i_le, i_eq, bI_tz, decide_eq_false_iff_not, Int32.reduceToInt, nI_toInt, tm1, tm2, tm3, tm4, tm9]; done) | (simp (discharger := omega) only [i_lt, i_le, i_eq, bI_tz, decide_eq_false_iff_not, Int32.reduceToInt, nI_toInt, tm1, tm2, tm3, tm4, tm9]; omega) | omega) ?_
    rw [show l = 4 by omega]
    exact ⟨Or.inl rfl, rfl, rfl⟩
  | succ d ih =>
    intro l hl
    have e := ih (l + 1) (by omega)
    refine bk_sound (cuts := [4]) 30 _ _ _ _ ?_
    refine br_f (show ¬ (4 ≤ nI l) by first | assumption | (simp (discharger := omega) only [i_lt, i_le, i_eq, bI_tz, decide_eq_false_iff_not, Int32.reduceToInt, nI_toInt, tm1, tm2, tm3, tm4, tm9]; done) | (simp (discharger := omega) only [i_lt, i_le, i_eq, bI_tz, decide_eq_false_iff_not, Int32.reduceToInt, nI_toInt, tm1, tm2, tm3, tm4, tm9]; omega) | omega) ?_
    have hc := c_canGo (sc := sc) hs hP (l := l) (by omega)
    rw [← nh_eq hs] at hc
    refine And.intro ⟨rfl, rfl⟩ (And.intro rfl (Exists.intro _ (Exists.intro _ (And.intro (hc) ?_))))
    rw [nh_eq hs]
    unfold rs at e
    rw [← nI_1] at e
    cases q : okL h l with
    | false =>
      refine br_t (by rfl) ?_
      rw [q] at e
      rw [← nh_eq hs] at e ⊢
      rw [nh_idem h hs] at e
      exact e
    | true =>
      refine br_f (by decide) ?_
      rw [q, if_pos rfl, ← or_bit ⟨l, by omega⟩ ⟨rs (okL h) l, rs_lt _ _⟩] at e
      rw [← nh_eq hs] at e ⊢
      rw [nh_idem h hs] at e
      exact e
theorem c_running (hs : Shp h) (hP : SimP h) : Cc sc 84 [.ref 15] h (some (.int (nI (rs (okL h) 4)))) h := by
  refine cc_nh (F := fun h => h) hs (cc_cut [4] 10 rfl rfl ?_)
  exact running_loop hs hP 4 0 rfl
def PlM (h : Hp) : Prop := ∀ x, x < 12 → zI h 57 x = -9 ∨ ∃ p, p < 12 ∧ zI h 57 x = nI p
theorem PlM_of (hP : SimP h) : PlM h := by
  intro x hx
  obtain ⟨np, c1, c2, c3, c4, c5, c6, c7⟩ := hP
  rcases c6 x hx with ⟨w1, w2⟩ | ⟨p, w0, w1, w2, w3⟩
  · exact Or.inl w2
  · exact Or.inr ⟨p, by omega, w2⟩
theorem plM_ok (hP : PlM h) {x : Nat} (hx : x < 12) : (zI h 57 x = -9 ∧ okM h x = false) ∨ ∃ p, p < 12 ∧ zI h 57 x = nI p ∧ okM h x = !decide (zI h 54 p = 0) := by
  rcases hP x hx with w2 | ⟨p, w0, w2⟩
  · refine Or.inl ⟨w2, ?_⟩
    unfold okM
    rw [w2]
    rfl
  · refine Or.inr ⟨p, w0, w2, ?_⟩
    unfold okM
    rw [w2, nI_clamp (by omega), decide_eq_false (by rw [nI_toInt (by omega)]; omega)]
    rfl
theorem doesRun_loop (hs : Shp h) (hP : PlM h) {l : Nat} (hl : l < 4) : ∀ (d t : Nat) (b : Bool), t + d = 3 → Rn sc (mtk 196) 6 [some (.ref 39), some (.int (nI l)), some (.int (bI b)), some (.int (nI (3 * l + t)))] [] (nh h) (some (.int (bI (b && allF (okM h) (3 * l + t) d)))) (nh h) := by
  intro d
  have e3 : (3 : Int32) * nI l + 3 = nI (3 * l + 3) := by rw [show (3 : Int32) = nI 3 from rfl, pk_mul, nI_add]
  induction d with
  | zero =>
    intro t b ht
    refine bk_sound (cuts := []) 20 _ _ _ _ ?_
    refine br_t (show (3 : Int32) * nI l + 3 ≤ nI (3 * l + t) by rw [e3]; exact nI_le (by omega) (by omega)) ?_
    rw [show allF (okM h) (3 * l + t) 0 = true from rfl, Bool.and_true]
    exact ⟨Or.inr ⟨rfl, bI_01 b⟩, rfl, rfl⟩
  | succ d ih =>
    intro t b ht
    have ib : inB (nI (3 * l + t)) 12 = true := inB_nI (by omega) (by decide)
    have ec : (nI (3 * l + t)).toNatClampNeg = 3 * l + t := nI_clamp (by omega)
    have go : ∀ v : Bool, v = (b && okM h (3 * l + t)) → Rn sc (mtk 196) 6 [some (.ref 39), some (.int (nI l)), some (.int (bI v)), some (.int (nI (3 * l + t) + Int32.ofInt 1))] [] (nh h) (some (.int (bI (b && allF (okM h) (3 * l + t) (d + 1))))) (nh h) := fun v hv => by
      have := ih (t + 1) v (by omega)
      rw [← Nat.add_assoc, ← nI_1, hv, Bool.and_assoc] at this
      rw [hv]
      exact this
    refine bk_sound (cuts := [6]) 40 _ _ _ _ ?_
    refine br_f (show ¬ (3 : Int32) * nI l + 3 ≤ nI (3 * l + t) by rw [e3]; exact nI_ge (by omega) (by omega)) ?_
    cases b with
    | false =>
      refine br_t (by rfl) ?_
      exact go false rfl
    | true =>
      refine br_f (by decide) ?_
      refine And.intro rfl ?_
      refine And.intro (⟨rfl, ib⟩) ?_
      rw [ec]
      rcases plM_ok hP (x := 3 * l + t) (by omega) with ⟨w2, w3⟩ | ⟨p, n1, w2, w7⟩
      · refine br_t (show zI (nh h) 57 (3 * l + t) < 0 by rw [show zI (nh h) 57 (3 * l + t) = -9 from w2]; decide) ?_
        exact go false (by rw [w3]; rfl)
      · have ip : inB (nI p) 12 = true := inB_nI (by omega) (by decide)
        have ep : (nI p).toNatClampNeg = p := nI_clamp (by omega)
        refine br_f (show ¬ zI (nh h) 57 (3 * l + t) < 0 by rw [show zI (nh h) 57 (3 * l + t) = nI p from w2]; exact nI_pos (by omega)) ?_
        refine And.intro rfl ?_
        refine And.intro rfl ?_
        refine And.intro (⟨rfl, ib⟩) ?_
        rw [ec, show zI (nh h) (zA (nh h) 39 25) (3 * l + t) = nI p from w2]
        refine And.intro (⟨rfl, ip⟩) ?_
        rw [ep]
        by_cases q : zI h 54 p = 0
        · refine br_t (show zI (nh h) 54 p = 0 from q) ?_
          exact go false (by rw [w7, decide_eq_true q]; rfl)
        · refine br_f (show ¬ zI (nh h) 54 p = 0 from q) ?_
          exact go true (by rw [w7, decide_eq_false q]; rfl)
theorem c_doesRun (hs : Shp h) (hP : PlM h) {l : Nat} (hl : l < 4) : Cc sc 196 [.ref 39, .int (nI l)] h (some (.int (bI (okL h l)))) h := by
  refine cc_nh (F := fun h => h) hs (cc_cut [6] 10 rfl rfl ?_)
  have := doesRun_loop (sc := sc) hs hP hl 3 0 true rfl
  rw [Bool.true_and, Nat.add_zero, show nI (3 * l) = 3 * nI l from (pk_mul 3 l).symm] at this
  exact this
theorem runs_loop (hs : Shp h) (hP : PlM h) : ∀ (d l : Nat), l + d = 4 → Rn sc (mtk 197) 4 [some (.ref 39), some (.int (nI (rs (okL h) l))), some (.int (nI l))] [] (nh h) (some (.int (nI (rs (okL h) 4)))) (nh h) := by
  intro d
  induction d with
  | zero =>
    intro l hl
    refine bk_sound (cuts := []) 20 _ _ _ _ ?_
    refine br_t (show 4 ≤ nI l by first | assumption | (simp (discharger := omega) only [i_lt, i_le, i_eq, bI_tz, decide_eq_false_iff_not, Int32.reduceToInt, nI_toInt, tm1, tm2, tm3, tm4, tm9]; done) | (simp (discharger := omega) only [i_lt, i_le, i_eq, bI_tz, decide_eq_false_iff_not, Int32.reduceToInt, nI_toInt, tm1, tm2, tm3, tm4, tm9]; omega) | omega) ?_
    rw [show l = 4 by omega]
    exact ⟨Or.inl rfl, rfl, rfl⟩
  | succ d ih =>
    intro l hl
    have e := ih (l + 1) (by omega)
    refine bk_sound (cuts := [4]) 30 _ _ _ _ ?_
    refine br_f (show ¬ (4 ≤ nI l) by first | assumption | (simp (discharger := omega) only [i_lt, i_le, i_eq, bI_tz, decide_eq_false_iff_not, Int32.reduceToInt, nI_toInt, tm1, tm2, tm3, tm4, tm9]; done) | (simp (discharger := omega) only [i_lt, i_le, i_eq, bI_tz, decide_eq_false_iff_not, Int32.reduceToInt, nI_toInt, tm1, tm2, tm3, tm4, tm9]; omega) | omega) ?_
    have hc := c_doesRun (sc := sc) hs hP (l := l) (by omega)
    rw [← nh_eq hs] at hc
    refine And.intro ⟨rfl, rfl⟩ (And.intro rfl (Exists.intro _ (Exists.intro _ (And.intro (hc) ?_))))
    rw [nh_eq hs]
    unfold rs at e
    rw [← nI_1] at e
    cases q : okL h l with
    | false =>
      refine br_t (by rfl) ?_
      rw [q] at e
      have l16 : rs (okL h) l < 16 := Nat.lt_of_lt_of_le (rs_lt (okL h) l) (Nat.pow_le_pow_right (by decide) (by omega : l ≤ 4))
      have e0 : nI (rs (okL h) l) ||| 0 = nI (rs (okL h) l) := or_zero ⟨rs (okL h) l, l16⟩
      rw [if_neg (by decide), Nat.add_zero, ← e0] at e
      rw [nh_eq hs] at e
      exact e
    | true =>
      refine br_f (by decide) ?_
      rw [q, if_pos rfl, ← or_bit ⟨l, by omega⟩ ⟨rs (okL h) l, rs_lt _ _⟩] at e
      rw [← nh_eq hs] at e ⊢
      rw [nh_idem h hs] at e
      exact e
theorem c_runs (hs : Shp h) (hP : PlM h) : Cc sc 197 [.ref 39] h (some (.int (nI (rs (okL h) 4)))) h := by
  refine cc_nh (F := fun h => h) hs (cc_cut [4] 10 rfl rfl ?_)
  exact runs_loop hs hP 4 0 rfl
theorem op_runs (hS : Sim0 h) : Op0 sc 110 197 [] h := by
  refine ⟨.int (nI (rs (okL h) 4)), h, h, ?_, c_runs hS.1 (PlM_of hS.2.2.2.2.1), fin_same hS⟩
  refine cc_nh (F := fun h => h) hS.1 (cc_of 20 rfl rfl ?_)
  refine And.intro rfl ?_
  have hc := c_running (sc := sc) hS.1 hS.2.2.2.2.1
  rw [← nh_eq hS.1] at hc
  refine And.intro ⟨rfl, rfl⟩ (And.intro rfl (Exists.intro _ (Exists.intro _ (And.intro (hc) ?_))))
  rw [nh_eq hS.1]
  exact ⟨Or.inl rfl, rfl, rfl⟩
end
