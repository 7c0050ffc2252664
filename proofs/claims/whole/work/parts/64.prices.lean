/-! What parts cost at places; the class's prices. -/
def hN (kd st hr t : Nat) : Option Nat := if t = st then some hr else if kd = 2 then some (hr + 1) else if kd = 1 ∧ t = (st + 1) % 3 then some (hr + 2) else none
def oI (x : Option Nat) : Int32 := match x with
  | none => -9
  | some n => nI n
theorem hF_hN (kd st hr t : Nat) : hF kd st hr t = oI (hN kd st hr t) := by
  unfold hF hN
  by_cases q1 : t = st
  · rw [if_pos q1, if_pos q1]
    rfl
  · rw [if_neg q1, if_neg q1]
    by_cases q2 : kd = 2
    · rw [if_pos q2, if_pos q2]
      rfl
    · rw [if_neg q2, if_neg q2]
      by_cases q3 : kd = 1 ∧ t = (st + 1) % 3
      · rw [if_pos q3, if_pos q3]
        rfl
      · rw [if_neg q3, if_neg q3]
        rfl
theorem hN_le {kd st hr t n : Nat} (h : hN kd st hr t = some n) : hr ≤ n ∧ n ≤ hr + 2 := by
  unfold hN at h
  by_cases q1 : t = st
  · rw [if_pos q1] at h
    cases h
    omega
  · rw [if_neg q1] at h
    by_cases q2 : kd = 2
    · rw [if_pos q2] at h
      cases h
      omega
    · rw [if_neg q2] at h
      by_cases q3 : kd = 1 ∧ t = (st + 1) % 3
      · rw [if_pos q3] at h
        cases h
        omega
      · rw [if_neg q3] at h
        cases h
def cs1 (K kd st hr : Nat) (u : Bool) (pl : Int32) (x : Nat) : Option Nat := match u, hN kd st hr (x % 3) with
  | true, some n => some (if pl = nI x then 0 else K + n)
  | _, _ => none
def prN (c : Option Nat) : Nat := match c with
  | none => 144115188075855872
  | some n => n * 8916100448256
theorem pck3 (z k : Nat) : pck z k k k = k := by
  unfold pck
  split
  · rfl
  · split <;> rfl
def pKd (h : Hp) (p : Nat) : Nat := (zI h 51 p).toNatClampNeg
def pSt (h : Hp) (p : Nat) : Nat := (zI h 52 p).toNatClampNeg
def pHr (h : Hp) (p : Nat) : Nat := (zI h 53 p).toNatClampNeg
def pUs (h : Hp) (p : Nat) : Bool := !decide (zI h 54 p = 0) && decide (zI h 55 p = 0)
def csH (K : Nat) (h : Hp) (x p : Nat) : Option Nat := cs1 K (pKd h p) (pSt h p) (pHr h p) (pUs h p) (zI h 56 p) x
/-- a part as both sides have it -/
def PH (h : Hp) (p : Nat) : Prop := 65 ≤ zA h 16 p ∧ pKd h p ≤ 2 ∧ zK h (zA h 16 p) = pkd (pKd h p) ∧ pSt h p ≤ 2 ∧ 1 ≤ pHr h p ∧ pHr h p ≤ 9 ∧ zI h (zA h 16 p) 1 = nI (pSt h p) ∧ zI h (zA h 16 p) 2 = nI (pHr h p) ∧ (∃ gd hd : Bool, zI h (zA h 16 p) 3 = bI gd ∧ zI h (zA h 16 p) 4 = bI hd ∧ zI h 54 p = bI gd ∧ zI h 55 p = bI hd ∧ pUs h p = (gd && !hd)) ∧ zI h (zA h 16 p) 5 = zI h 56 p ∧ zI h 51 p = nI (pKd h p) ∧ zI h 52 p = nI (pSt h p) ∧ zI h 53 p = nI (pHr h p)
theorem PH_of {h : Hp} {p : Nat} (P : PartOK h p) : PH h p := by
  obtain ⟨a, kd, st, hr, gd, hd, pl, z1, z2, z3, z4, z5, z6, z7, z8, z9, z10, z11, z12, z13, z14, z15, z16, z17, z18, z19, z20⟩ := P
  subst z1
  have e1 : pKd h p = kd := by unfold pKd; rw [z14]; exact nI_clamp (by omega)
  have e2 : pSt h p = st := by unfold pSt; rw [z15]; exact nI_clamp (by omega)
  have e3 : pHr h p = hr := by unfold pHr; rw [z16]; exact nI_clamp (by omega)
  unfold PH
  rw [e1, e2, e3]
  refine ⟨z2, z3, z4, z6, z8, z9, z7, z10, ⟨gd, hd, z11, z12, z17, z18, ?_⟩, z13.trans z19.symm, z14, z15, z16⟩
  unfold pUs
  rw [z17, z18]
  cases gd <;> cases hd <;> rfl
section
variable {sc : Nat × (Nat → Int32)} {h : Hp}
theorem c_isUsable {a : Nat} {gd hd : Bool} (hk : kin 4 (zK h a) = true) (h3 : zI h a 3 = bI gd) (h4 : zI h a 4 = bI hd) : Cc sc 41 [.ref a] h (some (.int (bI (gd && !hd)))) h := by
  refine cc_of 30 rfl rfl ?_
  refine And.intro (hk) ?_
  rw [h3]
  cases gd with
  | false =>
    refine br_t (by rfl) ?_
    exact ⟨Or.inr ⟨rfl, Or.inl rfl⟩, rfl, rfl⟩
  | true =>
    refine br_f (by decide) ?_
    refine And.intro (hk) ?_
    rw [h4]
    cases hd with
    | true =>
      refine br_t (by decide) ?_
      exact ⟨Or.inr ⟨rfl, Or.inl rfl⟩, rfl, rfl⟩
    | false =>
      refine br_f (by exact fun z => z rfl) ?_
      exact ⟨Or.inr ⟨rfl, Or.inr rfl⟩, rfl, rfl⟩
theorem c_price {a kd st hr x : Nat} {gd hd : Bool} {pl : Int32} (hkd : kd ≤ 2) (hk : zK h a = pkd kd) (h1 : zI h a 1 = nI st) (h2 : zI h a 2 = nI hr) (h3 : zI h a 3 = bI gd) (h4 : zI h a 4 = bI hd) (h5 : zI h a 5 = pl) (hst : st ≤ 2) (hhr : hr ≤ 9) (hx : x < 12) : Cc sc 72 [.ref a, .int (nI x)] h (some (.long (lN (prN (cs1 256 kd st hr (gd && !hd) pl x))))) h := by
  have k4 : kin 4 (zK h a) = true := by rw [hk]; exact kin_part hkd
  have hc := c_hoursFor (sc := sc) hkd hk h1 h2 hst hhr (by omega : x % 3 ≤ 2)
  rw [hF_hN, ← hk] at hc
  have hu : Cc sc (pck (zK h a) 41 41 41) [.ref a] h (some (.int (bI (gd && !hd)))) h := by
    rw [pck3]
    exact c_isUsable k4 h3 h4
  have R2 : Rn sc (mtk 72) 12 [some (.ref a), some (.int (nI x)), some (.int (oI (hN kd st hr (x % 3))))] [.int (bI (gd && !hd))] h (some (.long (lN (prN (cs1 256 kd st hr (gd && !hd) pl x))))) h := by
    refine bk_sound (cuts := []) 30 _ _ _ _ ?_
    unfold cs1
    cases hb : (gd && !hd) with
    | false =>
      refine br_t (by rfl) ?_
      exact ⟨trivial, rfl, rfl⟩
    | true =>
      refine br_f (by decide) ?_
      cases hh : hN kd st hr (x % 3) with
      | none =>
        refine br_f (by exact fun z => z rfl) ?_
        exact ⟨trivial, rfl, rfl⟩
      | some n =>
        have hn := hN_le hh
        refine br_t (show ¬ nI n = -9 from fun z => ?_) ?_
        · have := congrArg Int32.toInt z
          rw [nI_toInt (by omega), tm9] at this
          omega
        · refine And.intro (k4) ?_
          rw [h5]
          by_cases q : pl = nI x
          · refine br_f (fun z => z q) ?_
            refine ⟨trivial, ?_, rfl⟩
            show some (Value.long 0) = some (Value.long (lN (prN (some (if pl = nI x then 0 else 256 + n)))))
            rw [if_pos q]
            show some (Value.long 0) = some (Value.long (lN (0 * 8916100448256)))
            rw [Nat.zero_mul]
            rfl
          · refine br_t q ?_
            refine ⟨trivial, ?_, rfl⟩
            show some (Value.long ((256 + nI n : Int32).toInt64 * 8916100448256)) = some (Value.long (lN (prN (some (if pl = nI x then 0 else 256 + n)))))
            rw [if_neg q]
            show some (Value.long ((256 + nI n : Int32).toInt64 * 8916100448256)) = some (Value.long (lN ((256 + n) * 8916100448256)))
            rw [show (256 : Int32) = nI 256 from rfl, nI_add, nI_l (by omega), ← lN_mul]
            rfl
  have R1 : Rn sc (mtk 72) 7 [some (.ref a), some (.int (nI x)), none] [.int (oI (hN kd st hr (x % 3)))] h (some (.long (lN (prN (cs1 256 kd st hr (gd && !hd) pl x))))) h := by
    refine bk_sound (cuts := [12]) 20 _ _ _ _ ?_
    obtain rfl | rfl | rfl : kd = 0 ∨ kd = 1 ∨ kd = 2 := by omega
    · refine And.intro (v_ok (show zK h a = 4 from hk) ⟨rfl, rfl, by decide⟩) (And.intro (v_ary (show zK h a = 4 from hk) rfl) (Exists.intro _ (Exists.intro _ (And.intro (hu) ?_))))
      exact R2
    · refine And.intro (v_ok (show zK h a = 2 from hk) ⟨rfl, rfl, by decide⟩) (And.intro (v_ary (show zK h a = 2 from hk) rfl) (Exists.intro _ (Exists.intro _ (And.intro (hu) ?_))))
      exact R2
    · refine And.intro (v_ok (show zK h a = 1 from hk) ⟨rfl, rfl, by decide⟩) (And.intro (v_ary (show zK h a = 1 from hk) rfl) (Exists.intro _ (Exists.intro _ (And.intro (hu) ?_))))
      exact R2
  refine cc_cut [7] 20 rfl rfl ?_
  refine And.intro (by decide) ?_
  rw [show nI x - nI x / 3 * 3 = nI (x % 3) from pk_rem (d := 3) (by omega) (by decide) (by decide)]
  obtain rfl | rfl | rfl : kd = 0 ∨ kd = 1 ∨ kd = 2 := by omega
  · refine And.intro (v_ok (show zK h a = 4 from hk) ⟨rfl, rfl, by decide⟩) (And.intro (v_ary (show zK h a = 4 from hk) rfl) (Exists.intro _ (Exists.intro _ (And.intro (hc) ?_))))
    exact R1
  · refine And.intro (v_ok (show zK h a = 2 from hk) ⟨rfl, rfl, by decide⟩) (And.intro (v_ary (show zK h a = 2 from hk) rfl) (Exists.intro _ (Exists.intro _ (And.intro (hc) ?_))))
    exact R1
  · refine And.intro (v_ok (show zK h a = 1 from hk) ⟨rfl, rfl, by decide⟩) (And.intro (v_ary (show zK h a = 1 from hk) rfl) (Exists.intro _ (Exists.intro _ (And.intro (hc) ?_))))
    exact R1
end
/-! the places of a set of lorries -/
def fS (s : Nat) (l : Nat) : Bool := decide (s / 2 ^ l % 2 = 1)
def wqF (f : Nat → Bool) : Nat → Nat → Nat
  | 0, _ => 0
  | x + 1, j => if f (x / 3) = true ∧ j = cN f x then x else wqF f x j
def wW (s : Nat) : Nat := cN (fS s) 12
def wP (s n : Nat) : Nat := wqF (fS s) 12 n
theorem wP_all : ∀ s : Fin 16, wW s.val = 3 * bc s.val ∧ wW s.val ≤ 12 ∧ ∀ n : Fin 12, n.val < wW s.val → wP s.val n.val % 3 = n.val % 3 ∧ wP s.val n.val < 12 := by decide +kernel
theorem wW_eq {s : Nat} (hs : s < 16) : wW s = 3 * bc s ∧ wW s ≤ 12 := ⟨(wP_all ⟨s, hs⟩).1, (wP_all ⟨s, hs⟩).2.1⟩
theorem wP_eq {s n : Nat} (hs : s < 16) (hn : n < wW s) : wP s n % 3 = n % 3 ∧ wP s n < 12 := (wP_all ⟨s, hs⟩).2.2 ⟨n, by have := (wW_eq hs).2; omega⟩ hn
/-- rows of places, of a cell that holds how many (c, k) and a cell that holds the row (b) -/
def swF (c k b : Nat) (F : Nat → Nat → Int32) (f : Nat → Bool) (x : Nat) : Nat → Nat → Int32 := fun a j => if a = c ∧ j = k then nI (cN f x) else if a = b ∧ j < cN f x then nI (wqF f x j) else F a j
theorem swF_0 (c k b : Nat) (F : Nat → Nat → Int32) (f : Nat → Bool) : u2 F c k 0 = swF c k b F f 0 := by
  funext a j
  rw [u2_eq]
  unfold swF
  by_cases e : a = c ∧ j = k
  · rw [if_pos e, if_pos e]
    rfl
  · rw [if_neg e, if_neg e, if_neg (fun z => absurd z.2 (Nat.not_lt_zero _))]
theorem swF_skip {c k b : Nat} {F : Nat → Nat → Int32} {f : Nat → Bool} {x : Nat} (hf : f (x / 3) = false) : swF c k b F f x = swF c k b F f (x + 1) := by
  have e : cN f (x + 1) = cN f x := by rw [cN, hf]; rfl
  funext a j
  unfold swF
  rw [e, show wqF f (x + 1) j = wqF f x j from if_neg (by rw [hf]; exact fun z => by cases z.1)]
theorem swF_take {c k b : Nat} (hcb : b ≠ c) {F : Nat → Nat → Int32} {f : Nat → Bool} {x : Nat} (hf : f (x / 3) = true) : u2 (u2 (swF c k b F f x) b (cN f x) (nI x)) c k (nI (cN f x) + 1) = swF c k b F f (x + 1) := by
  have e : cN f (x + 1) = cN f x + 1 := by rw [cN, hf]; rfl
  funext a j
  rw [u2_eq, u2_eq]
  unfold swF
  rw [e, nI_1]
  by_cases e1 : a = c ∧ j = k
  · rw [if_pos e1, if_pos e1]
  · rw [if_neg e1, if_neg e1, if_neg e1]
    by_cases e2 : a = b ∧ j = cN f x
    · rw [if_pos e2, if_pos ⟨e2.1, by omega⟩]
      rw [show wqF f (x + 1) j = x from if_pos ⟨hf, e2.2⟩]
    · rw [if_neg e2]
      by_cases e3 : a = b ∧ j < cN f x
      · rw [if_pos e3, if_pos ⟨e3.1, by omega⟩, show wqF f (x + 1) j = wqF f x j from if_neg (fun z => e2 ⟨e3.1, z.2⟩)]
      · rw [if_neg e3, if_neg (by omega)]
section
variable {sc : Nat × (Nat → Int32)} {h : Hp} {F : Nat → Nat → Int32} {G : Nat → Nat → Int64} {M s : Nat}
theorem cN_12le (f : Nat → Bool) {x : Nat} (hx : x ≤ 12) : cN f x ≤ 12 := by
  have : ∀ y, cN f y ≤ y := by
    intro y
    induction y with
    | zero => exact Nat.le_refl _
    | succ y ih =>
      rw [cN]
      split <;> omega
  have := this x
  omega
theorem sp1_loop {h' : Hp} (hs : s < 16) (K : Rn sc (mtk 71) 50 [some (.ref 19), some (.int (nI s)), some (.int 12), none, none, none] [] (wIJ (nh h) (swF 19 7 21 F (fS s) 12) G) none h') : ∀ (d x : Nat), x + d = 12 → Rn sc (mtk 71) 7 [some (.ref 19), some (.int (nI s)), some (.int (nI x)), none, none, none] [] (wIJ (nh h) (swF 19 7 21 F (fS s) x) G) none h' := by
  intro d
  induction d with
  | zero =>
    intro x hx
    obtain rfl : x = 12 := by omega
    refine bk_sound (cuts := [50]) 20 _ _ _ _ ?_
    refine br_t (by decide) ?_
    exact K
  | succ d ih =>
    intro x hx
    have R := ih (x + 1) (by omega)
    rw [← nI_1] at R
    have eb := bit_cond hs (by omega : x < 12)
    refine bk_sound (cuts := [7]) 40 _ _ _ _ ?_
    refine br_f (show ¬ 12 ≤ nI x from nI_ge (a := x) (b := 12) (by omega) (by omega)) ?_
    refine And.intro (by decide) ?_
    by_cases q : s / 2 ^ (x / 3) % 2 = 1
    · have hf : fS s (x / 3) = true := decide_eq_true q
      have cl := cN_12le (fS s) (x := x + 1) (by omega)
      have ce : cN (fS s) (x + 1) = cN (fS s) x + 1 := by rw [cN, hf]; rfl
      have e7 : swF 19 7 21 F (fS s) x 19 7 = nI (cN (fS s) x) := if_pos ⟨rfl, rfl⟩
      refine br_f (show ¬ ¬ (nI s >>> (nI x / 3 &&& 31)) &&& 1 = 1 from fun z => z (by rw [eb, q]; rfl)) ?_
      refine And.intro rfl ?_
      refine And.intro rfl ?_
      refine And.intro (show _ ∧ inB (swF 19 7 21 F (fS s) x 19 7) 12 = true from ⟨rfl, by rw [e7]; exact inB_nI (by omega) (by decide)⟩) ?_
      refine And.intro rfl ?_
      refine And.intro rfl ?_
      refine rn_eq (show wIJ (nh h) (u2 (u2 (swF 19 7 21 F (fS s) x) 21 (swF 19 7 21 F (fS s) x 19 7).toNatClampNeg (nI x)) 19 7 (u2 (swF 19 7 21 F (fS s) x) 21 (swF 19 7 21 F (fS s) x 19 7).toNatClampNeg (nI x) 19 7 + 1)) G = _ from ?_) R
      rw [e7, nI_clamp (by omega), u2_eq _ _ _ _ 19, if_neg (by omega), e7, swF_take (by decide) hf]
    · have hf : fS s (x / 3) = false := decide_eq_false q
      refine br_t (show ¬ (nI s >>> (nI x / 3 &&& 31)) &&& 1 = 1 from fun z => q ?_) ?_
      · rw [eb] at z
        exact (nI_eq (by omega) (by omega)).mp z
      · rw [swF_skip hf]
        exact R
/-- the price of part j % 12 at place j / 12 -/
def PR (h : Hp) (s j : Nat) : Nat := prN (csH 256 h (wP s (j / 12)) (j % 12)) + j % 12 * 12 ^ (wW s - 1 - j / 12)
def spG (h : Hp) (G : Nat → Nat → Int64) (M s n p : Nat) : Nat → Nat → Int64 := fun a j => if a = 22 ∧ ((n < j / 12 ∧ j / 12 < wW s ∧ j % 12 < M) ∨ (j / 12 = n ∧ j % 12 < p)) then lN (PR h s j) else G a j
theorem spG_s {n p : Nat} (hp : p < 12) : u2L (spG h G M s n p) 22 (n * 12 + p) (lN (PR h s (n * 12 + p))) = spG h G M s n (p + 1) := by
  funext a j
  rw [u2L_eq]
  unfold spG
  by_cases e : a = 22 ∧ j = n * 12 + p
  · rw [if_pos e, if_pos ⟨e.1, by omega⟩, e.2]
  · rw [if_neg e]
    by_cases q : a = 22 ∧ ((n < j / 12 ∧ j / 12 < wW s ∧ j % 12 < M) ∨ (j / 12 = n ∧ j % 12 < p))
    · rw [if_pos q, if_pos ⟨q.1, by omega⟩]
    · rw [if_neg q, if_neg (by omega)]
theorem spG_r {n : Nat} (hn : n + 1 < wW s) : spG h G M s (n + 1) M = spG h G M s n 0 := by
  funext a j
  unfold spG
  by_cases q : a = 22 ∧ ((n < j / 12 ∧ j / 12 < wW s ∧ j % 12 < M) ∨ (j / 12 = n ∧ j % 12 < 0))
  · rw [if_pos q, if_pos ⟨q.1, by omega⟩]
  · rw [if_neg q, if_neg (by omega)]
theorem sp2_loop {h' : Hp} {n : Nat} (hA : zA h 19 5 = 16) (hM : M ≤ 12) (hF : ∀ a, 65 ≤ a → F a = zI h a) (hP : ∀ p, p < M → PH h p) (e6 : F 19 6 = nI M) (hs : s < 16) (hn : n < wW s) (e21 : F 21 n = nI (wP s n)) (K : Rn sc (mtk 71) 119 [some (.ref 19), some (.int (nI s)), some (.long (lN (12 ^ (wW s - 1 - n)))), none, some (.int (nI n)), some (.int (nI M))] [] (wIJ (nh h) F (spG h G M s n M)) none h') : ∀ (d p : Nat), p + d = M → Rn sc (mtk 71) 68 [some (.ref 19), some (.int (nI s)), some (.long (lN (12 ^ (wW s - 1 - n)))), none, some (.int (nI n)), some (.int (nI p))] [] (wIJ (nh h) F (spG h G M s n p)) none h' := by
  intro d
  have w12 := (wW_eq hs).2
  induction d with
  | zero =>
    intro p hp
    obtain rfl : p = M := by omega
    refine bk_sound (cuts := [119]) 20 _ _ _ _ ?_
    refine And.intro rfl ?_
    refine br_t (show F 19 6 ≤ nI p by rw [e6]; exact nI_le (Nat.le_refl _) (by omega)) ?_
    exact K
  | succ d ih =>
    intro p hp
    have R := ih (p + 1) (by omega)
    rw [← nI_1, ← spG_s (by omega)] at R
    obtain ⟨y1, y2, y3, y4, y5, y6, y7, y8, ⟨gd, hd, y9, y10, y11, y12, y13⟩, y14, -⟩ := hP p (by omega)
    have ip : inB (nI p) 12 = true := inB_nI (by omega) (by decide)
    have ep : (nI p).toNatClampNeg = p := nI_clamp (by omega)
    have iN : inB (nI n) 12 = true := inB_nI (by omega) (by decide)
    have eN : (nI n).toNatClampNeg = n := nI_clamp (by omega)
    have ex : nI n * 12 + nI p = nI (n * 12 + p) := by rw [show (12 : Int32) = nI 12 from rfl, pk_mul, nI_add]
    have a5 : zA (nh h) 19 5 = 16 := hA
    have fa := hF (zA h 16 p) y1
    have hpr := c_price (sc := sc) (h := wIJ (nh h) F (spG h G M s n p)) (a := zA h 16 p) (x := wP s n) (pl := zI h 56 p) y2 (show zK (nh h) (zA h 16 p) = _ by rw [nh_K y1]; exact y3) (show F (zA h 16 p) 1 = _ by rw [fa]; exact y7) (show F (zA h 16 p) 2 = _ by rw [fa]; exact y8) (show F (zA h 16 p) 3 = _ by rw [fa]; exact y9) (show F (zA h 16 p) 4 = _ by rw [fa]; exact y10) (show F (zA h 16 p) 5 = _ by rw [fa]; exact y14) y4 y6 (wP_eq hs hn).2
    rw [← y13] at hpr
    refine bk_sound (cuts := [68]) 60 _ _ _ _ ?_
    refine And.intro rfl ?_
    refine br_f (show ¬ F 19 6 ≤ nI p by rw [e6]; exact nI_ge (by omega) (by omega)) ?_
    refine And.intro rfl ?_
    refine And.intro rfl ?_
    rw [show zA (wIJ (nh h) F (spG h G M s n p)) 19 5 = 16 from a5]
    refine And.intro (⟨rfl, ip⟩) ?_
    rw [ep, show zA (wIJ (nh h) F (spG h G M s n p)) 16 p = zA h 16 p from rfl]
    refine And.intro rfl ?_
    refine And.intro (⟨rfl, iN⟩) ?_
    rw [eN, show zI (wIJ (nh h) F (spG h G M s n p)) (zA (wIJ (nh h) F (spG h G M s n p)) 19 8) n = nI (wP s n) from e21]
    refine And.intro rfl (And.intro rfl (Exists.intro _ (Exists.intro _ (And.intro (hpr) ?_))))
    refine And.intro (show _ ∧ inB (nI n * 12 + nI p) 144 = true from ⟨rfl, by rw [ex]; exact inB_nI (by omega) (by decide)⟩) ?_
    refine rn_eq (show wIJ (nh h) F (u2L (spG h G M s n p) 22 (nI n * 12 + nI p).toNatClampNeg (lN (prN (cs1 256 (pKd h p) (pSt h p) (pHr h p) (pUs h p) (zI h 56 p) (wP s n))) + (nI p).toInt64 * lN (12 ^ (wW s - 1 - n)))) = _ from ?_) R
    rw [ex, nI_clamp (by omega), nI_l (by omega), lN_mul, lN_add]
    unfold PR
    rw [show (n * 12 + p) / 12 = n by omega, show (n * 12 + p) % 12 = p by omega]
    rfl
theorem sp3_loop (hA : zA h 19 5 = 16) (hM : M ≤ 12) (hF : ∀ a, 65 ≤ a → F a = zI h a) (hP : ∀ p, p < M → PH h p) (e6 : F 19 6 = nI M) (hs : s < 16) (e21 : ∀ n, n < wW s → F 21 n = nI (wP s n)) : ∀ (n : Nat) (o : Option Value) (G1 : Nat → Nat → Int64), n ≤ wW s → (n < wW s → G1 = spG h G M s n M) → (n = wW s → G1 = G) → (n = 0 ∧ wW s = 0 → True) → Rn sc (mtk 71) 60 [some (.ref 19), some (.int (nI s)), some (.long (lN (12 ^ (wW s - n)))), none, some (.int (nI n - 1)), o] [] (wIJ (nh h) F G1) none (wIJ (nh h) F (if wW s = 0 then G else spG h G M s 0 M)) := by
  intro n
  have w12 := (wW_eq hs).2
  induction n with
  | zero =>
    intro o G1 hn h1 h2 _
    refine bk_sound (cuts := []) 20 _ _ _ _ ?_
    refine br_t (by decide) ?_
    refine ⟨trivial, rfl, ?_⟩
    by_cases q : wW s = 0
    · rw [if_pos q, h2 q.symm]
    · rw [if_neg q, h1 (by omega)]
  | succ n ih =>
    intro o G1 hn h1 h2 _
    have e0 : G1 = spG h G M s n 0 := by
      by_cases q : n + 1 < wW s
      · rw [h1 q, spG_r q]
      · rw [h2 (by omega)]
        funext a j
        unfold spG
        rw [if_neg (by omega)]
    subst e0
    have R := ih (some (.int (nI M))) (spG h G M s n M) (by omega) (fun _ => rfl) (fun z => by omega) (fun _ => trivial)
    have K : Rn sc (mtk 71) 119 [some (.ref 19), some (.int (nI s)), some (.long (lN (12 ^ (wW s - 1 - n)))), none, some (.int (nI n)), some (.int (nI M))] [] (wIJ (nh h) F (spG h G M s n M)) none (wIJ (nh h) F (if wW s = 0 then G else spG h G M s 0 M)) := by
      refine bk_sound (cuts := [60]) 20 _ _ _ _ ?_
      rw [i_dec, show wW s - n = wW s - 1 - n + 1 by omega, Nat.pow_succ, ← lN_mul] at R
      exact R
    rw [nI_pred, show wW s - (n + 1) = wW s - 1 - n by omega]
    refine bk_sound (cuts := [68]) 20 _ _ _ _ ?_
    refine br_f (nI_pos (by omega)) ?_
    exact sp2_loop hA hM hF hP e6 hs (by omega) (e21 n (by omega)) K M 0 (by omega)
/-- the prices of a set -/
theorem c_setPrices (hA : zA h 19 5 = 16) (hM : M ≤ 12) (hF : ∀ a, 65 ≤ a → F a = zI h a) (hP : ∀ p, p < M → PH h p) (e6 : F 19 6 = nI M) (hs : s < 16) : ∃ F' G', Cc sc 71 [.ref 19, .int (nI s)] (wIJ (nh h) F G) none (wIJ (nh h) F' G') ∧ (∀ a j, ¬ (a = 19 ∧ j = 7) → a ≠ 21 → F' a j = F a j) ∧ (∀ a, a ≠ 22 → G' a = G a) ∧ F' 19 7 = nI (wW s) ∧ (∀ n, n < wW s → F' 21 n = nI (wP s n)) ∧ ∀ n p, n < wW s → p < M → G' 22 (n * 12 + p) = lN (prN (csH 256 h (wP s n) p) + p * 12 ^ (wW s - 1 - n)) := by
  have w12 := (wW_eq hs).2
  have e7 : swF 19 7 21 F (fS s) 12 19 7 = nI (wW s) := if_pos ⟨rfl, rfl⟩
  have e21 : ∀ n, n < wW s → swF 19 7 21 F (fS s) 12 21 n = nI (wP s n) := fun n hn => by
    unfold swF
    rw [if_neg (by omega), if_pos ⟨rfl, hn⟩]
    rfl
  have eo : ∀ a j, ¬ (a = 19 ∧ j = 7) → a ≠ 21 → swF 19 7 21 F (fS s) 12 a j = F a j := fun a j h1 h2 => by
    unfold swF
    rw [if_neg h1, if_neg (fun z => h2 z.1)]
  refine ⟨swF 19 7 21 F (fS s) 12, if wW s = 0 then G else spG h G M s 0 M, ?_, eo, fun a ha => ?_, e7, e21, fun n p hn hp => ?_⟩
  · refine cc_cut [7] 20 rfl rfl ?_
    refine And.intro rfl ?_
    refine rn_eq (show wIJ (nh h) (u2 F 19 7 0) G = _ from wIJ_eq _ (swF_0 19 7 21 F (fS s)) rfl) (sp1_loop hs ?_ 12 0 rfl)
    refine bk_sound (cuts := [60]) 20 _ _ _ _ ?_
    refine And.intro rfl ?_
    have R := sp3_loop (sc := sc) (h := h) (F := swF 19 7 21 F (fS s) 12) (G := G) hA hM (fun a ha => by funext j; rw [eo a j (by omega) (by omega), hF a ha]) hP (by rw [eo 19 6 (by omega) (by decide)]; exact e6) hs e21 (wW s) none G (Nat.le_refl _) (fun z => by omega) (fun _ => rfl) (fun _ => trivial)
    rw [Nat.sub_self] at R
    rw [show zI (wIJ (nh h) (swF 19 7 21 F (fS s) 12) G) 19 7 = nI (wW s) from e7]
    exact R
  · by_cases q : wW s = 0
    · rw [if_pos q]
    · rw [if_neg q]
      funext j
      exact if_neg (fun z => ha z.1)
  · rw [if_neg (by omega)]
    unfold spG
    rw [if_pos ⟨rfl, by omega⟩]
    unfold PR
    rw [show (n * 12 + p) / 12 = n by omega, show (n * 12 + p) % 12 = p by omega]
end
