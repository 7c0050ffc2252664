/-! texts: a whole text, by the class -/
abbrev tp1 (t : Nat → Int32) (L : Nat) : Nat := (lrF t L 0).2
abbrev tL (t : Nat → Int32) (L : Nat) : Nat := (nbF t L (0 + 1) 1 0 0).2.toNatClampNeg
abbrev tAll (t : Nat → Int32) (L : Nat) : Bool × Nat × Nat := allS t L 3 0 (tp1 t L)
abbrev tBr (t : Nat → Int32) (L : Nat) : Bool × Nat := brR t L (tL t L) (tAll t L).2.1
abbrev tPl (t : Nat → Int32) (L : Nat) : Bool × Nat × Int32 := plR t L (tAll t L).2.2 (tBr t L).2
/-- a text: is it right, where does the reading end -/
def txR (t : Nat → Int32) (L : Nat) : Bool × Nat := if (lrF t L 0).1 = true then (if (tAll t L).1 = true then (if (tBr t L).1 = true then (if (tPl t L).1 = true then (decide ((tPl t L).2.1 = L), (tPl t L).2.1) else (false, (tPl t L).2.1)) else (false, (tBr t L).2)) else (false, (tAll t L).2.1)) else (false, tp1 t L)
/-- the numbers of a text's sorts, and what so many lorries bring -/
def tN (t : Nat → Int32) (L r w : Nat) : Int32 := if w = 4 then (if (tBr t L).2 = L then 0 else vl1 t L (b1F t L (nx1 t L ((tBr t L).2 + 2)) r)) else vlW t L (plF t L (sqF t L (tp1 t L) r) w) w
def tB (t : Nat → Int32) (L k : Nat) : Int32 := if k = 0 then 0 else vl1 t L (b1F t L ((tAll t L).2.1 + 1) (k - 1))
theorem i_rng {v lo hi : Int32} {a b : Nat} (h1 : lo ≤ v) (h2 : v ≤ hi) (el : lo = nI a) (eh : hi = nI b) (hb : b < 100) (ha : a < 100) : ∃ n, a ≤ n ∧ n ≤ b ∧ v = nI n := by
  rw [i_le, el, nI_toInt (by omega)] at h1
  rw [i_le, eh, nI_toInt (by omega)] at h2
  obtain ⟨n, hn, rfl⟩ := i_of (a := v) (n := 100) (by omega) (by omega) (by decide)
  rw [nI_toInt (by omega)] at h1 h2
  exact ⟨n, by omega, by omega, rfl⟩
theorem okB_v {t : Nat → Int32} {L p k : Nat} {lo hi : Int32} {a b : Nat} (h : okB t L p k lo hi = true) (el : lo = nI a) (eh : hi = nI b) (hb : b < 100) (ha : a < 100) : ∃ n, a ≤ n ∧ n ≤ b ∧ (nbF t L p k 0 0).2 = nI n := by
  have := okB_iff.mp h
  exact i_rng this.2.1 this.2.2 el eh hb ha
theorem lr_val {t : Nat → Int32} {L : Nat} (h : (lrF t L 0).1 = true) : (nbF t L (0 + 1) 1 0 0).2 = nI (tL t L) ∧ 1 ≤ tL t L ∧ tL t L ≤ 4 := by
  unfold lrF at h
  by_cases q : cdB t L 0 108 = true
  · rw [if_pos q] at h
    by_cases w : okB t L (0 + 1) 1 1 4 = true
    · obtain ⟨n, n1, n2, n3⟩ := okB_v w (a := 1) (b := 4) rfl rfl (by decide) (by decide)
      unfold tL
      rw [n3, nI_clamp (by omega)]
      exact ⟨rfl, n1, n2⟩
    · rw [if_neg w] at h
      cases h
  · rw [if_neg q] at h
    cases h
theorem srF_all {t : Nat → Int32} {L p0 : Nat} : ∀ m w p, p = plF t L p0 w → (srF t L m w p).1 = true → ∀ v, w ≤ v → v < w + m → nmW t L (plF t L p0 v) v = true := by
  intro m
  induction m with
  | zero => intro w p _ _ v h1 h2; omega
  | succ m ih =>
    intro w p hp h v h1 h2
    unfold srF at h
    by_cases q : cdB t L p (stI 3 w) = true
    · rw [if_pos q] at h
      by_cases z : nmW t L p w = true
      · rw [if_pos z] at h
        by_cases e : v = w
        · rw [e, ← hp]; exact z
        · exact ih (w + 1) _ (by rw [hp]; rfl) h v (by omega) (by omega)
      · rw [if_neg z] at h; cases h
    · rw [if_neg q] at h; cases h
theorem allS_all {t : Nat → Int32} {L p0 : Nat} : ∀ m s p, s + m = 3 → p + 1 = sqF t L p0 s → (allS t L m s p).1 = true → 1 ≤ (allS t L m s p).2.2 ∧ (allS t L m s p).2.2 ≤ 3 ∧ ∀ r, s ≤ r → r < (allS t L m s p).2.2 → (srF t L 4 0 (sqF t L p0 r)).1 = true := by
  intro m
  induction m with
  | zero =>
    intro s p hs hp
    unfold allS
    by_cases q : cdB t L p 59 = true
    · rw [if_pos q]
      obtain rfl : s = 3 := by omega
      refine fun _ => ⟨show 1 ≤ 3 by decide, Nat.le_refl 3, fun r h1 h2 => ?_⟩
      have h2 : r < 3 := h2
      omega
    · rw [if_neg q]
      exact fun z => nomatch z
  | succ m ih =>
    intro s p hs hp
    unfold allS
    by_cases q : cdB t L p 59 = true
    · rw [if_pos q]
      by_cases w : pkT t L (p + 1) = 115
      · rw [if_pos w]
        by_cases z : (srF t L 4 0 (p + 1)).1 = true
        · rw [if_pos z]
          intro h
          obtain ⟨i1, i2, i3⟩ := ih (s + 1) _ (by omega) (by rw [hp]; rfl) h
          refine ⟨i1, i2, fun r h1 h2 => ?_⟩
          by_cases e : r = s
          · rw [e, ← hp]; exact z
          · exact i3 r (by omega) h2
        · rw [if_neg z]
          exact fun z => nomatch z
      · rw [if_neg w]
        intro h
        have := of_decide_eq_true h
        refine ⟨by show 1 ≤ s; omega, by show s ≤ 3; omega, fun r h1 h2 => ?_⟩
        have h2 : r < s := h2
        omega
    · rw [if_neg q]
      exact fun z => nomatch z
theorem ro1_all {t : Nat → Int32} {L p0 : Nat} {lo hi : Int32} : ∀ m i p, p = b1F t L p0 i → (ro1 t L lo hi m p).1 = true → ∀ v, i ≤ v → v < i + m → okB t L (b1F t L p0 v) 1 lo hi = true := by
  intro m
  induction m with
  | zero => intro i p _ _ v h1 h2; omega
  | succ m ih =>
    intro i p hp h v h1 h2
    unfold ro1 at h
    by_cases q : okB t L p 1 lo hi = true
    · rw [if_pos q] at h
      by_cases e : v = i
      · rw [e, ← hp]; exact q
      · exact ih (i + 1) _ (by rw [hp]; rfl) h v (by omega) (by omega)
    · rw [if_neg q] at h; cases h
theorem pl_val {t : Nat → Int32} {L S p : Nat} (h : (plR t L S p).1 = true) : (∃ P, P ≤ 9 ∧ (plR t L S p).2.2 = nI P) ∧ (p ≠ L → ∀ v, v < S → okB t L (b1F t L (nx1 t L (p + 2)) v) 1 0 2 = true) := by
  unfold plR at h ⊢
  by_cases q0 : p = L
  · rw [if_pos q0]
    exact ⟨⟨0, by decide, rfl⟩, fun z => absurd q0 z⟩
  · rw [if_neg q0] at h ⊢
    by_cases q1 : cdB t L p 59 = true
    · rw [if_pos q1] at h ⊢
      by_cases q2 : cdB t L (p + 1) 112 = true
      · rw [if_pos q2] at h ⊢
        by_cases q3 : okB t L (p + 2) 1 1 9 = true
        · rw [if_pos q3] at h ⊢
          obtain ⟨n, n1, n2, n3⟩ := okB_v q3 (a := 1) (b := 9) rfl rfl (by decide) (by decide)
          exact ⟨⟨n, n2, n3⟩, fun _ v hv => ro1_all S 0 _ rfl h v (by omega) (by omega)⟩
        · rw [if_neg q3] at h
          cases h
      · rw [if_neg q2] at h
        cases h
    · rw [if_neg q1] at h
      cases h
theorem tx_facts {t : Nat → Int32} {L : Nat} (h : (txR t L).1 = true) : (lrF t L 0).1 = true ∧ (tAll t L).1 = true ∧ (tBr t L).1 = true ∧ (tPl t L).1 = true ∧ (tPl t L).2.1 = L := by
  unfold txR at h
  by_cases q1 : (lrF t L 0).1 = true
  · rw [if_pos q1] at h
    by_cases q2 : (tAll t L).1 = true
    · rw [if_pos q2] at h
      by_cases q3 : (tBr t L).1 = true
      · rw [if_pos q3] at h
        by_cases q4 : (tPl t L).1 = true
        · rw [if_pos q4] at h
          exact ⟨q1, q2, q3, q4, of_decide_eq_true h⟩
        · rw [if_neg q4] at h
          cases h
      · rw [if_neg q3] at h
        cases h
    · rw [if_neg q2] at h
      cases h
  · rw [if_neg q1] at h
    cases h
theorem stI_mn : ∀ w, w < 4 → stI 0 w = nI (mnW w) ∧ stI 1 w = nI (mxW w) ∧ mxW w < 100 ∧ mnW w < 100 := by
  intro w hw
  obtain rfl | rfl | rfl | rfl : w = 0 ∨ w = 1 ∨ w = 2 ∨ w = 3 := by omega
  all_goals decide
theorem tx_nums {t : Nat → Int32} {L : Nat} (h : (txR t L).1 = true) : 1 ≤ tL t L ∧ tL t L ≤ 4 ∧ 1 ≤ (tAll t L).2.2 ∧ (tAll t L).2.2 ≤ 3 ∧ (∃ P, P ≤ 9 ∧ (tPl t L).2.2 = nI P) ∧ (∀ r w, r < (tAll t L).2.2 → w < 5 → ∃ v, mnW w ≤ v ∧ v ≤ mxW w ∧ tN t L r w = nI v) ∧ ∀ k, k ≤ tL t L → ∃ v, v ≤ 9 ∧ (k = 0 → v = 0) ∧ tB t L k = nI v := by
  obtain ⟨f1, f2, f3, f4, f5⟩ := tx_facts h
  obtain ⟨l1, l2, l3⟩ := lr_val f1
  obtain ⟨s1, s2, s3⟩ := allS_all (p0 := tp1 t L) 3 0 (tp1 t L) rfl rfl f2
  obtain ⟨p1, p2⟩ := pl_val f4
  refine ⟨l2, l3, s1, s2, p1, fun r w hr hw => ?_, fun k hk => ?_⟩
  · unfold tN
    by_cases e : w = 4
    · rw [if_pos e, e]
      by_cases z : (tBr t L).2 = L
      · rw [if_pos z]
        exact ⟨0, by decide, by decide, rfl⟩
      · rw [if_neg z]
        exact okB_v (p2 z r hr) (a := 0) (b := 2) rfl rfl (by decide) (by decide)
    · rw [if_neg e]
      have n := srF_all (p0 := sqF t L (tp1 t L) r) 4 0 _ rfl (s3 r (by omega) hr) w (by omega) (by omega)
      obtain ⟨e0, e1, b0, b1⟩ := stI_mn w (by omega)
      exact okB_v n e0 e1 b0 b1
  · unfold tB
    by_cases e : k = 0
    · rw [if_pos e]
      exact ⟨0, by decide, fun _ => rfl, rfl⟩
    · rw [if_neg e]
      have f3' := f3
      unfold tBr brR at f3'
      by_cases c : cdB t L (tAll t L).2.1 98 = true
      · rw [if_pos c] at f3'
        obtain ⟨n, n1, n2, n3⟩ := okB_v (ro1_all (p0 := (tAll t L).2.1 + 1) (tL t L) 0 _ rfl f3' (k - 1) (by omega) (by omega)) (a := 0) (b := 9) rfl rfl (by decide) (by decide)
        exact ⟨n, n2, fun z => absurd z e, n3⟩
      · rw [if_neg c] at f3'
        cases f3'
/-- what the class's reading of a right text leaves -/
def RdX (t : Nat → Int32) (L : Nat) (F : Nat → Nat → Int32) : Prop := F 3 5 = nI (tL t L) ∧ F 3 6 = nI (tAll t L).2.2 ∧ F 3 7 = (tPl t L).2.2 ∧ (∀ r w, r < (tAll t L).2.2 → w < 5 → F 4 (5 * r + w) = tN t L r w) ∧ ∀ k, k ≤ tL t L → F 5 k = tB t L k
section
variable {sc : Nat × (Nat → Int32)} {h : Hp} {t : Nat → Int32}
theorem shp_3 (hs : Shp h) (v : Nat) : Shp (upA h 3 0 v) := by
  refine ⟨hs.1, fun q hq => ?_⟩
  have : ∀ q ∈ FAs, ¬ (q.1 = 3 ∧ q.2.1 = 0) := by decide
  have n := this q hq
  have := hs.2 q hq
  show va_up (zA h) 3 (va_up (zA h 3) 0 v) q.1 q.2.1 = q.2.2
  by_cases e : q.1 = 3
  · rw [e, va_up_self, va_up_ne _ _ (fun z => n ⟨e, z⟩), ← e]
    exact this
  · rw [va_up_ne _ _ e]
    exact this
theorem c_firstFault {k f L : Nat} (hs : Shp h) (hk : k < 4) (hf : f + L ≤ 60) (ht : ∀ i, i < L → zI h (32 + 2 * k) (f + i) = t i) (z5 : zI h 5 0 = 0) : ∃ F', Cc sc 52 [.ref 3, .ref (31 + 2 * k), .int (nI f), .int (nI L)] h (some (.int (if (txR t L).1 = true then -9 else nI (txR t L).2))) (wIJ (nh (upA h 3 0 (31 + 2 * k))) F' (zJ h)) ∧ (txR t L).2 ≤ L ∧ (∀ a i, a ≠ 3 → a ≠ 4 → ¬ (a = 5 ∧ 1 ≤ i) → F' a i = zI h a i) ∧ ((txR t L).1 = true → RdX t L F') := by
  generalize eh : upA h 3 0 (31 + 2 * k) = h1
  generalize eF : u2 (u2 (u2 (zI h) 3 1 (nI f)) 3 2 (nI L)) 3 3 0 = F0
  have k0 : ∀ a i, a ≠ 3 → F0 a i = zI h a i := fun a i ha => by rw [← eF, u2_eq, if_neg (by omega), u2_eq, if_neg (by omega), u2_eq, if_neg (by omega)]
  have R0 : RS h1 F0 (32 + 2 * k) f L 0 t := by
    refine ⟨⟨?_, ?_, row_CK hk, row_CN hk⟩, by omega, hf, Nat.zero_le _, ?_, ?_, ?_, fun i hi => by rw [k0 _ _ (by omega)]; exact ht i hi⟩
    · rw [show zA h1 3 0 = 31 + 2 * k by rw [← eh]; rfl]
      exact row_K hk
    · rw [show zA h1 3 0 = 31 + 2 * k by rw [← eh]; rfl]
      exact row_C hk
    · rw [← eF, u2_eq, if_neg (by omega), u2_eq, if_neg (by omega), u2_eq, if_pos ⟨rfl, rfl⟩]
    · rw [← eF, u2_eq, if_neg (by omega), u2_eq, if_pos ⟨rfl, rfl⟩]
    · rw [← eF, u2_eq, if_pos ⟨rfl, rfl⟩]
      rfl
  have pre : ∀ rr h', Rn sc (mtk 52) 20 [some (.ref 3), some (.ref (31 + 2 * k)), some (.int (nI f)), some (.int (nI L)), none] [] (wIJ (nh h1) F0 (zJ h)) rr h' → Cc sc 52 [.ref 3, .ref (31 + 2 * k), .int (nI f), .int (nI L)] h rr h' := fun rr h' K => by
    have e : wIJ (nh h1) F0 (zJ h) = upI (upI (upI (upA (nh h) 3 0 (31 + 2 * k)) 3 1 (nI f)) 3 2 (nI L)) 3 3 0 := by
      rw [← eh, ← eF, nh_eq hs, nh_eq (shp_3 hs _)]
      rfl
    rw [e] at K
    refine cc_nh (F := fun _ => h') hs ?_
    refine cc_cut [20] 20 rfl rfl ?_
    refine And.intro rfl ?_
    refine And.intro rfl ?_
    refine And.intro rfl ?_
    refine And.intro rfl ?_
    exact K
  have fin : ∀ (F' : Nat → Nat → Int32) (p : Nat), F' 3 3 = nI p → Rn sc (mtk 52) 63 [some (.ref 3), some (.ref (31 + 2 * k)), some (.int (nI f)), some (.int (nI L)), none] [] (wIJ (nh h1) F' (zJ h)) (some (.int (nI p))) (wIJ (nh h1) F' (zJ h)) := fun F' p e => by
    refine bk_sound (cuts := []) 20 _ _ _ _ ?_
    refine br_t (by rfl) ?_
    refine And.intro rfl ?_
    exact ⟨Or.inl rfl, congrArg (fun v => some (Value.int v)) e, rfl⟩
  obtain ⟨F1, C1, a1, a2, a3, a4⟩ := c_readLorries (sc := sc) (G := zJ h) R0
  have k1 : ∀ a i, a ≠ 3 → F1 a i = zI h a i := fun a i h1 => by rw [a3 a i (by omega), k0 a i h1]
  by_cases q1 : (lrF t L 0).1 = true
  · have R1 : RS h1 F1 (32 + 2 * k) f L (tp1 t L) t := R0.next a2 a1 (fun a i h1 _ _ => a3 a i (by omega))
    rw [q1] at C1
    obtain ⟨l1, l2, l3⟩ := lr_val q1
    have l5 : F1 3 5 = nI (tL t L) := (a4 q1).trans l1
    obtain ⟨F2, C2, b1, b2, b3, b4, b5, b6⟩ := c_readSorts (sc := sc) (G := zJ h) R1
    have k2 : ∀ a i, a ≠ 3 → a ≠ 4 → F2 a i = zI h a i := fun a i h1 h2 => by rw [b5 a i (by omega) h2, k1 a i h1]
    by_cases q2 : (tAll t L).1 = true
    · have R2 : RS h1 F2 (32 + 2 * k) f L (tAll t L).2.1 t := R1.next b2 b1 (fun a i h1 h2 _ => b5 a i (by omega) h2)
      rw [q2] at C2
      obtain ⟨b7, b8⟩ := b6 q2
      obtain ⟨F3, C3, c1, c2, c3, c4⟩ := c_readBrings (sc := sc) (G := zJ h) l3 R2 (by rw [b5 3 5 (by omega) (by omega)]; exact l5)
      have k3 : ∀ a i, a ≠ 3 → a ≠ 4 → ¬ (a = 5 ∧ 1 ≤ i) → F3 a i = zI h a i := fun a i h1 h2 h3 => by rw [c3 a i (by omega) h3, k2 a i h1 h2]
      by_cases q3 : (tBr t L).1 = true
      · have R3 : RS h1 F3 (32 + 2 * k) f L (tBr t L).2 t := R2.next c2 c1 (fun a i h1 h2 h3 => c3 a i (by omega) (fun z => h3 z.1))
        rw [q3] at C3
        obtain ⟨F4, C4, d1, d2, d3, d4⟩ := c_readPlane (sc := sc) (G := zJ h) b4 R3 (by rw [c3 3 6 (by omega) (by omega)]; exact b3)
        have k4 : ∀ a i, a ≠ 3 → a ≠ 4 → ¬ (a = 5 ∧ 1 ≤ i) → F4 a i = zI h a i := fun a i h1 h2 h3 => by rw [d3 a i (by omega) (by omega), k3 a i h1 h2 h3]
        by_cases q4 : (tPl t L).1 = true
        · rw [q4] at C4
          have f2 : F4 3 2 = nI L := by
            rw [d3 3 2 (by omega) (by omega), c3 3 2 (by omega) (by omega), b5 3 2 (by omega) (by omega), a3 3 2 (by omega)]
            exact R0.2.2.2.2.2.1
          have L60 : L ≤ 60 := by omega
          by_cases q5 : (tPl t L).2.1 = L
          · have e : txR t L = (true, (tPl t L).2.1) := by
              unfold txR
              rw [if_pos q1, if_pos q2, if_pos q3, if_pos q4, decide_eq_true q5]
            rw [e]
            refine ⟨F4, ?_, d2, k4, fun _ => ?_⟩
            · show Cc sc _ _ _ (some (.int (-9))) _
              refine pre _ _ ?_
              refine bk_sound (cuts := [63]) 60 _ _ _ _ ?_
              refine And.intro ⟨rfl, rfl⟩ (And.intro rfl (Exists.intro _ (Exists.intro _ (And.intro (C1) ?_))))
              refine br_f (by decide) ?_
              refine And.intro ⟨rfl, rfl⟩ (And.intro rfl (Exists.intro _ (Exists.intro _ (And.intro (C2) ?_))))
              refine br_f (by decide) ?_
              refine And.intro ⟨rfl, rfl⟩ (And.intro rfl (Exists.intro _ (Exists.intro _ (And.intro (C3) ?_))))
              refine br_f (by decide) ?_
              refine And.intro ⟨rfl, rfl⟩ (And.intro rfl (Exists.intro _ (Exists.intro _ (And.intro (C4) ?_))))
              refine br_f (by decide) ?_
              refine And.intro rfl ?_
              refine And.intro rfl ?_
              refine br_f (show ¬ ¬ F4 3 3 = F4 3 2 from fun z => z (by rw [d1, f2]; exact congrArg nI q5)) ?_
              refine br_f (by decide) ?_
              exact ⟨Or.inl rfl, rfl, rfl⟩
            · obtain ⟨g1, g2, g3⟩ := d4 q4
              refine ⟨?_, ?_, g1, fun r w hr hw => ?_, fun j hj => ?_⟩
              · rw [d3 3 5 (by omega) (by omega), c3 3 5 (by omega) (by omega), b5 3 5 (by omega) (by omega)]
                exact l5
              · rw [d3 3 6 (by omega) (by omega), c3 3 6 (by omega) (by omega)]
                exact b3
              · have m := b8 r w hr hw
                rw [← c3 4 (5 * r + w) (by omega) (by omega)] at m
                unfold nvS at m
                unfold tN
                by_cases z : (tBr t L).2 = L
                · rw [g3 z, m]
                  by_cases e4 : w = 4
                  · rw [if_pos e4, if_pos e4, if_pos z]
                  · rw [if_neg e4, if_neg e4]
                · by_cases e4 : w = 4
                  · rw [if_pos e4, if_neg z, e4]
                    exact g2 z r hr
                  · rw [if_neg e4, d3 4 (5 * r + w) (by omega) (fun y => by obtain ⟨v, y1, y2⟩ := y.2; omega), m, if_neg e4]
              · unfold tB
                by_cases e0 : j = 0
                · rw [if_pos e0, e0, k4 5 0 (by omega) (by omega) (by omega)]
                  exact z5
                · rw [if_neg e0, d3 5 j (by omega) (by omega)]
                  have := c4 q3 (j - 1) (by omega)
                  rw [show j - 1 + 1 = j by omega] at this
                  exact this
          · have e : txR t L = (false, (tPl t L).2.1) := by
              unfold txR
              rw [if_pos q1, if_pos q2, if_pos q3, if_pos q4, decide_eq_false q5]
            rw [e]
            refine ⟨F4, ?_, d2, k4, fun z => nomatch z⟩
            show Cc sc _ _ _ (some (.int (nI (tPl t L).2.1))) _
            refine pre _ _ ?_
            refine bk_sound (cuts := [63]) 60 _ _ _ _ ?_
            refine And.intro ⟨rfl, rfl⟩ (And.intro rfl (Exists.intro _ (Exists.intro _ (And.intro (C1) ?_))))
            refine br_f (by decide) ?_
            refine And.intro ⟨rfl, rfl⟩ (And.intro rfl (Exists.intro _ (Exists.intro _ (And.intro (C2) ?_))))
            refine br_f (by decide) ?_
            refine And.intro ⟨rfl, rfl⟩ (And.intro rfl (Exists.intro _ (Exists.intro _ (And.intro (C3) ?_))))
            refine br_f (by decide) ?_
            refine And.intro ⟨rfl, rfl⟩ (And.intro rfl (Exists.intro _ (Exists.intro _ (And.intro (C4) ?_))))
            refine br_f (by decide) ?_
            refine And.intro rfl ?_
            refine And.intro rfl ?_
            refine br_t (show ¬ F4 3 3 = F4 3 2 by rw [d1, f2]; exact fun z => q5 ((nI_eq (by have : (tPl t L).2.1 ≤ L := d2; omega) (by omega)).mp z)) ?_
            exact fin F4 _ d1
        · have e : txR t L = (false, (tPl t L).2.1) := by
            unfold txR
            rw [if_pos q1, if_pos q2, if_pos q3, if_neg q4]
          rw [e]
          rw [Bool.eq_false_iff.mpr q4] at C4
          refine ⟨F4, ?_, d2, k4, fun z => nomatch z⟩
          show Cc sc _ _ _ (some (.int (nI (tPl t L).2.1))) _
          refine pre _ _ ?_
          refine bk_sound (cuts := [63]) 60 _ _ _ _ ?_
          refine And.intro ⟨rfl, rfl⟩ (And.intro rfl (Exists.intro _ (Exists.intro _ (And.intro (C1) ?_))))
          refine br_f (by decide) ?_
          refine And.intro ⟨rfl, rfl⟩ (And.intro rfl (Exists.intro _ (Exists.intro _ (And.intro (C2) ?_))))
          refine br_f (by decide) ?_
          refine And.intro ⟨rfl, rfl⟩ (And.intro rfl (Exists.intro _ (Exists.intro _ (And.intro (C3) ?_))))
          refine br_f (by decide) ?_
          refine And.intro ⟨rfl, rfl⟩ (And.intro rfl (Exists.intro _ (Exists.intro _ (And.intro (C4) ?_))))
          refine br_t (by rfl) ?_
          exact fin F4 _ d1
      · have e : txR t L = (false, (tBr t L).2) := by
          unfold txR
          rw [if_pos q1, if_pos q2, if_neg q3]
        rw [e]
        rw [Bool.eq_false_iff.mpr q3] at C3
        refine ⟨F3, ?_, c2, k3, fun z => nomatch z⟩
        show Cc sc _ _ _ (some (.int (nI (tBr t L).2))) _
        refine pre _ _ ?_
        refine bk_sound (cuts := [63]) 60 _ _ _ _ ?_
        refine And.intro ⟨rfl, rfl⟩ (And.intro rfl (Exists.intro _ (Exists.intro _ (And.intro (C1) ?_))))
        refine br_f (by decide) ?_
        refine And.intro ⟨rfl, rfl⟩ (And.intro rfl (Exists.intro _ (Exists.intro _ (And.intro (C2) ?_))))
        refine br_f (by decide) ?_
        refine And.intro ⟨rfl, rfl⟩ (And.intro rfl (Exists.intro _ (Exists.intro _ (And.intro (C3) ?_))))
        refine br_t (by rfl) ?_
        exact fin F3 _ c1
    · have e : txR t L = (false, (tAll t L).2.1) := by
        unfold txR
        rw [if_pos q1, if_neg q2]
      rw [e]
      rw [Bool.eq_false_iff.mpr q2] at C2
      refine ⟨F2, ?_, b2, fun a i h1 h2 _ => k2 a i h1 h2, fun z => nomatch z⟩
      show Cc sc _ _ _ (some (.int (nI (tAll t L).2.1))) _
      refine pre _ _ ?_
      refine bk_sound (cuts := [63]) 60 _ _ _ _ ?_
      refine And.intro ⟨rfl, rfl⟩ (And.intro rfl (Exists.intro _ (Exists.intro _ (And.intro (C1) ?_))))
      refine br_f (by decide) ?_
      refine And.intro ⟨rfl, rfl⟩ (And.intro rfl (Exists.intro _ (Exists.intro _ (And.intro (C2) ?_))))
      refine br_t (by rfl) ?_
      exact fin F2 _ b1
  · have e : txR t L = (false, tp1 t L) := by
      unfold txR
      rw [if_neg q1]
    rw [e]
    rw [Bool.eq_false_iff.mpr q1] at C1
    refine ⟨F1, ?_, a2, fun a i h1 _ _ => k1 a i h1, fun z => nomatch z⟩
    show Cc sc _ _ _ (some (.int (nI (tp1 t L)))) _
    refine pre _ _ ?_
    refine bk_sound (cuts := [63]) 60 _ _ _ _ ?_
    refine And.intro ⟨rfl, rfl⟩ (And.intro rfl (Exists.intro _ (Exists.intro _ (And.intro (C1) ?_))))
    refine br_t (by rfl) ?_
    exact fin F1 _ a1
end
