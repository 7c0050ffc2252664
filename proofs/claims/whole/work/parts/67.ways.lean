/-! The class's least price and the model's first row are one way (pure). -/
def cM (h : Hp) (s x p : Nat) : Option Nat := csH 1000 h (wP s x) p
def Dw (h : Hp) (M s : Nat) : Nat := dpc M (cM h s) (wW s) 0 0
def gW (h : Hp) (M s : Nat) : Nat → Nat := gr M (cM h s) (wW s)
theorem cs_mh {h : Hp} {x p c : Nat} (hr : pHr h p ≤ 9) (e : csH 1000 h x p = some c) : ∃ m t, m ≤ 1 ∧ t ≤ 11 ∧ c = 1000 * m + t ∧ csH 256 h x p = some (256 * m + t) := by
  unfold csH cs1 at e ⊢
  cases hu : pUs h p with
  | false =>
    rw [hu] at e
    cases e
  | true =>
    rw [hu] at e
    cases hh : hN (pKd h p) (pSt h p) (pHr h p) (x % 3) with
    | none =>
      rw [hh] at e
      cases e
    | some n =>
      rw [hh] at e
      have hn := hN_le hh
      by_cases q : zI h 56 p = nI x
      · refine ⟨0, 0, by omega, by omega, ?_, ?_⟩
        · have e : some (if zI h 56 p = nI x then 0 else 1000 + n) = some c := e
          rw [if_pos q] at e
          cases e
          rfl
        · show some (if zI h 56 p = nI x then 0 else 256 + n) = _
          rw [if_pos q]
      · refine ⟨1, n, by omega, by omega, ?_, ?_⟩
        · have e : some (if zI h 56 p = nI x then 0 else 1000 + n) = some c := e
          rw [if_neg q] at e
          cases e
          rfl
        · show some (if zI h 56 p = nI x then 0 else 256 + n) = _
          rw [if_neg q]
theorem cs_none {h : Hp} {x p K : Nat} (e : csH 1000 h x p = none) : csH K h x p = none := by
  unfold csH cs1 at e ⊢
  cases hu : pUs h p with
  | false => rfl
  | true =>
    rw [hu] at e
    cases hh : hN (pKd h p) (pSt h p) (pHr h p) (x % 3) with
    | none => rfl
    | some n =>
      rw [hh] at e
      cases e
theorem sum_mh {h : Hp} {s : Nat} {a : Nat → Nat} : ∀ n, (∀ i, i < n → pHr h (a i) ≤ 9 ∧ ∃ c, cM h s i (a i) = some c) → ∃ mv hs, hs ≤ 11 * n ∧ mv ≤ n ∧ sN (fun i => (csH 256 h (wP s i) (a i)).getD 0) n = 256 * mv + hs ∧ sN (fun i => (cM h s i (a i)).getD 0) n = 1000 * mv + hs := by
  intro n
  induction n with
  | zero => exact fun _ => ⟨0, 0, Nat.le_refl _, Nat.le_refl _, rfl, rfl⟩
  | succ n ih =>
    intro H
    obtain ⟨mv, hs, h1, h2, h3, h4⟩ := ih (fun i hi => H i (by omega))
    obtain ⟨k1, c, k2⟩ := H n (by omega)
    obtain ⟨m, t, t1, t2, t3, t4⟩ := cs_mh k1 k2
    refine ⟨mv + m, hs + t, by omega, by omega, ?_, ?_⟩
    · show sN (fun i => (csH 256 h (wP s i) (a i)).getD 0) n + (csH 256 h (wP s n) (a n)).getD 0 = _
      rw [h3, t4]
      show 256 * mv + hs + (256 * m + t) = _
      omega
    · show sN (fun i => (cM h s i (a i)).getD 0) n + (cM h s n (a n)).getD 0 = _
      rw [h4, k2]
      show 1000 * mv + hs + c = _
      omega
theorem cst_sN {cs : Nat → Nat → Option Nat} {a : Nat → Nat} {W : Nat} : ∀ d x, x + d = W → sN (fun i => (cs i (a i)).getD 0) W = sN (fun i => (cs i (a i)).getD 0) x + cst cs a d x := by
  intro d
  induction d with
  | zero =>
    intro x hx
    rw [show x = W by omega]
    rfl
  | succ d ih =>
    intro x hx
    rw [ih (x + 1) (by omega)]
    show sN (fun i => (cs i (a i)).getD 0) x + (cs x (a x)).getD 0 + cst cs a d (x + 1) = sN (fun i => (cs i (a i)).getD 0) x + ((cs x (a x)).getD 0 + cst cs a d (x + 1))
    omega
theorem row_sN {a : Nat → Nat} {W : Nat} : ∀ d x, x + d = W → sN (fun i => a i * 12 ^ (W - 1 - i)) W = sN (fun i => a i * 12 ^ (W - 1 - i)) x + row a d x := by
  intro d
  induction d with
  | zero =>
    intro x hx
    rw [show x = W by omega]
    rfl
  | succ d ih =>
    intro x hx
    rw [ih (x + 1) (by omega)]
    show sN (fun i => a i * 12 ^ (W - 1 - i)) x + a x * 12 ^ (W - 1 - x) + row a d (x + 1) = sN (fun i => a i * 12 ^ (W - 1 - i)) x + (a x * 12 ^ d + row a d (x + 1))
    rw [show W - 1 - x = d by omega]
    omega
theorem qn_sum {h : Hp} {s : Nat} {a : Nat → Nat} : ∀ n, (∀ i, i < n → ∃ c, csH 256 h (wP s i) (a i) = some c) → sN (fun i => qn h s i (a i)) n = 8916100448256 * sN (fun i => (csH 256 h (wP s i) (a i)).getD 0) n + sN (fun i => a i * 12 ^ (wW s - 1 - i)) n := by
  intro n
  induction n with
  | zero => exact fun _ => rfl
  | succ n ih =>
    intro H
    obtain ⟨c, hc⟩ := H n (by omega)
    show sN (fun i => qn h s i (a i)) n + qn h s n (a n) = 8916100448256 * (sN (fun i => (csH 256 h (wP s i) (a i)).getD 0) n + (csH 256 h (wP s n) (a n)).getD 0) + (sN (fun i => a i * 12 ^ (wW s - 1 - i)) n + a n * 12 ^ (wW s - 1 - n))
    rw [ih (fun i hi => H i (by omega))]
    unfold qn
    rw [hc]
    show _ + (c * 8916100448256 + a n * 12 ^ (wW s - 1 - n)) = 8916100448256 * (_ + c) + _
    omega
theorem sN_ge {f : Nat → Nat} : ∀ n i, i < n → f i ≤ sN f n := by
  intro n
  induction n with
  | zero => intro i hi; omega
  | succ n ih =>
    intro i hi
    show f i ≤ sN f n + f n
    by_cases e : i = n
    · rw [e]; omega
    · have := ih i (by omega)
      omega
theorem way_eq {h : Hp} {M s : Nat} (hM : M ≤ 12) (hP : ∀ p, p < M → pHr h p ≤ 9) (hs : s < 16) (fe : Dw h M s < 1000000) {m : Nat → Nat} (m1 : ∀ i, i < wW s → m i < M) (m2 : ∀ i j, i < wW s → j < wW s → m i = m j → i = j) (best : ∀ a : Nat → Nat, (∀ i, i < wW s → a i < M) → (∀ i j, i < wW s → j < wW s → a i = a j → i = j) → sN (fun i => qn h s i (m i)) (wW s) ≤ sN (fun i => qn h s i (a i)) (wW s)) : (∀ i, i < wW s → m i = gW h M s i) ∧ sN (fun i => qn h s i (m i)) (wW s) / 8916100448256 = 256 * (Dw h M s / 1000) + Dw h M s % 1000 ∧ Dw h M s % 1000 ≤ 132 := by
  have w12 := (wW_eq hs).2
  obtain ⟨gV, gC⟩ := gr_Vl (M := M) (cs := cM h s) (W := wW s) fe (wW s) 0 (by omega)
  have gI := Vl_inj (wW s) 0 _ gV
  have gM : ∀ i, i < wW s → gW h M s i < M := fun i hi => (gI i (by omega) (by omega)).1
  have gS : ∀ i, i < wW s → pHr h (gW h M s i) ≤ 9 ∧ ∃ c, cM h s i (gW h M s i) = some c := fun i hi => ⟨hP _ (gM i hi), (gI i (by omega) (by omega)).2.2.1⟩
  have s256 : ∀ (a : Nat → Nat), (∀ i, i < wW s → pHr h (a i) ≤ 9 ∧ ∃ c, cM h s i (a i) = some c) → ∀ i, i < wW s → ∃ c, csH 256 h (wP s i) (a i) = some c := fun a H i hi => by
    obtain ⟨k1, c, k2⟩ := H i hi
    obtain ⟨m, t, -, -, -, t4⟩ := cs_mh k1 k2
    exact ⟨_, t4⟩
  obtain ⟨mv, hs', g1, g2, g3, g4⟩ := sum_mh (wW s) gS
  have gq := qn_sum (wW s) (s256 _ gS)
  have rl : ∀ a : Nat → Nat, (∀ i, i < wW s → a i < M) → sN (fun i => a i * 12 ^ (wW s - 1 - i)) (wW s) = row a (wW s) 0 ∧ row a (wW s) 0 < 8916100448256 := fun a ha => by
    have e := row_sN (a := a) (wW s) 0 (Nat.zero_add _)
    refine ⟨by rw [e]; show 0 + _ = _; omega, ?_⟩
    have l := row_lt (a := a) (wW s) 0 (fun y _ hy => by have := ha y (by omega); omega)
    have : 12 ^ wW s ≤ 12 ^ 12 := Nat.pow_le_pow_right (by decide) w12
    rw [show (12 : Nat) ^ 12 = 8916100448256 from rfl] at this
    omega
  have gr2 := rl _ gM
  have cD : sN (fun i => (cM h s i (gW h M s i)).getD 0) (wW s) = Dw h M s := by
    have := cst_sN (cs := cM h s) (a := gW h M s) (wW s) 0 (Nat.zero_add _)
    rw [this, show sN (fun i => (cM h s i (gW h M s i)).getD 0) 0 = 0 from rfl, Nat.zero_add]
    exact gC
  have bq := best (gW h M s) gM (fun i j hi hj e => (gI i (by omega) (by omega)).2.2.2 j (by omega) (by omega) e)
  rw [gq, g3, gr2.1] at bq
  have mS : ∀ i, i < wW s → pHr h (m i) ≤ 9 ∧ ∃ c, cM h s i (m i) = some c := fun i hi => by
    refine ⟨hP _ (m1 i hi), ?_⟩
    cases hc : cM h s i (m i) with
    | some c => exact ⟨c, rfl⟩
    | none =>
      exfalso
      have k := sN_ge (f := fun i => qn h s i (m i)) (wW s) i hi
      have k2 : 144115188075855872 ≤ qn h s i (m i) := by
        unfold qn
        rw [cs_none (K := 256) hc]
        exact Nat.le_add_right _ _
      have k : qn h s i (m i) ≤ sN (fun i => qn h s i (m i)) (wW s) := k
      have := gr2.2
      omega
  obtain ⟨mv2, hs2, f1, f2, f3, f4⟩ := sum_mh (wW s) mS
  have mq := qn_sum (wW s) (s256 _ mS)
  have mr := rl _ m1
  have mV : Vl M (cM h s) m (wW s) 0 0 := Vl_of (wW s) 0 0 (fun y _ hy => ⟨m1 y (by omega), Nat.zero_testBit _, (mS y (by omega)).2, fun z _ hz e => m2 y z (by omega) (by omega) e⟩)
  have mC : cst (cM h s) m (wW s) 0 = 1000 * mv2 + hs2 := by
    have := cst_sN (cs := cM h s) (a := m) (wW s) 0 (Nat.zero_add _)
    rw [f4, show sN (fun i => (cM h s i (m i)).getD 0) 0 = 0 from rfl] at this
    omega
  have dl : Dw h M s ≤ cst (cM h s) m (wW s) 0 := dp_le (wW s) 0 0 mV
  rw [mC, ← cD, g4] at dl
  have g4' := g4
  rw [cD] at g4'
  rw [mq, f3, mr.1] at bq
  have e1 := mr.2
  have e2 := gr2.2
  have eq : mv2 = mv ∧ hs2 = hs' := by omega
  obtain ⟨rfl, rfl⟩ := eq
  have le1 : row m (wW s) 0 ≤ row (gW h M s) (wW s) 0 := by omega
  have le2 : row (gW h M s) (wW s) 0 ≤ row m (wW s) 0 := gr_first hM fe (wW s) 0 (Nat.zero_add _) mV (by rw [mC]; exact g4'.symm)
  refine ⟨fun i hi => ?_, ?_, ?_⟩
  · exact row_inj (wW s) 0 (fun y _ hy => by have := m1 y (by omega); omega) (fun y _ hy => by have := gM y (by omega); omega) (by omega) i (by omega) (by omega)
  · rw [mq, f3, mr.1, g4']
    omega
  · omega
theorem cst_lt {h : Hp} {M s : Nat} (hP : ∀ p, p < M → pHr h p ≤ 9) {a : Nat → Nat} (hs : s < 16) (V : Vl M (cM h s) a (wW s) 0 0) : Dw h M s < 1000000 := by
  have w12 := (wW_eq hs).2
  have I := Vl_inj (wW s) 0 _ V
  obtain ⟨mv, hs', g1, g2, g3, g4⟩ := sum_mh (h := h) (s := s) (a := a) (wW s) (fun i hi => ⟨hP _ (I i (by omega) (by omega)).1, (I i (by omega) (by omega)).2.2.1⟩)
  have := cst_sN (cs := cM h s) (a := a) (wW s) 0 (Nat.zero_add _)
  have dl : Dw h M s ≤ cst (cM h s) a (wW s) 0 := dp_le (wW s) 0 0 V
  have e : sN (fun i => (cM h s i (a i)).getD 0) 0 = 0 := rfl
  omega
theorem bc_4 : ∀ s : Fin 16, bc s.val ≤ 4 := by decide
/-- so many lorries can run just as Hall says -/
theorem fe_iff {h : Hp} {M s : Nat} (hP : ∀ p, p < M → pHr h p ≤ 9) (hs : s < 16) : Dw h M s < 1000000 ↔ bc s ≤ mlF (Fm h) M 7 := by
  have w := (wW_eq hs).1
  constructor
  · intro fe
    obtain ⟨gV, -⟩ := gr_Vl (M := M) (cs := cM h s) (W := wW s) fe (wW s) 0 (by omega)
    have gI := Vl_inj (wW s) 0 _ gV
    refine (le_mlF 7 (by decide)).mpr ⟨bc_4 ⟨s, hs⟩, fun t t1 t2 => ?_⟩
    refine uC_of t1 (by omega) (a := gW h M s) (fun i hi => ⟨(gI i (by omega) (by omega)).1, ?_⟩) (fun i j hi hj e => (gI i (by omega) (by omega)).2.2.2 j (by omega) (by omega) e)
    have k := (gI i (by omega) (by omega)).2.2.1
    have := (Fm_bit (h := h) (p := gW h M s i) (x := wP s i) (K := 1000)).mpr k
    rw [(wP_eq hs (by omega)).1] at this
    exact this
  · intro le
    have k := (le_mlF 7 (by decide)).mp le
    obtain ⟨a, a1, a2⟩ := hall (Fm_lt h) M (fun _ => bc s) (HC_of (Fm_lt h) (fun t t1 t2 => k.2 t t1 (by omega)))
    refine cst_lt (a := fun n => a (n / 3) (n % 3)) hP hs (Vl_of (wW s) 0 0 (fun y _ hy => ?_))
    have k1 := a1 (y % 3) (y / 3) (by omega) (by show y / 3 < bc s; omega)
    refine ⟨k1.1, Nat.zero_testBit _, ?_, fun z _ hz e => ?_⟩
    · have k2 := k1.2
      rw [← (wP_eq hs (by omega : y < wW s)).1] at k2
      exact Fm_bit.mp (by rw [(wP_eq hs (by omega : y < wW s)).1] at k2 ⊢; exact k2)
    · have := a2 (y % 3) (y / 3) (z % 3) (z / 3) (by omega) (by omega) (by show y / 3 < bc s; omega) (by show z / 3 < bc s; omega) e
      omega
theorem fe_W {h : Hp} {M s : Nat} (fe : Dw h M s < 1000000) : wW s ≤ M := by
  obtain ⟨gV, -⟩ := gr_Vl (M := M) (cs := cM h s) (W := wW s) fe (wW s) 0 (by omega)
  have gI := Vl_inj (wW s) 0 _ gV
  exact pigeon (a := gW h M s) (fun i hi => (gI i (by omega) (by omega)).1) (fun i j hi hj e => (gI i (by omega) (by omega)).2.2.2 j (by omega) (by omega) e)
/-- the least set of the least cost, of so many lorries -/
def Sel (h : Hp) (M ws : Nat) : Prop := ws < 16 ∧ bc ws = mlF (Fm h) M 7 ∧ ∀ s, s < 16 → bc s = mlF (Fm h) M 7 → Dw h M ws ≤ Dw h M s ∧ (s < ws → Dw h M ws < Dw h M s)
theorem Sel_uniq {h : Hp} {M a b : Nat} (A : Sel h M a) (B : Sel h M b) : a = b := by
  have x := A.2.2 b B.1 B.2.1
  have y := B.2.2 a A.1 A.2.1
  rcases Nat.lt_trichotomy a b with q | q | q
  · have := y.2 q
    omega
  · exact q
  · have := x.2 q
    omega
def goR (h : Hp) (M s p : Nat) : Option Nat := ff (fun x => decide (gW h M s x = p)) 0 (wW s)
def goI (h : Hp) (M s p : Nat) : Int32 := match goR h M s p with
  | none => -9
  | some x => nI (wP s x)
