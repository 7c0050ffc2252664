/-! Outlook: tryDriving. -/
def mtV (C : Cp) (T Z : Nat → Nat) (e k w : Nat) (fol : Nat → Nat) : Nat → Nat → Nat
  | 0 => fol
  | d + 1 => tmV (qS C) T Z e k (qV C (qS C - 1 - d) w) (qS C - 1 - d) (mtV C T Z e k w fol d)
/-- for states that have k of each sort the tables are the pure means -/
theorem mt_mz {C : Cp} {N : Nat} {T Z : Nat → Nat} (H : NS (qS C) N T Z) {e k w : Nat} {fol : Nat → Nat} {fo : (Nat → Nat) → Nat} (hf : ∀ i, i < N → fol i = fo (dgN (qS C) T Z i)) : ∀ d, d ≤ qS C → ∀ i, i < N → (∀ t, qS C - d ≤ t → t < qS C → k ≤ dgN (qS C) T Z i t) → mtV C T Z e k w fol d i = mz C e k w fo d (dgN (qS C) T Z i) := by
  intro d
  induction d with
  | zero => exact fun _ i hi _ => hf i hi
  | succ d ih =>
    intro hd i hi hc
    have hs : qS C - 1 - d < qS C := by omega
    have ks := hc (qS C - 1 - d) (by omega) hs
    show tmV (qS C) T Z e k (qV C (qS C - 1 - d) w) (qS C - 1 - d) (mtV C T Z e k w fol d) i = stepM e k (qV C (qS C - 1 - d) w) (qS C - 1 - d) (mz C e k w fo d) (dgN (qS C) T Z i)
    unfold tmV stepM
    rw [if_pos ks]
    congr 1
    refine sumC_congr _ (fun j hj => ?_)
    obtain ⟨s1, s2⟩ := H.sub hi hs (by omega : j ≤ dgN (qS C) T Z i (qS C - 1 - d))
    have := ih (by omega) (i - j * T (qS C - 1 - d)) (by omega) (fun t t1 t2 => by
      rw [s2]
      unfold up1
      rw [if_neg (by omega)]
      exact hc t (by omega) t2)
    rw [this, s2]
def oA (a : Ac) : Int64 := match a with
  | none => -1
  | some x => lN x.1
def okA (a : Ac) (c : Int32) : Prop := ∀ x, a = some x → x.1 < 1000000000000 ∧ c = nI (2 * x.2.1 + x.2.2)
def upA' (rule k : Nat) (can v : Nat → Nat) (acc : Nat → Ac) (j : Nat) : Bool := mayK rule k (can j) && ltA (acc j) (v j)
def dF (rule k z : Nat) (can v : Nat → Nat) (acc : Nat → Ac) (F : Nat → Nat → Int32) (i : Nat) : Nat → Nat → Int32 := fun a j => if a = 11 ∧ j < i ∧ upA' rule k can v acc j = true then nI (2 * k + z) else F a j
def dG (rule k : Nat) (can v : Nat → Nat) (acc : Nat → Ac) (G : Nat → Nat → Int64) (i : Nat) : Nat → Nat → Int64 := fun a j => if a = 10 ∧ j < i ∧ upA' rule k can v acc j = true then lN (v j) else G a j
section
variable {sc : Nat × (Nat → Int32)} {h : Hp} {F : Nat → Nat → Int32} {G : Nat → Nat → Int64} {C : Cp} {c nb br N rule e k z B : Nat} {T Z : Nat → Nat} {can v fol : Nat → Nat} {acc : Nat → Ac}
theorem dF_o {i a j : Nat} (ha : a ≠ 11) : dF rule k z can v acc F i a j = F a j := if_neg (fun y => ha y.1)
theorem dG_o {i a j : Nat} (ha : a ≠ 10) : dG rule k can v acc G i a j = G a j := if_neg (fun y => ha y.1)
theorem d_skip {i : Nat} (hu : upA' rule k can v acc i = false) : dF rule k z can v acc F i = dF rule k z can v acc F (i + 1) ∧ dG rule k can v acc G i = dG rule k can v acc G (i + 1) := by
  constructor
  · funext a j
    unfold dF
    by_cases q : a = 11 ∧ j < i ∧ upA' rule k can v acc j = true
    · rw [if_pos q, if_pos ⟨q.1, by omega, q.2.2⟩]
    · rw [if_neg q, if_neg (fun y => q ⟨y.1, by
        have : j ≠ i := fun w => by rw [w, hu] at y; exact absurd y.2.2 (by decide)
        omega, y.2.2⟩)]
  · funext a j
    unfold dG
    by_cases q : a = 10 ∧ j < i ∧ upA' rule k can v acc j = true
    · rw [if_pos q, if_pos ⟨q.1, by omega, q.2.2⟩]
    · rw [if_neg q, if_neg (fun y => q ⟨y.1, by
        have : j ≠ i := fun w => by rw [w, hu] at y; exact absurd y.2.2 (by decide)
        omega, y.2.2⟩)]
theorem d_take {i : Nat} (hu : upA' rule k can v acc i = true) : u2 (dF rule k z can v acc F i) 11 i (nI (2 * k + z)) = dF rule k z can v acc F (i + 1) ∧ u2L (dG rule k can v acc G i) 10 i (lN (v i)) = dG rule k can v acc G (i + 1) := by
  constructor
  · funext a j
    rw [u2_eq]
    unfold dF
    by_cases w : a = 11 ∧ j = i
    · rw [if_pos w, if_pos ⟨w.1, by omega, by rw [w.2]; exact hu⟩]
    · rw [if_neg w]
      by_cases q : a = 11 ∧ j < i ∧ upA' rule k can v acc j = true
      · rw [if_pos q, if_pos ⟨q.1, by omega, q.2.2⟩]
      · rw [if_neg q, if_neg (fun y => q ⟨y.1, by have : j ≠ i := fun x => w ⟨y.1, x⟩; omega, y.2.2⟩)]
  · funext a j
    rw [u2L_eq]
    unfold dG
    by_cases w : a = 10 ∧ j = i
    · rw [if_pos w, if_pos ⟨w.1, by omega, by rw [w.2]; exact hu⟩, w.2]
    · rw [if_neg w]
      by_cases q : a = 10 ∧ j < i ∧ upA' rule k can v acc j = true
      · rw [if_pos q, if_pos ⟨q.1, by omega, q.2.2⟩]
      · rw [if_neg q, if_neg (fun y => q ⟨y.1, by have : j ≠ i := fun x => w ⟨y.1, x⟩; omega, y.2.2⟩)]
theorem td2_loop {b : Nat} {mv : Nat → Nat} (hN : N ≤ 216) (e5 : F 6 5 = nI N) (hk : k ≤ 4) (hz : z ≤ 1) (hr : rule ≤ 4) (e1 : F 6 1 = nI rule) (hc : ∀ i, i < N → can i ≤ 5 ∧ F 9 i = nI (can i)) (h13 : ∀ i, i < N → G 13 i = lN (mv i)) (hv : ∀ i, i < N → v i = b + mv i ∧ v i < 1000000000000) (h10 : ∀ i, i < N → G 10 i = oA (acc i)) (hA : ∀ i, i < N → ∀ x, acc i = some x → x.1 < 1000000000000) : ∀ (d i : Nat) (o : Option Value), i + d = N → Rn sc (mtk 30) 84 [some (.ref 6), some (.int (nI k)), some (.int (nI z)), some (.long (lN b)), none, some (.int (nI i)), o] [] (wIJ (nh h) (dF rule k z can v acc F i) (dG rule k can v acc G i)) none (wIJ (nh h) (dF rule k z can v acc F N) (dG rule k can v acc G N)) := by
  intro d
  induction d with
  | zero =>
    intro i o hi
    obtain rfl : i = N := by omega
    refine bk_sound (cuts := []) 20 _ _ _ _ ?_
    refine And.intro rfl ?_
    refine br_t (show dF rule k z can v acc F i 6 5 ≤ nI i by rw [dF_o (by decide), e5]; exact nI_le (Nat.le_refl _) (by omega)) ?_
    exact ⟨trivial, rfl, rfl⟩
  | succ d ih =>
    intro i o hi
    have R := fun o => ih (i + 1) o (by omega)
    rw [← nI_1 i] at R
    have ii : inB (nI i) 216 = true := inB_nI (by omega) (by decide)
    have ei : (nI i).toNatClampNeg = i := nI_clamp (by omega)
    obtain ⟨c5, c9⟩ := hc i (by omega)
    obtain ⟨v1, v2⟩ := hv i (by omega)
    have g13 : dG rule k can v acc G i 13 i = lN (mv i) := by rw [dG_o (by decide)]; exact h13 i (by omega)
    have g10 : dG rule k can v acc G i 10 i = oA (acc i) := by
      unfold dG
      rw [if_neg (by omega)]
      exact h10 i (by omega)
    have f9 : dF rule k z can v acc F i 9 i = nI (can i) := by rw [dF_o (by decide)]; exact c9
    have f1 : dF rule k z can v acc F i 6 1 = nI rule := by rw [dF_o (by decide)]; exact e1
    -- behind the test whether so many may run
    have may : Rn sc (mtk 30) 135 [some (.ref 6), some (.int (nI k)), some (.int (nI z)), some (.long (lN b)), none, some (.int (nI i)), o] [.int (bI (mayK rule k (can i)))] (wIJ (nh h) (dF rule k z can v acc F i) (dG rule k can v acc G i)) none (wIJ (nh h) (dF rule k z can v acc F N) (dG rule k can v acc G N)) := by
      cases hm : mayK rule k (can i) with
      | false =>
        have hu : upA' rule k can v acc i = false := by unfold upA'; rw [hm]; rfl
        refine bk_sound (cuts := [84]) 20 _ _ _ _ ?_
        refine br_t (by rfl) ?_
        rw [(d_skip (z := z) (F := F) (G := G) hu).1, (d_skip (z := z) (F := F) (G := G) hu).2]
        exact R _
      | true =>
        have sum : lN b + lN (mv i) = lN (v i) := by rw [lN_add, v1]
        have oi : (oA (acc i)).toInt < (v i : Int) ↔ ltA (acc i) (v i) = true := by
          cases ha : acc i with
          | none =>
            constructor
            · intro _
              rfl
            · intro _
              show (-1 : Int64).toInt < _
              rw [show (-1 : Int64).toInt = -1 from rfl]
              omega
          | some x =>
            have := hA i (by omega) x ha
            show (lN x.1).toInt < _ ↔ decide (x.1 < v i) = true
            rw [pk_lT (by omega), decide_eq_true_iff]
            omega
        refine bk_sound (cuts := [84]) 60 _ _ _ _ ?_
        refine br_f (by decide) ?_
        refine And.intro rfl ?_
        refine And.intro (⟨rfl, ii⟩) ?_
        rw [ei, show zJ (wIJ (nh h) (dF rule k z can v acc F i) (dG rule k can v acc G i)) (zA (wIJ (nh h) (dF rule k z can v acc F i) (dG rule k can v acc G i)) 6 12) i = lN (mv i) from g13]
        refine And.intro rfl ?_
        refine And.intro (⟨rfl, ii⟩) ?_
        rw [ei, show zJ (wIJ (nh h) (dF rule k z can v acc F i) (dG rule k can v acc G i)) (zA (wIJ (nh h) (dF rule k z can v acc F i) (dG rule k can v acc G i)) 6 9) i = oA (acc i) from g10]
        cases hl : ltA (acc i) (v i) with
        | false =>
          have hu : upA' rule k can v acc i = false := by unfold upA'; rw [hl, Bool.and_false]
          refine br_t (show lg_cmp (lN b + lN (mv i)) (oA (acc i)) ≤ 0 by
            rw [cmp_le0, sum, pk_lT (by omega)]
            have : ¬ (oA (acc i)).toInt < (v i : Int) := fun y => by rw [oi.mp y] at hl; cases hl
            omega) ?_
          rw [(d_skip (z := z) (F := F) (G := G) hu).1, (d_skip (z := z) (F := F) (G := G) hu).2]
          exact R _
        | true =>
          have hu : upA' rule k can v acc i = true := by unfold upA'; rw [hl, hm]; rfl
          refine br_f (show ¬ lg_cmp (lN b + lN (mv i)) (oA (acc i)) ≤ 0 by
            rw [cmp_le0, sum, pk_lT (by omega)]
            have := oi.mpr hl
            omega) ?_
          refine And.intro rfl ?_
          refine And.intro rfl ?_
          refine And.intro (⟨rfl, ii⟩) ?_
          rw [ei, show zJ (wIJ (nh h) (dF rule k z can v acc F i) (dG rule k can v acc G i)) (zA (wIJ (nh h) (dF rule k z can v acc F i) (dG rule k can v acc G i)) 6 12) i = lN (mv i) from g13]
          refine And.intro (⟨rfl, ii⟩) ?_
          refine And.intro rfl ?_
          refine And.intro (⟨rfl, ii⟩) ?_
          have R := R (some (.int (bI true)))
          rw [← (d_take (z := z) (F := F) (G := G) hu).1, ← (d_take (z := z) (F := F) (G := G) hu).2] at R
          refine rn_eq (show wIJ (nh h) (u2 (dF rule k z can v acc F i) 11 (nI i).toNatClampNeg (2 * nI k + nI z)) (u2L (dG rule k can v acc G i) 10 (nI i).toNatClampNeg (lN b + lN (mv i))) = _ from ?_) R
          rw [ei, sum, show (2 : Int32) = nI 2 from rfl, pk_mul, nI_add]
    refine bk_sound (cuts := [135]) 60 _ _ _ _ ?_
    refine And.intro rfl ?_
    refine br_f (show ¬ dF rule k z can v acc F i 6 5 ≤ nI i by rw [dF_o (by decide), e5]; exact nI_ge (by omega) (by omega)) ?_
    refine And.intro rfl ?_
    by_cases q : rule = 0
    · refine br_f (show ¬ ¬ dF rule k z can v acc F i 6 1 = 0 from fun y => y (by rw [f1, q]; rfl)) ?_
      refine And.intro rfl ?_
      refine And.intro (⟨rfl, ii⟩) ?_
      rw [ei, show zI (wIJ (nh h) (dF rule k z can v acc F i) (dG rule k can v acc G i)) (zA (wIJ (nh h) (dF rule k z can v acc F i) (dG rule k can v acc G i)) 6 8) i = nI (can i) from f9]
      rw [show mayK rule k (can i) = decide (k ≤ can i) from if_pos q] at may
      by_cases w : k ≤ can i
      · rw [decide_eq_true w] at may
        refine br_f (nI_nlt w (by omega)) ?_
        exact may
      · rw [decide_eq_false w] at may
        refine br_t (nI_lt (by omega) (by omega)) ?_
        exact may
    · refine br_t (show ¬ dF rule k z can v acc F i 6 1 = 0 by rw [f1]; exact fun y => q ((nI_eq (a := rule) (b := 0) (by omega) (by omega)).mp y)) ?_
      refine And.intro rfl ?_
      refine And.intro (⟨rfl, ii⟩) ?_
      rw [ei, show zI (wIJ (nh h) (dF rule k z can v acc F i) (dG rule k can v acc G i)) (zA (wIJ (nh h) (dF rule k z can v acc F i) (dG rule k can v acc G i)) 6 8) i = nI (can i) from f9]
      rw [show mayK rule k (can i) = decide (can i = k) from if_neg q] at may
      by_cases w : can i = k
      · rw [decide_eq_true w] at may
        refine br_f (fun y => y (by rw [w])) ?_
        exact may
      · rw [decide_eq_false w] at may
        refine br_t (fun y => w ((nI_eq (by omega) (by omega)).mp y)) ?_
        exact may
theorem td1_loop (K : CK h C c nb br) (hF : Hi h F) (hA : zA h 6 0 = c) (Q : SZ F (qS C) N T Z) (hk : k ≤ 4) (hz : z ≤ 1) (he : e ≤ 1) (e3 : F 6 3 = nI e) (hB : B ≤ 1000000000000) (hfol : ∀ i, fol i ≤ B) : ∀ (n : Nat) (G1 : Nat → Nat → Int64) , n ≤ qS C → (∀ i, i < N → G1 13 i = lN (mtV C T Z e k (1 + z) fol (qS C - n) i)) → ∃ G2, (∀ r h', Rn sc (mtk 30) 61 [some (.ref 6), some (.int (nI k)), some (.int (nI z)), some (.int (nI 0 - 1)), none, none, none] [] (wIJ (nh h) F G2) r h' → Rn sc (mtk 30) 27 [some (.ref 6), some (.int (nI k)), some (.int (nI z)), some (.int (nI n - 1)), none, none, none] [] (wIJ (nh h) F G1) r h') ∧ (∀ a, a ≠ 13 → a ≠ 14 → G2 a = G1 a) ∧ ∀ i, i < N → G2 13 i = lN (mtV C T Z e k (1 + z) fol (qS C) i) := by
  have b := K.b
  have mb : ∀ d, d ≤ qS C → ∀ i, mtV C T Z e k (1 + z) fol d i ≤ B := by
    intro d
    induction d with
    | zero => exact fun _ => hfol
    | succ d ih => exact fun hd => tmV_le hk (K.v12 (by omega) (by omega)) (ih (by omega))
  intro n
  induction n with
  | zero =>
    intro G1 _ h1
    refine ⟨G1, fun r h' R => ?_, fun _ _ _ => rfl, h1⟩
    refine bk_sound (cuts := [61]) 20 _ _ _ _ ?_
    refine br_t (by decide) ?_
    exact R
  | succ n ih =>
    intro G1 hn h1
    have v12 := K.v12 (by omega : n < qS C) (by omega : 1 + z < 5)
    obtain ⟨G2, C2, g1, g2⟩ := c_takeMeans (sc := sc) (h := h) (F := F) (G := G1) (s := n) (k := k) (hh := qV C n (1 + z)) Q b.2.2.2.1 (by omega) hk v12 he e3 hB (mb (qS C - (n + 1)) (by omega)) h1
    obtain ⟨G3, R, r1, r2⟩ := ih G2 (by omega) (fun i hi => by
      rw [g2 i hi, show qS C - n = qS C - (n + 1) + 1 by omega]
      show _ = lN (tmV (qS C) T Z e k (qV C (qS C - 1 - (qS C - (n + 1))) (1 + z)) (qS C - 1 - (qS C - (n + 1))) (mtV C T Z e k (1 + z) fol (qS C - (n + 1))) i)
      rw [show qS C - 1 - (qS C - (n + 1)) = n by omega])
    refine ⟨G3, fun r h' R0 => ?_, fun a a1 a2 => (r1 a a1 a2).trans (g1 a a1 a2), r2⟩
    have R := R r h' R0
    rw [i_dec (nI n)] at R
    have a6 : zA (wIJ (nh h) F G1) 6 0 = c := hA
    have cn := c_numF (sc := sc) (G := G1) K hF (by omega : n < qS C) (by omega : 1 + z < 5)
    rw [nI_pred]
    refine bk_sound (cuts := [27]) 40 _ _ _ _ ?_
    refine br_f (nI_pos (by omega)) ?_
    refine And.intro rfl ?_
    rw [a6]
    obtain rfl | rfl : z = 0 ∨ z = 1 := by omega
    · refine br_t (by decide) ?_
      refine And.intro ⟨rfl, K.k⟩ (And.intro rfl (Exists.intro _ (Exists.intro _ (And.intro (cn) ?_))))
      refine And.intro ⟨rfl, rfl⟩ (And.intro rfl (Exists.intro _ (Exists.intro _ (And.intro (C2) ?_))))
      exact R
    · refine br_f (by exact fun y => y rfl) ?_
      refine And.intro ⟨rfl, K.k⟩ (And.intro rfl (Exists.intro _ (Exists.intro _ (And.intro (cn) ?_))))
      refine And.intro ⟨rfl, rfl⟩ (And.intro rfl (Exists.intro _ (Exists.intro _ (And.intro (C2) ?_))))
      exact R
theorem c_tryDriving (K : CK h C c nb br) (hF : Hi h F) (hA : zA h 6 0 = c) (Q : SZ F (qS C) N T Z) (hk : k ≤ qL C) (hz : z ≤ 1) (hr : rule ≤ 4) (he : e ≤ 1) (e1 : F 6 1 = nI rule) (e3 : F 6 3 = nI e) (hB : B ≤ 900000000000) (hfol : ∀ i, fol i ≤ B) (h12 : ∀ i, i < N → G 12 i = lN (fol i)) (hc : ∀ i, i < N → can i ≤ 5 ∧ F 9 i = nI (can i)) (hv : ∀ i, i < N → v i = (3 - z) * 1000000 * qB C k + mtV C T Z e k (1 + z) fol (qS C) i) (h10 : ∀ i, i < N → G 10 i = oA (acc i)) (hAc : ∀ i, i < N → ∀ x, acc i = some x → x.1 < 1000000000000) : ∃ G1, Cc sc 30 [.ref 6, .int (nI k), .int (nI z)] (wIJ (nh h) F G) none (wIJ (nh h) (dF rule k z can v acc F N) (dG rule k can v acc G1 N)) ∧ ∀ a, a ≠ 13 → a ≠ 14 → G1 a = G a := by
  have b := K.b
  have hs3 : N ≤ 216 := Q.2.1
  have e5 : F 6 5 = nI N := Q.2.2.2
  have k4 : k ≤ 4 := by omega
  obtain ⟨G2, R, r1, r2⟩ := td1_loop (sc := sc) (h := h) (F := F) (k := k) (z := z) (e := e) (B := B) (fol := fol) K hF hA Q k4 hz he e3 (by omega) hfol (qS C) (va_up G 13 (va_cpy (G 12) (G 13) 0 0 N)) (Nat.le_refl _) (fun i hi => by
    rw [va_up_self, pk_cpy_in (Nat.zero_le _) (by omega), Nat.sub_self, Nat.sub_zero, Nat.zero_add]
    exact h12 i hi)
  have mb : ∀ d, d ≤ qS C → ∀ i, mtV C T Z e k (1 + z) fol d i ≤ B := by
    intro d
    induction d with
    | zero => exact fun _ => hfol
    | succ d ih => exact fun hd => tmV_le k4 (K.v12 (by omega) (by omega)) (ih (by omega))
  have g2o : ∀ a, a ≠ 13 → a ≠ 14 → G2 a = G a := fun a h1 h2 => by rw [r1 a h1 h2, va_up_ne _ _ h1]
  obtain ⟨k1, k2, k3, k4', k5, k6, k7, k8, k9, k10, k11, k12, k13, k14, k15, k16⟩ := id K
  obtain ⟨b9, -, b3⟩ := k16 k hk
  have bb : (3 - z) * 1000000 * qB C k ≤ 3 * 1000000 * 9 := Nat.mul_le_mul (Nat.mul_le_mul (by omega) (Nat.le_refl _)) b9
  have L := td2_loop (sc := sc) (h := h) (F := F) (G := G2) (k := k) (z := z) (v := v) (acc := acc) (b := (3 - z) * 1000000 * qB C k) (mv := mtV C T Z e k (1 + z) fol (qS C)) hs3 e5 k4 hz hr e1 hc r2 (fun i hi => ⟨hv i hi, by have := hv i hi; have := mb (qS C) (Nat.le_refl _) i; omega⟩) (fun i hi => by rw [g2o 10 (by decide) (by decide)]; exact h10 i hi) hAc N 0 none (by omega)
  refine ⟨G2, ?_, g2o⟩
  have a6 : zA (nh h) 6 0 = c := hA
  have ik : inB (nI k) 5 = true := inB_nI (by omega) (by decide)
  have ek : (nI k).toNatClampNeg = k := nI_clamp (by omega)
  refine cc_cut [27] 40 rfl rfl ?_
  refine And.intro rfl ?_
  refine And.intro rfl ?_
  refine And.intro rfl ?_
  rw [show zI (wIJ (nh h) F G) 6 5 = nI N from e5]
  refine And.intro (show _ ∧ ¬ (0 : Int32) < 0 ∧ ¬ (0 : Int32) < 0 ∧ ¬ nI N < 0 ∧ (0 : Int32).toNatClampNeg + (nI N).toNatClampNeg ≤ 216 ∧ (0 : Int32).toNatClampNeg + (nI N).toNatClampNeg ≤ 216 ∧ _ from ⟨rfl, by decide, by decide, nI_pos (by omega), by rw [nI_clamp (by omega)]; show 0 + N ≤ 216; omega, by rw [nI_clamp (by omega)]; show 0 + N ≤ 216; omega, Or.inr ⟨rfl, rfl⟩⟩) ?_
  rw [nI_clamp (n := N) (by omega)]
  refine And.intro rfl ?_
  rw [show zA (if zK (wIJ (nh h) F G) (zA (wIJ (nh h) F G) 6 12) = 13 then rwJ (wIJ (nh h) F G) (zA (wIJ (nh h) F G) 6 12) (va_cpy (zJ (wIJ (nh h) F G) (zA (wIJ (nh h) F G) 6 11)) (zJ (wIJ (nh h) F G) (zA (wIJ (nh h) F G) 6 12)) (0 : Int32).toNatClampNeg (0 : Int32).toNatClampNeg N) else rwI (wIJ (nh h) F G) (zA (wIJ (nh h) F G) 6 12) (va_cpy (zI (wIJ (nh h) F G) (zA (wIJ (nh h) F G) 6 11)) (zI (wIJ (nh h) F G) (zA (wIJ (nh h) F G) 6 12)) (0 : Int32).toNatClampNeg (0 : Int32).toNatClampNeg N)) 6 0 = c from a6]
  refine And.intro (show kin 0 (zK (nh h) c) = true by rw [K.k]; rfl) ?_
  refine rn_eq (show _ = wIJ (nh h) F (va_up G 13 (va_cpy (G 12) (G 13) 0 0 N)) from rfl) ?_
  have fc : F c 1 = nI (qS C) := (K.f hF).2.1
  rw [show zI (if zK (wIJ (nh h) F G) (zA (wIJ (nh h) F G) 6 12) = 13 then rwJ (wIJ (nh h) F G) (zA (wIJ (nh h) F G) 6 12) (va_cpy (zJ (wIJ (nh h) F G) (zA (wIJ (nh h) F G) 6 11)) (zJ (wIJ (nh h) F G) (zA (wIJ (nh h) F G) 6 12)) (0 : Int32).toNatClampNeg (0 : Int32).toNatClampNeg N) else rwI (wIJ (nh h) F G) (zA (wIJ (nh h) F G) 6 12) (va_cpy (zI (wIJ (nh h) F G) (zA (wIJ (nh h) F G) 6 11)) (zI (wIJ (nh h) F G) (zA (wIJ (nh h) F G) 6 12)) (0 : Int32).toNatClampNeg (0 : Int32).toNatClampNeg N)) c 1 = nI (qS C) from fc]
  refine R _ _ ?_
  have bz : ∀ y : Int32, Rn sc (mtk 30) 61 [some (.ref 6), some (.int (nI k)), some (.int (nI z)), some (.int y), none, none, none] [] (wIJ (nh h) F G2) none (wIJ (nh h) (dF rule k z can v acc F N) (dG rule k can v acc G2 N)) := fun y => by
    have a4 : zA (nh h) c 4 = br := by rw [nh_A k1]; exact k6
    refine bk_sound (cuts := [84]) 40 _ _ _ _ ?_
    refine And.intro rfl ?_
    rw [show zA (wIJ (nh h) F G2) 6 0 = c from a6]
    refine And.intro (show kin 0 (zK (nh h) c) = true by rw [K.k]; rfl) ?_
    rw [show zA (wIJ (nh h) F G2) c 4 = br from a4]
    refine And.intro (show zK (nh h) br = 12 ∧ inB (nI k) (zN (nh h) br) = true from ⟨by rw [nh_K k3]; exact k9, by rw [nh_N k3, k10]; exact ik⟩) ?_
    rw [ek, show zI (wIJ (nh h) F G2) br k = nI (qB C k) from (by show F br k = _; rw [hF br k3]; exact b3)]
    have eb : (3 - nI z : Int32).toInt64 * 1000000 * (nI (qB C k)).toInt64 = lN ((3 - z) * 1000000 * qB C k) := by
      rw [show (3 : Int32) = nI 3 from rfl, pk_sub (by omega), nI_l (by omega), nI_l (by omega), show (1000000 : Int64) = lN 1000000 from rfl, lN_mul, lN_mul]
    have e0 : dF rule k z can v acc F 0 = F ∧ dG rule k can v acc G2 0 = G2 := ⟨funext fun a => funext fun j => if_neg (by omega), funext fun a => funext fun j => if_neg (by omega)⟩
    rw [e0.1, e0.2, ← eb] at L
    exact L
  exact bz _
end
