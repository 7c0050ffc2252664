/-! layDay -/
def upM (rule k : Nat) (can v : Nat → Nat) (acc : Nat → Ac) (j : Nat) : Bool := mayK rule k (can j) && ltA (acc j) (v j)
def tnN (k z : Nat) : Nat := 10 * k + (if k = 0 then 0 else z)
def mdG (rule k z : Nat) (can v : Nat → Nat) (acc : Nat → Ac) (G : Nat → Nat → Int64) (i : Nat) : Nat → Nat → Int64 := fun a j => if a = 50 ∧ j < i ∧ upM rule k can v acc j = true then lN (v j) else if a = 48 ∧ j < i ∧ upM rule k can v acc j = true then lN (tnN k z) else G a j
theorem mdG_skip {rule k z i : Nat} {can v : Nat → Nat} {acc : Nat → Ac} {G : Nat → Nat → Int64} (hu : upM rule k can v acc i = false) : mdG rule k z can v acc G i = mdG rule k z can v acc G (i + 1) := by
  have key : ∀ j, (j < i ∧ upM rule k can v acc j = true) ↔ (j < i + 1 ∧ upM rule k can v acc j = true) := fun j => by
    constructor
    · exact fun y => ⟨by omega, y.2⟩
    · intro y
      have : j ≠ i := fun w => by rw [w, hu] at y; exact absurd y.2 (by decide)
      exact ⟨by omega, y.2⟩
  funext a j
  unfold mdG
  by_cases q : a = 50 ∧ j < i ∧ upM rule k can v acc j = true
  · rw [if_pos q, if_pos ⟨q.1, (key j).mp q.2⟩]
  · rw [if_neg q, if_neg (show ¬ (a = 50 ∧ j < i + 1 ∧ upM rule k can v acc j = true) from fun y => q ⟨y.1, (key j).mpr y.2⟩)]
    by_cases w : a = 48 ∧ j < i ∧ upM rule k can v acc j = true
    · rw [if_pos w, if_pos (show a = 48 ∧ j < i + 1 ∧ upM rule k can v acc j = true from ⟨w.1, (key j).mp w.2⟩)]
    · rw [if_neg w, if_neg (show ¬ (a = 48 ∧ j < i + 1 ∧ upM rule k can v acc j = true) from fun y => w ⟨y.1, (key j).mpr y.2⟩)]
theorem mdG_take {rule k z i : Nat} {can v : Nat → Nat} {acc : Nat → Ac} {G : Nat → Nat → Int64} (hu : upM rule k can v acc i = true) : u2L (u2L (mdG rule k z can v acc G i) 50 i (lN (v i))) 48 i (lN (tnN k z)) = mdG rule k z can v acc G (i + 1) := by
  funext a j
  rw [u2L_eq, u2L_eq]
  unfold mdG
  by_cases q1 : a = 48 ∧ j = i
  · rw [if_pos q1, if_neg (by omega), if_pos ⟨q1.1, by omega, by rw [q1.2]; exact hu⟩]
  · rw [if_neg q1]
    by_cases q2 : a = 50 ∧ j = i
    · rw [if_pos q2, if_pos ⟨q2.1, by omega, by rw [q2.2]; exact hu⟩, q2.2]
    · rw [if_neg q2]
      by_cases q : a = 50 ∧ j < i ∧ upM rule k can v acc j = true
      · rw [if_pos q, if_pos ⟨q.1, by omega, q.2.2⟩]
      · rw [if_neg q, if_neg (show ¬ (a = 50 ∧ j < i + 1 ∧ upM rule k can v acc j = true) from fun y => q ⟨y.1, by have : j ≠ i := fun z => q2 ⟨y.1, z⟩; omega, y.2.2⟩)]
        by_cases w : a = 48 ∧ j < i ∧ upM rule k can v acc j = true
        · rw [if_pos w, if_pos (show a = 48 ∧ j < i + 1 ∧ upM rule k can v acc j = true from ⟨w.1, by omega, w.2.2⟩)]
        · rw [if_neg w, if_neg (show ¬ (a = 48 ∧ j < i + 1 ∧ upM rule k can v acc j = true) from fun y => w ⟨y.1, by have : j ≠ i := fun z => q1 ⟨y.1, z⟩; omega, y.2.2⟩)]
theorem st_upM {rule k z w i : Nat} {can v : Nat → Nat} {acc : Nat → Ac} (hU : upM rule k can v acc i = true) (hv : mayK rule k (can i) = true → v i = w) : stA rule k z (can i) w (acc i) = some (v i, k, z) := st_up hU hv
theorem st_noM {rule k z w i : Nat} {can v : Nat → Nat} {acc : Nat → Ac} (hU : ¬ upM rule k can v acc i = true) (hv : mayK rule k (can i) = true → v i = w) : stA rule k z (can i) w (acc i) = acc i := st_no hU hv
section
variable {sc : Nat × (Nat → Int32)} {h : Hp} {F : Nat → Nat → Int32} {G : Nat → Nat → Int64} {C : Cp} {x day k z e B N rule : Nat} {f : (Nat → Nat) → Nat}
theorem crM_loop (K : MK F C x) {g l : Nat} (hg : g < 216) (hl : l ≤ 4) : ∀ (d s : Nat), s + d = qS C → Rn sc (mtk 159) 9 [some (.ref 39), some (.int (nI x)), some (.int (nI g)), some (.int (nI l)), some (.int (nI (mnF l (dgN (qS C) T6 Z6 g) s))), some (.int (nI (g / 6 ^ s))), some (.int (nI s))] [] (wIJ (nh h) F G) (some (.int (nI (mnF l (dgN (qS C) T6 Z6 g) (qS C))))) (wIJ (nh h) F G) := by
  intro d
  obtain ⟨k1, k2, k3, k4, k5, k6, k7⟩ := id K
  have ix : inB (nI x) 3 = true := inB_nI k1 (by decide)
  have ex : (nI x).toNatClampNeg = x := nI_clamp (by omega)
  induction d with
  | zero =>
    intro s hs
    obtain rfl : s = qS C := by omega
    refine bk_sound (cuts := []) 20 _ _ _ _ ?_
    refine And.intro rfl ?_
    refine And.intro (⟨rfl, ix⟩) ?_
    refine br_t (show F 41 (nI x).toNatClampNeg ≤ nI (qS C) by rw [ex, k4]; exact nI_le (Nat.le_refl _) (by omega)) ?_
    exact ⟨Or.inl rfl, rfl, rfl⟩
  | succ d ih =>
    intro s hs
    have R := ih (s + 1) (by omega)
    have le : g / 6 ^ s ≤ g := Nat.div_le_self _ _
    have e1 := mnF_le l (dgN (qS C) T6 Z6 g) s
    rw [← nI_1, show mnF l (dgN (qS C) T6 Z6 g) (s + 1) = min (mnF l (dgN (qS C) T6 Z6 g) s) (dgN (qS C) T6 Z6 g s) from rfl, dg6 (by omega : s < qS C), Nat.pow_succ, ← Nat.div_div_eq_div_mul, ← pk_div (d := 6) (by omega) (by decide) (by decide)] at R
    refine bk_sound (cuts := [9]) 30 _ _ _ _ ?_
    refine And.intro rfl ?_
    refine And.intro (⟨rfl, ix⟩) ?_
    refine br_f (show ¬ F 41 (nI x).toNatClampNeg ≤ nI s by rw [ex, k4]; exact nI_ge (by omega) (by omega)) ?_
    refine And.intro (by decide) ?_
    rw [show nI (g / 6 ^ s) - nI (g / 6 ^ s) / 6 * 6 = nI (g / 6 ^ s % 6) from pk_rem (d := 6) (by omega) (by decide) (by decide)]
    refine And.intro rfl (And.intro rfl (Exists.intro _ (Exists.intro _ (And.intro (c_lesser (by omega) (by omega)) ?_))))
    refine And.intro (by decide) ?_
    exact R
theorem c_crM (K : MK F C x) {g l : Nat} (hg : g < 216) (hl : l ≤ 4) : Cc sc 159 [.ref 39, .int (nI x), .int (nI g), .int (nI l)] (wIJ (nh h) F G) (some (.int (nI (mnF l (dgN (qS C) T6 Z6 g) (qS C))))) (wIJ (nh h) F G) := by
  refine cc_cut [9] 20 rfl rfl ?_
  have := crM_loop (sc := sc) (h := h) (G := G) K hg hl (qS C) 0 (by omega)
  rw [Nat.pow_zero, Nat.div_one] at this
  exact this
theorem c_manyBy (K : MK F C x) {g : Nat} (hg : g < 216) (hr : rule ≤ 4) : Cc sc 170 [.ref 39, .int (nI x), .int (nI g), .int (nI rule)] (wIJ (nh h) F G) (some (.int (nI (canD C rule (dgN (qS C) T6 Z6 g))))) (wIJ (nh h) F G) := by
  obtain ⟨k1, k2, k3, k4, k5, k6, k7⟩ := id K
  have ix : inB (nI x) 3 = true := inB_nI k1 (by decide)
  have ex : (nI x).toNatClampNeg = x := nI_clamp (by omega)
  by_cases q : rule = 3
  · subst q
    have cc := c_crM (sc := sc) (h := h) (F := F) (G := G) K hg (l := qL C - 1) (by omega)
    rw [show nI (qL C - 1) = nI (qL C) - 1 by rw [show (1 : Int32) = nI 1 from rfl, pk_sub (by omega)]] at cc
    refine cc_of 30 rfl rfl ?_
    refine br_f (by exact fun z => z rfl) ?_
    refine And.intro rfl ?_
    refine And.intro (⟨rfl, ix⟩) ?_
    rw [ex, show zI (wIJ (nh h) F G) (zA (wIJ (nh h) F G) 39 2) x = nI (qL C) from k3]
    refine And.intro ⟨rfl, rfl⟩ (And.intro rfl (Exists.intro _ (Exists.intro _ (And.intro (cc) ?_))))
    exact ⟨Or.inl rfl, rfl, rfl⟩
  · have cc := c_crM (sc := sc) (h := h) (F := F) (G := G) K hg (l := qL C) (by omega)
    rw [show canD C rule (dgN (qS C) T6 Z6 g) = mnF (qL C) (dgN (qS C) T6 Z6 g) (qS C) by unfold canD lrR; rw [if_neg q]]
    refine cc_of 30 rfl rfl ?_
    refine br_t (fun z => q ((nI_eq (a := rule) (b := 3) (by omega) (by omega)).mp z)) ?_
    refine And.intro rfl ?_
    refine And.intro (⟨rfl, ix⟩) ?_
    rw [ex, show zI (wIJ (nh h) F G) (zA (wIJ (nh h) F G) 39 2) x = nI (qL C) from k3]
    refine And.intro ⟨rfl, rfl⟩ (And.intro rfl (Exists.intro _ (Exists.intro _ (And.intro (cc) ?_))))
    exact ⟨Or.inl rfl, rfl, rfl⟩
theorem ld_g {r : Option Value} {h' : Hp} {d3 d4 : Int32} {b : Nat} {mv v : Nat → Nat} {acc : Nat → Ac} (K : MK F C x) (hN : N = 6 ^ qS C) (hk : k ≤ 4) (hz : z ≤ 1) (hr : rule ≤ 4) (h49 : ∀ i, i < N → G 49 i = lN (mv i)) (hv : ∀ i, i < N → v i = b + mv i ∧ v i < 1000000000000) (h50 : ∀ i, i < N → G 50 i = oA (acc i)) (hA : ∀ i, i < N → ∀ y, acc i = some y → y.1 < 1000000000000) (KK : ∀ o12 o13 o14 o15, Rn sc (mtk 171) 267 [some (.ref 39), some (.int (nI x)), some (.int (nI rule)), some (.int d3), some (.int d4), some (.int (nI N)), some (.int (nI k)), some (.int (nI (1 + z))), some (.int 1), some (.long (lN b)), none, some (.int (nI N)), o12, o13, o14, o15] [] (wIJ (nh h) F (mdG rule k z (fun i => canD C rule (dgN (qS C) T6 Z6 i)) v acc G N)) r h') : ∀ (d i : Nat) (o12 o13 o14 o15 : Option Value), i + d = N → Rn sc (mtk 171) 136 [some (.ref 39), some (.int (nI x)), some (.int (nI rule)), some (.int d3), some (.int d4), some (.int (nI N)), some (.int (nI k)), some (.int (nI (1 + z))), some (.int 1), some (.long (lN b)), none, some (.int (nI i)), o12, o13, o14, o15] [] (wIJ (nh h) F (mdG rule k z (fun i => canD C rule (dgN (qS C) T6 Z6 i)) v acc G i)) r h' := by
  intro d
  obtain ⟨k1, k2, k3, k4, k5, k6, k7⟩ := id K
  have n216 : N ≤ 216 := by rw [hN]; exact six_b k2.2.2.2.1
  induction d with
  | zero =>
    intro i o12 o13 o14 o15 hi
    obtain rfl : i = N := by omega
    refine bk_sound (cuts := [267]) 20 _ _ _ _ ?_
    refine br_t (nI_le (Nat.le_refl _) (by omega)) ?_
    exact KK _ _ _ _
  | succ d ih =>
    intro i o12 o13 o14 o15 hi
    have R := fun o12 o13 o14 o15 => ih (i + 1) o12 o13 o14 o15 (by omega)
    rw [← nI_1 i] at R
    have ii : inB (nI i) 216 = true := inB_nI (by omega) (by decide)
    have ei : (nI i).toNatClampNeg = i := nI_clamp (by omega)
    obtain ⟨v1, v2⟩ := hv i (by omega)
    generalize hcd : (fun i => canD C rule (dgN (qS C) T6 Z6 i)) = can at *
    have ci : canD C rule (dgN (qS C) T6 Z6 i) = can i := by rw [← hcd]
    have c4 : can i ≤ 4 := by
      rw [← ci]
      have := mnF_le (lrR C rule) (dgN (qS C) T6 Z6 i) (qS C)
      have lr : lrR C rule ≤ 4 := by unfold lrR; split <;> omega
      unfold canD
      omega
    have cm := c_manyBy (sc := sc) (h := h) (F := F) (G := mdG rule k z can v acc G i) (rule := rule) K (g := i) (by omega) hr
    rw [ci] at cm
    have g49 : mdG rule k z can v acc G i 49 i = lN (mv i) := by
      unfold mdG
      rw [if_neg (by omega), if_neg (by omega)]
      exact h49 i (by omega)
    have g50 : mdG rule k z can v acc G i 50 i = oA (acc i) := by
      unfold mdG
      rw [if_neg (by omega), if_neg (by omega)]
      exact h50 i (by omega)
    have sum : lN b + lN (mv i) = lN (v i) := by rw [lN_add, v1]
    have may : Rn sc (mtk 171) 201 [some (.ref 39), some (.int (nI x)), some (.int (nI rule)), some (.int d3), some (.int d4), some (.int (nI N)), some (.int (nI k)), some (.int (nI (1 + z))), some (.int 1), some (.long (lN b)), none, some (.int (nI i)), some (.int (nI (can i))), some (.long (lN (v i))), none, o15] [.int (bI (mayK rule k (can i)))] (wIJ (nh h) F (mdG rule k z can v acc G i)) r h' := by
      cases hm : mayK rule k (can i) with
      | false =>
        have hu : upM rule k can v acc i = false := by unfold upM; rw [hm]; rfl
        refine bk_sound (cuts := [136]) 20 _ _ _ _ ?_
        refine br_t (by rfl) ?_
        rw [mdG_skip (z := z) (G := G) hu]
        exact R _ _ _ _
      | true =>
        have oi : (oA (acc i)).toInt < (v i : Int) ↔ ltA (acc i) (v i) = true := by
          cases ha : acc i with
          | none =>
            constructor
            · intro _
              rfl
            · intro _
              show (-1 : Int64).toInt < _
              rw [show (-1 : Int64).toInt = -1 from rfl]
              omega
          | some y =>
            have := hA i (by omega) y ha
            show (lN y.1).toInt < _ ↔ decide (y.1 < v i) = true
            rw [pk_lT (by omega), decide_eq_true_iff]
            omega
        refine bk_sound (cuts := [136]) 60 _ _ _ _ ?_
        refine br_f (by decide) ?_
        refine And.intro rfl ?_
        refine And.intro (⟨rfl, ii⟩) ?_
        rw [ei, show zJ (wIJ (nh h) F (mdG rule k z can v acc G i)) (zA (wIJ (nh h) F (mdG rule k z can v acc G i)) 39 17) i = oA (acc i) from g50]
        cases hl : ltA (acc i) (v i) with
        | false =>
          have hu : upM rule k can v acc i = false := by unfold upM; rw [hl, Bool.and_false]
          refine br_t (show lg_cmp (lN (v i)) (oA (acc i)) ≤ 0 by
            rw [cmp_le0, pk_lT (by omega)]
            have : ¬ (oA (acc i)).toInt < (v i : Int) := fun y => by rw [oi.mp y] at hl; cases hl
            omega) ?_
          rw [mdG_skip (z := z) (G := G) hu]
          exact R _ _ _ _
        | true =>
          have hu : upM rule k can v acc i = true := by unfold upM; rw [hl, hm]; rfl
          refine br_f (show ¬ lg_cmp (lN (v i)) (oA (acc i)) ≤ 0 by
            rw [cmp_le0, pk_lT (by omega)]
            have := oi.mpr hl
            omega) ?_
          refine And.intro rfl ?_
          refine And.intro (⟨rfl, ii⟩) ?_
          refine And.intro rfl ?_
          have R := R (some (.int (nI (can i)))) (some (.long (lN (v i)))) none (some (.int (bI true)))
          rw [← mdG_take (z := z) (G := G) hu] at R
          have t1 : tnN k z = 10 * k + (if z = 1 ∧ 0 < k then 1 else 0) := by
            unfold tnN
            by_cases k0 : k = 0
            · rw [if_pos k0, if_neg (by omega)]
            · rw [if_neg k0]
              by_cases z1 : z = 1
              · rw [if_pos (by omega), z1]
              · rw [if_neg (by omega), show z = 0 by omega]
          have tl : ∀ y : Nat, (10 : Int64) * (nI k).toInt64 + lN y = lN (10 * k + y) := fun y => by
            rw [nI_l (by omega), show (10 : Int64) = lN 10 from rfl, lN_mul, lN_add]
          rw [t1] at R
          by_cases z1 : z = 1
          · subst z1
            refine br_f (show ¬ ¬ nI (1 + 1) = 2 from fun y => y rfl) ?_
            by_cases k0 : 0 < k
            · refine br_f (show ¬ nI k ≤ 0 from nI_ge (a := 0) (b := k) k0 (by omega)) ?_
              refine And.intro (⟨rfl, ii⟩) ?_
              rw [if_pos ⟨rfl, k0⟩, ← tl] at R
              rw [ei]
              exact R
            · refine br_t (show nI k ≤ 0 from nI_le (a := k) (b := 0) (by omega) (by omega)) ?_
              refine And.intro (⟨rfl, ii⟩) ?_
              rw [if_neg (fun y => k0 y.2), ← tl] at R
              rw [ei]
              exact R
          · obtain rfl : z = 0 := by omega
            refine br_t (show ¬ nI (1 + 0) = 2 by decide) ?_
            refine And.intro (⟨rfl, ii⟩) ?_
            rw [if_neg (fun y => z1 y.1), ← tl] at R
            rw [ei]
            exact R
    refine bk_sound (cuts := [201]) 60 _ _ _ _ ?_
    refine br_f (nI_ge (by omega) (by omega)) ?_
    refine br_f (by decide) ?_
    refine And.intro ⟨rfl, rfl⟩ (And.intro rfl (Exists.intro _ (Exists.intro _ (And.intro (cm) ?_))))
    refine And.intro rfl ?_
    refine And.intro (⟨rfl, ii⟩) ?_
    rw [ei, show zJ (wIJ (nh h) F (mdG rule k z can v acc G i)) (zA (wIJ (nh h) F (mdG rule k z can v acc G i)) 39 16) i = lN (mv i) from g49]
    rw [← sum] at may
    by_cases q : rule = 0
    · refine br_f (show ¬ ¬ nI rule = 0 from fun y => y (by rw [q]; rfl)) ?_
      rw [show mayK rule k (can i) = decide (k ≤ can i) from if_pos q] at may
      by_cases w : k ≤ can i
      · rw [decide_eq_true w] at may
        refine br_f (nI_nlt w (by omega)) ?_
        exact may
      · rw [decide_eq_false w] at may
        refine br_t (nI_lt (by omega) (by omega)) ?_
        exact may
    · refine br_t (show ¬ nI rule = 0 from fun y => q ((nI_eq (a := rule) (b := 0) (by omega) (by omega)).mp y)) ?_
      rw [show mayK rule k (can i) = decide (can i = k) from if_neg q] at may
      by_cases w : can i = k
      · rw [decide_eq_true w] at may
        refine br_f (fun y => y (by rw [w])) ?_
        exact may
      · rw [decide_eq_false w] at may
        refine br_t (fun y => w ((nI_eq (by omega) (by omega)).mp y).symm) ?_
        exact may
end
