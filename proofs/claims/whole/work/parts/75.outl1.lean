/-! Outlook: what its small methods answer. -/
def Hi (h : Hp) (F : Nat → Nat → Int32) : Prop := ∀ a, 65 ≤ a → F a = zI h a
/-- a camp as the class has it -/
def CK (h : Hp) (C : Cp) (c nb br : Nat) : Prop := 65 ≤ c ∧ 65 ≤ nb ∧ 65 ≤ br ∧ zK h c = 0 ∧ zA h c 3 = nb ∧ zA h c 4 = br ∧ zK h nb = 12 ∧ zN h nb = 15 ∧ zK h br = 12 ∧ zN h br = 5 ∧ (1 ≤ qL C ∧ qL C ≤ 4 ∧ 1 ≤ qS C ∧ qS C ≤ 3 ∧ qP C ≤ 9) ∧ zI h c 0 = nI (qL C) ∧ zI h c 1 = nI (qS C) ∧ zI h c 2 = nI (qP C) ∧ (∀ s w, s < qS C → w < 5 → mnW w ≤ qV C s w ∧ qV C s w ≤ mxW w ∧ zI h nb (5 * s + w) = nI (qV C s w)) ∧ ∀ k, k ≤ qL C → qB C k ≤ 9 ∧ (k = 0 → qB C k = 0) ∧ zI h br k = nI (qB C k)
theorem CK.b {h : Hp} {C : Cp} {c nb br : Nat} (K : CK h C c nb br) : 1 ≤ qL C ∧ qL C ≤ 4 ∧ 1 ≤ qS C ∧ qS C ≤ 3 ∧ qP C ≤ 9 := by
  obtain ⟨k1, k2, k3, k4, k5, k6, k7, k8, k9, k10, k11, -⟩ := K
  exact k11
theorem CK.f {h : Hp} {C : Cp} {c nb br : Nat} (K : CK h C c nb br) {F : Nat → Nat → Int32} (hF : Hi h F) : F c 0 = nI (qL C) ∧ F c 1 = nI (qS C) ∧ F c 2 = nI (qP C) := by
  obtain ⟨k1, k2, k3, k4, k5, k6, k7, k8, k9, k10, k11, k12, k13, k14, -⟩ := K
  rw [hF c k1]
  exact ⟨k12, k13, k14⟩
theorem CK.k {h : Hp} {C : Cp} {c nb br : Nat} (K : CK h C c nb br) : zK (nh h) c = 0 := by
  obtain ⟨k1, k2, k3, k4, -⟩ := K
  rw [nh_K k1]
  exact k4
theorem CK.v {h : Hp} {C : Cp} {c nb br : Nat} (K : CK h C c nb br) {s w : Nat} (hs : s < qS C) (hw : w < 5) : mnW w ≤ qV C s w ∧ qV C s w ≤ mxW w := by
  obtain ⟨k1, k2, k3, k4, k5, k6, k7, k8, k9, k10, k11, k12, k13, k14, k15, -⟩ := K
  exact ⟨(k15 s w hs hw).1, (k15 s w hs hw).2.1⟩
theorem CK.v12 {h : Hp} {C : Cp} {c nb br : Nat} (K : CK h C c nb br) {s w : Nat} (hs : s < qS C) (hw : w < 5) : qV C s w ≤ 12 := by
  have := (K.v hs hw).2
  have := mxW_le w
  omega
/-- sizes and strides -/
def SZ (F : Nat → Nat → Int32) (S N : Nat) (T Z : Nat → Nat) : Prop := NS S N T Z ∧ N ≤ 216 ∧ (∀ s, s < S → Z s ≤ 6 ∧ T s ≤ 216 ∧ F 8 s = nI (T s) ∧ F 7 s = nI (Z s) ∧ ∃ m, N = T s * Z s * m) ∧ F 6 5 = nI N
section
variable {sc : Nat × (Nat → Int32)} {h : Hp} {F : Nat → Nat → Int32} {G : Nat → Nat → Int64} {C : Cp} {c nb br N : Nat} {T Z : Nat → Nat}
theorem c_numF (K : CK h C c nb br) (hF : Hi h F) {s w : Nat} (hs : s < qS C) (hw : w < 5) : Cc sc 5 [.ref c, .int (nI s), .int (nI w)] (wIJ (nh h) F G) (some (.int (nI (qV C s w)))) (wIJ (nh h) F G) := by
  have b := K.b
  obtain ⟨k1, k2, k3, k4, k5, k6, k7, k8, k9, k10, k11, k12, k13, k14, k15, -⟩ := K
  exact c_number (h := wIJ (nh h) F G) (show zK (nh h) c = 0 by rw [nh_K k1]; exact k4) (show zA (nh h) c 3 = nb by rw [nh_A k1]; exact k5) (show zK (nh h) nb = 12 by rw [nh_K k2]; exact k7) (show zN (nh h) nb = 15 by rw [nh_N k2]; exact k8) (by omega) hw (show F nb (5 * s + w) = _ by rw [hF nb k2]; exact (k15 s w hs hw).2.2)
theorem c_goodIn (Q : SZ F (qS C) N T Z) (hS : qS C ≤ 3) {i s : Nat} (hi : i < 216) (hs : s < qS C) : Cc sc 24 [.ref 6, .int (nI i), .int (nI s)] (wIJ (nh h) F G) (some (.int (nI (dgN (qS C) T Z i s)))) (wIJ (nh h) F G) := by
  obtain ⟨q1, q2, q3, q4⟩ := Q
  obtain ⟨z1, z2, z3, z4, -⟩ := q3 s hs
  obtain ⟨z5, z6⟩ := q1.2.2 s hs
  have is : inB (nI s) 3 = true := inB_nI (by omega) (by decide)
  have es : (nI s).toNatClampNeg = s := nI_clamp (by omega)
  have dl : i / T s ≤ i := Nat.div_le_self _ _
  refine cc_of 40 rfl rfl ?_
  refine And.intro rfl ?_
  refine And.intro (⟨rfl, is⟩) ?_
  rw [es, show zI (wIJ (nh h) F G) (zA (wIJ (nh h) F G) 6 7) s = nI (T s) from z3]
  refine And.intro (fun z => by have := (nI_eq (a := T s) (b := 0) (by omega) (by omega)).mp z; omega) ?_
  refine And.intro rfl ?_
  refine And.intro (⟨rfl, is⟩) ?_
  rw [es, show zI (wIJ (nh h) F G) (zA (wIJ (nh h) F G) 6 6) s = nI (Z s) from z4]
  refine And.intro (fun z => by have := (nI_eq (a := Z s) (b := 0) (by omega) (by omega)).mp z; omega) ?_
  refine ⟨Or.inl rfl, ?_, rfl⟩
  show some (Value.int (nI i / nI (T s) - nI i / nI (T s) / nI (Z s) * nI (Z s))) = _
  rw [pk_div (by omega) z6 (by omega), pk_rem (by omega) z5 (by omega)]
  unfold dgN
  rw [if_pos hs]
theorem stateNow_loop (K : CK h C c nb br) (hF : Hi h F) (hA : zA h 6 0 = c) (Q : SZ F (qS C) N T Z) : ∀ (d s : Nat), s + d = qS C → Rn sc (mtk 25) 4 [some (.ref 6), some (.int (nI (ixN T (fun s => qV C s 0) s))), some (.int (nI s))] [] (wIJ (nh h) F G) (some (.int (nI (ixN T (fun s => qV C s 0) (qS C))))) (wIJ (nh h) F G) := by
  intro d
  have b := K.b
  have a6 : zA (wIJ (nh h) F G) 6 0 = c := hA
  have kc := K.k
  have fc := K.f hF
  induction d with
  | zero =>
    intro s hs
    obtain rfl : s = qS C := by omega
    refine bk_sound (cuts := []) 20 _ _ _ _ ?_
    refine And.intro rfl ?_
    rw [a6]
    refine And.intro (show kin 0 (zK (nh h) c) = true by rw [kc]; rfl) ?_
    refine br_t (show F c 1 ≤ nI (qS C) by rw [fc.2.1]; exact nI_le (Nat.le_refl _) (by omega)) ?_
    exact ⟨Or.inl rfl, rfl, rfl⟩
  | succ d ih =>
    intro s hs
    have R := ih (s + 1) (by omega)
    rw [← nI_1, show ixN T (fun s => qV C s 0) (s + 1) = ixN T (fun s => qV C s 0) s + qV C s 0 * T s from rfl, ← nI_add, ← pk_mul] at R
    obtain ⟨z1, z2, z3, z4, -⟩ := Q.2.2.1 s (by omega)
    have is : inB (nI s) 3 = true := inB_nI (by omega) (by decide)
    have es : (nI s).toNatClampNeg = s := nI_clamp (by omega)
    refine bk_sound (cuts := [4]) 40 _ _ _ _ ?_
    refine And.intro rfl ?_
    rw [a6]
    refine And.intro (show kin 0 (zK (nh h) c) = true by rw [kc]; rfl) ?_
    refine br_f (show ¬ F c 1 ≤ nI s by rw [fc.2.1]; exact nI_ge (by omega) (by omega)) ?_
    refine And.intro rfl ?_
    rw [a6]
    refine And.intro ⟨rfl, kc⟩ (And.intro rfl (Exists.intro _ (Exists.intro _ (And.intro (c_numF K hF (by omega : s < qS C) (by decide : 0 < 5)) ?_))))
    refine And.intro rfl ?_
    refine And.intro (⟨rfl, is⟩) ?_
    rw [es, show zI (wIJ (nh h) F G) (zA (wIJ (nh h) F G) 6 7) s = nI (T s) from z3]
    exact R
theorem c_stateNow (K : CK h C c nb br) (hF : Hi h F) (hA : zA h 6 0 = c) (Q : SZ F (qS C) N T Z) : Cc sc 25 [.ref 6] (wIJ (nh h) F G) (some (.int (nI (ixN T (fun s => qV C s 0) (qS C))))) (wIJ (nh h) F G) := by
  refine cc_cut [4] 20 rfl rfl ?_
  exact stateNow_loop K hF hA Q (qS C) 0 (by omega)
theorem fewest_loop (K : CK h C c nb br) (hF : Hi h F) (hA : zA h 6 0 = c) (Q : SZ F (qS C) N T Z) {i : Nat} (hi : i < 216) : ∀ (d s : Nat), s + d = qS C → Rn sc (mtk 26) 4 [some (.ref 6), some (.int (nI i)), some (.int (nI (mnF 5 (dgN (qS C) T Z i) s))), some (.int (nI s))] [] (wIJ (nh h) F G) (some (.int (nI (mnF 5 (dgN (qS C) T Z i) (qS C))))) (wIJ (nh h) F G) := by
  intro d
  have b := K.b
  have a6 : zA (wIJ (nh h) F G) 6 0 = c := hA
  have kc := K.k
  have fc := K.f hF
  induction d with
  | zero =>
    intro s hs
    obtain rfl : s = qS C := by omega
    refine bk_sound (cuts := []) 20 _ _ _ _ ?_
    refine And.intro rfl ?_
    rw [a6]
    refine And.intro (show kin 0 (zK (nh h) c) = true by rw [kc]; rfl) ?_
    refine br_t (show F c 1 ≤ nI (qS C) by rw [fc.2.1]; exact nI_le (Nat.le_refl _) (by omega)) ?_
    exact ⟨Or.inl rfl, rfl, rfl⟩
  | succ d ih =>
    intro s hs
    have R := ih (s + 1) (by omega)
    have m5 := mnF_le 5 (dgN (qS C) T Z i) s
    have dz := Q.1.dg_lt (i := i) (by omega : s < qS C)
    have z6 := (Q.2.2.1 s (by omega)).1
    rw [← nI_1] at R
    refine bk_sound (cuts := [4]) 40 _ _ _ _ ?_
    refine And.intro rfl ?_
    rw [a6]
    refine And.intro (show kin 0 (zK (nh h) c) = true by rw [kc]; rfl) ?_
    refine br_f (show ¬ F c 1 ≤ nI s by rw [fc.2.1]; exact nI_ge (by omega) (by omega)) ?_
    refine And.intro ⟨rfl, rfl⟩ (And.intro rfl (Exists.intro _ (Exists.intro _ (And.intro (c_goodIn Q b.2.2.2.1 hi (by omega : s < qS C)) ?_))))
    refine And.intro rfl ?_
    rw [min_nI (a := mnF 5 (dgN (qS C) T Z i) s) (b := dgN (qS C) T Z i s) (by omega) (by omega)]
    exact R
theorem c_fewestIn (K : CK h C c nb br) (hF : Hi h F) (hA : zA h 6 0 = c) (Q : SZ F (qS C) N T Z) {i : Nat} (hi : i < 216) : Cc sc 26 [.ref 6, .int (nI i)] (wIJ (nh h) F G) (some (.int (nI (mnF 5 (dgN (qS C) T Z i) (qS C))))) (wIJ (nh h) F G) := by
  refine cc_cut [4] 20 rfl rfl ?_
  exact fewest_loop K hF hA Q hi (qS C) 0 (by omega)
theorem after_loop (K : CK h C c nb br) (hF : Hi h F) (hA : zA h 6 0 = c) (Q : SZ F (qS C) N T Z) {i : Nat} (hi : i < 216) : ∀ (d s : Nat), s + d = qS C → Rn sc (mtk 27) 4 [some (.ref 6), some (.int (nI i)), some (.int (nI (ixN T (plD C (dgN (qS C) T Z i)) s))), some (.int (nI s))] [] (wIJ (nh h) F G) (some (.int (nI (ixN T (plD C (dgN (qS C) T Z i)) (qS C))))) (wIJ (nh h) F G) := by
  intro d
  have b := K.b
  have a6 : zA (wIJ (nh h) F G) 6 0 = c := hA
  have kc := K.k
  have fc := K.f hF
  induction d with
  | zero =>
    intro s hs
    obtain rfl : s = qS C := by omega
    refine bk_sound (cuts := []) 20 _ _ _ _ ?_
    refine And.intro rfl ?_
    rw [a6]
    refine And.intro (show kin 0 (zK (nh h) c) = true by rw [kc]; rfl) ?_
    refine br_t (show F c 1 ≤ nI (qS C) by rw [fc.2.1]; exact nI_le (Nat.le_refl _) (by omega)) ?_
    exact ⟨Or.inl rfl, rfl, rfl⟩
  | succ d ih =>
    intro s hs
    have R := ih (s + 1) (by omega)
    obtain ⟨z1, z2, z3, z4, -⟩ := Q.2.2.1 s (by omega)
    have is : inB (nI s) 3 = true := inB_nI (by omega) (by decide)
    have es : (nI s).toNatClampNeg = s := nI_clamp (by omega)
    have dz := Q.1.dg_lt (i := i) (by omega : s < qS C)
    have v4 := K.v12 (by omega : s < qS C) (by decide : 4 < 5)
    rw [← nI_1, show ixN T (plD C (dgN (qS C) T Z i)) (s + 1) = ixN T (plD C (dgN (qS C) T Z i)) s + plD C (dgN (qS C) T Z i) s * T s from rfl, show plD C (dgN (qS C) T Z i) s = min 5 (dgN (qS C) T Z i s + qV C s 4) from if_pos (by omega), ← nI_add, ← pk_mul, ← min_nI (a := 5) (b := dgN (qS C) T Z i s + qV C s 4) (by omega) (by omega), ← nI_add] at R
    refine bk_sound (cuts := [4]) 60 _ _ _ _ ?_
    refine And.intro rfl ?_
    rw [a6]
    refine And.intro (show kin 0 (zK (nh h) c) = true by rw [kc]; rfl) ?_
    refine br_f (show ¬ F c 1 ≤ nI s by rw [fc.2.1]; exact nI_ge (by omega) (by omega)) ?_
    refine And.intro ⟨rfl, rfl⟩ (And.intro rfl (Exists.intro _ (Exists.intro _ (And.intro (c_goodIn Q b.2.2.2.1 hi (by omega : s < qS C)) ?_))))
    refine And.intro rfl ?_
    rw [a6]
    refine And.intro ⟨rfl, kc⟩ (And.intro rfl (Exists.intro _ (Exists.intro _ (And.intro (c_numF K hF (by omega : s < qS C) (by decide : 4 < 5)) ?_))))
    refine And.intro rfl ?_
    refine And.intro rfl ?_
    refine And.intro (⟨rfl, is⟩) ?_
    rw [es, show zI (wIJ (nh h) F G) (zA (wIJ (nh h) F G) 6 7) s = nI (T s) from z3]
    exact R
theorem c_afterPlane (K : CK h C c nb br) (hF : Hi h F) (hA : zA h 6 0 = c) (Q : SZ F (qS C) N T Z) {i : Nat} (hi : i < 216) : Cc sc 27 [.ref 6, .int (nI i)] (wIJ (nh h) F G) (some (.int (nI (ixN T (plD C (dgN (qS C) T Z i)) (qS C))))) (wIJ (nh h) F G) := by
  refine cc_cut [4] 20 rfl rfl ?_
  exact after_loop K hF hA Q hi (qS C) 0 (by omega)
theorem c_isTried {rule k z : Nat} (hr : rule ≤ 4) (hk : k ≤ 4) (hz : z ≤ 1) (e1 : F 6 1 = nI rule) : Cc sc 29 [.ref 6, .int (nI k), .int (nI z)] (wIJ (nh h) F G) (some (.int (bI (trC rule k z)))) (wIJ (nh h) F G) := by
  by_cases k0 : k = 0
  · subst k0
    obtain rfl | rfl : z = 0 ∨ z = 1 := by omega
    · refine cc_of 30 rfl rfl ?_
      refine br_f (by exact fun z => z rfl) ?_
      refine br_f (by exact fun z => z rfl) ?_
      exact ⟨Or.inr ⟨rfl, Or.inr rfl⟩, rfl, rfl⟩
    · refine cc_of 30 rfl rfl ?_
      refine br_f (by exact fun z => z rfl) ?_
      refine br_t (by decide) ?_
      exact ⟨Or.inr ⟨rfl, Or.inl rfl⟩, rfl, rfl⟩
  · have kn : ¬ nI k = 0 := fun z => k0 ((nI_eq (a := k) (b := 0) (by omega) (by omega)).mp z)
    rw [show trC rule k z = (decide (rule = 0) || (decide (rule = 2) == decide (z = 1))) from if_neg k0]
    by_cases r0 : rule = 0
    · subst r0
      refine cc_of 30 rfl rfl ?_
      refine br_t kn ?_
      refine And.intro rfl ?_
      refine br_t (show F 6 1 = 0 from e1) ?_
      exact ⟨Or.inr ⟨rfl, Or.inr rfl⟩, rfl, rfl⟩
    · have rn : ¬ F 6 1 = 0 := fun y => r0 ((nI_eq (a := rule) (b := 0) (by omega) (by omega)).mp (e1.symm.trans y))
      rw [decide_eq_false r0, Bool.false_or]
      by_cases r2 : rule = 2
      · subst r2
        obtain rfl | rfl : z = 0 ∨ z = 1 := by omega
        · refine cc_of 40 rfl rfl ?_
          refine br_t kn ?_
          refine And.intro rfl ?_
          refine br_f rn ?_
          refine And.intro rfl ?_
          refine br_f (show ¬ ¬ F 6 1 = 2 from fun y => y e1) ?_
          refine br_t (by decide) ?_
          refine br_t (by decide) ?_
          exact ⟨Or.inr ⟨rfl, Or.inl rfl⟩, rfl, rfl⟩
        · refine cc_of 40 rfl rfl ?_
          refine br_t kn ?_
          refine And.intro rfl ?_
          refine br_f rn ?_
          refine And.intro rfl ?_
          refine br_f (show ¬ ¬ F 6 1 = 2 from fun y => y e1) ?_
          refine br_f (by exact fun y => y rfl) ?_
          refine br_f (by exact fun y => y rfl) ?_
          exact ⟨Or.inr ⟨rfl, Or.inr rfl⟩, rfl, rfl⟩
      · have r2n : ¬ F 6 1 = 2 := fun y => r2 ((nI_eq (a := rule) (b := 2) (by omega) (by omega)).mp (e1.symm.trans y))
        rw [decide_eq_false r2]
        obtain rfl | rfl : z = 0 ∨ z = 1 := by omega
        · refine cc_of 40 rfl rfl ?_
          refine br_t kn ?_
          refine And.intro rfl ?_
          refine br_f rn ?_
          refine And.intro rfl ?_
          refine br_t r2n ?_
          refine br_t (by decide) ?_
          refine br_f (by exact fun y => y rfl) ?_
          exact ⟨Or.inr ⟨rfl, Or.inr rfl⟩, rfl, rfl⟩
        · refine cc_of 40 rfl rfl ?_
          refine br_t kn ?_
          refine And.intro rfl ?_
          refine br_f rn ?_
          refine And.intro rfl ?_
          refine br_t r2n ?_
          refine br_f (by exact fun y => y rfl) ?_
          refine br_t (by decide) ?_
          exact ⟨Or.inr ⟨rfl, Or.inl rfl⟩, rfl, rfl⟩
end
