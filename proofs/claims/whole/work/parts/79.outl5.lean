/-! Outlook: passDay. -/
theorem mz_le {C : Cp} {e k w : Nat} {fo : (Nat → Nat) → Nat} {B : Nat} (hk : k ≤ 4) (hv : ∀ s, s < qS C → qV C s w ≤ 12) (hf : ∀ g, fo g ≤ B) : ∀ d, d ≤ qS C → ∀ g, mz C e k w fo d g ≤ B := by
  intro d
  induction d with
  | zero => exact fun _ => hf
  | succ d ih => exact fun hd g => step_le hk (hv _ (by omega)) (ih (by omega))
theorem foD_le {C : Cp} {day B : Nat} {f : (Nat → Nat) → Nat} (hf : ∀ g, f g ≤ B) (g : Nat → Nat) : foD C day f g ≤ B := by
  unfold foD
  split
  · exact hf _
  · exact hf _
theorem vlK_le {C : Cp} {e day k z B : Nat} {f : (Nat → Nat) → Nat} (hk : k ≤ 4) (hz : z ≤ 1) (hb : qB C k ≤ 9) (hv : ∀ s w, s < qS C → w < 5 → qV C s w ≤ 12) (hf : ∀ g, f g ≤ B) (g : Nat → Nat) : vlK C e day f k z g ≤ 27000000 + B := by
  unfold vlK
  have h1 := mz_le (C := C) (e := e) (k := k) (w := 1 + z) (fo := foD C day f) (B := B) hk (fun s hs => hv s _ hs (by omega)) (foD_le hf) (qS C) (Nat.le_refl _) g
  have h2 : (3 - z) * 1000000 * qB C k ≤ 3 * 1000000 * 9 := Nat.mul_le_mul (Nat.mul_le_mul (by omega) (Nat.le_refl _)) hb
  omega
def gF (rule can : Nat) (v : Nat → Nat → Nat) (n : Nat) (a : Ac) : Ac := match n with
  | 0 => a
  | k + 1 => dayF (trC rule) rule can v k a
theorem gF_s (rule can : Nat) (v : Nat → Nat → Nat) (n : Nat) (a : Ac) : gF rule can v (n + 1) a = gF rule can v n (st2A (trC rule) rule can v n a) := by
  cases n with
  | zero => rfl
  | succ n => rfl
theorem mnF_min {l n : Nat} {f : Nat → Nat} (hl : l ≤ 5) : min l (mnF 5 f n) = mnF l f n := by
  apply Nat.le_antisymm
  · rw [le_mnF]
    have h1 := (le_mnF (m := 5) (k := min l (mnF 5 f n)) (f := f) n).mp (Nat.min_le_right _ _)
    exact ⟨Nat.min_le_left _ _, h1.2⟩
  · rw [Nat.le_min]
    have h1 := (le_mnF (m := l) (k := mnF l f n) (f := f) n).mp (Nat.le_refl _)
    exact ⟨h1.1, (le_mnF n).mpr ⟨by omega, h1.2⟩⟩
theorem st_up {rule k z w i : Nat} {can v : Nat → Nat} {acc : Nat → Ac} (hU : upA' rule k can v acc i = true) (hv : mayK rule k (can i) = true → v i = w) : stA rule k z (can i) w (acc i) = some (v i, k, z) := by
  obtain ⟨h1, h2⟩ := Bool.and_eq_true_iff.mp hU
  unfold stA
  rw [← hv h1, if_pos (by rw [h1, h2]; rfl)]
theorem st_no {rule k z w i : Nat} {can v : Nat → Nat} {acc : Nat → Ac} (hU : ¬ upA' rule k can v acc i = true) (hv : mayK rule k (can i) = true → v i = w) : stA rule k z (can i) w (acc i) = acc i := by
  unfold stA
  refine if_neg (fun y => hU ?_)
  obtain ⟨h1, h2⟩ := Bool.and_eq_true_iff.mp y
  rw [← hv h1] at h2
  exact Bool.and_eq_true_iff.mpr ⟨h1, h2⟩
section
variable {sc : Nat × (Nat → Int32)} {h : Hp} {F0 : Nat → Nat → Int32} {G0 : Nat → Nat → Int64} {C : Cp} {c nb br N rule e day B : Nat} {T Z : Nat → Nat} {f : (Nat → Nat) → Nat}
def PS (F0 : Nat → Nat → Int32) (G0 : Nat → Nat → Int64) (N : Nat) (F : Nat → Nat → Int32) (G : Nat → Nat → Int64) (acc : Nat → Ac) : Prop := (∀ a, a ≠ 11 → F a = F0 a) ∧ (∀ a, a ≠ 10 → a ≠ 13 → a ≠ 14 → G a = G0 a) ∧ (∀ i, i < N → G 10 i = oA (acc i)) ∧ ∀ i, i < N → okA (acc i) (F 11 i)
theorem pd_try {F : Nat → Nat → Int32} {G : Nat → Nat → Int64} {acc : Nat → Ac} {k z : Nat} (K : CK h C c nb br) (hF : Hi h F0) (hA : zA h 6 0 = c) (Q : SZ F0 (qS C) N T Z) (hk : k ≤ qL C) (hz : z ≤ 1) (hr : rule ≤ 4) (he : e ≤ 1) (e1 : F0 6 1 = nI rule) (e3 : F0 6 3 = nI e) (hB : B ≤ 800000000000) (hf : ∀ g, f g ≤ B) (h12 : ∀ i, i < N → G0 12 i = lN (foD C day f (dgN (qS C) T Z i))) (hc : ∀ i, i < N → F0 9 i = nI (canD C rule (dgN (qS C) T Z i))) (P : PS F0 G0 N F G acc) : ∃ F' G', Cc sc 30 [.ref 6, .int (nI k), .int (nI z)] (wIJ (nh h) F G) none (wIJ (nh h) F' G') ∧ PS F0 G0 N F' G' (fun i => stA rule k z (canD C rule (dgN (qS C) T Z i)) (vlK C e day f k z (dgN (qS C) T Z i)) (acc i)) := by
  have b := K.b
  obtain ⟨p1, p2, p3, p4⟩ := P
  have lr : lrR C rule ≤ 4 := by unfold lrR; split <;> omega
  have ca : ∀ i, canD C rule (dgN (qS C) T Z i) ≤ lrR C rule := fun i => mnF_le _ _ _
  have Q' : SZ F (qS C) N T Z := by
    unfold SZ
    rw [p1 8 (by decide), p1 7 (by decide), p1 6 (by decide)]
    exact Q
  have hb9 : qB C k ≤ 9 := by
    obtain ⟨k1, k2, k3, k4', k5, k6, k7, k8, k9, k10, k11, k12, k13, k14, k15, k16⟩ := K
    exact (k16 k hk).1
  obtain ⟨G1, C1, g1⟩ := c_tryDriving (sc := sc) (h := h) (F := F) (G := G) (k := k) (z := z) (rule := rule) (e := e) (B := B) (fol := fun i => foD C day f (dgN (qS C) T Z i)) (can := fun i => canD C rule (dgN (qS C) T Z i)) (v := fun i => (3 - z) * 1000000 * qB C k + mtV C T Z e k (1 + z) (fun i => foD C day f (dgN (qS C) T Z i)) (qS C) i) (acc := acc) K (fun a ha => by rw [p1 a (by omega)]; exact hF a ha) hA Q' hk hz hr he (by rw [p1 6 (by decide)]; exact e1) (by rw [p1 6 (by decide)]; exact e3) (by omega) (fun i => foD_le hf _) (fun i hi => by rw [p2 12 (by decide) (by decide) (by decide)]; exact h12 i hi) (fun i hi => ⟨by have := ca i; show canD C rule (dgN (qS C) T Z i) ≤ 5; omega, by rw [p1 9 (by decide)]; exact hc i hi⟩) (fun i hi => rfl) p3 (fun i hi x hx => (p4 i hi x hx).1)
  have ve : ∀ i, i < N → mayK rule k (canD C rule (dgN (qS C) T Z i)) = true → (3 - z) * 1000000 * qB C k + mtV C T Z e k (1 + z) (fun i => foD C day f (dgN (qS C) T Z i)) (qS C) i = vlK C e day f k z (dgN (qS C) T Z i) := fun i hi hm => by
    unfold vlK
    rw [mt_mz Q.1 (fo := foD C day f) (fun i _ => rfl) (qS C) (Nat.le_refl _) i hi (fun t _ t2 => ?_)]
    have kc : k ≤ canD C rule (dgN (qS C) T Z i) := by
      unfold mayK at hm
      split at hm
      · exact of_decide_eq_true hm
      · have := of_decide_eq_true hm
        omega
    exact ((le_mnF _).mp kc).2 t t2
  have vl := fun g => vlK_le (C := C) (e := e) (day := day) (k := k) (z := z) (B := B) (f := f) (by omega) hz hb9 (fun s w => K.v12) hf g
  refine ⟨_, _, C1, fun a ha => ?_, fun a h1 h2 h3 => ?_, fun i hi => ?_, fun i hi => ?_⟩
  · funext j
    rw [dF_o ha, p1 a ha]
  · funext j
    rw [dG_o h1, g1 a h2 h3, p2 a h1 h2 h3]
  · show _ = oA (stA rule k z (canD C rule (dgN (qS C) T Z i)) (vlK C e day f k z (dgN (qS C) T Z i)) (acc i))
    by_cases hU : upA' rule k (fun i => canD C rule (dgN (qS C) T Z i)) (fun i => (3 - z) * 1000000 * qB C k + mtV C T Z e k (1 + z) (fun i => foD C day f (dgN (qS C) T Z i)) (qS C) i) acc i = true
    · rw [st_up hU (ve i hi)]
      exact if_pos ⟨rfl, hi, hU⟩
    · rw [st_no hU (ve i hi)]
      refine (if_neg (fun y => hU y.2.2)).trans ?_
      rw [g1 10 (by decide) (by decide)]
      exact p3 i hi
  · show okA (stA rule k z (canD C rule (dgN (qS C) T Z i)) (vlK C e day f k z (dgN (qS C) T Z i)) (acc i)) _
    by_cases hU : upA' rule k (fun i => canD C rule (dgN (qS C) T Z i)) (fun i => (3 - z) * 1000000 * qB C k + mtV C T Z e k (1 + z) (fun i => foD C day f (dgN (qS C) T Z i)) (qS C) i) acc i = true
    · rw [st_up hU (ve i hi)]
      intro x hx
      cases hx
      have hm : mayK rule k (canD C rule (dgN (qS C) T Z i)) = true := (Bool.and_eq_true_iff.mp hU).1
      have := vl (dgN (qS C) T Z i)
      have ee := ve i hi hm
      exact ⟨by show (3 - z) * 1000000 * qB C k + mtV C T Z e k (1 + z) (fun i => foD C day f (dgN (qS C) T Z i)) (qS C) i < _; omega, if_pos ⟨rfl, hi, hU⟩⟩
    · rw [st_no hU (ve i hi)]
      have e : dF rule k z (fun i => canD C rule (dgN (qS C) T Z i)) (fun i => (3 - z) * 1000000 * qB C k + mtV C T Z e k (1 + z) (fun i => foD C day f (dgN (qS C) T Z i)) (qS C) i) acc F N 11 i = F 11 i := if_neg (fun y => hU y.2.2)
      rw [e]
      exact p4 i hi
theorem pd_z {F : Nat → Nat → Int32} {G : Nat → Nat → Int64} {acc : Nat → Ac} {k z : Nat} {d1 d2 d3 : Int32} (K : CK h C c nb br) (hF : Hi h F0) (hA : zA h 6 0 = c) (Q : SZ F0 (qS C) N T Z) (hk : k ≤ qL C) (hz : z ≤ 1) (hr : rule ≤ 4) (he : e ≤ 1) (e1 : F0 6 1 = nI rule) (e3 : F0 6 3 = nI e) (hB : B ≤ 800000000000) (hf : ∀ g, f g ≤ B) (h12 : ∀ i, i < N → G0 12 i = lN (foD C day f (dgN (qS C) T Z i))) (hc : ∀ i, i < N → F0 9 i = nI (canD C rule (dgN (qS C) T Z i))) (P : PS F0 G0 N F G acc) : ∃ F' G', PS F0 G0 N F' G' (fun i => if trC rule k z = true then stA rule k z (canD C rule (dgN (qS C) T Z i)) (vlK C e day f k z (dgN (qS C) T Z i)) (acc i) else acc i) ∧ ∀ r h', Rn sc (mtk 28) 94 [some (.ref 6), some (.int d1), some (.int d2), some (.int d3), some (.int (nI k)), some (.int (nI (z + 1)))] [] (wIJ (nh h) F' G') r h' → Rn sc (mtk 28) 94 [some (.ref 6), some (.int d1), some (.int d2), some (.int d3), some (.int (nI k)), some (.int (nI z))] [] (wIJ (nh h) F G) r h' := by
  have b := K.b
  have ct := c_isTried (sc := sc) (h := h) (F := F) (G := G) (rule := rule) (k := k) (z := z) hr (by omega) hz (by rw [P.1 6 (by decide)]; exact e1)
  cases ht : trC rule k z with
  | false =>
    refine ⟨F, G, ?_, fun r h' R => ?_⟩
    · simp only [Bool.false_eq_true, if_false]
      exact P
    · rw [← nI_1 z] at R
      rw [ht] at ct
      refine bk_sound (cuts := [94]) 20 _ _ _ _ ?_
      refine br_f (show ¬ 1 < nI z from nI_nlt (a := 1) (b := z) hz (by omega)) ?_
      refine And.intro ⟨rfl, rfl⟩ (And.intro rfl (Exists.intro _ (Exists.intro _ (And.intro (ct) ?_))))
      refine br_t (by rfl) ?_
      exact R
  | true =>
    obtain ⟨F', G', C1, P'⟩ := pd_try (sc := sc) (F := F) (G := G) (acc := acc) K hF hA Q hk hz hr he e1 e3 hB hf h12 hc P
    refine ⟨F', G', ?_, fun r h' R => ?_⟩
    · simp only [if_true]
      exact P'
    · rw [← nI_1 z] at R
      rw [ht] at ct
      refine bk_sound (cuts := [94]) 20 _ _ _ _ ?_
      refine br_f (show ¬ 1 < nI z from nI_nlt (a := 1) (b := z) hz (by omega)) ?_
      refine And.intro ⟨rfl, rfl⟩ (And.intro rfl (Exists.intro _ (Exists.intro _ (And.intro (ct) ?_))))
      refine br_f (by decide) ?_
      refine And.intro ⟨rfl, rfl⟩ (And.intro rfl (Exists.intro _ (Exists.intro _ (And.intro (C1) ?_))))
      exact R
theorem pd_k {d1 d2 d3 : Int32} (K : CK h C c nb br) (hF : Hi h F0) (hA : zA h 6 0 = c) (Q : SZ F0 (qS C) N T Z) (hr : rule ≤ 4) (he : e ≤ 1) (e1 : F0 6 1 = nI rule) (e3 : F0 6 3 = nI e) (hB : B ≤ 800000000000) (hf : ∀ g, f g ≤ B) (h12 : ∀ i, i < N → G0 12 i = lN (foD C day f (dgN (qS C) T Z i))) (hc : ∀ i, i < N → F0 9 i = nI (canD C rule (dgN (qS C) T Z i))) : ∀ (n : Nat) (F : Nat → Nat → Int32) (G : Nat → Nat → Int64) (acc : Nat → Ac) (o : Option Value), n ≤ qL C + 1 → PS F0 G0 N F G acc → ∃ F' G', PS F0 G0 N F' G' (fun i => gF rule (canD C rule (dgN (qS C) T Z i)) (fun k z => vlK C e day f k z (dgN (qS C) T Z i)) n (acc i)) ∧ Rn sc (mtk 28) 86 [some (.ref 6), some (.int d1), some (.int d2), some (.int d3), some (.int (nI n - 1)), o] [] (wIJ (nh h) F G) none (wIJ (nh h) F' G') := by
  intro n
  have b := K.b
  induction n with
  | zero =>
    intro F G acc o _ P
    refine ⟨F, G, P, ?_⟩
    refine bk_sound (cuts := []) 20 _ _ _ _ ?_
    refine br_t (by decide) ?_
    exact ⟨trivial, rfl, rfl⟩
  | succ n ih =>
    intro F G acc o hn P
    obtain ⟨F1, G1, P1, R1⟩ := pd_z (sc := sc) (F := F) (G := G) (acc := acc) (k := n) (z := 0) (d1 := d1) (d2 := d2) (d3 := d3) K hF hA Q (by omega) (by omega) hr he e1 e3 hB hf h12 hc P
    obtain ⟨F2, G2, P2, R2⟩ := pd_z (sc := sc) (F := F1) (G := G1) (k := n) (z := 1) (d1 := d1) (d2 := d2) (d3 := d3) K hF hA Q (by omega) (by omega) hr he e1 e3 hB hf h12 hc P1
    obtain ⟨F3, G3, P3, R3⟩ := ih F2 G2 _ (some (.int (nI 2))) (by omega) P2
    refine ⟨F3, G3, ?_, ?_⟩
    · have e : (fun i => gF rule (canD C rule (dgN (qS C) T Z i)) (fun k z => vlK C e day f k z (dgN (qS C) T Z i)) (n + 1) (acc i)) = (fun i => gF rule (canD C rule (dgN (qS C) T Z i)) (fun k z => vlK C e day f k z (dgN (qS C) T Z i)) n (if trC rule n 1 = true then stA rule n 1 (canD C rule (dgN (qS C) T Z i)) (vlK C e day f n 1 (dgN (qS C) T Z i)) (if trC rule n 0 = true then stA rule n 0 (canD C rule (dgN (qS C) T Z i)) (vlK C e day f n 0 (dgN (qS C) T Z i)) (acc i) else acc i) else (if trC rule n 0 = true then stA rule n 0 (canD C rule (dgN (qS C) T Z i)) (vlK C e day f n 0 (dgN (qS C) T Z i)) (acc i) else acc i))) := by
        funext i
        rw [gF_s]
        rfl
      rw [e]
      exact P3
    · rw [i_dec (nI n)] at R3
      have R2' := R2 none (wIJ (nh h) F3 G3) (by
        refine bk_sound (cuts := [86]) 20 _ _ _ _ ?_
        refine br_t (show 1 < nI 2 by decide) ?_
        exact R3)
      have R1' := R1 none (wIJ (nh h) F3 G3) R2'
      rw [nI_pred]
      refine bk_sound (cuts := [94]) 20 _ _ _ _ ?_
      refine br_f (nI_pos (by omega)) ?_
      exact R1'
def foG (C : Cp) (T Z : Nat → Nat) (day : Nat) (f : (Nat → Nat) → Nat) (G : Nat → Nat → Int64) (i : Nat) : Nat → Nat → Int64 := fun a j => if a = 12 ∧ j < i then lN (foD C day f (dgN (qS C) T Z j)) else G a j
theorem foG_s {G : Nat → Nat → Int64} {i : Nat} : u2L (foG C T Z day f G i) 12 i (lN (foD C day f (dgN (qS C) T Z i))) = foG C T Z day f G (i + 1) := by
  funext a j
  rw [u2L_eq]
  unfold foG
  by_cases q : a = 12 ∧ j = i
  · rw [if_pos q, if_pos ⟨q.1, by omega⟩, q.2]
  · rw [if_neg q]
    by_cases w : a = 12 ∧ j < i
    · rw [if_pos w, if_pos ⟨w.1, by omega⟩]
    · rw [if_neg w, if_neg (by omega)]
theorem pl_box (K : CK h C c nb br) (hbox : ∀ s, s < qS C → 0 < qP C → 0 < qV C s 4 → Z s = 6) (H : NS (qS C) N T Z) (hcm : cmD C day = true) (i : Nat) : ixN T (plD C (dgN (qS C) T Z i)) (qS C) < N ∧ dgN (qS C) T Z (ixN T (plD C (dgN (qS C) T Z i)) (qS C)) = plD C (dgN (qS C) T Z i) := by
  have hP := (of_decide_eq_true hcm).1
  refine H.of (fun s hs => ?_) (fun s hs => if_neg (by omega))
  have d := H.dg_lt (i := i) hs
  unfold plD
  rw [if_pos hs]
  by_cases q : 0 < qV C s 4
  · rw [hbox s hs hP q]
    omega
  · omega
theorem fo_loop {F : Nat → Nat → Int32} {G : Nat → Nat → Int64} {r : Option Value} {h' : Hp} {l : Nat} (K : CK h C c nb br) (hF : Hi h F) (hA : zA h 6 0 = c) (Q : SZ F (qS C) N T Z) (hbox : ∀ s, s < qS C → 0 < qP C → 0 < qV C s 4 → Z s = 6) (h10 : ∀ i, i < N → G 10 i = lN (f (dgN (qS C) T Z i))) (KK : Rn sc (mtk 28) 73 [some (.ref 6), some (.int (nI day)), some (.int (nI l)), some (.int (bI (cmD C day))), some (.int (nI N)), none] [] (wIJ (nh h) F (foG C T Z day f G N)) r h') : ∀ (d i : Nat), i + d = N → Rn sc (mtk 28) 31 [some (.ref 6), some (.int (nI day)), some (.int (nI l)), some (.int (bI (cmD C day))), some (.int (nI i)), none] [] (wIJ (nh h) F (foG C T Z day f G i)) r h' := by
  intro d
  have e5 : F 6 5 = nI N := Q.2.2.2
  have n216 : N ≤ 216 := Q.2.1
  induction d with
  | zero =>
    intro i hi
    obtain rfl : i = N := by omega
    refine bk_sound (cuts := [73]) 20 _ _ _ _ ?_
    refine And.intro rfl ?_
    refine br_t (show F 6 5 ≤ nI i by rw [e5]; exact nI_le (Nat.le_refl _) (by omega)) ?_
    exact KK
  | succ d ih =>
    intro i hi
    have R := ih (i + 1) (by omega)
    rw [← nI_1 i, ← foG_s] at R
    have ii : inB (nI i) 216 = true := inB_nI (by omega) (by decide)
    have ei : (nI i).toNatClampNeg = i := nI_clamp (by omega)
    cases hcm : cmD C day with
    | false =>
      rw [hcm] at R
      rw [show foD C day f (dgN (qS C) T Z i) = f (dgN (qS C) T Z i) by unfold foD; rw [hcm]; rfl] at R
      have g10 : foG C T Z day f G i 10 i = lN (f (dgN (qS C) T Z i)) := by
        unfold foG
        rw [if_neg (by omega)]
        exact h10 i (by omega)
      refine bk_sound (cuts := [31]) 40 _ _ _ _ ?_
      refine And.intro rfl ?_
      refine br_f (show ¬ F 6 5 ≤ nI i by rw [e5]; exact nI_ge (by omega) (by omega)) ?_
      refine And.intro rfl ?_
      refine And.intro rfl ?_
      refine br_t (by rfl) ?_
      refine And.intro (⟨rfl, ii⟩) ?_
      rw [ei, show zJ (wIJ (nh h) F (foG C T Z day f G i)) (zA (wIJ (nh h) F (foG C T Z day f G i)) 6 9) i = lN (f (dgN (qS C) T Z i)) from g10]
      refine And.intro (⟨rfl, ii⟩) ?_
      rw [ei]
      exact R
    | true =>
      rw [hcm] at R
      obtain ⟨x1, x2⟩ := pl_box (day := day) K hbox Q.1 hcm i
      rw [show foD C day f (dgN (qS C) T Z i) = f (plD C (dgN (qS C) T Z i)) by unfold foD; rw [hcm]; rfl] at R
      have ca := c_afterPlane (sc := sc) (G := foG C T Z day f G i) K hF hA Q (i := i) (by omega)
      generalize hx : ixN T (plD C (dgN (qS C) T Z i)) (qS C) = x at *
      have g10 : foG C T Z day f G i 10 x = lN (f (plD C (dgN (qS C) T Z i))) := by
        unfold foG
        rw [if_neg (by omega), h10 x x1, x2]
      have ix : inB (nI x) 216 = true := inB_nI (by omega) (by decide)
      have exx : (nI x).toNatClampNeg = x := nI_clamp (by omega)
      refine bk_sound (cuts := [31]) 40 _ _ _ _ ?_
      refine And.intro rfl ?_
      refine br_f (show ¬ F 6 5 ≤ nI i by rw [e5]; exact nI_ge (by omega) (by omega)) ?_
      refine And.intro rfl ?_
      refine And.intro rfl ?_
      refine br_f (by decide) ?_
      refine And.intro ⟨rfl, rfl⟩ (And.intro rfl (Exists.intro _ (Exists.intro _ (And.intro (ca) ?_))))
      refine And.intro (⟨rfl, ix⟩) ?_
      rw [exx, show zJ (wIJ (nh h) F (foG C T Z day f G i)) (zA (wIJ (nh h) F (foG C T Z day f G i)) 6 9) x = lN (f (plD C (dgN (qS C) T Z i))) from g10]
      refine And.intro (⟨rfl, ii⟩) ?_
      rw [ei]
      exact R
theorem c_passDay {F : Nat → Nat → Int32} {G : Nat → Nat → Int64} (K : CK h C c nb br) (hF : Hi h F) (hA : zA h 6 0 = c) (Q : SZ F (qS C) N T Z) (hbox : ∀ s, s < qS C → 0 < qP C → 0 < qV C s 4 → Z s = 6) (hd1 : day < 100) (hr : rule ≤ 4) (he : e ≤ 1) (e1 : F 6 1 = nI rule) (e3 : F 6 3 = nI e) (hB : B ≤ 800000000000) (hf : ∀ g, f g ≤ B) (hc : ∀ i, i < N → F 9 i = nI (canD C rule (dgN (qS C) T Z i))) (h10 : ∀ i, i < N → G 10 i = lN (f (dgN (qS C) T Z i))) : ∃ F' G', Cc sc 28 [.ref 6, .int (nI day), .int (nI (lrR C rule))] (wIJ (nh h) F G) none (wIJ (nh h) F' G') ∧ (∀ a, a ≠ 11 → F' a = F a) ∧ (∀ a, a ≠ 10 → a ≠ 12 → a ≠ 13 → a ≠ 14 → G' a = G a) ∧ (∀ i, i < N → G' 10 i = oA (dayF (trC rule) rule (canD C rule (dgN (qS C) T Z i)) (fun k z => vlK C e day f k z (dgN (qS C) T Z i)) (lrR C rule) none)) ∧ ∀ i, i < N → okA (dayF (trC rule) rule (canD C rule (dgN (qS C) T Z i)) (fun k z => vlK C e day f k z (dgN (qS C) T Z i)) (lrR C rule) none) (F' 11 i) := by
  have b := K.b
  have lr : lrR C rule ≤ qL C := by unfold lrR; split <;> omega
  have n216 : N ≤ 216 := Q.2.1
  have a6 : zA (wIJ (nh h) F G) 6 0 = c := hA
  have fc := K.f hF
  -- the follows are laid, the worths forgotten
  have P0 : PS F (va_up (foG C T Z day f G N) 10 (fun j => if j < 216 then (-1 : Int64) else G 10 j)) N F (va_up (foG C T Z day f G N) 10 (fun j => if j < 216 then (-1 : Int64) else G 10 j)) (fun _ => none) := ⟨fun _ _ => rfl, fun _ _ _ _ => rfl, fun i hi => by rw [va_up_self, if_pos (by omega)]; rfl, fun i hi x hx => by cases hx⟩
  obtain ⟨F1, G1, P1, R1⟩ := pd_k (sc := sc) (h := h) (F0 := F) (G0 := va_up (foG C T Z day f G N) 10 (fun j => if j < 216 then (-1 : Int64) else G 10 j)) (d1 := nI day) (d2 := nI (lrR C rule)) (d3 := bI (cmD C day)) K hF hA Q hr he e1 e3 hB hf (fun i hi => by rw [va_up_ne _ _ (by decide)]; exact if_pos ⟨rfl, hi⟩) hc (lrR C rule + 1) F _ _ none (by omega) P0
  obtain ⟨p1, p2, p3, p4⟩ := P1
  refine ⟨F1, G1, ?_, p1, fun a h1 h2 h3 h4 => ?_, p3, p4⟩
  · rw [nI_pred] at R1
    have FL := fo_loop (sc := sc) (h := h) (F := F) (G := G) (f := f) (day := day) (l := lrR C rule) (r := none) (h' := wIJ (nh h) F1 G1) K hF hA Q hbox h10 (by
      refine bk_sound (cuts := [86]) 20 _ _ _ _ ?_
      refine And.intro rfl ?_
      refine And.intro rfl (And.intro rfl (Exists.intro _ (Exists.intro _ (And.intro (c_fillJ (a := 10) (v := -1) rfl (show 216 < 2 ^ 31 by decide)) ?_))))
      exact R1) N 0 (by omega)
    have f0 : foG C T Z day f G 0 = G := funext fun a => funext fun j => if_neg (by omega)
    rw [f0] at FL
    have Z0 : Rn sc (mtk 28) 27 [some (.ref 6), some (.int (nI day)), some (.int (nI (lrR C rule))), none, none, none] [.int (bI (cmD C day))] (wIJ (nh h) F G) none (wIJ (nh h) F1 G1) := by
      refine bk_sound (cuts := [31]) 20 _ _ _ _ ?_
      exact FL
    refine cc_cut [27] 20 rfl rfl ?_
    refine And.intro rfl ?_
    rw [a6]
    refine And.intro (show kin 0 (zK (nh h) c) = true by rw [K.k]; rfl) ?_
    by_cases q : qP C = 0
    · refine br_t (show F c 2 ≤ 0 by rw [fc.2.2, q]; decide) ?_
      rw [show cmD C day = false from decide_eq_false (by omega)] at Z0
      exact Z0
    · refine br_f (show ¬ F c 2 ≤ 0 by rw [fc.2.2]; exact nI_ge (a := 0) (b := qP C) (by omega) (by omega)) ?_
      refine And.intro rfl ?_
      rw [a6]
      refine And.intro (show kin 0 (zK (nh h) c) = true by rw [K.k]; rfl) ?_
      rw [show zI (wIJ (nh h) F G) c 2 = nI (qP C) from fc.2.2]
      refine And.intro (fun z => q ((nI_eq (a := qP C) (b := 0) (by omega) (by omega)).mp z)) ?_
      rw [show nI day - nI day / nI (qP C) * nI (qP C) = nI (day % qP C) from pk_rem (by omega) (by omega) (by omega)]
      have ml : day % qP C ≤ day := Nat.mod_le _ _
      by_cases w : day % qP C = 0
      · refine br_f (fun z => z (by rw [w]; rfl)) ?_
        rw [show cmD C day = true from decide_eq_true ⟨by omega, w⟩] at Z0
        exact Z0
      · refine br_t (fun z => w ((nI_eq (a := day % qP C) (b := 0) (by omega) (by omega)).mp z)) ?_
        rw [show cmD C day = false from decide_eq_false (fun z => w z.2)] at Z0
        exact Z0
  · rw [p2 a h1 h3 h4, va_up_ne _ _ h1]
    funext j
    exact if_neg (fun z => h2 z.1)
end
