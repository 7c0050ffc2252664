/-! crate: the class's side -/
theorem zC_5 (C : Cp) (s : Nat) : zC C 5 s = 6 := by
  unfold zC
  split
  · rfl
  · rw [Nat.min_eq_left (by omega)]
theorem ixN_sum {T g g' g2 : Nat → Nat} : ∀ n, (∀ s, s < n → g2 s = g s + g' s) → ixN T g2 n = ixN T g n + ixN T g' n := by
  intro n
  induction n with
  | zero => intro _; rfl
  | succ n ih =>
    intro h
    show ixN T g2 n + g2 n * T n = ixN T g n + g n * T n + (ixN T g' n + g' n * T n)
    rw [ih (fun s hs => h s (by omega)), h n (by omega), Nat.add_mul]
    omega
/-- how many more of each sort, as a row -/
def itR (C : Cp) (r : Nat) : Nat → Nat := dgN (qS C) (tC C 5) (zC C 5) r
def okR (C : Cp) (r : Nat) : Prop := ∀ s, s < qS C → itR C r s + qV C s 0 < 6
def gRw (C : Cp) (r : Nat) : Nat → Nat := fun s => if s < qS C then qV C s 0 + itR C r s else 0
def wtR (C : Cp) (r : Nat) : Nat := ixN (fun s => qV C s 3) (itR C r) (qS C)
def i0C (C : Cp) : Nat := ixN (tC C 5) (fun s => qV C s 0) (qS C)
section
variable {C : Cp}
theorem row_ok (S1 : 1 ≤ qS C) (S3 : qS C ≤ 3) {r : Nat} (hr : r < nC C 5) (ok : okR C r) : i0C C + r < nC C 5 ∧ dgN (qS C) (tC C 5) (zC C 5) (i0C C + r) = gRw C r := by
  have H := NS_C S1 S3 5
  have e : i0C C + r = ixN (tC C 5) (gRw C r) (qS C) := by
    rw [ixN_sum (T := tC C 5) (g := fun s => qV C s 0) (g' := itR C r) (g2 := gRw C r) (qS C) (fun s hs => if_pos hs)]
    show _ = i0C C + ixN (tC C 5) (dgN (qS C) (tC C 5) (zC C 5) r) (qS C)
    rw [H.2.1 r hr]
  rw [e]
  refine H.of (fun s hs => ?_) (fun s hs => if_neg (by omega))
  unfold gRw
  rw [if_pos hs, zC_5]
  have := ok s hs
  omega
theorem ok_row (S1 : 1 ≤ qS C) (S3 : qS C ≤ 3) {r : Nat} (hi : i0C C + r < nC C 5) (h : ∀ s, s < qS C → qV C s 0 ≤ dgN (qS C) (tC C 5) (zC C 5) (i0C C + r) s) : okR C r := by
  have H := NS_C S1 S3 5
  have zl : ∀ s, s < qS C → dgN (qS C) (tC C 5) (zC C 5) (i0C C + r) s < 6 := fun s hs => by
    have := H.dg_lt (i := i0C C + r) hs
    rw [zC_5] at this
    exact this
  have k := H.of (g := fun s => if s < qS C then dgN (qS C) (tC C 5) (zC C 5) (i0C C + r) s - qV C s 0 else 0) (fun s hs => by
    show (if s < qS C then _ else 0) < _
    rw [if_pos hs, zC_5]
    have := zl s hs
    omega) (fun s hs => if_neg (by omega))
  have e := ixN_sum (T := tC C 5) (g := fun s => qV C s 0) (g' := fun s => if s < qS C then dgN (qS C) (tC C 5) (zC C 5) (i0C C + r) s - qV C s 0 else 0) (g2 := dgN (qS C) (tC C 5) (zC C 5) (i0C C + r)) (qS C) (fun s hs => by
    show _ = qV C s 0 + (if s < qS C then _ else 0)
    rw [if_pos hs]
    have := h s hs
    omega)
  rw [H.2.1 _ hi] at e
  have e : i0C C + r = i0C C + ixN (tC C 5) (fun s => if s < qS C then dgN (qS C) (tC C 5) (zC C 5) (i0C C + r) s - qV C s 0 else 0) (qS C) := e
  have er : ixN (tC C 5) (fun s => if s < qS C then dgN (qS C) (tC C 5) (zC C 5) (i0C C + r) s - qV C s 0 else 0) (qS C) = r := by omega
  rw [er] at k
  intro s hs
  have : itR C r s = dgN (qS C) (tC C 5) (zC C 5) (i0C C + r) s - qV C s 0 := by
    unfold itR
    rw [k.2]
    exact if_pos hs
  rw [this]
  have := zl s hs
  have := h s hs
  omega
end
/-- the best crate of the first rows -/
noncomputable def crF (C : Cp) (n w : Nat) : Nat → Nat × Nat
  | 0 => (0, 0)
  | r + 1 => @ite _ (okR C r ∧ wtR C r ≤ w ∧ (Vd C 0 0 n n (gRw C (crF C n w r).1) < Vd C 0 0 n n (gRw C r) ∨ (Vd C 0 0 n n (gRw C r) = Vd C 0 0 n n (gRw C (crF C n w r).1) ∧ wtR C r < (crF C n w r).2))) (Classical.propDecidable _) (r, wtR C r) (crF C n w r)
section
variable {C : Cp} {n w : Nat}
theorem crF_t {r : Nat} (h : okR C r ∧ wtR C r ≤ w ∧ (Vd C 0 0 n n (gRw C (crF C n w r).1) < Vd C 0 0 n n (gRw C r) ∨ (Vd C 0 0 n n (gRw C r) = Vd C 0 0 n n (gRw C (crF C n w r).1) ∧ wtR C r < (crF C n w r).2))) : crF C n w (r + 1) = (r, wtR C r) := by
  show @ite _ _ (Classical.propDecidable _) _ _ = _
  exact if_pos h
theorem crF_f {r : Nat} (h : ¬ (okR C r ∧ wtR C r ≤ w ∧ (Vd C 0 0 n n (gRw C (crF C n w r).1) < Vd C 0 0 n n (gRw C r) ∨ (Vd C 0 0 n n (gRw C r) = Vd C 0 0 n n (gRw C (crF C n w r).1) ∧ wtR C r < (crF C n w r).2)))) : crF C n w (r + 1) = crF C n w r := by
  show @ite _ _ (Classical.propDecidable _) _ _ = _
  exact if_neg h
theorem it_0 : itR C 0 = fun _ => 0 := by
  funext s
  unfold itR dgN
  split
  · rw [Nat.zero_div, Nat.zero_mod]
  · rfl
theorem wt_0 : wtR C 0 = 0 := by
  unfold wtR
  rw [it_0]
  have : ∀ n, ixN (fun s => qV C s 3) (fun _ => 0) n = 0 := by
    intro n
    induction n with
    | zero => rfl
    | succ n ih =>
      show ixN (fun s => qV C s 3) (fun _ => 0) n + 0 * qV C n 3 = 0
      rw [ih, Nat.zero_mul]
  exact this _
theorem crF_ok (hv : ∀ s, s < qS C → qV C s 0 < 6) : ∀ r, okR C (crF C n w r).1 ∧ (crF C n w r).2 = wtR C (crF C n w r).1 ∧ ((crF C n w r).1 < r ∨ (crF C n w r).1 = 0) := by
  intro r
  induction r with
  | zero => exact ⟨fun s hs => by show itR C 0 s + _ < 6; rw [it_0]; show 0 + qV C s 0 < 6; have := hv s hs; omega, wt_0.symm, Or.inr rfl⟩
  | succ r ih =>
    by_cases q : okR C r ∧ wtR C r ≤ w ∧ (Vd C 0 0 n n (gRw C (crF C n w r).1) < Vd C 0 0 n n (gRw C r) ∨ (Vd C 0 0 n n (gRw C r) = Vd C 0 0 n n (gRw C (crF C n w r).1) ∧ wtR C r < (crF C n w r).2))
    · rw [crF_t q]
      exact ⟨q.1, rfl, Or.inl (by show r < r + 1; omega)⟩
    · rw [crF_f q]
      exact ⟨ih.1, ih.2.1, ih.2.2.elim (fun z => Or.inl (by omega)) Or.inr⟩
theorem crF_1 : crF C n w 1 = (0, 0) := by
  refine crF_f (r := 0) (fun z => ?_)
  rcases z.2.2 with y | y
  · exact Nat.lt_irrefl _ y
  · have := y.2
    rw [wt_0] at this
    exact absurd this (Nat.not_lt_zero _)
theorem crF_end (S1 : 1 ≤ qS C) (S3 : qS C ≤ 3) : ∀ d r, i0C C + r = nC C 5 → r + d ≤ nC C 5 → crF C n w (r + d) = crF C n w r := by
  intro d
  induction d with
  | zero => intro r _ _; rfl
  | succ d ih =>
    intro r h1 h2
    rw [show r + (d + 1) = r + d + 1 by omega, crF_f (fun z => ?_), ih r h1 (by omega)]
    have := (row_ok S1 S3 (by omega : r + d < nC C 5) z.1).1
    omega
end
section
variable {sc : Nat × (Nat → Int32)} {h : Hp} {F : Nat → Nat → Int32} {G : Nat → Nat → Int64} {C : Cp} {c nb br n w : Nat}
theorem wt_le (K : CK h C c nb br) (r : Nat) : wtR C r < 1000 := by
  have b := K.b
  have : ∀ m, m ≤ qS C → ixN (fun s => qV C s 3) (itR C r) m ≤ 72 * m := by
    intro m
    induction m with
    | zero => exact fun _ => Nat.le_refl _
    | succ m ih =>
      intro hm
      have h1 := ih (by omega)
      have h2 : itR C r m < 6 := by
        have := (NS_C b.2.2.1 b.2.2.2.1 5).dg_lt (i := r) (by omega : m < qS C)
        rw [zC_5] at this
        exact this
      have h3 := K.v12 (by omega : m < qS C) (by decide : 3 < 5)
      have h4 : itR C r m * qV C m 3 ≤ 5 * 12 := Nat.mul_le_mul (by omega) h3
      show ixN (fun s => qV C s 3) (itR C r) m + itR C r m * qV C m 3 ≤ _
      omega
  have := this (qS C) (Nat.le_refl _)
  unfold wtR
  omega
theorem c_added (K : CK h C c nb br) (hF : Hi h F) (hA : zA h 6 0 = c) (Q : SZ F (qS C) (nC C 5) (tC C 5) (zC C 5)) {i s : Nat} (hi : i < 216) (hs : s < qS C) : Cc sc 35 [.ref 6, .int (nI i), .int (nI s)] (wIJ (nh h) F G) (some (.int (nI (dgN (qS C) (tC C 5) (zC C 5) i s) - nI (qV C s 0)))) (wIJ (nh h) F G) := by
  have b := K.b
  refine cc_of 30 rfl rfl ?_
  refine And.intro ⟨rfl, rfl⟩ (And.intro rfl (Exists.intro _ (Exists.intro _ (And.intro (c_goodIn Q b.2.2.2.1 hi hs) ?_))))
  refine And.intro rfl ?_
  rw [show zA (wIJ (nh h) F G) 6 0 = c from hA]
  refine And.intro ⟨rfl, K.k⟩ (And.intro rfl (Exists.intro _ (Exists.intro _ (And.intro (c_numF K hF hs (by decide : 0 < 5)) ?_))))
  exact ⟨Or.inl rfl, rfl, rfl⟩
theorem wa_loop (K : CK h C c nb br) (hF : Hi h F) (hA : zA h 6 0 = c) (Q : SZ F (qS C) (nC C 5) (tC C 5) (zC C 5)) {i : Nat} (hi : i < 216) {d : Nat → Nat} (hd : ∀ s, s < qS C → qV C s 0 ≤ dgN (qS C) (tC C 5) (zC C 5) i s → dgN (qS C) (tC C 5) (zC C 5) i s = qV C s 0 + d s) {v : Int32} (hv : (∀ s, s < qS C → qV C s 0 ≤ dgN (qS C) (tC C 5) (zC C 5) i s) → v = nI (ixN (fun s => qV C s 3) d (qS C))) (hv2 : (∃ s, s < qS C ∧ dgN (qS C) (tC C 5) (zC C 5) i s < qV C s 0) → v = -9) : ∀ (m s : Nat) (o : Option Value), s + m = qS C → (∀ t, t < s → qV C t 0 ≤ dgN (qS C) (tC C 5) (zC C 5) i t) → Rn sc (mtk 36) 4 [some (.ref 6), some (.int (nI i)), some (.int (nI (ixN (fun s => qV C s 3) d s))), some (.int (nI s)), o] [] (wIJ (nh h) F G) (some (.int v)) (wIJ (nh h) F G) := by
  intro m
  have b := K.b
  have a6 : zA (wIJ (nh h) F G) 6 0 = c := hA
  have kc := K.k
  have fc := K.f hF
  induction m with
  | zero =>
    intro s o hs al
    obtain rfl : s = qS C := by omega
    rw [hv al]
    refine bk_sound (cuts := []) 20 _ _ _ _ ?_
    refine And.intro rfl ?_
    rw [a6]
    refine And.intro (show kin 0 (zK (nh h) c) = true by rw [kc]; rfl) ?_
    refine br_t (show F c 1 ≤ nI (qS C) by rw [fc.2.1]; exact nI_le (Nat.le_refl _) (by omega)) ?_
    exact ⟨Or.inl rfl, rfl, rfl⟩
  | succ m ih =>
    intro s o hs al
    have z6 : dgN (qS C) (tC C 5) (zC C 5) i s < 6 := by
      have := Q.1.dg_lt (i := i) (by omega : s < qS C)
      rw [zC_5] at this
      exact this
    have v0 := K.v12 (by omega : s < qS C) (by decide : 0 < 5)
    refine bk_sound (cuts := [4]) 40 _ _ _ _ ?_
    refine And.intro rfl ?_
    rw [a6]
    refine And.intro (show kin 0 (zK (nh h) c) = true by rw [kc]; rfl) ?_
    refine br_f (show ¬ F c 1 ≤ nI s by rw [fc.2.1]; exact nI_ge (by omega) (by omega)) ?_
    refine And.intro ⟨rfl, rfl⟩ (And.intro rfl (Exists.intro _ (Exists.intro _ (And.intro (c_added K hF hA Q hi (by omega : s < qS C)) ?_))))
    by_cases q : qV C s 0 ≤ dgN (qS C) (tC C 5) (zC C 5) i s
    · have e := hd s (by omega) q
      have R := fun o => ih (s + 1) o (by omega) (fun t ht => by
        by_cases w : t = s
        · rw [w]; exact q
        · exact al t (by omega))
      have em : nI (dgN (qS C) (tC C 5) (zC C 5) i s) - nI (qV C s 0) = nI (d s) := by rw [pk_sub q, e, Nat.add_sub_cancel_left]
      rw [em]
      refine br_t (show 0 ≤ nI (d s) from (by
        rw [i_le, nI_toInt (by omega)]
        simp only [Int32.reduceToInt]
        omega)) ?_
      refine And.intro rfl ?_
      rw [a6]
      refine And.intro ⟨rfl, kc⟩ (And.intro rfl (Exists.intro _ (Exists.intro _ (And.intro (c_numF K hF (by omega : s < qS C) (by decide : 3 < 5)) ?_))))
      have R := R (some (.int (nI (d s))))
      rw [← nI_1, show ixN (fun s => qV C s 3) d (s + 1) = ixN (fun s => qV C s 3) d s + d s * qV C s 3 from rfl, ← nI_add, ← pk_mul] at R
      exact R
    · refine br_f (show ¬ 0 ≤ nI (dgN (qS C) (tC C 5) (zC C 5) i s) - nI (qV C s 0) from (by
        rw [i_le, pk_sub_toInt (by omega) (by omega)]
        simp only [Int32.reduceToInt]
        omega)) ?_
      rw [hv2 ⟨s, by omega, by omega⟩]
      exact ⟨Or.inl rfl, rfl, rfl⟩
/-- what a state has more, by its row -/
theorem c_weightAdded (K : CK h C c nb br) (hF : Hi h F) (hA : zA h 6 0 = c) (Q : SZ F (qS C) (nC C 5) (tC C 5) (zC C 5)) {r : Nat} (hi : i0C C + r < nC C 5) {v : Int32} (h1 : okR C r → v = nI (wtR C r)) (h2 : ¬ okR C r → v = -9) : Cc sc 36 [.ref 6, .int (nI (i0C C + r))] (wIJ (nh h) F G) (some (.int v)) (wIJ (nh h) F G) := by
  have b := K.b
  have n216 := Q.2.1
  by_cases q : okR C r
  · have k := row_ok b.2.2.1 b.2.2.2.1 (by omega : r < nC C 5) q
    refine cc_cut [4] 20 rfl rfl ?_
    refine wa_loop K hF hA Q (by omega) (d := itR C r) (fun s hs _ => by rw [k.2]; exact if_pos hs) (fun _ => h1 q) (fun z => ?_) (qS C) 0 none (by omega) (fun t ht => by omega)
    obtain ⟨s, s1, s2⟩ := z
    rw [k.2, show gRw C r s = qV C s 0 + itR C r s from if_pos s1] at s2
    omega
  · have nall : ¬ ∀ s, s < qS C → qV C s 0 ≤ dgN (qS C) (tC C 5) (zC C 5) (i0C C + r) s := fun z => q (ok_row b.2.2.1 b.2.2.2.1 hi z)
    refine cc_cut [4] 20 rfl rfl ?_
    exact wa_loop K hF hA Q (by omega) (d := fun s => dgN (qS C) (tC C 5) (zC C 5) (i0C C + r) s - qV C s 0) (fun s hs z => by show _ = qV C s 0 + (_ - qV C s 0); omega) (fun z => absurd z nall) (fun _ => h2 q) (qS C) 0 none (by omega) (fun t ht => by omega)
theorem bf_loop (K : CK h C c nb br) (hF : Hi h F) (hA : zA h 6 0 = c) (T : TabOK C 0 n 0 5 F G) (hw : w ≤ 30) : ∀ (d r : Nat) (o : Option Value), i0C C + r + d = nC C 5 → Rn sc (mtk 37) 10 [some (.ref 6), some (.int (nI w)), some (.int (nI (i0C C + (crF C n w r).1))), some (.int (nI (crF C n w r).2)), some (.int (nI (i0C C + r))), o] [] (wIJ (nh h) F G) (some (.int (nI (i0C C + (crF C n w (nC C 5 - i0C C)).1)))) (wIJ (nh h) F G) := by
  have b := K.b
  obtain ⟨q1, q2, q3, q4, q5, q6, q7, q8, q9, Q, q11, q12⟩ := T
  have n216 := Q.2.1
  have e5 : F 6 5 = nI (nC C 5) := Q.2.2.2
  have hv6 : ∀ s, s < qS C → qV C s 0 < 6 := fun s hs => by
    have := (K.v hs (by decide : 0 < 5)).2
    rw [show mxW 0 = 5 from rfl] at this
    omega
  have hb9 : ∀ k, k ≤ qL C → qB C k ≤ 9 := by
    obtain ⟨k1, k2, k3, k4', k5, k6, k7, k8, k9, k10, k11, k12, k13, k14, k15, k16⟩ := K
    exact fun k hk => (k16 k hk).1
  have vb := Vd_le (C := C) (rule := 0) (e := 0) (n := n) b.2.1 hb9 (fun s w => K.v12) n
  intro d
  induction d with
  | zero =>
    intro r o hr
    obtain rfl : r = nC C 5 - i0C C := by omega
    refine bk_sound (cuts := []) 20 _ _ _ _ ?_
    refine And.intro rfl ?_
    refine br_t (show F 6 5 ≤ nI (i0C C + (nC C 5 - i0C C)) by rw [e5]; exact nI_le (by omega) (by omega)) ?_
    exact ⟨Or.inl rfl, rfl, rfl⟩
  | succ d ih =>
    intro r o hr
    obtain ⟨c1, c2, c3⟩ := crF_ok (C := C) (n := n) (w := w) hv6 r
    have R := fun o => ih (r + 1) o (by omega)
    rw [show i0C C + (r + 1) = i0C C + r + 1 by omega, ← nI_1 (i0C C + r)] at R
    have wl := wt_le K r
    have wl2 := wt_le K (crF C n w r).1
    have ii : inB (nI (i0C C + r)) 216 = true := inB_nI (by omega) (by decide)
    have ei : (nI (i0C C + r)).toNatClampNeg = i0C C + r := nI_clamp (by omega)
    have kb := row_ok b.2.2.1 b.2.2.2.1 (by omega : (crF C n w r).1 < nC C 5) c1
    have ib : inB (nI (i0C C + (crF C n w r).1)) 216 = true := inB_nI (by omega) (by decide)
    have eb : (nI (i0C C + (crF C n w r).1)).toNatClampNeg = i0C C + (crF C n w r).1 := nI_clamp (by omega)
    have g10b : G 10 (i0C C + (crF C n w r).1) = lN (Vd C 0 0 n n (gRw C (crF C n w r).1)) := by rw [q11 _ kb.1, kb.2]
    by_cases ok : okR C r
    · have kr := row_ok b.2.2.1 b.2.2.2.1 (by omega : r < nC C 5) ok
      have g10r : G 10 (i0C C + r) = lN (Vd C 0 0 n n (gRw C r)) := by rw [q11 _ kr.1, kr.2]
      have ca := c_weightAdded (sc := sc) (G := G) K hF hA Q (r := r) (by omega) (v := nI (wtR C r)) (fun _ => rfl) (fun z => absurd ok z)
      have v1 := vb (gRw C r)
      have v2 := vb (gRw C (crF C n w r).1)
      refine bk_sound (cuts := [10]) 60 _ _ _ _ ?_
      refine And.intro rfl ?_
      refine br_f (show ¬ F 6 5 ≤ nI (i0C C + r) by rw [e5]; exact nI_ge (by omega) (by omega)) ?_
      refine And.intro ⟨rfl, rfl⟩ (And.intro rfl (Exists.intro _ (Exists.intro _ (And.intro (ca) ?_))))
      refine br_f (show ¬ nI (wtR C r) = -9 from fun z => by
        have := congrArg Int32.toInt z
        rw [nI_toInt (by omega), tm9] at this
        omega) ?_
      by_cases w1 : wtR C r ≤ w
      · refine br_t (nI_le w1 (by omega)) ?_
        refine And.intro rfl ?_
        refine And.intro (⟨rfl, ii⟩) ?_
        rw [ei, show zJ (wIJ (nh h) F G) (zA (wIJ (nh h) F G) 6 9) (i0C C + r) = lN (Vd C 0 0 n n (gRw C r)) from g10r]
        refine And.intro rfl ?_
        refine And.intro (⟨rfl, ib⟩) ?_
        rw [eb, show zJ (wIJ (nh h) F G) (zA (wIJ (nh h) F G) 6 9) (i0C C + (crF C n w r).1) = lN (Vd C 0 0 n n (gRw C (crF C n w r).1)) from g10b]
        by_cases w2 : Vd C 0 0 n n (gRw C (crF C n w r).1) < Vd C 0 0 n n (gRw C r)
        · refine br_t (show 0 < lg_cmp (lN (Vd C 0 0 n n (gRw C r))) (lN (Vd C 0 0 n n (gRw C (crF C n w r).1))) by rw [cmp_gt, pk_lT (by omega), pk_lT (by omega)]; omega) ?_
          rw [crF_t ⟨ok, w1, Or.inl w2⟩] at R
          exact R _
        · refine br_f (show ¬ 0 < lg_cmp (lN (Vd C 0 0 n n (gRw C r))) (lN (Vd C 0 0 n n (gRw C (crF C n w r).1))) by rw [cmp_gt, pk_lT (by omega), pk_lT (by omega)]; omega) ?_
          refine And.intro rfl ?_
          refine And.intro (⟨rfl, ii⟩) ?_
          rw [ei, show zJ (wIJ (nh h) F G) (zA (wIJ (nh h) F G) 6 9) (i0C C + r) = lN (Vd C 0 0 n n (gRw C r)) from g10r]
          refine And.intro rfl ?_
          refine And.intro (⟨rfl, ib⟩) ?_
          rw [eb, show zJ (wIJ (nh h) F G) (zA (wIJ (nh h) F G) 6 9) (i0C C + (crF C n w r).1) = lN (Vd C 0 0 n n (gRw C (crF C n w r).1)) from g10b]
          by_cases w3 : Vd C 0 0 n n (gRw C r) = Vd C 0 0 n n (gRw C (crF C n w r).1)
          · refine br_f (show ¬ ¬ lg_cmp (lN (Vd C 0 0 n n (gRw C r))) (lN (Vd C 0 0 n n (gRw C (crF C n w r).1))) = 0 from fun z => z (by rw [cmp_eq0, w3])) ?_
            by_cases w4 : wtR C r < (crF C n w r).2
            · refine br_f (nI_ge w4 (by omega)) ?_
              rw [crF_t ⟨ok, w1, Or.inr ⟨w3, w4⟩⟩] at R
              exact R _
            · refine br_t (nI_le (by omega) (by omega)) ?_
              rw [crF_f (fun z => by rcases z.2.2 with y | y; exact w2 y; exact w4 y.2)] at R
              exact R _
          · refine br_t (show ¬ lg_cmp (lN (Vd C 0 0 n n (gRw C r))) (lN (Vd C 0 0 n n (gRw C (crF C n w r).1))) = 0 by rw [cmp_eq0, pk_lT (by omega), pk_lT (by omega)]; omega) ?_
            rw [crF_f (fun z => by rcases z.2.2 with y | y; exact w2 y; exact w3 y.1)] at R
            exact R _
      · refine br_f (nI_ge (by omega) (by omega)) ?_
        rw [crF_f (fun z => w1 z.2.1)] at R
        exact R _
    · have ca := c_weightAdded (sc := sc) (G := G) K hF hA Q (r := r) (by omega) (v := -9) (fun z => absurd z ok) (fun _ => rfl)
      refine bk_sound (cuts := [10]) 60 _ _ _ _ ?_
      refine And.intro rfl ?_
      refine br_f (show ¬ F 6 5 ≤ nI (i0C C + r) by rw [e5]; exact nI_ge (by omega) (by omega)) ?_
      refine And.intro ⟨rfl, rfl⟩ (And.intro rfl (Exists.intro _ (Exists.intro _ (And.intro (ca) ?_))))
      refine br_t rfl ?_
      rw [crF_f (fun z => ok z.1)] at R
      exact R _
theorem c_bestFilled (K : CK h C c nb br) (hF : Hi h F) (hA : zA h 6 0 = c) (T : TabOK C 0 n 0 5 F G) (hw : w ≤ 30) : Cc sc 37 [.ref 6, .int (nI w)] (wIJ (nh h) F G) (some (.int (nI (i0C C + (crF C n w (nC C 5)).1)))) (wIJ (nh h) F G) := by
  have b := K.b
  have L := bf_loop (sc := sc) K hF hA T hw
  obtain ⟨q1, q2, q3, q4, q5, q6, q7, q8, q9, Q, q11, q12⟩ := T
  have x1 : i0C C < nC C 5 := (now_ix K 5).1
  have L := L (nC C 5 - i0C C) 0 none (by omega)
  have e := crF_end (C := C) (n := n) (w := w) b.2.2.1 b.2.2.2.1 (i0C C) (nC C 5 - i0C C) (by omega) (by omega)
  rw [show nC C 5 - i0C C + i0C C = nC C 5 by omega] at e
  rw [← e] at L
  have cs := c_stateNow (sc := sc) (G := G) K hF hA Q
  refine cc_cut [10] 20 rfl rfl ?_
  refine And.intro ⟨rfl, rfl⟩ (And.intro rfl (Exists.intro _ (Exists.intro _ (And.intro (cs) ?_))))
  exact L
end
