/-! Outlook: what is asked of the table; rule NEVER. -/
def g0C (C : Cp) : Nat → Nat := fun s => if s < qS C then qV C s 0 else 0
section
variable {sc : Nat × (Nat → Int32)} {h : Hp} {F : Nat → Nat → Int32} {G : Nat → Nat → Int64} {C : Cp} {c nb br sp rule n e : Nat}
theorem now_ix (K : CK h C c nb br) (sp : Nat) : ixN (tC C sp) (fun s => qV C s 0) (qS C) < nC C sp ∧ dgN (qS C) (tC C sp) (zC C sp) (ixN (tC C sp) (fun s => qV C s 0) (qS C)) = g0C C := by
  have b := K.b
  have e : ixN (tC C sp) (fun s => qV C s 0) (qS C) = ixN (tC C sp) (g0C C) (qS C) := ixN_congr _ (fun s hs => (if_pos hs).symm)
  rw [e]
  refine (NS_C b.2.2.1 b.2.2.2.1 sp).of (fun s hs => ?_) (fun s hs => if_neg (by omega))
  unfold g0C
  rw [if_pos hs]
  have v0 := (K.v hs (by decide : 0 < 5)).2
  rw [show mxW 0 = 5 from rfl] at v0
  unfold zC
  split <;> omega
theorem c_worthNow (K : CK h C c nb br) (hF : Hi h F) (hA : zA h 6 0 = c) (T : TabOK C rule n e sp F G) : Cc sc 20 [.ref 6] (wIJ (nh h) F G) (some (.long (lN (Vd C rule e n n (g0C C))))) (wIJ (nh h) F G) := by
  obtain ⟨q1, q2, q3, q4, q5, q6, q7, q8, q9, q10, q11, q12⟩ := T
  obtain ⟨x1, x2⟩ := now_ix K sp
  have cs := c_stateNow (sc := sc) (G := G) K hF hA q10
  have n216 := q10.2.1
  generalize hx : ixN (tC C sp) (fun s => qV C s 0) (qS C) = x at *
  refine cc_of 20 rfl rfl ?_
  refine And.intro rfl ?_
  refine And.intro ⟨rfl, rfl⟩ (And.intro rfl (Exists.intro _ (Exists.intro _ (And.intro (cs) ?_))))
  refine And.intro (⟨rfl, inB_nI (n := 216) (by omega) (by decide)⟩) ?_
  rw [nI_clamp (by omega)]
  exact ⟨trivial, congrArg (fun v => some (Value.long v)) (show G 10 x = _ by rw [q11 x x1, x2]), rfl⟩
theorem c_choiceNow (K : CK h C c nb br) (hF : Hi h F) (hA : zA h 6 0 = c) (T : TabOK C rule n e sp F G) : Cc sc 21 [.ref 6] (wIJ (nh h) F G) (some (.int (nI (2 * (Kd C rule e n (n - 1) (g0C C)).1 + (Kd C rule e n (n - 1) (g0C C)).2)))) (wIJ (nh h) F G) := by
  obtain ⟨q1, q2, q3, q4, q5, q6, q7, q8, q9, q10, q11, q12⟩ := T
  obtain ⟨x1, x2⟩ := now_ix K sp
  have cs := c_stateNow (sc := sc) (G := G) K hF hA q10
  have n216 := q10.2.1
  generalize hx : ixN (tC C sp) (fun s => qV C s 0) (qS C) = x at *
  refine cc_of 20 rfl rfl ?_
  refine And.intro rfl ?_
  refine And.intro ⟨rfl, rfl⟩ (And.intro rfl (Exists.intro _ (Exists.intro _ (And.intro (cs) ?_))))
  refine And.intro (⟨rfl, inB_nI (n := 216) (by omega) (by decide)⟩) ?_
  rw [nI_clamp (by omega)]
  exact ⟨Or.inl rfl, congrArg (fun v => some (Value.int v)) (show F 11 x = _ by rw [q12 x x1, x2]), rfl⟩
/-- with one more of a sort, one less of another -/
def g1C (C : Cp) (got giv : Option Nat) : Nat → Nat := fun s => g0C C s + (if got = some s then 1 else 0) - (if giv = some s then 1 else 0)
theorem ixN_add {T : Nat → Nat} {g g' : Nat → Nat} {s : Nat} (h1 : g' s = g s + 1) (h2 : ∀ t, t ≠ s → g' t = g t) : ∀ n, ixN T g' n = ixN T g n + (if s < n then T s else 0) := by
  intro n
  induction n with
  | zero => rfl
  | succ n ih =>
    show ixN T g' n + g' n * T n = ixN T g n + g n * T n + _
    rw [ih]
    by_cases e : n = s
    · subst e
      rw [h1, if_neg (Nat.lt_irrefl _), if_pos (by omega), Nat.add_mul, Nat.one_mul]
      omega
    · rw [h2 n e]
      by_cases q : s < n
      · rw [if_pos q, if_pos (by omega)]
        omega
      · rw [if_neg q, if_neg (by omega)]
        omega
def okG (C : Cp) (got giv : Option Nat) : Prop := (∀ s, got = some s → s < qS C ∧ qV C s 0 < 5) ∧ (∀ s, giv = some s → s < qS C ∧ 0 < qV C s 0) ∧ ∀ s, ¬ (got = some s ∧ giv = some s)
def oT (T : Nat → Nat) (x : Option Nat) : Nat := match x with
  | none => 0
  | some s => T s
theorem g1_ix {got giv : Option Nat} (ok : okG C got giv) (T : Nat → Nat) : ixN T (g1C C got giv) (qS C) + oT T giv = ixN T (g0C C) (qS C) + oT T got := by
  obtain ⟨k1, k2, k3⟩ := ok
  have a1 : ixN T (g1C C got none) (qS C) = ixN T (g0C C) (qS C) + oT T got := by
    cases hg : got with
    | none =>
      show _ = _ + 0
      rw [Nat.add_zero]
      refine ixN_congr _ (fun s _ => ?_)
      unfold g1C
      simp
    | some s =>
      rw [ixN_add (g := g0C C) (g' := g1C C (some s) none) (s := s) (by unfold g1C; simp) (fun t ht => by unfold g1C; rw [if_neg (fun z => ht (Option.some.inj z).symm)]; simp), if_pos (k1 s hg).1]
      rfl
  cases hv : giv with
  | none => exact a1
  | some s =>
    have := ixN_add (T := T) (g := g1C C got (some s)) (g' := g1C C got none) (s := s) (by
      have k := k2 s hv
      have n : ¬ got = some s := fun z => k3 s ⟨z, hv⟩
      unfold g1C g0C
      rw [if_neg n, if_pos k.1]
      simp
      omega) (fun t ht => by
      unfold g1C
      rw [if_neg (fun z => ht (Option.some.inj z).symm)]
      simp) (qS C)
    rw [if_pos (k2 s hv).1, a1] at this
    show _ + T s = _
    omega
theorem g1_box (K : CK h C c nb br) {got giv : Option Nat} (ok : okG C got giv) (hsp : 1 ≤ sp) : ixN (tC C sp) (g1C C got giv) (qS C) < nC C sp ∧ dgN (qS C) (tC C sp) (zC C sp) (ixN (tC C sp) (g1C C got giv) (qS C)) = g1C C got giv := by
  have b := K.b
  obtain ⟨k1, k2, k3⟩ := ok
  refine (NS_C b.2.2.1 b.2.2.2.1 sp).of (fun s hs => ?_) (fun s hs => ?_)
  · have v0 := (K.v hs (by decide : 0 < 5)).2
    rw [show mxW 0 = 5 from rfl] at v0
    unfold g1C g0C zC
    rw [if_pos hs]
    by_cases q : got = some s
    · have := (k1 s q).2
      rw [if_pos q]
      split <;> split <;> omega
    · rw [if_neg q]
      split <;> split <;> omega
  · unfold g1C g0C
    rw [if_neg (by omega), if_neg (fun z => by have := (k1 s z).1; omega)]
    simp
theorem c_gain (K : CK h C c nb br) (hF : Hi h F) (hA : zA h 6 0 = c) (T : TabOK C rule n e sp F G) {got giv : Option Nat} (ok : okG C got giv) (hsp : 1 ≤ sp) : Cc sc 22 [.ref 6, .int (oI got), .int (oI giv)] (wIJ (nh h) F G) (some (.long (lN (Vd C rule e n n (g1C C got giv)) - lN (Vd C rule e n n (g0C C))))) (wIJ (nh h) F G) := by
  have b := K.b
  obtain ⟨q1, q2, q3, q4, q5, q6, q7, q8, q9, q10, q11, q12⟩ := T
  obtain ⟨x1, x2⟩ := now_ix K sp
  obtain ⟨y1, y2⟩ := g1_box K ok hsp
  have cs := c_stateNow (sc := sc) (G := G) K hF hA q10
  have n216 := q10.2.1
  have e0 : ixN (tC C sp) (fun s => qV C s 0) (qS C) = ixN (tC C sp) (g0C C) (qS C) := ixN_congr _ (fun s hs => (if_pos hs).symm)
  have ei := g1_ix ok (tC C sp)
  rw [← e0] at ei
  generalize hx : ixN (tC C sp) (fun s => qV C s 0) (qS C) = x at *
  generalize hy : ixN (tC C sp) (g1C C got giv) (qS C) = y at *
  obtain ⟨k1, k2, k3⟩ := ok
  have ne9 : ∀ s, s < 3 → ¬ nI s = -9 := fun s hs z => by
    have := congrArg Int32.toInt z
    rw [nI_toInt (by omega), tm9] at this
    omega
  have tb : ∀ s, s < qS C → inB (nI s) 3 = true ∧ (nI s).toNatClampNeg = s ∧ F 8 s = nI (tC C sp s) := fun s hs => ⟨inB_nI (by omega) (by decide), nI_clamp (by omega), (q10.2.2.1 s hs).2.2.1⟩
  have gb : ∀ s, got = some s → tC C sp s ≤ 216 := fun s z => (q10.2.2.1 s (k1 s z).1).2.1
  have vb : ∀ s, giv = some s → tC C sp s ≤ 216 := fun s z => (q10.2.2.1 s (k2 s z).1).2.1
  -- the end
  have E : ∀ z : Int32, z = nI y → Rn sc (mtk 22) 40 [some (.ref 6), some (.int (oI got)), some (.int (oI giv)), some (.int (nI x)), none] [.int z] (wIJ (nh h) F G) (some (.long (lN (Vd C rule e n n (g1C C got giv)) - lN (Vd C rule e n n (g0C C))))) (wIJ (nh h) F G) := fun z hz => by
    subst hz
    refine bk_sound (cuts := []) 30 _ _ _ _ ?_
    refine And.intro rfl ?_
    refine And.intro (⟨rfl, inB_nI (n := 216) (by omega) (by decide)⟩) ?_
    rw [nI_clamp (by omega), show zJ (wIJ (nh h) F G) (zA (wIJ (nh h) F G) 6 9) y = lN (Vd C rule e n n (g1C C got giv)) from (by show G 10 y = _; rw [q11 y y1, y2])]
    refine And.intro rfl ?_
    refine And.intro (⟨rfl, inB_nI (n := 216) (by omega) (by decide)⟩) ?_
    rw [nI_clamp (by omega), show zJ (wIJ (nh h) F G) (zA (wIJ (nh h) F G) 6 9) x = lN (Vd C rule e n n (g0C C)) from (by show G 10 x = _; rw [q11 x x1, x2])]
    exact ⟨trivial, rfl, rfl⟩
  have M : ∀ z : Int32, z = nI (x + oT (tC C sp) got) → Rn sc (mtk 22) 23 [some (.ref 6), some (.int (oI got)), some (.int (oI giv)), some (.int (nI x)), none] [.int z] (wIJ (nh h) F G) (some (.long (lN (Vd C rule e n n (g1C C got giv)) - lN (Vd C rule e n n (g0C C))))) (wIJ (nh h) F G) := fun z hz => by
    subst hz
    cases hv : giv with
    | none =>
      rw [hv] at E ei
      refine bk_sound (cuts := [40]) 20 _ _ _ _ ?_
      refine br_f (by exact fun z => z rfl) ?_
      refine E _ ?_
      have ei : y + 0 = x + oT (tC C sp) got := ei
      rw [show (0 : Int32) = nI 0 from rfl, pk_sub (Nat.zero_le _), Nat.sub_zero, ← ei, Nat.add_zero]
    | some s =>
      have k := tb s (k2 s hv).1
      rw [hv] at E ei
      refine bk_sound (cuts := [40]) 20 _ _ _ _ ?_
      refine br_t (show ¬ nI s = -9 from ne9 s (by have := (k2 s hv).1; omega)) ?_
      refine And.intro rfl ?_
      refine And.intro (show _ ∧ inB (nI s) 3 = true from ⟨rfl, k.1⟩) ?_
      refine E _ ?_
      show nI (x + oT (tC C sp) got) - F 8 (nI s).toNatClampNeg = nI y
      have ei : y + tC C sp s = x + oT (tC C sp) got := ei
      rw [k.2.1, k.2.2, ← ei, pk_sub (by omega), Nat.add_sub_cancel]
  refine cc_cut [23] 30 rfl rfl ?_
  refine And.intro ⟨rfl, rfl⟩ (And.intro rfl (Exists.intro _ (Exists.intro _ (And.intro (cs) ?_))))
  cases hg : got with
  | none =>
    rw [hg] at M
    refine br_f (by exact fun z => z rfl) ?_
    refine M _ ?_
    rw [show (0 : Int32) = nI 0 from rfl, nI_add]
    rfl
  | some s =>
    have k := tb s (k1 s hg).1
    rw [hg] at M
    refine br_t (show ¬ nI s = -9 from ne9 s (by have := (k1 s hg).1; omega)) ?_
    refine And.intro rfl ?_
    refine And.intro (show _ ∧ inB (nI s) 3 = true from ⟨rfl, k.1⟩) ?_
    refine M _ ?_
    show nI x + F 8 (nI s).toNatClampNeg = nI (x + tC C sp s)
    rw [k.2.1, k.2.2, nI_add]
/-! NEVER -/
def lzN (C : Cp) (e : Nat) (f : Nat → Nat) : Nat → Nat → Nat
  | 0, m => f m
  | j + 1, m => mnE e (sumC m (qV C (qS C - 1 - j) 1) (fun i => lzN C e f j (m - i)) (m + 1)) (12 ^ m)
def Ln (C : Cp) (e : Nat) : Nat → Nat → Nat
  | 0, _ => 0
  | d + 1, m => (if m ≤ qL C then 3000000 * qB C m else 0) + lzN C e (Ln C e d) (qS C) m
theorem lz_le {e : Nat} {f : Nat → Nat} {B : Nat} (hv : ∀ s, s < qS C → qV C s 1 ≤ 12) (hf : ∀ m, m ≤ 4 → f m ≤ B) : ∀ j, j ≤ qS C → ∀ m, m ≤ 4 → lzN C e f j m ≤ B := by
  intro j
  induction j with
  | zero => exact fun _ m hm => hf m hm
  | succ j ih =>
    intro hj m hm
    exact mnE_le (Nat.pow_pos (by decide)) (sumC_b hm (hv _ (by omega)) (fun i hi => ih (by omega) (m - i) (by omega))).1
theorem Ln_le {e : Nat} (hv : ∀ s, s < qS C → qV C s 1 ≤ 12) (hb : ∀ k, k ≤ qL C → qB C k ≤ 9) : ∀ d m, m ≤ 4 → Ln C e d m ≤ 27000000 * d := by
  intro d
  induction d with
  | zero => exact fun m _ => Nat.le_refl _
  | succ d ih =>
    intro m hm
    have h1 := lz_le (C := C) (e := e) (f := Ln C e d) hv ih (qS C) (Nat.le_refl _) m hm
    show (if m ≤ qL C then 3000000 * qB C m else 0) + lzN C e (Ln C e d) (qS C) m ≤ _
    by_cases q : m ≤ qL C
    · have := hb m q
      rw [if_pos q]
      omega
    · rw [if_neg q]
      omega
theorem lz_0 {e : Nat} {f : Nat → Nat} : ∀ j, lzN C e f j 0 = f 0 := by
  intro j
  induction j with
  | zero => rfl
  | succ j ih =>
    show mnE e (0 + chR 0 _ 0 * lzN C e f j (0 - 0)) 1 = f 0
    rw [Nat.sub_zero, ih, show ∀ h, chR 0 h 0 = 1 from fun _ => rfl, Nat.zero_add, Nat.one_mul]
    have := mnE_id (e := e) (v := f 0) (a := 1) (by decide)
    rw [Nat.one_mul] at this
    exact this
theorem canRunC_loop (K : CK h C c nb br) (hF : Hi h F) : ∀ (d s : Nat), s + d = qS C → Rn sc (mtk 7) 7 [some (.ref c), some (.int (nI (mnF (qL C) (fun s => qV C s 0) s))), some (.int (nI s))] [] (wIJ (nh h) F G) (some (.int (nI (mnF (qL C) (fun s => qV C s 0) (qS C))))) (wIJ (nh h) F G) := by
  intro d
  have b := K.b
  have kc := K.k
  have fc := K.f hF
  induction d with
  | zero =>
    intro s hs
    obtain rfl : s = qS C := by omega
    refine bk_sound (cuts := []) 20 _ _ _ _ ?_
    refine And.intro (show kin 0 (zK (nh h) c) = true by rw [kc]; rfl) ?_
    refine br_t (show F c 1 ≤ nI (qS C) by rw [fc.2.1]; exact nI_le (Nat.le_refl _) (by omega)) ?_
    exact ⟨Or.inl rfl, rfl, rfl⟩
  | succ d ih =>
    intro s hs
    have R := ih (s + 1) (by omega)
    have e1 := mnF_le (qL C) (fun s => qV C s 0) s
    have e2 := K.v12 (by omega : s < qS C) (by decide : 0 < 5)
    rw [← nI_1] at R
    refine bk_sound (cuts := [7]) 30 _ _ _ _ ?_
    refine And.intro (show kin 0 (zK (nh h) c) = true by rw [kc]; rfl) ?_
    refine br_f (show ¬ F c 1 ≤ nI s by rw [fc.2.1]; exact nI_ge (by omega) (by omega)) ?_
    refine And.intro ⟨rfl, kc⟩ (And.intro rfl (Exists.intro _ (Exists.intro _ (And.intro (c_numF K hF (by omega : s < qS C) (by decide : 0 < 5)) ?_))))
    refine And.intro rfl ?_
    rw [min_nI (a := mnF (qL C) (fun s => qV C s 0) s) (b := qV C s 0) (by omega) (by omega)]
    exact R
theorem c_canRunC (K : CK h C c nb br) (hF : Hi h F) : Cc sc 7 [.ref c] (wIJ (nh h) F G) (some (.int (nI (mnF (qL C) (fun s => qV C s 0) (qS C))))) (wIJ (nh h) F G) := by
  refine cc_cut [7] 20 rfl rfl ?_
  refine And.intro (show kin 0 (zK (nh h) c) = true by rw [K.k]; rfl) ?_
  rw [show zI (wIJ (nh h) F G) c 0 = nI (qL C) from (K.f hF).1]
  exact canRunC_loop K hF (qS C) 0 (by omega)
end
