/-! the law's calls: both sides with one answer, and all is as it should be again -/
def Inv (h : Hp) : Prop := Sim0 h ∧ OutI h ∧ WayI h
/-- a return that the method's own type rules out never comes -/
theorem rn_any {sc : Nat × (Nat → Int32)} {mt : Mt} {pc : Nat} {ls : Ls} {st : List Value} {h h' : Hp} {r : Option Value} (hn : ∀ pc', ¬ RetAt mt pc' r) (R : Rn sc mt pc ls st h r h') (r' : Option Value) : Rn sc mt pc ls st h r' h' :=
  ⟨R.1, R.2.1, R.2.2.1, fun p l e RR s m args below meth c D b cy cs z0 y0 Q C h1 h2 h3 _ => R.2.2.2 p l e RR s m args below meth c D b cy cs z0 y0 Q C h1 h2 h3 (fun pc' _ _ _ _ _ q => absurd q (hn pc'))⟩
theorem ret_int {mt : Mt} {pc : Nat} {r : Value} (e : mR mt.1 = some .int) (q : RetAt mt pc (some r)) : ∃ v, r = .int v := by
  cases r with
  | int v => exact ⟨v, rfl⟩
  | long v =>
    have : mR mt.1 = some .long := q.2
    rw [e] at this
    cases this
  | ref v =>
    obtain ⟨-, t, q1, q2⟩ := q
    rw [e] at q1
    cases q1
    cases q2
  | _ => exact absurd q id
theorem ret_long {mt : Mt} {pc : Nat} {r : Value} (e : mR mt.1 = some .long) (q : RetAt mt pc (some r)) : ∃ v, r = .long v := by
  cases r with
  | long v => exact ⟨v, rfl⟩
  | int v =>
    have : mR mt.1 = some .int ∨ _ := q.2
    rw [e] at this
    rcases this with z | ⟨z, -⟩ <;> cases z
  | ref v =>
    obtain ⟨-, t, q1, q2⟩ := q
    rw [e] at q1
    cases q1
    cases q2
  | _ => exact absurd q id
section
variable {sc : Nat × (Nat → Int32)} {h : Hp} {kx km : Nat} {as : List Value}
def OpV (sc : Nat × (Nat → Int32)) (kx km : Nat) (as : List Value) (h : Hp) : Prop := ∃ r h1 h2, Cc sc kx (.ref 1 :: as) h (some r) h1 ∧ Cc sc km (.ref 39 :: as) h1 (some r) h2 ∧ Inv h2
theorem Op2.v (o : Op2 sc kx km as h) (I : Inv h) : OpV sc kx km as h := by
  obtain ⟨r, h1, h2, a, b, c, d, e⟩ := o
  exact ⟨r, h1, h2, a, b, c, OutI_kp I.2.1 d, WayI_kp I.2.2 e⟩
theorem Op1.v (o : Op1 sc kx km as h) (I : Inv h) : OpV sc kx km as h := o.two.v I
theorem Op0.v (o : Op0 sc kx km as h) (I : Inv h) : OpV sc kx km as h := o.one.v I
theorem Op3.v (o : Op3 sc kx km as h) (I : Inv h) : OpV sc kx km as h := by
  obtain ⟨r, h1, h2, a, b, c, d, e⟩ := o
  exact ⟨r, h1, h2, a, b, c, OutI_kp I.2.1 (Or.inl d), e⟩
theorem Op4.v (o : Op4 sc kx km as h) (I : Inv h) : OpV sc kx km as h := by
  obtain ⟨r, h1, h2, a, b, c, d, e⟩ := o
  exact ⟨r, h1, h2, a, b, c, d, WayI_kp I.2.2 e⟩
theorem kind_39 {r : Option Value} {h1 : Hp} (hS : Sim0 h) (X : Cc sc kx (.ref 1 :: as) h r h1) : zK h 1 = 10 ∧ zK h1 39 = 11 := by
  have z := hS.2.2.2.2.2.1
  refine ⟨(hS.1.1 1 (by decide)).1, ?_⟩
  rw [X.2.2.2.2.1 39 (by omega), (hS.1.1 39 (by decide)).1]
  rfl
theorem OpV.int (o : OpV sc kx km as h) (ex : mR (mtk kx).1 = some .int) (em : mR (mtk km).1 = some .int) (hS : Sim0 h) : ∃ v h1 h2, Cc sc kx (.ref 1 :: as) h (some (.int v)) h1 ∧ Cc sc km (.ref 39 :: as) h1 (some (.int v)) h2 ∧ zK h 1 = 10 ∧ zK h1 39 = 11 ∧ Inv h2 := by
  obtain ⟨r, h1, h2, X, M, I⟩ := o
  obtain ⟨k1, k2⟩ := kind_39 hS X
  by_cases q : ∃ v, r = .int v
  · obtain ⟨v, rfl⟩ := q
    exact ⟨v, h1, h2, X, M, k1, k2, I⟩
  · exact ⟨0, h1, h2, ⟨X.1, X.2.1, rn_any (fun pc' z => q (ret_int ex z)) X.2.2 _⟩, ⟨M.1, M.2.1, rn_any (fun pc' z => q (ret_int em z)) M.2.2 _⟩, k1, k2, I⟩
theorem OpV.long (o : OpV sc kx km as h) (ex : mR (mtk kx).1 = some .long) (em : mR (mtk km).1 = some .long) (hS : Sim0 h) : ∃ v h1 h2, Cc sc kx (.ref 1 :: as) h (some (.long v)) h1 ∧ Cc sc km (.ref 39 :: as) h1 (some (.long v)) h2 ∧ zK h 1 = 10 ∧ zK h1 39 = 11 ∧ Inv h2 := by
  obtain ⟨r, h1, h2, X, M, I⟩ := o
  obtain ⟨k1, k2⟩ := kind_39 hS X
  by_cases q : ∃ v, r = .long v
  · obtain ⟨v, rfl⟩ := q
    exact ⟨v, h1, h2, X, M, k1, k2, I⟩
  · exact ⟨0, h1, h2, ⟨X.1, X.2.1, rn_any (fun pc' z => q (ret_long ex z)) X.2.2 _⟩, ⟨M.1, M.2.1, rn_any (fun pc' z => q (ret_long em z)) M.2.2 _⟩, k1, k2, I⟩
end
theorem inv_room {h : Hp} (I : Inv h) : zc h ≤ 600000 ∧ zs h ≤ 7302250 := by
  obtain ⟨np, c1, c2, -⟩ := I.1.2.2.2.2.1
  obtain ⟨nc, d1, d2, -⟩ := I.1.2.2.2.1
  obtain ⟨-, y2, y3, -⟩ := I.1.2.2.2.2.2
  rw [c2, d2, nI_clamp (by omega), nI_clamp (by omega)] at y2 y3
  omega
set_option maxRecDepth 100000 in
theorem inv_hI : Inv hI := ⟨sim0_hI, Or.inl (by decide +kernel), Or.inl (by decide +kernel)⟩
/-- a part of a method's rows serves where it has all that is met -/
theorem bk_sub {sc : Nat × (Nat → Int32)} {cuts : List Nat} {r : Option Value} {h' : Hp} {K : Nat → Ls → List Value → Hp → Prop} {mr : Mr} {c c' : List Rw} (hsub : ∀ row ∈ c', cAt c row.1 = some row) : ∀ (n pc : Nat) (ls : Ls) (st : List Value) (h : Hp), bk sc cuts r h' K (mr, c') n pc ls st h → bk sc cuts r h' K (mr, c) n pc ls st h := by
  intro n
  induction n with
  | zero => exact fun pc ls st h hk => hk
  | succ n ih =>
    intro pc ls st h hk
    have cut : ∀ (pc1 : Nat) (ls1 : Ls) (st1 : List Value) (h1 : Hp), (match cuts.contains pc1 with
      | true => K pc1 ls1 st1 h1
      | false => bk sc cuts r h' K (mr, c') n pc1 ls1 st1 h1) → (match cuts.contains pc1 with
      | true => K pc1 ls1 st1 h1
      | false => bk sc cuts r h' K (mr, c) n pc1 ls1 st1 h1) := by
      intro pc1 ls1 st1 h1 q
      cases hc : cuts.contains pc1 with
      | true => rw [hc] at q; exact q
      | false => rw [hc] at q; exact ih pc1 ls1 st1 h1 q
    unfold bk at hk
    cases hr : cAt c' pc with
    | none =>
      have e : stp sc (mr, c') pc ls st h = none := by
        unfold stp
        simp only [hr]
      rw [e] at hk
      exact absurd hk id
    | some row =>
      have h1 := List.find?_some hr
      have h2 := List.mem_of_find?_eq_some hr
      have h3 : row.1 = pc := by simpa using h1
      have h4 : cAt c pc = some row := by rw [← h3]; exact hsub row h2
      have e1 : stp sc (mr, c') pc ls st h = stp sc (mr, c) pc ls st h := by
        unfold stp
        simp only [hr, h4]
      have e2 : nobAt (mr, c') pc = nobAt (mr, c) pc := by
        unfold nobAt
        simp only [hr, h4]
      rw [e1, e2] at hk
      unfold bk
      cases hs : stp sc (mr, c) pc ls st h with
      | none => rw [hs] at hk; exact absurd hk id
      | some x =>
        rw [hs] at hk
        match x, hs, hk with
        | .inl (P, pc', ls', st', h1), hs, hk =>
          dsimp only at hk ⊢
          cases hn : nobAt (mr, c) pc with
          | true => rw [hn] at hk; exact cut _ _ _ _ hk
          | false => rw [hn] at hk; exact ⟨hk.1, cut _ _ _ _ hk.2⟩
        | .inr (.inl (P, tg, nx, ls', st')), hs, hk => exact ⟨fun q => cut _ _ _ _ (hk.1 q), fun q => cut _ _ _ _ (hk.2 q)⟩
        | .inr (.inr (.inl (P, v))), hs, hk => exact hk
        | .inr (.inr (.inr (P, k, as, rest))), hs, hk =>
          obtain ⟨p1, p2, r1, h1, p3, p4⟩ := hk
          exact ⟨p1, p2, r1, h1, p3, cut _ _ _ _ p4⟩
theorem law_sub {c' : List Rw} (hsub : ∀ row ∈ c', cAt ct221 row.1 = some row) {sc : Nat × (Nat → Int32)} {r : Option Value} {h' : Hp} (cuts : List Nat) (n : Nat) {pc : Nat} {ls : Ls} {st : List Value} {h : Hp} (hb : bk sc cuts r h' (fun pc ls st h => Rn sc lawM pc ls st h r h') (lawR, c') n pc ls st h) : Rn sc lawM pc ls st h r h' := bk_sound n pc ls st h (bk_sub hsub n pc ls st h hb)
