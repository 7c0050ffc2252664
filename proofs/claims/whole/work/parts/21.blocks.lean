/-! Stretches of code, as one formula: 'bk' unfolds by computation to what is asked, and to where it goes on. -/
def nob (i : Instr) : Bool := match i with
  | .iconst _ => true
  | .bipush _ => true
  | .sipush _ => true
  | .lconst _ => true
  | .ldc _ => true
  | .ldc_w _ => true
  | .ldc2_w _ => true
  | .aconst_null => true
  | .iload_n _ => true
  | .iload _ => true
  | .lload_n _ => true
  | .lload _ => true
  | .aload_n _ => true
  | .aload _ => true
  | .istore_n _ => true
  | .istore _ => true
  | .lstore_n _ => true
  | .lstore _ => true
  | .astore_n _ => true
  | .astore _ => true
  | .iinc _ _ => true
  | .iadd => true
  | .isub => true
  | .imul => true
  | .iand => true
  | .ior => true
  | .ishl => true
  | .ishr => true
  | .iushr => true
  | .ladd => true
  | .lsub => true
  | .lmul => true
  | .lcmp => true
  | .i2l => true
  | .l2i => true
  | .i2b => true
  | .i2s => true
  | .dup => true
  | .dup2 => true
  | .pop => true
  | .goto _ => true
  | .tableswitch _ _ _ _ => true
  | .getstatic _ => true
  | .new _ => true
  | _ => false
def nobAt (mt : Mt) (pc : Nat) : Bool := match cAt mt.2 pc with
  | none => false
  | some r => nob r.2.2.1
def ob (b : Bool) (P Q : Prop) : Prop := match b with
  | true => Q
  | false => P ∧ Q
section
variable {sc : Nat × (Nat → Int32)} {mt : Mt} {pc : Nat} {ls : Ls} {st : List Value} {h : Hp}
set_option maxHeartbeats 4000000 in
theorem nob_ok {P : Prop} {x : Nx} (hs : stp sc mt pc ls st h = some (.inl (P, x))) (hn : nobAt mt pc = true) : P := by
  unfold stp at hs
  unfold nobAt at hn
  cases hr : cAt mt.2 pc with
  | none =>
    rw [hr] at hs
    cases hs
  | some row =>
    rw [hr] at hs hn
    obtain ⟨q0, nx, i, tg, cv⟩ := row
    dsimp only at hs hn
    cases i <;> first
      | (cases hn; done)
      | (dsimp only at hs; simp only [go, Option.some.injEq, Sum.inl.injEq, Prod.mk.injEq] at hs; rw [← hs.1]; trivial)
      | ((try dsimp only at hs); (repeat' split at hs) <;> first | (cases hs; done) | (simp only [go, Option.some.injEq, Sum.inl.injEq, Prod.mk.injEq] at hs; rw [← hs.1]; trivial))
set_option maxHeartbeats 4000000 in
theorem stp_mono {P : Prop} {pc' : Nat} {ls' : Ls} {st' : List Value} {h1 : Hp} (hs : stp sc mt pc ls st h = some (.inl (P, pc', ls', st', h1))) : zc h ≤ zc h1 ∧ zs h ≤ zs h1 := by
  unfold stp at hs
  cases hr : cAt mt.2 pc with
  | none =>
    rw [hr] at hs
    cases hs
  | some row =>
    rw [hr] at hs
    obtain ⟨q0, nx, i, tg, cv⟩ := row
    dsimp only at hs
    have hcp : ∀ (h2 : Hp) (c1 : Prop) (a1 a2 : Hp), (zc a1 = zc h ∧ zs a1 = zs h) → (zc a2 = zc h ∧ zs a2 = zs h) → ∀ (d : Decidable c1), zc h ≤ zc (@ite _ c1 d a1 a2) ∧ zs h ≤ zs (@ite _ c1 d a1 a2) := by
      intro h2 c1 a1 a2 e1 e2 d
      by_cases q : c1
      · rw [if_pos q, e1.1, e1.2]
        exact ⟨Nat.le_refl _, Nat.le_refl _⟩
      · rw [if_neg q, e2.1, e2.2]
        exact ⟨Nat.le_refl _, Nat.le_refl _⟩
    have fin : ∀ {P1 : Prop} {x1 : Nat} {x2 : Ls} {x3 : List Value} {x4 : Hp}, go P1 x1 x2 x3 x4 = some (.inl (P, pc', ls', st', h1)) → (zc h ≤ zc x4 ∧ zs h ≤ zs x4) → zc h ≤ zc h1 ∧ zs h ≤ zs h1 := by
      intro P1 x1 x2 x3 x4 g1 g2
      simp only [go, Option.some.injEq, Sum.inl.injEq, Prod.mk.injEq] at g1
      rw [← g1.2.2.2.2]
      exact g2
    cases i <;> first
      | (cases hs; done)
      | exact fin hs ⟨Nat.le_refl _, Nat.le_refl _⟩
      | (rename_i tt; cases tt <;> first | (cases hs; done) | ((try dsimp only at hs); (repeat' split at hs) <;> first | (cases hs; done) | exact fin hs ⟨Nat.le_refl _, Nat.le_refl _⟩ | exact fin hs ⟨Nat.le_succ _, Nat.le_add_right _ _⟩))
      | (rename_i tt zz; cases tt <;> ((try dsimp only at hs); (repeat' split at hs) <;> (cases hs; done)))
      | ((try dsimp only at hs); (repeat' split at hs) <;> first | (cases hs; done) | exact fin hs ⟨Nat.le_refl _, Nat.le_refl _⟩ | exact fin hs ⟨Nat.le_succ _, Nat.le_add_right _ _⟩ | exact fin hs (hcp h _ _ _ ⟨rfl, rfl⟩ ⟨rfl, rfl⟩ _))
set_option maxHeartbeats 4000000 in
theorem stp_kind {P : Prop} {pc' : Nat} {ls' : Ls} {st' : List Value} {h1 : Hp} (hs : stp sc mt pc ls st h = some (.inl (P, pc', ls', st', h1))) : ∀ a, a ≤ zc h → zK h1 a = zK h a := by
  unfold stp at hs
  cases hr : cAt mt.2 pc with
  | none =>
    rw [hr] at hs
    cases hs
  | some row =>
    rw [hr] at hs
    obtain ⟨q0, nx, i, tg, cv⟩ := row
    dsimp only at hs
    have hcp : ∀ (c1 : Prop) (a1 a2 : Hp), zK a1 = zK h → zK a2 = zK h → ∀ (d : Decidable c1), ∀ a, a ≤ zc h → zK (@ite _ c1 d a1 a2) a = zK h a := by
      intro c1 a1 a2 e1 e2 d a _
      by_cases q : c1
      · rw [if_pos q, e1]
      · rw [if_neg q, e2]
    have fin : ∀ {P1 : Prop} {x1 : Nat} {x2 : Ls} {x3 : List Value} {x4 : Hp}, go P1 x1 x2 x3 x4 = some (.inl (P, pc', ls', st', h1)) → (∀ a, a ≤ zc h → zK x4 a = zK h a) → ∀ a, a ≤ zc h → zK h1 a = zK h a := by
      intro P1 x1 x2 x3 x4 g1 g2
      simp only [go, Option.some.injEq, Sum.inl.injEq, Prod.mk.injEq] at g1
      rw [← g1.2.2.2.2]
      exact g2
    have nw : ∀ (k n : Nat), ∀ a, a ≤ zc h → zK (nwC h k n) a = zK h a := fun k n a ha => va_up_ne _ _ (by omega)
    have nwi : ∀ (n : Nat) (f : Nat → Int32), ∀ a, a ≤ zc h → zK (nwI h n f) a = zK h a := fun n f a ha => va_up_ne _ _ (by omega)
    cases i <;> first
      | (cases hs; done)
      | exact fin hs (fun _ _ => rfl)
      | (rename_i tt; cases tt <;> first | (cases hs; done) | ((try dsimp only at hs); (repeat' split at hs) <;> first | (cases hs; done) | exact fin hs (fun _ _ => rfl) | exact fin hs (nw _ _)))
      | (rename_i tt zz; cases tt <;> ((try dsimp only at hs); (repeat' split at hs) <;> (cases hs; done)))
      | ((try dsimp only at hs); (repeat' split at hs) <;> first | (cases hs; done) | exact fin hs (fun _ _ => rfl) | exact fin hs (nw _ _) | exact fin hs (nwi _ _) | exact fin hs (hcp _ _ _ rfl rfl _))
end
/-- n instructions from pc on, up to the cuts; K is what is asked there -/
def bk (sc : Nat × (Nat → Int32)) (cuts : List Nat) (r : Option Value) (h' : Hp) (K : Nat → Ls → List Value → Hp → Prop) (mt : Mt) : Nat → Nat → Ls → List Value → Hp → Prop
  | 0, pc, ls, st, h => K pc ls st h
  | n + 1, pc, ls, st, h => match stp sc mt pc ls st h with
    | none => False
    | some (.inl (P, pc', ls', st', h1)) => ob (nobAt mt pc) P (match cuts.contains pc' with
      | true => K pc' ls' st' h1
      | false => bk sc cuts r h' K mt n pc' ls' st' h1)
    | some (.inr (.inl (c, tg, nx, ls', st'))) => (c → (match cuts.contains tg with
      | true => K tg ls' st' h
      | false => bk sc cuts r h' K mt n tg ls' st' h)) ∧ (¬ c → (match cuts.contains nx with
      | true => K nx ls' st' h
      | false => bk sc cuts r h' K mt n nx ls' st' h))
    | some (.inr (.inr (.inl (P, v)))) => P ∧ v = r ∧ h = h'
    | some (.inr (.inr (.inr (P, k, as, rest)))) => P ∧ as.length = ary k ∧ ∃ (r1 : Option Value) (h1 : Hp), Cc sc k as h r1 h1 ∧ (match cuts.contains (pc + 3) with
      | true => K (pc + 3) ls (r1.toList ++ rest) h1
      | false => bk sc cuts r h' K mt n (pc + 3) ls (r1.toList ++ rest) h1)
set_option maxHeartbeats 4000000 in
theorem bk_sound {sc : Nat × (Nat → Int32)} {cuts : List Nat} {r : Option Value} {h' : Hp} {mt : Mt} : ∀ (n pc : Nat) (ls : Ls) (st : List Value) (h : Hp), bk sc cuts r h' (fun pc ls st h => Rn sc mt pc ls st h r h') mt n pc ls st h → Rn sc mt pc ls st h r h' := by
  intro n
  induction n with
  | zero => exact fun pc ls st h hk => hk
  | succ n ih =>
    intro pc ls st h hk
    have cut : ∀ (pc1 : Nat) (ls1 : Ls) (st1 : List Value) (h1 : Hp), (match cuts.contains pc1 with
      | true => Rn sc mt pc1 ls1 st1 h1 r h'
      | false => bk sc cuts r h' (fun pc ls st h => Rn sc mt pc ls st h r h') mt n pc1 ls1 st1 h1) → Rn sc mt pc1 ls1 st1 h1 r h' := by
      intro pc1 ls1 st1 h1 q
      cases hc : cuts.contains pc1 with
      | true => rw [hc] at q; exact q
      | false => rw [hc] at q; exact ih pc1 ls1 st1 h1 q
    unfold bk at hk
    cases hs : stp sc mt pc ls st h with
    | none => rw [hs] at hk; exact absurd hk id
    | some x =>
      rw [hs] at hk
      match x, hs, hk with
      | .inl (P, pc', ls', st', h1), hs, hk =>
        have hP : P ∧ Rn sc mt pc' ls' st' h1 r h' := by
          dsimp only at hk
          cases hn : nobAt mt pc with
          | true => rw [hn] at hk; exact ⟨nob_ok hs hn, cut _ _ _ _ hk⟩
          | false => rw [hn] at hk; exact ⟨hk.1, cut _ _ _ _ hk.2⟩
        obtain ⟨hP, R1, R2, RK, R3⟩ := hP
        obtain ⟨m1, m2⟩ := stp_mono hs
        have m3 := stp_kind hs
        refine ⟨Nat.le_trans m1 R1, Nat.le_trans m2 R2, fun a ha => (RK a (Nat.le_trans ha m1)).trans (m3 a ha), ?_⟩
        intro p l e R s m args below meth c D b cy cs z0 y0 Q C hc1 hs1 hz hret
        exact sound_go C hs hP (Nat.le_trans R1 hc1) (Nat.le_trans R2 hs1) (R3 p l e R s m args below meth c D b cy cs z0 y0 Q C hc1 hs1 (Nat.le_trans hz m1) hret)
      | .inr (.inl (P, tg, nx, ls', st')), hs, hk =>
        obtain ⟨k1, k2⟩ := hk
        by_cases hP : P
        · obtain ⟨R1, R2, RK, R3⟩ := cut _ _ _ _ (k1 hP)
          refine ⟨R1, R2, RK, ?_⟩
          intro p l e R s m args below meth c D b cy cs z0 y0 Q C hc1 hs1 hz hret
          exact sound_br C hs (fun _ => R3 p l e R s m args below meth c D b cy cs z0 y0 Q C hc1 hs1 hz hret) (fun q => absurd hP q)
        · obtain ⟨R1, R2, RK, R3⟩ := cut _ _ _ _ (k2 hP)
          refine ⟨R1, R2, RK, ?_⟩
          intro p l e R s m args below meth c D b cy cs z0 y0 Q C hc1 hs1 hz hret
          exact sound_br C hs (fun q => absurd q hP) (fun _ => R3 p l e R s m args below meth c D b cy cs z0 y0 Q C hc1 hs1 hz hret)
      | .inr (.inr (.inl (P, v))), hs, hk =>
        obtain ⟨hP, rfl, rfl⟩ := hk
        refine ⟨Nat.le_refl _, Nat.le_refl _, fun _ _ => rfl, ?_⟩
        intro p l e R s m args below meth c D b cy cs z0 y0 Q C hc1 hs1 hz hret lsA H locs cells slots ez ey hw hS hl
        obtain ⟨g1, g2⟩ := sound_rt C hs hP
        have := hret pc lsA H locs cells slots g1 ez ey hw hS
        rw [g2]
        have es : v.toList.map (cnv b cs) = (v.map (cnv b cs)).toList := by cases v <;> rfl
        rw [es]
        exact this
      | .inr (.inr (.inr (P, k, as, rest))), hs, hk =>
        obtain ⟨hP, hlen, r1, h1, hcc, hk⟩ := hk
        obtain ⟨R1, R2, RK, R3⟩ := cut _ _ _ _ hk
        have m1 := hcc.2.2.1
        have m2 := hcc.2.2.2.1
        have m3 := hcc.2.2.2.2.1
        refine ⟨Nat.le_trans m1 R1, Nat.le_trans m2 R2, fun a ha => (RK a (Nat.le_trans ha m1)).trans (m3 a ha), ?_⟩
        intro p l e R s m args below meth c D b cy cs z0 y0 Q C hc1 hs1 hz hret
        exact sound_cl C hs hP hlen hcc (Nat.le_trans R1 hc1) (Nat.le_trans R2 hs1) (R3 p l e R s m args below meth c D b cy cs z0 y0 Q C hc1 hs1 (Nat.le_trans hz m1) hret)
