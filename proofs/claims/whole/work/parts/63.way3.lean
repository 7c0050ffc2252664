/-! givePartTo -/
def z1F (F : Nat → Nat → Int32) (n : Nat) : Nat → Nat → Int32 := fun a j => if a = 28 ∧ j < n then 0 else F a j
def z1G (G : Nat → Nat → Int64) (n : Nat) : Nat → Nat → Int64 := fun a j => if a = 25 ∧ j < n then 4611686018427387904 else G a j
theorem z1F_s (F : Nat → Nat → Int32) (n : Nat) : u2 (z1F F n) 28 n 0 = z1F F (n + 1) := by
  funext a j
  rw [u2_eq]
  unfold z1F
  by_cases e : a = 28 ∧ j = n
  · rw [if_pos e, if_pos ⟨e.1, by omega⟩]
  · rw [if_neg e]
    by_cases q : a = 28 ∧ j < n
    · rw [if_pos q, if_pos ⟨q.1, by omega⟩]
    · rw [if_neg q, if_neg (by omega)]
theorem z1G_s (G : Nat → Nat → Int64) (n : Nat) : u2L (z1G G n) 25 n 4611686018427387904 = z1G G (n + 1) := by
  funext a j
  rw [u2L_eq]
  unfold z1G
  by_cases e : a = 25 ∧ j = n
  · rw [if_pos e, if_pos ⟨e.1, by omega⟩]
  · rw [if_neg e]
    by_cases q : a = 25 ∧ j < n
    · rw [if_pos q, if_pos ⟨q.1, by omega⟩]
    · rw [if_neg q, if_neg (by omega)]
section
variable {sc : Nat × (Nat → Int32)} {h : Hp} {F : Nat → Nat → Int32} {G : Nat → Nat → Int64} {M W r : Nat}
theorem g1_loop {h' : Hp} (hM : M ≤ 12) (e6 : F 19 6 = nI M) (K : Rn sc (mtk 73) 32 [some (.ref 19), some (.int (nI r)), some (.int (nI (M + 1))), none, none] [] (wIJ (nh h) (z1F F (M + 1)) (z1G G (M + 1))) none h') : ∀ (d n : Nat), n + d = M + 1 → Rn sc (mtk 73) 2 [some (.ref 19), some (.int (nI r)), some (.int (nI n)), none, none] [] (wIJ (nh h) (z1F F n) (z1G G n)) none h' := by
  intro d
  induction d with
  | zero =>
    intro n hn
    refine bk_sound (cuts := [32]) 20 _ _ _ _ ?_
    refine And.intro rfl ?_
    refine br_t (show z1F F n 19 6 < nI n by rw [show z1F F n 19 6 = F 19 6 from if_neg (by omega), e6]; exact nI_lt (by omega) (by omega)) ?_
    rw [show n = M + 1 by omega]
    exact K
  | succ d ih =>
    intro n hn
    have ib : inB (nI n) 13 = true := inB_nI (by omega) (by decide)
    have ec : (nI n).toNatClampNeg = n := nI_clamp (by omega)
    have R := ih (n + 1) (by omega)
    rw [← nI_1, ← z1F_s, ← z1G_s] at R
    refine bk_sound (cuts := [2]) 40 _ _ _ _ ?_
    refine And.intro rfl ?_
    refine br_f (show ¬ z1F F n 19 6 < nI n by rw [show z1F F n 19 6 = F 19 6 from if_neg (by omega), e6]; exact nI_nlt (by omega) (by omega)) ?_
    refine And.intro rfl ?_
    refine And.intro (⟨rfl, ib⟩) ?_
    refine And.intro rfl ?_
    refine And.intro (⟨rfl, ib, Or.inl rfl⟩) ?_
    refine rn_eq (show wIJ (nh h) (u2 (z1F F n) 28 (nI n).toNatClampNeg 0) (u2L (z1G G n) 25 (nI n).toNatClampNeg 4611686018427387904) = _ from ?_) R
    rw [ec]
/-- the chain of places that give way -/
theorem g3_loop {st cur : Nat} {tm : Nat → Nat} {F0 : Nat → Nat → Int32} (hM : M ≤ 12) (hW : W ≤ 12) (I : GI W M r st cur tm F0 G) (st1 : st ≤ M) (r1 : 1 ≤ r) (r2 : r ≤ W) (hst : st ≠ 0) :
    ∀ (t s p : Nat) (F : Nat → Nat → Int32) (o : Option Value), s + t ≤ st → (∀ a, a ≠ 26 → F a = F0 a) → (∀ p, p ≤ M → F 26 p = nI (hO F p)) → AI M r (cO G) (hO F0) (hO F) (uO G) (vO G) (nO F0) tm t p → (p ≠ 0 → (nO F0 p = true ∧ t = tm p) ∨ (p = cur ∧ t = st)) → ∃ F', Rn sc (mtk 73) 95 [some (.ref 19), some (.int (nI r)), some (.int (nI p)), some (.int (nI s)), o] [] (wIJ (nh h) F G) none (wIJ (nh h) F' G) ∧ (∀ a, a ≠ 26 → F' a = F0 a) ∧ (∀ p, p ≤ M → F' 26 p = nI (hO F' p)) ∧ HI W M r (cO G) (hO F') (uO G) (vO G) := by
  intro t
  induction t using Nat.strongRecOn with
  | ind t ih =>
    intro s p F o hs hF h26 A hp
    obtain ⟨g1, g2, g3, g4, H, T⟩ := I
    have T0 := T
    obtain ⟨t1, t2, t3, t4, t5, t6, t7, t8⟩ := T
    have pM : p ≤ M := A.1
    have e6 : F 19 6 = nI M := by rw [hF 19 (by decide)]; exact g1
    by_cases p0 : p = 0
    · subst p0
      refine ⟨F, ?_, hF, h26, AI_end H A⟩
      refine bk_sound (cuts := []) 20 _ _ _ _ ?_
      refine And.intro rfl ?_
      refine br_f (show ¬ F 19 6 < nI s by rw [e6]; exact nI_nlt (by omega) (by omega)) ?_
      refine br_t (show nI 0 = 0 from rfl) ?_
      exact ⟨trivial, rfl, rfl⟩
    · have hq : nO F0 p = true ∨ p = cur := (hp p0).elim (fun z => Or.inl z.1) (fun z => Or.inr z.1)
      obtain ⟨b1, b2, b3, b4⟩ := t4 p (by omega) pM hq
      have bt : tm (bO F0 p) < t := by
        rcases hp p0 with z | z
        · rw [z.2]
          exact b3 z.1
        · rw [z.2]
          exact (t3 _ b1 b2).2
      have hpt : nO F0 p = true → t ≤ tm p := fun z => by
        rcases hp p0 with w | w
        · omega
        · rw [w.1, t2] at z
          cases z
      have bz := (t3 _ b1 b2).1
      have br' : hO F0 (bO F0 p) ≤ r := by
        by_cases e : bO F0 p = 0
        · rw [e, g4]
          exact Nat.le_refl _
        · have := H.1 (bO F0 p) (by omega) b1
          omega
      have e27 : F 27 p = nI (bO F0 p) := by rw [hF 27 (by decide)]; exact g3 hst p (by omega) pM
      have eb := h26 (bO F0 p) b1
      have hO2 : ∀ x, hO (u2 F 26 p (F 26 (bO F0 p))) x = if x = p then hO F (bO F0 p) else hO F x := fun x => by
        unfold hO
        rw [u2_eq]
        by_cases e : x = p
        · rw [if_pos ⟨rfl, e⟩, if_pos e]
        · rw [if_neg (fun z => e z.2), if_neg e]
      have A2 := AI_step (hd2 := hO (u2 F 26 p (F 26 (bO F0 p)))) A p0 hpt b1 b2 bt b4 bz br' (by rw [hO2, if_pos rfl]) (fun x _ hx => by rw [hO2, if_neg hx])
      have hF2 : ∀ a, a ≠ 26 → u2 F 26 p (F 26 (bO F0 p)) a = F0 a := fun a ha => by
        rw [← hF a ha]
        funext j
        rw [u2_eq, if_neg (fun z => ha z.1)]
      have h26' : ∀ x, x ≤ M → u2 F 26 p (F 26 (bO F0 p)) 26 x = nI (hO (u2 F 26 p (F 26 (bO F0 p))) x) := fun x hx => by
        rw [hO2, u2_eq]
        by_cases e : x = p
        · rw [if_pos ⟨rfl, e⟩, if_pos e]
          exact eb
        · rw [if_neg (fun z => e z.2), if_neg e]
          exact h26 x hx
      obtain ⟨F', R, k1, k2, k3⟩ := ih (tm (bO F0 p)) bt (s + 1) (bO F0 p) (u2 F 26 p (F 26 (bO F0 p))) (some (.int (nI (bO F0 p)))) (by omega) hF2 h26' A2 (fun _ => Or.inl ⟨b2, rfl⟩)
      refine ⟨F', ?_, k1, k2, k3⟩
      have ib : inB (nI p) 13 = true := inB_nI (by omega) (by decide)
      have ec : (nI p).toNatClampNeg = p := nI_clamp (by omega)
      have ibb : inB (nI (bO F0 p)) 13 = true := inB_nI (by omega) (by decide)
      have ecb : (nI (bO F0 p)).toNatClampNeg = bO F0 p := nI_clamp (by omega)
      rw [← nI_1] at R
      refine bk_sound (cuts := [95]) 40 _ _ _ _ ?_
      refine And.intro rfl ?_
      refine br_f (show ¬ F 19 6 < nI s by rw [e6]; exact nI_nlt (by omega) (by omega)) ?_
      refine br_f (show ¬ nI p = 0 from fun z => p0 ((nI_eq (by omega) (by omega)).mp z)) ?_
      refine And.intro rfl ?_
      refine And.intro (⟨rfl, ib⟩) ?_
      rw [ec, show zI (wIJ (nh h) F G) (zA (wIJ (nh h) F G) 19 14) p = nI (bO F0 p) from e27]
      refine And.intro rfl ?_
      refine And.intro rfl ?_
      refine And.intro (⟨rfl, ibb⟩) ?_
      refine And.intro (⟨rfl, ib⟩) ?_
      rw [ec, ecb]
      exact R
/-- the cheapest chain is followed -/
theorem g2_loop (hM : M ≤ 12) (hW : W ≤ 12) (r1 : 1 ≤ r) (r2 : r ≤ W) (hr : r ≤ M) : ∀ (d st cur : Nat) (tm : Nat → Nat) (F : Nat → Nat → Int32) (G : Nat → Nat → Int64), st + d = M + 1 → GI W M r st cur tm F G → CB W M (cO G) → ∃ F' G', Rn sc (mtk 73) 43 [some (.ref 19), some (.int (nI r)), some (.int (nI cur)), some (.int (nI st)), none] [] (wIJ (nh h) F G) none (wIJ (nh h) F' G') ∧ (∀ a, a ≠ 26 → a ≠ 27 → a ≠ 28 → F' a = F a) ∧ (∀ a, a ≠ 23 → a ≠ 24 → a ≠ 25 → G' a = G a) ∧ (∀ p, p ≤ M → F' 26 p = nI (hO F' p)) ∧ HI W M r (cO G') (hO F') (uO G') (vO G') := by
  intro d
  induction d with
  | zero =>
    intro st cur tm F G hd I hc
    exfalso
    obtain ⟨g1, g2, g3, g4, H, T⟩ := I
    have := cF_pos T.2.1 (M + 1) (by have := T.1; omega)
    have := T.2.2.2.2.2.2.2
    omega
  | succ d ih =>
    intro st cur tm F G hd I hc
    have I0 := I
    obtain ⟨g1, g2, g3, g4, H, T⟩ := I
    have cM : cur ≤ M := T.1
    have ib : inB (nI cur) 13 = true := inB_nI (by omega) (by decide)
    have ec : (nI cur).toNatClampNeg = cur := nI_clamp (by omega)
    have h12 : hO F cur ≤ 12 := by
      by_cases e : cur = 0
      · rw [e, g4]
        omega
      · have := H.1 cur (by omega) cM
        omega
    by_cases hz : hO F cur = 0
    · have hst : st ≠ 0 := fun e => by
        have := (T.2.2.2.2.2.1 e).1
        rw [this, g4] at hz
        omega
      obtain ⟨F', R, k1, k2, k3⟩ := g3_loop (sc := sc) (h := h) hM hW I0 (by omega) r1 r2 hst st 0 cur F none (by omega) (fun _ _ => rfl) g2 (AI_start H T g4 r1 hz) (fun _ => Or.inr ⟨rfl, rfl⟩)
      refine ⟨F', G, ?_, fun a h1 _ _ => k1 a h1, fun _ _ _ _ => rfl, k2, k3⟩
      refine bk_sound (cuts := [95]) 40 _ _ _ _ ?_
      refine And.intro rfl ?_
      refine br_f (show ¬ F 19 6 < nI st by rw [g1]; exact nI_nlt (by omega) (by omega)) ?_
      refine And.intro rfl ?_
      refine And.intro (⟨rfl, ib⟩) ?_
      refine br_t (show F 26 (nI cur).toNatClampNeg = 0 by rw [ec, g2 cur cM, hz]; rfl) ?_
      exact R
    · obtain ⟨s1, s2, s3, s4, s5, ⟨tm', s6⟩, s7, s8⟩ := GI_step hM hW I0 hc r1 r2 hr hz rfl rfl rfl rfl rfl
      have F6 : (u2 F 28 cur 1) 19 6 = nI M := by rw [u2_eq, if_neg (by omega)]; exact g1
      have F6' := s6.1
      have e26 : (u2 F 28 cur 1) 26 cur = nI (hO F cur) := by rw [u2_eq, if_neg (by omega)]; exact g2 cur cM
      have cE := s8 22 (by decide) (by decide) (by decide)
      obtain ⟨F', G', R, k1, k2, k3, k4⟩ := ih (st + 1) _ tm' _ _ (by omega) s6 (by
        unfold CB cO
        rw [cE]
        exact hc)
      refine ⟨F', G', ?_, fun a h1 h2 h3 => (k1 a h1 h2 h3).trans (s7 a h1 h2 h3), fun a h1 h2 h3 => (k2 a h1 h2 h3).trans (s8 a h1 h2 h3), k3, k4⟩
      rw [← nI_1] at R
      refine bk_sound (cuts := [43]) 60 _ _ _ _ ?_
      refine And.intro rfl ?_
      refine br_f (show ¬ F 19 6 < nI st by rw [g1]; exact nI_nlt (by omega) (by omega)) ?_
      refine And.intro rfl ?_
      refine And.intro (⟨rfl, ib⟩) ?_
      refine br_f (show ¬ F 26 (nI cur).toNatClampNeg = 0 by rw [ec, g2 cur cM]; exact fun z => hz ((nI_eq (by omega) (by omega)).mp z)) ?_
      refine And.intro rfl ?_
      refine And.intro (⟨rfl, ib, Or.inr rfl⟩) ?_
      rw [ec]
      refine And.intro ⟨rfl, rfl⟩ (And.intro rfl (Exists.intro _ (Exists.intro _ (And.intro (c_findSlacks (h := h) (F := u2 F 28 cur 1) (G := G) hM F6 cM s3 (by omega) e26) ?_))))
      refine And.intro ⟨rfl, rfl⟩ (And.intro rfl (Exists.intro _ (Exists.intro _ (And.intro (c_nearest (h := h) (F := fsF (u2 F 28 cur 1) G (hO F cur) cur (M + 1)) (G := fsG (u2 F 28 cur 1) G (hO F cur) (M + 1)) hM F6') ?_))))
      refine And.intro rfl ?_
      refine And.intro (⟨rfl, inB_nI (n := 13) (by omega) (by decide)⟩) ?_
      rw [nI_clamp (by omega)]
      refine And.intro ⟨rfl, rfl⟩ (And.intro rfl (Exists.intro _ (Exists.intro _ (And.intro (c_lowerBids (h := h) (F := fsF (u2 F 28 cur 1) G (hO F cur) cur (M + 1)) (G := fsG (u2 F 28 cur 1) G (hO F cur) (M + 1)) (hd := hO F) hM F6' s5) ?_))))
      exact R
theorem c_givePartTo (hM : M ≤ 12) (hW : W ≤ 12) (r1 : 1 ≤ r) (r2 : r ≤ W) (hr : r ≤ M) (e6 : F 19 6 = nI M) (h26 : ∀ p, 1 ≤ p → p ≤ M → F 26 p = nI (hO F p)) (H : HI W M (r - 1) (cO G) (hO F) (uO G) (vO G)) (hc : CB W M (cO G)) : ∃ F' G', Cc sc 73 [.ref 19, .int (nI r)] (wIJ (nh h) F G) none (wIJ (nh h) F' G') ∧ (∀ a, a ≠ 26 → a ≠ 27 → a ≠ 28 → F' a = F a) ∧ (∀ a, a ≠ 23 → a ≠ 24 → a ≠ 25 → G' a = G a) ∧ (∀ p, p ≤ M → F' 26 p = nI (hO F' p)) ∧ HI W M r (cO G') (hO F') (uO G') (vO G') := by
  -- the start of the search
  have hO1 : ∀ p, hO (u2 (z1F F (M + 1)) 26 0 (nI r)) p = if p = 0 then r else hO F p := fun p => by
    unfold hO
    rw [u2_eq]
    by_cases e : p = 0
    · rw [if_pos ⟨rfl, e⟩, if_pos e]
      exact nI_clamp (by omega)
    · rw [if_neg (fun z => e z.2), if_neg e]
      rfl
  have cE : cO (z1G G (M + 1)) = cO G := rfl
  have uE : uO (z1G G (M + 1)) = uO G := rfl
  have vE : vO (z1G G (M + 1)) = vO G := rfl
  have sE : ∀ p, p ≤ M → sO (z1G G (M + 1)) p = FARi := fun p hp => by
    unfold sO z1G
    rw [if_pos ⟨rfl, by omega⟩]
    rfl
  have nE : ∀ p, p ≤ M → nO (u2 (z1F F (M + 1)) 26 0 (nI r)) p = false := fun p hp => by
    rw [nO_f, u2_eq, if_neg (by omega)]
    exact if_pos ⟨rfl, by omega⟩
  have H1 : HI W M (r - 1) (cO (z1G G (M + 1))) (hO (u2 (z1F F (M + 1)) 26 0 (nI r))) (uO (z1G G (M + 1))) (vO (z1G G (M + 1))) := by
    rw [cE, uE, vE]
    have hE : ∀ p, 1 ≤ p → hO (u2 (z1F F (M + 1)) 26 0 (nI r)) p = hO F p := fun p hp => by rw [hO1, if_neg (by omega)]
    obtain ⟨i1, i2, i3, i4, i5, i6, i7⟩ := H
    refine ⟨fun p p1 p2 => by rw [hE p p1]; exact i1 p p1 p2, fun p q p1 p2 q1 q2 => by rw [hE p p1, hE q q1]; exact i2 p q p1 p2 q1 q2, fun i a b => ?_, i4, fun p p1 p2 => by rw [hE p p1]; exact i5 p p1 p2, fun p p1 p2 => by rw [hE p p1]; exact i6 p p1 p2, i7⟩
    obtain ⟨p, p1, p2, p3⟩ := i3 i a b
    exact ⟨p, p1, p2, by rw [hE p p1]; exact p3⟩
  have cf : ∀ n, n ≤ M + 1 → cF (nO (u2 (z1F F (M + 1)) 26 0 (nI r))) n = n := by
    intro n
    induction n with
    | zero => intro _; rfl
    | succ n ih =>
      intro hn
      unfold cF
      rw [ih (by omega), nE n (by omega)]
      rfl
  have T1 : TI M (cO (z1G G (M + 1))) (hO (u2 (z1F F (M + 1)) 26 0 (nI r))) (uO (z1G G (M + 1))) (vO (z1G G (M + 1))) (nO (u2 (z1F F (M + 1)) 26 0 (nI r))) (bO (u2 (z1F F (M + 1)) 26 0 (nI r))) (sO (z1G G (M + 1))) (fun _ => 0) 0 0 := by
    refine ⟨Nat.zero_le _, nE 0 (Nat.zero_le _), fun p hp hs => (by rw [nE p hp] at hs; cases hs), fun p p1 p2 hs => ?_, fun p p1 p2 _ z => absurd rfl z, fun _ => ⟨rfl, fun p hp => ⟨nE p hp, sE p hp⟩⟩, fun z => absurd rfl z, by rw [cf _ (Nat.le_refl _)]; omega⟩
    rcases hs with hs | hs
    · rw [nE p p2] at hs
      cases hs
    · omega
  have I : GI W M r 0 0 (fun _ => 0) (u2 (z1F F (M + 1)) 26 0 (nI r)) (z1G G (M + 1)) := by
    refine ⟨?_, fun p hp => ?_, fun z => absurd rfl z, by rw [hO1, if_pos rfl], H1, T1⟩
    · rw [u2_eq, if_neg (by omega)]
      exact e6
    · rw [hO1, u2_eq]
      by_cases e : p = 0
      · rw [if_pos ⟨rfl, e⟩, if_pos e]
      · rw [if_neg (fun z => e z.2), if_neg e]
        exact h26 p (by omega) hp
  obtain ⟨F', G', R, k1, k2, k3, k4⟩ := g2_loop (sc := sc) (h := h) hM hW r1 r2 hr (M + 1) 0 0 (fun _ => 0) _ _ (by omega) I (by rw [cE]; exact hc)
  refine ⟨F', G', ?_, fun a h1 h2 h3 => ?_, fun a h1 h2 h3 => ?_, k3, k4⟩
  · refine cc_cut [2] 20 rfl rfl ?_
    refine rn_eq (show wIJ (nh h) F G = wIJ (nh h) (z1F F 0) (z1G G 0) from wIJ_eq _ ?_ ?_) (g1_loop hM e6 ?_ (M + 1) 0 (by omega))
    · funext a j
      exact (if_neg (by omega)).symm
    · funext a j
      exact (if_neg (by omega)).symm
    · refine bk_sound (cuts := [43]) 20 _ _ _ _ ?_
      refine And.intro rfl ?_
      refine And.intro (⟨rfl, show inB 0 13 = true by decide⟩) ?_
      exact R
  · rw [k1 a h1 h2 h3]
    funext j
    rw [u2_eq, if_neg (fun z => h1 z.1)]
    exact if_neg (fun z => h3 z.1)
  · rw [k2 a h1 h2 h3]
    funext j
    exact if_neg (fun z => h3 z.1)
end
