/-! A part is given to one place more: the class's steps are the pure ones. -/
def uO (G : Nat → Nat → Int64) (i : Nat) : Int := (G 23 i).toInt
def vO (G : Nat → Nat → Int64) (p : Nat) : Int := (G 24 p).toInt
def sO (G : Nat → Nat → Int64) (p : Nat) : Int := (G 25 p).toInt
def cO (G : Nat → Nat → Int64) (i p : Nat) : Int := (G 22 ((i - 1) * 12 + p - 1)).toInt
def hO (F : Nat → Nat → Int32) (p : Nat) : Nat := (F 26 p).toNatClampNeg
def bO (F : Nat → Nat → Int32) (p : Nat) : Nat := (F 27 p).toNatClampNeg
def nO (F : Nat → Nat → Int32) (p : Nat) : Bool := !decide (F 28 p = 0)
theorem nO_t {F : Nat → Nat → Int32} {p : Nat} : nO F p = true ↔ ¬ F 28 p = 0 := by
  unfold nO
  simp
theorem nO_f {F : Nat → Nat → Int32} {p : Nat} : nO F p = false ↔ F 28 p = 0 := by
  unfold nO
  simp
def GI (W M r st cur : Nat) (tm : Nat → Nat) (F : Nat → Nat → Int32) (G : Nat → Nat → Int64) : Prop :=
  F 19 6 = nI M ∧ (∀ p, p ≤ M → F 26 p = nI (hO F p)) ∧ (st ≠ 0 → ∀ p, 1 ≤ p → p ≤ M → F 27 p = nI (bO F p)) ∧ hO F 0 = r ∧ HI W M (r - 1) (cO G) (hO F) (uO G) (vO G) ∧ TI M (cO G) (hO F) (uO G) (vO G) (nO F) (bO F) (sO G) tm st cur
section
variable {F : Nat → Nat → Int32} {G : Nat → Nat → Int64} {M W r st cur : Nat} {tm : Nat → Nat}
theorem GI_step (hM : M ≤ 12) (hW : W ≤ 12) (I : GI W M r st cur tm F G) (hc : CB W M (cO G)) (r1 : 1 ≤ r) (r2 : r ≤ W) (hr : r ≤ M) (hz : hO F cur ≠ 0) {F1 F2 : Nat → Nat → Int32} {G2 G3 : Nat → Nat → Int64} {nx : Nat} (eF1 : F1 = u2 F 28 cur 1) (eF2 : F2 = fsF F1 G (hO F cur) cur (M + 1)) (eG2 : G2 = fsG F1 G (hO F cur) (M + 1)) (enx : nx = nr F2 G2 M) (eG3 : G3 = lbG F2 (hO F) (G2 25 nx) G2 (M + 1)) :
    nx ≤ M ∧ st ≤ M ∧ 1 ≤ hO F cur ∧ hO F cur ≤ W ∧ (∀ p, p ≤ M → ¬ F2 28 p = 0 → hO F p ≤ 12 ∧ F2 26 p = nI (hO F p)) ∧ (∃ tm', GI W M r (st + 1) nx tm' F2 G3) ∧ (∀ a, a ≠ 26 → a ≠ 27 → a ≠ 28 → F2 a = F a) ∧ ∀ a, a ≠ 23 → a ≠ 24 → a ≠ 25 → G3 a = G a := by
  obtain ⟨g1, g2, g3, g4, H, T⟩ := I
  have T0 := T
  obtain ⟨t1, t2, t3, t4, t5, t6, t7, t8⟩ := T
  obtain ⟨f, f1, f2, f3⟩ := HI_free H (by omega)
  obtain ⟨bu, bv⟩ := HI_bd H hc (by omega) f1 f2 ((H.2.2.2.2.2.1 f f1 f2).2 f3)
  have hdW : ∀ q, q ≤ M → hO F q ≤ 12 ∧ (hO F q ≠ 0 → 1 ≤ hO F q ∧ hO F q ≤ W) := fun q hq => by
    by_cases e : q = 0
    · subst e
      omega
    · have := H.1 q (by omega) hq
      omega
  have hi := (hdW cur t1).2 hz
  have e28 : ∀ p, F1 28 p = if p = cur then 1 else F 28 p := fun p => by
    rw [eF1, u2_eq]
    by_cases e : p = cur
    · rw [if_pos ⟨rfl, e⟩, if_pos e]
    · rw [if_neg (fun z => e z.2), if_neg e]
  have eFo : ∀ a, a ≠ 28 → F1 a = F a := fun a ha => by
    funext j
    rw [eF1, u2_eq, if_neg (fun z => ha z.1)]
  have eF2o : ∀ a, a ≠ 27 → F2 a = F1 a := fun a ha => by
    funext j
    rw [eF2, fsF_ne ha]
  have h26 : hO F2 = hO F := by
    funext p
    unfold hO
    rw [eF2o 26 (by decide), eFo 26 (by decide)]
  have n28 : ∀ p, nO F2 p = if p = cur then true else nO F p := fun p => by
    unfold nO
    rw [eF2o 28 (by decide), e28]
    by_cases e : p = cur
    · rw [if_pos e, if_pos e]
      rfl
    · rw [if_neg e, if_neg e]
  have z28 : ∀ p, F2 28 p = 0 ↔ p ≠ cur ∧ nO F p = false := fun p => by
    rw [← nO_f, n28]
    by_cases e : p = cur
    · rw [if_pos e]
      exact ⟨fun z => (by cases z), fun z => absurd e z.1⟩
    · rw [if_neg e]
      exact ⟨fun z => ⟨e, z⟩, fun z => z.2⟩
  have s28 : ∀ p, ¬ F2 28 p = 0 ↔ p = cur ∨ nO F p = true := fun p => by
    rw [z28]
    cases hb : nO F p with
    | true => exact ⟨fun _ => Or.inr rfl, fun _ z => (by cases z.2)⟩
    | false =>
      by_cases e : p = cur
      · exact ⟨fun _ => Or.inl e, fun _ z => z.1 e⟩
      · exact ⟨fun z => absurd ⟨e, rfl⟩ z, fun z => z.elim (fun z => absurd z e) (fun z => by cases z)⟩
  have sk_i : ∀ p, 1 ≤ p → p ≤ M → (sk G (hO F cur) p).toInt = cO G (hO F cur) p - uO G (hO F cur) - vO G p := fun p p1 p2 => by
    have k1 := hc (hO F cur) p hi.1 hi.2 p1 p2
    have k2 := bu (hO F cur) hi.1 hi.2
    have k3 := bv p p1 p2
    unfold cO at k1 ⊢
    unfold uO at k2 ⊢
    unfold vO at k3 ⊢
    unfold sk
    rw [l_sub, l_sub] <;> (try rw [l_sub]) <;> omega
  have fs_t : ∀ p, fsc F1 G (hO F cur) (M + 1) p = true ↔ 1 ≤ p ∧ p ≤ M ∧ p ≠ cur ∧ nO F p = false ∧ cO G (hO F cur) p - uO G (hO F cur) - vO G p < sO G p := fun p => by
    unfold fsc
    rw [decide_eq_true_iff]
    have k : F1 28 p = 0 ↔ p ≠ cur ∧ nO F p = false := by
      have := z28 p
      rw [eF2o 28 (by decide)] at this
      exact this
    rw [k]
    constructor
    · rintro ⟨a, b, ⟨c, d⟩, e⟩
      rw [sk_i p a (by omega)] at e
      exact ⟨a, by omega, c, d, e⟩
    · rintro ⟨a, b, c, d, e⟩
      exact ⟨a, by omega, ⟨c, d⟩, by rw [sk_i p a b]; exact e⟩
  have S2 : ∀ p, sO G2 p = if fsc F1 G (hO F cur) (M + 1) p = true then (sk G (hO F cur) p).toInt else sO G p := fun p => by
    unfold sO
    rw [eG2]
    unfold fsG
    by_cases q : fsc F1 G (hO F cur) (M + 1) p = true
    · rw [if_pos ⟨rfl, q⟩, if_pos q]
    · rw [if_neg (fun z => q z.2), if_neg q]
  have B2 : ∀ p, (fsc F1 G (hO F cur) (M + 1) p = true → F2 27 p = nI cur) ∧ (¬ fsc F1 G (hO F cur) (M + 1) p = true → F2 27 p = F 27 p) := fun p => by
    rw [eF2]
    unfold fsF
    constructor
    · intro q
      rw [if_pos ⟨rfl, q⟩]
    · intro q
      rw [if_neg (fun z => q z.2), eFo 27 (by decide)]
  have bO2 : ∀ p, (fsc F1 G (hO F cur) (M + 1) p = true → bO F2 p = cur) ∧ (¬ fsc F1 G (hO F cur) (M + 1) p = true → bO F2 p = bO F p) := fun p => by
    unfold bO
    constructor
    · intro q
      rw [(B2 p).1 q]
      exact nI_clamp (by omega)
    · intro q
      rw [(B2 p).2 q]
  have e1 : ∀ p, 1 ≤ p → p ≤ M → p ≠ cur → nO F p = false → (cO G (hO F cur) p - uO G (hO F cur) - vO G p < sO G p → sO G2 p = cO G (hO F cur) p - uO G (hO F cur) - vO G p ∧ bO F2 p = cur) ∧ (¬ cO G (hO F cur) p - uO G (hO F cur) - vO G p < sO G p → sO G2 p = sO G p ∧ bO F2 p = bO F p) := fun p p1 p2 p3 p4 => by
    constructor
    · intro q
      have k := (fs_t p).mpr ⟨p1, p2, p3, p4, q⟩
      exact ⟨by rw [S2, if_pos k, sk_i p p1 p2], (bO2 p).1 k⟩
    · intro q
      have k : ¬ fsc F1 G (hO F cur) (M + 1) p = true := fun z => q ((fs_t p).mp z).2.2.2.2
      exact ⟨by rw [S2, if_neg k], (bO2 p).2 k⟩
  have e0 : ∀ p, p ≤ M → (p = 0 ∨ p = cur ∨ nO F p = true) → sO G2 p = sO G p ∧ bO F2 p = bO F p := fun p hp q => by
    have k : ¬ fsc F1 G (hO F cur) (M + 1) p = true := fun z => by
      have w := (fs_t p).mp z
      rcases q with q | q | q
      · omega
      · exact w.2.2.1 q
      · rw [w.2.2.2.1] at q
        cases q
    exact ⟨by rw [S2, if_neg k], (bO2 p).2 k⟩
  have SL := TI_slack H T0 hc g4 r1 r2 hz f1 f2 f3 e1
  have s0 : 0 = cur ∨ nO F 0 = true := by
    by_cases e : st = 0
    · exact Or.inl (t6 e).1.symm
    · exact Or.inr (t7 e).1
  have s00 : sO G2 0 = FARi := by
    rw [(e0 0 (Nat.zero_le _) (Or.inl rfl)).1]
    by_cases e : st = 0
    · exact ((t6 e).2 0 (Nat.zero_le _)).2
    · exact (t7 e).2
  have fc : f ≠ cur := fun e => by rw [e] at f3; exact hz f3
  have fn : nO F f = false := by
    cases hb : nO F f with
    | false => rfl
    | true => exact absurd f3 (t3 f f2 hb).1
  have NS := nr_spec (F := F2) (G := G2) M
  rw [← enx] at NS
  have nle : nx ≤ M := by rw [enx]; exact nr_le M
  have n0 : nx ≠ 0 := fun e => by
    have k := NS.2 f f1 f2 ((z28 f).mpr ⟨fc, fn⟩)
    rw [e] at k
    have k : sO G2 0 ≤ sO G2 f := k
    have w := (SL f f1 f2 fc fn).2.2.2.2.2
    rw [s00] at k
    unfold FARi at k
    omega
  have nz := (z28 nx).mp (NS.1 n0)
  have n5 : ∀ p, 1 ≤ p → p ≤ M → p ≠ cur → nO F p = false → sO G2 nx ≤ sO G2 p := fun p p1 p2 p3 p4 => NS.2 p p1 p2 ((z28 p).mpr ⟨p3, p4⟩)
  have dl := (SL nx (by omega) nle nz.1 nz.2).2.2.2.2
  have G2o : ∀ a, a ≠ 25 → G2 a = G a := fun a ha => by
    funext j
    rw [eG2, fsG_ne ha]
  have hinj : ∀ p q, p ≤ M → q ≤ M → hO F p = hO F q → hO F p ≠ 0 → p = q := fun p q hp hq e hn => by
    by_cases ep : p = 0
    · by_cases eq : q = 0
      · omega
      · have := H.1 q (by omega) hq
        subst ep
        omega
    · by_cases eq : q = 0
      · have := H.1 p (by omega) hp
        subst eq
        omega
      · exact H.2.1 p q (by omega) hp (by omega) hq e hn
  have sne : ∀ p, p ≤ M → (p = cur ∨ nO F p = true) → hO F p ≠ 0 := fun p hp q => by
    rcases q with rfl | q
    · exact hz
    · exact (t3 p hp q).1
  have L23 := lb_23 (F := F2) (hd := hO F) (dl := G2 25 nx) (G := G2) (M + 1) (fun p q hp hq a b e => hinj p q (by omega) (by omega) e (sne p (by omega) ((s28 p).mp a)))
  rw [← eG3] at L23
  have cE : cO G3 = cO G := by
    funext i p
    unfold cO
    rw [eG3, lb_o (by decide) (by decide) (by decide), G2o 22 (by decide)]
  have x1 : ∀ p, p ≤ M → (p = cur ∨ nO F p = true) → uO G3 (hO F p) = uO G (hO F p) + sO G2 nx := fun p hp q => by
    have k := L23.1 p (by omega) ((s28 p).mpr q)
    have w := (hdW p hp).2 (sne p hp q)
    have b := bu (hO F p) w.1 w.2
    unfold uO at b ⊢
    unfold sO at dl ⊢
    rw [k, G2o 23 (by decide), l_add] <;> omega
  have x2 : ∀ i, 1 ≤ i → i ≤ W → (∀ p, p ≤ M → (p = cur ∨ nO F p = true) → hO F p ≠ i) → uO G3 i = uO G i := fun i _ _ q => by
    have k := L23.2 i (fun p hp hn => q p (by omega) ((s28 p).mp hn))
    unfold uO
    rw [k, G2o 23 (by decide)]
  have x3 : ∀ p, 1 ≤ p → p ≤ M → (p = cur ∨ nO F p = true) → vO G3 p = vO G p - sO G2 nx := fun p p1 p2 q => by
    have b := bv p p1 p2
    unfold vO at b ⊢
    unfold sO at dl ⊢
    rw [eG3, lb_24, if_pos ⟨by omega, (s28 p).mpr q⟩, G2o 24 (by decide), l_sub] <;> omega
  have x4 : ∀ p, 1 ≤ p → p ≤ M → p ≠ cur → nO F p = false → vO G3 p = vO G p := fun p p1 p2 q1 q2 => by
    unfold vO
    rw [eG3, lb_24, if_neg (fun z => z.2 ((z28 p).mpr ⟨q1, q2⟩)), G2o 24 (by decide)]
  have x5 : ∀ p, p ≤ M → (p = cur ∨ nO F p = true) → sO G3 p = sO G2 p := fun p p2 q => by
    unfold sO
    rw [eG3, lb_25, if_neg (fun z => (s28 p).mpr q z.2)]
  have x6 : ∀ p, p ≤ M → p ≠ cur → nO F p = false → sO G3 p = sO G2 p - sO G2 nx := fun p p2 q1 q2 => by
    have p0 : p ≠ 0 := fun e => by
      subst e
      rcases s0 with z | z
      · exact q1 z
      · rw [q2] at z
        cases z
    have b := (SL p (by omega) p2 q1 q2).2.2.2.2
    unfold sO at b dl ⊢
    rw [eG3, lb_25, if_pos ⟨by omega, (z28 p).mpr ⟨q1, q2⟩⟩, l_sub] <;> omega
  obtain ⟨H', T'⟩ := TI_step H T0 hc g4 r1 r2 hz f1 f2 f3 e1 e0 (nx := nx) (by omega) nle nz.1 nz.2 n5 x1 x2 x3 x4 x5 x6
  have en : (fun p => if p = cur then true else nO F p) = nO F2 := funext fun p => (n28 p).symm
  rw [en] at T'
  have st1 : st ≤ M := by
    have := cF_pos t2 (M + 1) (by omega)
    omega
  refine ⟨nle, st1, hi.1, hi.2, fun p hp _ => ⟨(hdW p hp).1, ?_⟩, ⟨fun p => if p = cur then st else tm p, ?_, ?_, ?_, ?_, ?_, ?_⟩, ?_, ?_⟩
  · rw [eF2o 26 (by decide), eFo 26 (by decide)]
    exact g2 p hp
  · rw [eF2o 19 (by decide), eFo 19 (by decide)]
    exact g1
  · intro p hp
    rw [h26, eF2o 26 (by decide), eFo 26 (by decide)]
    exact g2 p hp
  · intro _ p p1 p2
    by_cases q : fsc F1 G (hO F cur) (M + 1) p = true
    · rw [(B2 p).1 q, (bO2 p).1 q]
    · rw [(B2 p).2 q, (bO2 p).2 q]
      by_cases e : st = 0
      · exfalso
        refine q ((fs_t p).mpr ?_)
        have c0 := (t6 e).1
        have k := (t6 e).2 p p2
        have pc : p ≠ cur := by omega
        have w := SL p p1 p2 pc k.1
        refine ⟨p1, p2, pc, k.1, ?_⟩
        refine Classical.byContradiction fun y => ?_
        have := ((e1 p p1 p2 pc k.1).2 y).1
        have w2 := w.2.2.2.2.2
        rw [this, k.2] at w2
        unfold FARi at w2
        omega
      · exact g3 e p p1 p2
  · rw [h26]
    exact g4
  · rw [cE, h26]
    exact H'
  · rw [cE, h26]
    exact T'
  · intro a h1 h2 h3
    rw [eF2o a h2, eFo a h3]
  · intro a h1 h2 h3
    funext j
    rw [eG3, lb_o h1 h2 h3, G2o a h3]
end
