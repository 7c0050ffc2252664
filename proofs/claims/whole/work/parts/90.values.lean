/-! value, today, worth, lent, both: pieces -/
def Op4 (sc : Nat × (Nat → Int32)) (kx km : Nat) (as : List Value) (h : Hp) : Prop := ∃ r h1 h2, Cc sc kx (.ref 1 :: as) h (some r) h1 ∧ Cc sc km (.ref 39 :: as) h1 (some r) h2 ∧ Sim0 h2 ∧ OutI h2 ∧ KpW h h2
theorem Mid.refl {h : Hp} (hS : Sim0 h) (O : OutI h) : Mid h h := ⟨hS.1, BF.refl h, O, rfl, rfl, rfl⟩
theorem op4_of {sc : Nat × (Nat → Int32)} {kx km : Nat} {as : List Value} {h : Hp} {r : Value} {h1 h2 : Hp} (hS : Sim0 h) (a : Cc sc kx (.ref 1 :: as) h (some r) h1) (b : Cc sc km (.ref 39 :: as) h1 (some r) h2) (m : Mid h h2) : Op4 sc kx km as h := ⟨r, h1, h2, a, b, m.sim hS, m.2.2.1, m.kpW⟩
theorem mkHM {h : Hp} (hS : Sim0 h) (O : OutI h) {nc j : Nat} (hn : nc ≤ 3) (e1 : zI h 1 1 = nI nc) (e2 : zI h 39 1 = nI nc) (hj : j < nc) : HM h (cpO h j) j (zA h 2 j) nc := ⟨hS, O, hn, e1, e2, hj, rfl, rfl⟩
section
variable {sc : Nat × (Nat → Int32)} {h : Hp} {C : Cp} {j c nc n rule e : Nat}
theorem shp39 (hs : Shp h) : zK h 39 = 11 ∧ zK h 1 = 10 ∧ zK h 6 = 3 ∧ zK h 2 = 15 ∧ zN h 2 = 3 ∧ zA h 1 0 = 2 ∧ zA h 1 3 = 6 := ⟨(hs.1 39 (by decide)).1, (hs.1 1 (by decide)).1, (hs.1 6 (by decide)).1, (hs.1 2 (by decide)).1, (hs.1 2 (by decide)).2, hs.2 (1, 0, 2) (by decide), hs.2 (1, 3, 6) (by decide)⟩
/-- the gain of a look at the best -/
theorem HM.bg (H : HM h C j c nc) (hn1 : 1 ≤ n) (hn : n ≤ 12) {got giv : Option Nat} (ok : okG C got giv) : ∃ g, Cc sc 136 [.ref 1, .ref c, .int (nI n), .int (oI got), .int (oI giv)] h (some (.long (lN (Vd C 0 0 n n (g1C C got giv)) - lN (Vd C 0 0 n n (g0C C))))) g ∧ Mid h g := by
  obtain ⟨nb, br, K, M, c65⟩ := H.k
  have hs := H.1.1
  obtain ⟨F, G, sp, C1, l1, l2, l3, l4⟩ := H.look (sc := sc) (s0 := 1) (rule := 0) (e := 0) hn1 hn (by decide) (by decide) (by decide)
  have cg := c_gain (sc := sc) (h := upA h 6 0 c) (F := F) (G := G) (CK_6 K c) l3 rfl l2 ok l1
  rw [nh_eq (shp_6 hs c)] at cg
  refine ⟨_, ?_, l4⟩
  obtain ⟨s1, s2, s3, s4, s5, s6, s7⟩ := shp39 hs
  have g7 : zA (wIJ (upA h 6 0 c) F G) 1 3 = 6 := (shp_6 hs c).2 (1, 3, 6) (by decide)
  refine cc_of 30 rfl rfl ?_
  refine And.intro (show kin 10 (zK h 1) = true by rw [s2]; rfl) ?_
  rw [s7]
  refine And.intro ⟨rfl, s3⟩ (And.intro rfl (Exists.intro _ (Exists.intro _ (And.intro C1 ?_))))
  refine And.intro (show kin 10 (zK h 1) = true by rw [s2]; rfl) ?_
  rw [g7]
  refine And.intro ⟨rfl, show zK h 6 = 3 from s3⟩ (And.intro rfl (Exists.intro _ (Exists.intro _ (And.intro cg ?_))))
  exact ⟨trivial, rfl, rfl⟩
/-- the state's number with one more, one less -/
theorem g1_m (H : HM h C j c nc) {got giv : Option Nat} (ok : okG C got giv) : ixN T6 (g1C C got giv) (qS C) < 6 ^ qS C ∧ dgN (qS C) T6 Z6 (ixN T6 (g1C C got giv) (qS C)) = g1C C got giv ∧ ixN T6 (g1C C got giv) (qS C) + oT T6 giv = ixN T6 (g0C C) (qS C) + oT T6 got := by
  obtain ⟨nb, br, K, M, c65⟩ := H.k
  have b := K.b
  obtain ⟨k1, k2, k3⟩ := id ok
  obtain ⟨o1, o2⟩ := (NS_m b.2.2.1 b.2.2.2.1).of (g := g1C C got giv) (fun s hs => by
    have v0 := (K.v hs (by decide : 0 < 5)).2
    rw [show mxW 0 = 5 from rfl] at v0
    show g1C C got giv s < 6
    unfold g1C g0C
    rw [if_pos hs]
    by_cases q : got = some s
    · have := (k1 s q).2
      rw [if_pos q]
      split <;> omega
    · rw [if_neg q]
      split <;> omega) (fun s hs => by
    unfold g1C g0C
    rw [if_neg (by omega), if_neg (fun z => by have := (k1 s z).1; omega)]
    simp)
  exact ⟨o1, o2, g1_ix ok T6⟩
theorem HM.low (H : HM h C j c nc) (hn1 : 1 ≤ n) (hn : n ≤ 12) {s : Nat} {more : Int32} {got giv : Option Nat} (ok : okG C got giv) (hs3 : s ≤ 3) (hm : nI (ixN T6 (g0C C) (qS C)) + more * nI (6 ^ s) = nI (ixN T6 (g1C C got giv) (qS C))) : ∃ g, Cc sc 177 [.ref 39, .int (nI j), .int (nI s), .int more, .int (nI n)] h (some (.long (lN (Vd C 0 0 n n (g1C C got giv))))) g ∧ Mid h g := by
  obtain ⟨nb, br, K, M, c65⟩ := H.k
  have b := K.b
  have hs := H.1.1
  obtain ⟨G, C1, m, g1, g2⟩ := H.all (sc := sc) (rule := 0) (e := 0) hn1 hn (by decide) (by decide)
  have H1 := H.mid m
  obtain ⟨c1, -, -⟩ := H1.st (sc := sc)
  obtain ⟨o1, o2, o3⟩ := g1_m H ok
  have n216 := six_b (S := qS C) b.2.2.2.1
  have C1' : Cc sc 173 [.ref 39, .int (nI j), .int (nI 0), .int (nI n), .int (nI 0)] (nh h) none (wIJ (nh h) (zI h) G) := by rw [nh_eq hs] at C1 ⊢; exact C1
  refine ⟨_, cc_nh (F := fun _ => wIJ (nh h) (zI h) G) hs (cc_of 40 rfl rfl ?_), m⟩
  refine And.intro ⟨rfl, rfl⟩ (And.intro rfl (Exists.intro _ (Exists.intro _ (And.intro (C1') ?_))))
  refine And.intro rfl ?_
  refine And.intro ⟨rfl, rfl⟩ (And.intro rfl (Exists.intro _ (Exists.intro _ (And.intro (c1) ?_))))
  refine And.intro rfl (And.intro rfl (Exists.intro _ (Exists.intro _ (And.intro (c_sixes hs3) ?_))))
  refine And.intro (show _ ∧ inB (nI (ixN T6 (g0C C) (qS C)) + more * nI (6 ^ s)) 216 = true from ⟨rfl, by rw [hm]; exact inB_nI (by omega) (by decide)⟩) ?_
  rw [hm, nI_clamp (by omega)]
  exact ⟨trivial, congrArg (fun v => some (Value.long v)) (show G 47 _ = _ by rw [g1 _ o1, o2]), rfl⟩
theorem HM.low0 (H : HM h C j c nc) (hn1 : 1 ≤ n) (hn : n ≤ 12) {s : Nat} (hs3 : s ≤ 3) : ∃ g, Cc sc 177 [.ref 39, .int (nI j), .int (nI s), .int 0, .int (nI n)] h (some (.long (lN (Vd C 0 0 n n (g0C C))))) g ∧ Mid h g := by
  have e : g1C C none none = g0C C := by
    funext s
    unfold g1C
    simp
  have := H.low (sc := sc) hn1 hn (s := s) (more := 0) (got := none) (giv := none) ⟨fun s z => (by cases z), fun s z => (by cases z), fun s z => (by cases z.1)⟩ hs3 (by rw [e, Int32.zero_mul, Int32.add_zero])
  rw [e] at this
  exact this
theorem HM.lowP (H : HM h C j c nc) (hn1 : 1 ≤ n) (hn : n ≤ 12) {s : Nat} (ok : okG C (some s) none) (hs3 : s ≤ 3) : ∃ g, Cc sc 177 [.ref 39, .int (nI j), .int (nI s), .int 1, .int (nI n)] h (some (.long (lN (Vd C 0 0 n n (g1C C (some s) none))))) g ∧ Mid h g := by
  obtain ⟨o1, o2, o3⟩ := g1_m H ok
  have o3 : ixN T6 (g1C C (some s) none) (qS C) + 0 = ixN T6 (g0C C) (qS C) + 6 ^ s := o3
  exact H.low (sc := sc) hn1 hn ok hs3 (by rw [Int32.one_mul, nI_add, ← o3, Nat.add_zero])
theorem HM.lowM (H : HM h C j c nc) (hn1 : 1 ≤ n) (hn : n ≤ 12) {s : Nat} (ok : okG C none (some s)) (hs3 : s ≤ 3) : ∃ g, Cc sc 177 [.ref 39, .int (nI j), .int (nI s), .int (-1), .int (nI n)] h (some (.long (lN (Vd C 0 0 n n (g1C C none (some s)))))) g ∧ Mid h g := by
  obtain ⟨o1, o2, o3⟩ := g1_m H ok
  have o3 : ixN T6 (g1C C none (some s)) (qS C) + 6 ^ s = ixN T6 (g0C C) (qS C) + 0 := o3
  refine H.low (sc := sc) hn1 hn ok hs3 ?_
  rw [← Int32.neg_eq_neg_one_mul, ← Int32.sub_eq_add_neg, show ixN T6 (g0C C) (qS C) = ixN T6 (g1C C none (some s)) (qS C) + 6 ^ s by omega, pk_sub (by omega), Nat.add_sub_cancel]
theorem HM.more (H : HM h C j c nc) (hn1 : 1 ≤ n) (hn : n ≤ 12) {les mor : Nat} (ok : okG C (some mor) (some les)) (h1 : les ≤ 3) (h2 : mor ≤ 3) : ∃ g, Cc sc 181 [.ref 39, .int (nI j), .int (nI les), .int (nI mor), .int (nI n)] h (some (.int (bI (decide (Vd C 0 0 n n (g0C C) < Vd C 0 0 n n (g1C C (some mor) (some les))))))) g ∧ Mid h g := by
  obtain ⟨nb, br, K, M, c65⟩ := H.k
  have b := K.b
  have hs := H.1.1
  obtain ⟨G, C1, m, g1, g2⟩ := H.all (sc := sc) (rule := 0) (e := 0) hn1 hn (by decide) (by decide)
  have H1 := H.mid m
  obtain ⟨c1, s1, s2⟩ := H1.st (sc := sc)
  obtain ⟨o1, o2, o3⟩ := g1_m H ok
  have o3 : ixN T6 (g1C C (some mor) (some les)) (qS C) + 6 ^ les = ixN T6 (g0C C) (qS C) + 6 ^ mor := o3
  have n216 := six_b (S := qS C) b.2.2.2.1
  have hb9 : ∀ k, k ≤ qL C → qB C k ≤ 9 := by
    obtain ⟨k1, k2, k3, k4, k5, k6, k7⟩ := M
    exact fun k hk => (k7 k hk).1
  have vb := Vd_le (C := C) (rule := 0) (e := 0) (n := n) b.2.1 hb9 (fun s w => K.v12) n
  have v1 := vb (g0C C)
  have v2 := vb (g1C C (some mor) (some les))
  have C1' : Cc sc 173 [.ref 39, .int (nI j), .int (nI 0), .int (nI n), .int (nI 0)] (nh h) none (wIJ (nh h) (zI h) G) := by rw [nh_eq hs] at C1 ⊢; exact C1
  have em : nI (ixN T6 (g0C C) (qS C)) - nI (6 ^ les) + nI (6 ^ mor) = nI (ixN T6 (g1C C (some mor) (some les)) (qS C)) := by
    have : nI (ixN T6 (g0C C) (qS C)) + nI (6 ^ mor) - nI (6 ^ les) = nI (ixN T6 (g1C C (some mor) (some les)) (qS C)) := by rw [nI_add, ← o3, pk_sub (by omega), Nat.add_sub_cancel]
    rw [← this, Int32.sub_eq_add_neg, Int32.sub_eq_add_neg, Int32.add_assoc, Int32.add_comm (-nI (6 ^ les)), ← Int32.add_assoc]
  generalize hx : ixN T6 (g0C C) (qS C) = x0 at *
  generalize hy : ixN T6 (g1C C (some mor) (some les)) (qS C) = y0 at *
  refine ⟨_, cc_nh (F := fun _ => wIJ (nh h) (zI h) G) hs (cc_of 60 rfl rfl ?_), m⟩
  refine And.intro ⟨rfl, rfl⟩ (And.intro rfl (Exists.intro _ (Exists.intro _ (And.intro (C1') ?_))))
  refine And.intro ⟨rfl, rfl⟩ (And.intro rfl (Exists.intro _ (Exists.intro _ (And.intro (c1) ?_))))
  refine And.intro rfl ?_
  refine And.intro rfl (And.intro rfl (Exists.intro _ (Exists.intro _ (And.intro (c_sixes h1) ?_))))
  refine And.intro rfl (And.intro rfl (Exists.intro _ (Exists.intro _ (And.intro (c_sixes h2) ?_))))
  refine And.intro (show _ ∧ inB (nI x0 - nI (6 ^ les) + nI (6 ^ mor)) 216 = true from ⟨rfl, by rw [em]; exact inB_nI (by omega) (by decide)⟩) ?_
  rw [em, nI_clamp (by omega), show zJ (wIJ (nh h) (zI h) G) (zA (wIJ (nh h) (zI h) G) 39 14) y0 = lN (Vd C 0 0 n n (g1C C (some mor) (some les))) from (by show G 47 y0 = _; rw [g1 y0 o1, o2])]
  refine And.intro rfl ?_
  refine And.intro (⟨rfl, inB_nI (n := 216) (by omega) (by decide)⟩) ?_
  rw [nI_clamp (by omega), show zJ (wIJ (nh h) (zI h) G) (zA (wIJ (nh h) (zI h) G) 39 14) x0 = lN (Vd C 0 0 n n (g0C C)) from (by show G 47 x0 = _; rw [g1 x0 s1, s2])]
  by_cases q : Vd C 0 0 n n (g0C C) < Vd C 0 0 n n (g1C C (some mor) (some les))
  · refine br_f (show ¬ lg_cmp (lN (Vd C 0 0 n n (g1C C (some mor) (some les)))) (lN (Vd C 0 0 n n (g0C C))) ≤ 0 by rw [cmp_le0, pk_lT (by omega), pk_lT (by omega)]; omega) ?_
    exact ⟨Or.inr ⟨rfl, Or.inr rfl⟩, by rw [decide_eq_true q]; rfl, rfl⟩
  · refine br_t (show lg_cmp (lN (Vd C 0 0 n n (g1C C (some mor) (some les)))) (lN (Vd C 0 0 n n (g0C C))) ≤ 0 by rw [cmp_le0, pk_lT (by omega), pk_lT (by omega)]; omega) ?_
    exact ⟨Or.inr ⟨rfl, Or.inl rfl⟩, by rw [decide_eq_false q]; rfl, rfl⟩
end
