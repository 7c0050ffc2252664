/-! worth, lent, both -/
section
variable {sc : Nat × (Nat → Int32)} {h : Hp}
theorem HM.noSort {g : Hp} {C : Cp} {j c nc t : Nat} (H : HM g C j c nc) (ht : t < qS C) : Cc sc 148 [.ref 39, .int (nI j), .int (nI t)] g (some (.int (bI (!true)))) g := by
  obtain ⟨nb, br, K, M, -⟩ := H.k
  obtain ⟨k1, k2, k3, k4, k5, k6, k7⟩ := M
  exact c_noSort_in H.1.1 H.2.2.1 H.2.2.2.2.1 H.2.2.2.2.2.1 k4 k2.2.2.2.1 ht
theorem HM.of {g : Hp} {C : Cp} {j c nc t w : Nat} (H : HM g C j c nc) (ht : t < qS C) (hw : w < 5) : Cc sc 149 [.ref 39, .int (nI j), .int (nI t), .int (nI w)] g (some (.int (nI (qV C t w)))) g := by
  obtain ⟨nb, br, K, M, -⟩ := H.k
  have := c_ofM (sc := sc) (h := g) (F := zI g) (G := zJ g) H.1.1 M ht hw
  rw [wIJ_id, nh_eq H.1.1] at this
  exact this
theorem HM.num {g : Hp} {C : Cp} {j c nc t w : Nat} (H : HM g C j c nc) (ht : t < qS C) (hw : w < 5) : Cc sc 5 [.ref c, .int (nI t), .int (nI w)] g (some (.int (nI (qV C t w)))) g ∧ zK g c = 0 ∧ qV C t 0 ≤ 5 := by
  obtain ⟨nb, br, K, M, -⟩ := H.k
  have := c_numF (sc := sc) (h := g) (F := zI g) (G := zJ g) K (fun _ _ => rfl) ht hw
  rw [wIJ_id, nh_eq H.1.1] at this
  refine ⟨this, ?_, ?_⟩
  · obtain ⟨k1, k2, k3, k4, -⟩ := K
    exact k4
  · have := (K.v ht (by decide : 0 < 5)).2
    rw [show mxW 0 = 5 from rfl] at this
    exact this
theorem op_worth (hS : Sim0 h) (O : OutI h) (x s n : Int32) : Op4 sc 97 178 [.int x, .int s, .int n] h := by
  obtain ⟨h, rfl⟩ : ∃ g, h = nh g := ⟨h, (nh_eq hS.1).symm⟩
  have hs := hS.1
  have hC := hS.2.2.2.1
  obtain ⟨b, hb1, hb2⟩ := sort_cases hC x s
  have cX := c_isSortOf (sc := sc) hs hC x s hb1
  have cM := c_noSort (sc := sc) hs hC x s hb1
  have bad : ∀ (a : Cc sc 97 [.ref 1, .int x, .int s, .int n] (nh h) (some (.long (-9223372036854775808))) (nh h)) (b : Cc sc 178 [.ref 39, .int x, .int s, .int n] (nh h) (some (.long (-9223372036854775808))) (nh h)), Op4 sc 97 178 [.int x, .int s, .int n] (nh h) := fun a b => op4_of hS a b (Mid.refl hS O)
  cases b with
  | false =>
    refine bad ?_ ?_
    · refine cc_of 60 rfl rfl ?_
      refine And.intro ⟨rfl, rfl⟩ (And.intro rfl (Exists.intro _ (Exists.intro _ (And.intro (cX) ?_))))
      refine br_t (by rfl) ?_
      exact ⟨trivial, rfl, rfl⟩
    · refine cc_of 60 rfl rfl ?_
      refine And.intro ⟨rfl, rfl⟩ (And.intro rfl (Exists.intro _ (Exists.intro _ (And.intro (cM) ?_))))
      refine br_t (by decide) ?_
      refine And.intro rfl (And.intro rfl (Exists.intro _ (Exists.intro _ (And.intro (c_lost) ?_))))
      exact ⟨trivial, rfl, rfl⟩
  | true =>
    obtain ⟨j, t, nc, c, nb, br, m1, m2, m3, m4, rfl, rfl, m7, D⟩ := hb2 rfl
    have H := mkHM hS O m1 m2 m3 m4
    have hc : zA (nh h) 2 j = c := D.A.1
    rw [hc] at H
    have m7 : t < qS (cpO (nh h) j) := m7
    generalize hC : cpO (nh h) j = C at *
    obtain ⟨cn, kc, v5⟩ := H.num (sc := sc) m7 (by decide : 0 < 5)
    have ij : inB (nI j) 3 = true := inB_nI (by omega) (by decide)
    have ej : (nI j).toNatClampNeg = j := nI_clamp (by omega)
    obtain ⟨_, _, K, M, -⟩ := H.k
    have b := K.b
    by_cases q : 1 ≤ n.toInt ∧ n.toInt ≤ 12
    · have cd := c_isDay (sc := sc) (h := nh h) n
      rw [decide_eq_true q] at cd
      obtain ⟨n, hn, rfl⟩ := i_of (a := n) (n := 13) (by omega) (by omega) (by decide)
      rw [nI_toInt (by omega)] at q
      by_cases w : qV C t 0 < 5
      · have ok : okG C (some t) none := ⟨fun s z => (by cases z; exact ⟨m7, w⟩), fun s z => (by cases z), fun s z => (by cases z.2)⟩
        obtain ⟨g1, C1, y1⟩ := H.bg (sc := sc) (n := n) (by omega) (by omega) ok
        have H1 := H.mid y1
        obtain ⟨g2, C2, y2⟩ := H1.lowP (sc := sc) (n := n) (by omega) (by omega) ok (by omega)
        have H2 := H1.mid y2
        obtain ⟨g3, C3, y3⟩ := H2.low0 (sc := sc) (n := n) (by omega) (by omega) (s := t) (by omega)
        have k39 := fun (g : Hp) (H : HM g C j c nc) => (shp39 H.1.1).1
        refine op4_of (r := .long (lN (Vd C 0 0 n n (g1C C (some t) none)) - lN (Vd C 0 0 n n (g0C C)))) hS (h1 := g1) (h2 := g3) ?_ ?_ ((y1.trans y2).trans y3)
        · refine cc_of 60 rfl rfl ?_
          refine And.intro ⟨rfl, rfl⟩ (And.intro rfl (Exists.intro _ (Exists.intro _ (And.intro (cX) ?_))))
          refine br_f (by decide) ?_
          refine And.intro rfl (And.intro rfl (Exists.intro _ (Exists.intro _ (And.intro (cd) ?_))))
          refine br_f (by decide) ?_
          refine And.intro rfl ?_
          refine And.intro (⟨rfl, ij⟩) ?_
          rw [ej, show zA (nh h) (zA (nh h) 1 0) j = c from hc]
          refine And.intro ⟨rfl, kc⟩ (And.intro rfl (Exists.intro _ (Exists.intro _ (And.intro (cn) ?_))))
          refine br_t (show nI (qV C t 0) < 5 from nI_lt (a := qV C t 0) (b := 5) w (by omega)) ?_
          refine And.intro rfl ?_
          refine And.intro (⟨rfl, ij⟩) ?_
          rw [ej, show zA (nh h) (zA (nh h) 1 0) j = c from hc]
          refine And.intro ⟨rfl, rfl⟩ (And.intro rfl (Exists.intro _ (Exists.intro _ (And.intro (C1) ?_))))
          exact ⟨trivial, rfl, rfl⟩
        · have cs := c_isSpan (sc := sc) (h := g1) (nI n)
          rw [nI_toInt (by omega), decide_eq_true q] at cs
          refine cc_of 60 rfl rfl ?_
          refine And.intro ⟨rfl, k39 g1 H1⟩ (And.intro rfl (Exists.intro _ (Exists.intro _ (And.intro (H1.noSort m7) ?_))))
          refine br_f (by exact fun z => z rfl) ?_
          refine And.intro rfl (And.intro rfl (Exists.intro _ (Exists.intro _ (And.intro (cs) ?_))))
          refine br_f (by decide) ?_
          refine And.intro ⟨rfl, k39 g1 H1⟩ (And.intro rfl (Exists.intro _ (Exists.intro _ (And.intro (H1.of m7 (by decide : 0 < 5)) ?_))))
          refine br_t (fun z => by have := (nI_eq (a := qV C t 0) (b := 5) (by omega) (by omega)).mp z; omega) ?_
          refine And.intro ⟨rfl, k39 g1 H1⟩ (And.intro rfl (Exists.intro _ (Exists.intro _ (And.intro (C2) ?_))))
          refine And.intro ⟨rfl, k39 g2 H2⟩ (And.intro rfl (Exists.intro _ (Exists.intro _ (And.intro (C3) ?_))))
          exact ⟨trivial, rfl, rfl⟩
      · refine bad ?_ ?_
        · refine cc_of 60 rfl rfl ?_
          refine And.intro ⟨rfl, rfl⟩ (And.intro rfl (Exists.intro _ (Exists.intro _ (And.intro (cX) ?_))))
          refine br_f (by decide) ?_
          refine And.intro rfl (And.intro rfl (Exists.intro _ (Exists.intro _ (And.intro (cd) ?_))))
          refine br_f (by decide) ?_
          refine And.intro rfl ?_
          refine And.intro (⟨rfl, ij⟩) ?_
          rw [ej, show zA (nh h) (zA (nh h) 1 0) j = c from hc]
          refine And.intro ⟨rfl, kc⟩ (And.intro rfl (Exists.intro _ (Exists.intro _ (And.intro (cn) ?_))))
          refine br_f (show ¬ nI (qV C t 0) < 5 from nI_nlt (a := qV C t 0) (b := 5) (by omega) (by omega)) ?_
          exact ⟨trivial, rfl, rfl⟩
        · have cs := c_isSpan (sc := sc) (h := nh h) (nI n)
          rw [nI_toInt (by omega), decide_eq_true q] at cs
          refine cc_of 60 rfl rfl ?_
          refine And.intro ⟨rfl, rfl⟩ (And.intro rfl (Exists.intro _ (Exists.intro _ (And.intro (cM) ?_))))
          refine br_f (by exact fun z => z rfl) ?_
          refine And.intro rfl (And.intro rfl (Exists.intro _ (Exists.intro _ (And.intro (cs) ?_))))
          refine br_f (by decide) ?_
          refine And.intro ⟨rfl, rfl⟩ (And.intro rfl (Exists.intro _ (Exists.intro _ (And.intro (H.of m7 (by decide : 0 < 5)) ?_))))
          refine br_f (fun z => z (by rw [show qV C t 0 = 5 by omega]; rfl)) ?_
          refine And.intro rfl (And.intro rfl (Exists.intro _ (Exists.intro _ (And.intro (c_lost) ?_))))
          exact ⟨trivial, rfl, rfl⟩
    · refine bad ?_ ?_
      · refine cc_of 60 rfl rfl ?_
        refine And.intro ⟨rfl, rfl⟩ (And.intro rfl (Exists.intro _ (Exists.intro _ (And.intro (cX) ?_))))
        refine br_f (by decide) ?_
        refine And.intro rfl (And.intro rfl (Exists.intro _ (Exists.intro _ (And.intro (c_isDay n) ?_))))
        refine br_t (by rw [bI_z]; exact decide_eq_false q) ?_
        exact ⟨trivial, rfl, rfl⟩
      · refine cc_of 60 rfl rfl ?_
        refine And.intro ⟨rfl, rfl⟩ (And.intro rfl (Exists.intro _ (Exists.intro _ (And.intro (cM) ?_))))
        refine br_f (by exact fun z => z rfl) ?_
        refine And.intro rfl (And.intro rfl (Exists.intro _ (Exists.intro _ (And.intro (c_isSpan n) ?_))))
        refine br_t (by rw [bI_z]; exact decide_eq_false q) ?_
        refine And.intro rfl (And.intro rfl (Exists.intro _ (Exists.intro _ (And.intro (c_lost) ?_))))
        exact ⟨trivial, rfl, rfl⟩
theorem l_assoc (a b c : Int64) : a + (b - c) = a + b - c := by rw [Int64.sub_eq_add_neg, Int64.sub_eq_add_neg, Int64.add_assoc]
theorem op_lent (hS : Sim0 h) (O : OutI h) (x y s n : Int32) : Op4 sc 99 180 [.int x, .int y, .int s, .int n] h := by
  obtain ⟨h, rfl⟩ : ∃ g, h = nh g := ⟨h, (nh_eq hS.1).symm⟩
  have hs := hS.1
  have hC := hS.2.2.2.1
  obtain ⟨b1, hb1, hb2⟩ := sort_cases hC x s
  obtain ⟨b2, hb3, hb4⟩ := sort_cases hC y s
  have cX := c_isSortOf (sc := sc) hs hC x s hb1
  have cM := c_noSort (sc := sc) hs hC x s hb1
  have cX2 := c_isSortOf (sc := sc) hs hC y s hb3
  have cM2 := c_noSort (sc := sc) hs hC y s hb3
  have bad : ∀ (a : Cc sc 99 [.ref 1, .int x, .int y, .int s, .int n] (nh h) (some (.long (-9223372036854775808))) (nh h)) (b : Cc sc 180 [.ref 39, .int x, .int y, .int s, .int n] (nh h) (some (.long (-9223372036854775808))) (nh h)), Op4 sc 99 180 [.int x, .int y, .int s, .int n] (nh h) := fun a b => op4_of hS a b (Mid.refl hS O)
  cases b1 with
  | false =>
    refine bad ?_ ?_
    · refine cc_of 80 rfl rfl ?_
      refine And.intro ⟨rfl, rfl⟩ (And.intro rfl (Exists.intro _ (Exists.intro _ (And.intro (cX) ?_))))
      refine br_t (by rfl) ?_
      exact ⟨trivial, rfl, rfl⟩
    · refine cc_of 80 rfl rfl ?_
      refine And.intro ⟨rfl, rfl⟩ (And.intro rfl (Exists.intro _ (Exists.intro _ (And.intro (cM) ?_))))
      refine br_t (by decide) ?_
      refine And.intro rfl (And.intro rfl (Exists.intro _ (Exists.intro _ (And.intro (c_lost) ?_))))
      exact ⟨trivial, rfl, rfl⟩
  | true =>
    cases b2 with
    | false =>
      refine bad ?_ ?_
      · refine cc_of 80 rfl rfl ?_
        refine And.intro ⟨rfl, rfl⟩ (And.intro rfl (Exists.intro _ (Exists.intro _ (And.intro (cX) ?_))))
        refine br_f (by decide) ?_
        refine And.intro ⟨rfl, rfl⟩ (And.intro rfl (Exists.intro _ (Exists.intro _ (And.intro (cX2) ?_))))
        refine br_t (by rfl) ?_
        exact ⟨trivial, rfl, rfl⟩
      · refine cc_of 80 rfl rfl ?_
        refine And.intro ⟨rfl, rfl⟩ (And.intro rfl (Exists.intro _ (Exists.intro _ (And.intro (cM) ?_))))
        refine br_f (by exact fun z => z rfl) ?_
        refine And.intro ⟨rfl, rfl⟩ (And.intro rfl (Exists.intro _ (Exists.intro _ (And.intro (cM2) ?_))))
        refine br_t (by decide) ?_
        refine And.intro rfl (And.intro rfl (Exists.intro _ (Exists.intro _ (And.intro (c_lost) ?_))))
        exact ⟨trivial, rfl, rfl⟩
    | true =>
      by_cases xy : x = y
      · refine bad ?_ ?_
        · refine cc_of 80 rfl rfl ?_
          refine And.intro ⟨rfl, rfl⟩ (And.intro rfl (Exists.intro _ (Exists.intro _ (And.intro (cX) ?_))))
          refine br_f (by decide) ?_
          refine And.intro ⟨rfl, rfl⟩ (And.intro rfl (Exists.intro _ (Exists.intro _ (And.intro (cX2) ?_))))
          refine br_f (by decide) ?_
          refine br_t xy ?_
          exact ⟨trivial, rfl, rfl⟩
        · refine cc_of 80 rfl rfl ?_
          refine And.intro ⟨rfl, rfl⟩ (And.intro rfl (Exists.intro _ (Exists.intro _ (And.intro (cM) ?_))))
          refine br_f (by exact fun z => z rfl) ?_
          refine And.intro ⟨rfl, rfl⟩ (And.intro rfl (Exists.intro _ (Exists.intro _ (And.intro (cM2) ?_))))
          refine br_f (by exact fun z => z rfl) ?_
          refine br_t xy ?_
          refine And.intro rfl (And.intro rfl (Exists.intro _ (Exists.intro _ (And.intro (c_lost) ?_))))
          exact ⟨trivial, rfl, rfl⟩
      · by_cases q : 1 ≤ n.toInt ∧ n.toInt ≤ 12
        · obtain ⟨j, t, nc, c, nb, br, m1, m2, m3, m4, rfl, rfl, m7, D⟩ := hb2 rfl
          obtain ⟨j', t', nc', c', nb', br', p1, p2, p3, p4, rfl, p6, p7, D'⟩ := hb4 rfl
          obtain rfl : nc' = nc := (nI_eq (by omega) (by omega)).mp (p2.symm.trans m2)
          have b := D.B
          have b' := D'.B
          obtain rfl : t' = t := ((nI_eq (by omega) (by omega)).mp p6).symm
          have H := mkHM hS O m1 m2 m3 m4
          have H' := mkHM hS O m1 m2 m3 p4
          have hc : zA (nh h) 2 j = c := D.A.1
          have hc' : zA (nh h) 2 j' = c' := D'.A.1
          rw [hc] at H
          rw [hc'] at H'
          have m7 : t' < qS (cpO (nh h) j) := m7
          have p7 : t' < qS (cpO (nh h) j') := p7
          generalize hC1 : cpO (nh h) j = C at *
          generalize hC2 : cpO (nh h) j' = C' at *
          obtain ⟨cn, kc, v5⟩ := H.num (sc := sc) m7 (by decide : 0 < 5)
          obtain ⟨cn', kc', v5'⟩ := H'.num (sc := sc) p7 (by decide : 0 < 5)
          have ij : inB (nI j) 3 = true := inB_nI (by omega) (by decide)
          have ej : (nI j).toNatClampNeg = j := nI_clamp (by omega)
          have ij' : inB (nI j') 3 = true := inB_nI (by omega) (by decide)
          have ej' : (nI j').toNatClampNeg = j' := nI_clamp (by omega)
          have cd := c_isDay (sc := sc) (h := nh h) n
          rw [decide_eq_true q] at cd
          have cs := fun g : Hp => c_isSpan (sc := sc) (h := g) n
          rw [decide_eq_true q] at cs
          obtain ⟨n, hn, rfl⟩ := i_of (a := n) (n := 13) (by omega) (by omega) (by decide)
          rw [nI_toInt (by omega)] at q
          have xyn : ¬ nI j = nI j' := xy
          by_cases w1 : 0 < qV C t' 0
          · by_cases w2 : qV C' t' 0 < 5
            · have ok1 : okG C none (some t') := ⟨fun s z => (by cases z), fun s z => (by cases z; exact ⟨m7, w1⟩), fun s z => (by cases z.1)⟩
              have ok2 : okG C' (some t') none := ⟨fun s z => (by cases z; exact ⟨p7, w2⟩), fun s z => (by cases z), fun s z => (by cases z.2)⟩
              obtain ⟨g1, C1, y1⟩ := H.bg (sc := sc) (n := n) (by omega) (by omega) ok1
              have A1 := H.mid y1
              have A1' := H'.mid y1
              obtain ⟨g2, C2, y2⟩ := A1'.bg (sc := sc) (n := n) (by omega) (by omega) ok2
              have A2 := A1.mid y2
              have A2' := A1'.mid y2
              obtain ⟨g3, C3, y3⟩ := A2.lowM (sc := sc) (n := n) (by omega) (by omega) ok1 (by omega)
              have A3 := A2.mid y3
              have A3' := A2'.mid y3
              obtain ⟨g4, C4, y4⟩ := A3.low0 (sc := sc) (n := n) (by omega) (by omega) (s := t') (by omega)
              have A4 := A3.mid y4
              have A4' := A3'.mid y4
              obtain ⟨g5, C5, y5⟩ := A4'.lowP (sc := sc) (n := n) (by omega) (by omega) ok2 (by omega)
              have A5 := A4.mid y5
              have A5' := A4'.mid y5
              obtain ⟨g6, C6, y6⟩ := A5'.low0 (sc := sc) (n := n) (by omega) (by omega) (s := t') (by omega)
              have k39 := fun {C : Cp} {j c : Nat} (g : Hp) (H : HM g C j c nc') => (shp39 H.1.1).1
              have z1 := shp39 A1.1.1
              refine op4_of (r := .long (lN (Vd C 0 0 n n (g1C C none (some t'))) - lN (Vd C 0 0 n n (g0C C)) + (lN (Vd C' 0 0 n n (g1C C' (some t') none)) - lN (Vd C' 0 0 n n (g0C C'))))) hS (h1 := g2) (h2 := g6) ?_ ?_ (((((y1.trans y2).trans y3).trans y4).trans y5).trans y6)
              · refine cc_of 80 rfl rfl ?_
                refine And.intro ⟨rfl, rfl⟩ (And.intro rfl (Exists.intro _ (Exists.intro _ (And.intro (cX) ?_))))
                refine br_f (by decide) ?_
                refine And.intro ⟨rfl, rfl⟩ (And.intro rfl (Exists.intro _ (Exists.intro _ (And.intro (cX2) ?_))))
                refine br_f (by decide) ?_
                refine br_f xyn ?_
                refine And.intro rfl (And.intro rfl (Exists.intro _ (Exists.intro _ (And.intro (cd) ?_))))
                refine br_t (by decide) ?_
                refine And.intro rfl ?_
                refine And.intro (⟨rfl, ij⟩) ?_
                rw [ej, show zA (nh h) (zA (nh h) 1 0) j = c from hc]
                refine And.intro ⟨rfl, kc⟩ (And.intro rfl (Exists.intro _ (Exists.intro _ (And.intro (cn) ?_))))
                refine br_f (show ¬ nI (qV C t' 0) ≤ 0 from nI_ge (a := 0) (b := qV C t' 0) w1 (by omega)) ?_
                refine And.intro rfl ?_
                refine And.intro (⟨rfl, ij'⟩) ?_
                rw [ej', show zA (nh h) (zA (nh h) 1 0) j' = c' from hc']
                refine And.intro ⟨rfl, kc'⟩ (And.intro rfl (Exists.intro _ (Exists.intro _ (And.intro (cn') ?_))))
                refine br_t (show nI (qV C' t' 0) < 5 from nI_lt (a := qV C' t' 0) (b := 5) w2 (by omega)) ?_
                refine And.intro rfl ?_
                refine And.intro (⟨rfl, ij⟩) ?_
                rw [ej, show zA (nh h) (zA (nh h) 1 0) j = c from hc]
                refine And.intro ⟨rfl, rfl⟩ (And.intro rfl (Exists.intro _ (Exists.intro _ (And.intro (C1) ?_))))
                refine And.intro (show kin 10 (zK g1 1) = true by rw [z1.2.1]; rfl) ?_
                rw [z1.2.2.2.2.2.1]
                refine And.intro (show aar (zK g1 2) = true ∧ inB (nI j') (zN g1 2) = true from ⟨by rw [z1.2.2.2.1]; rfl, by rw [z1.2.2.2.2.1]; exact ij'⟩) ?_
                rw [ej', show zA g1 2 j' = c' from A1'.2.2.2.2.2.2.2]
                refine And.intro ⟨rfl, z1.2.1⟩ (And.intro rfl (Exists.intro _ (Exists.intro _ (And.intro (C2) ?_))))
                exact ⟨trivial, rfl, rfl⟩
              · refine cc_of 80 rfl rfl ?_
                refine And.intro ⟨rfl, k39 g2 A2⟩ (And.intro rfl (Exists.intro _ (Exists.intro _ (And.intro (A2.noSort m7) ?_))))
                refine br_f (by exact fun z => z rfl) ?_
                refine And.intro ⟨rfl, k39 g2 A2⟩ (And.intro rfl (Exists.intro _ (Exists.intro _ (And.intro (A2'.noSort p7) ?_))))
                refine br_f (by exact fun z => z rfl) ?_
                refine br_f xyn ?_
                refine And.intro rfl (And.intro rfl (Exists.intro _ (Exists.intro _ (And.intro (cs g2) ?_))))
                refine br_f (by decide) ?_
                refine And.intro ⟨rfl, k39 g2 A2⟩ (And.intro rfl (Exists.intro _ (Exists.intro _ (And.intro (A2.of m7 (by decide : 0 < 5)) ?_))))
                refine br_f (fun z => by have := (nI_eq (a := qV C t' 0) (b := 0) (by omega) (by omega)).mp z; omega) ?_
                refine And.intro ⟨rfl, k39 g2 A2⟩ (And.intro rfl (Exists.intro _ (Exists.intro _ (And.intro (A2'.of p7 (by decide : 0 < 5)) ?_))))
                refine br_t (fun z => by have := (nI_eq (a := qV C' t' 0) (b := 5) (by omega) (by omega)).mp z; omega) ?_
                refine And.intro ⟨rfl, k39 g2 A2⟩ (And.intro rfl (Exists.intro _ (Exists.intro _ (And.intro (C3) ?_))))
                refine And.intro ⟨rfl, k39 g3 A3⟩ (And.intro rfl (Exists.intro _ (Exists.intro _ (And.intro (C4) ?_))))
                refine And.intro ⟨rfl, k39 g4 A4⟩ (And.intro rfl (Exists.intro _ (Exists.intro _ (And.intro (C5) ?_))))
                refine And.intro ⟨rfl, k39 g5 A5⟩ (And.intro rfl (Exists.intro _ (Exists.intro _ (And.intro (C6) ?_))))
                exact ⟨trivial, congrArg (fun v => some (Value.long v)) (l_assoc _ _ _).symm, rfl⟩
            · refine bad ?_ ?_
              · refine cc_of 80 rfl rfl ?_
                refine And.intro ⟨rfl, rfl⟩ (And.intro rfl (Exists.intro _ (Exists.intro _ (And.intro (cX) ?_))))
                refine br_f (by decide) ?_
                refine And.intro ⟨rfl, rfl⟩ (And.intro rfl (Exists.intro _ (Exists.intro _ (And.intro (cX2) ?_))))
                refine br_f (by decide) ?_
                refine br_f xyn ?_
                refine And.intro rfl (And.intro rfl (Exists.intro _ (Exists.intro _ (And.intro (cd) ?_))))
                refine br_t (by decide) ?_
                refine And.intro rfl ?_
                refine And.intro (⟨rfl, ij⟩) ?_
                rw [ej, show zA (nh h) (zA (nh h) 1 0) j = c from hc]
                refine And.intro ⟨rfl, kc⟩ (And.intro rfl (Exists.intro _ (Exists.intro _ (And.intro (cn) ?_))))
                refine br_f (show ¬ nI (qV C t' 0) ≤ 0 from nI_ge (a := 0) (b := qV C t' 0) w1 (by omega)) ?_
                refine And.intro rfl ?_
                refine And.intro (⟨rfl, ij'⟩) ?_
                rw [ej', show zA (nh h) (zA (nh h) 1 0) j' = c' from hc']
                refine And.intro ⟨rfl, kc'⟩ (And.intro rfl (Exists.intro _ (Exists.intro _ (And.intro (cn') ?_))))
                refine br_f (show ¬ nI (qV C' t' 0) < 5 from nI_nlt (a := qV C' t' 0) (b := 5) (by omega) (by omega)) ?_
                exact ⟨trivial, rfl, rfl⟩
              · refine cc_of 80 rfl rfl ?_
                refine And.intro ⟨rfl, rfl⟩ (And.intro rfl (Exists.intro _ (Exists.intro _ (And.intro (cM) ?_))))
                refine br_f (by exact fun z => z rfl) ?_
                refine And.intro ⟨rfl, rfl⟩ (And.intro rfl (Exists.intro _ (Exists.intro _ (And.intro (cM2) ?_))))
                refine br_f (by exact fun z => z rfl) ?_
                refine br_f xyn ?_
                refine And.intro rfl (And.intro rfl (Exists.intro _ (Exists.intro _ (And.intro (cs _) ?_))))
                refine br_f (by decide) ?_
                refine And.intro ⟨rfl, rfl⟩ (And.intro rfl (Exists.intro _ (Exists.intro _ (And.intro (H.of m7 (by decide : 0 < 5)) ?_))))
                refine br_f (fun z => by have := (nI_eq (a := qV C t' 0) (b := 0) (by omega) (by omega)).mp z; omega) ?_
                refine And.intro ⟨rfl, rfl⟩ (And.intro rfl (Exists.intro _ (Exists.intro _ (And.intro (H'.of p7 (by decide : 0 < 5)) ?_))))
                refine br_f (fun z => z (by rw [show qV C' t' 0 = 5 by omega]; rfl)) ?_
                refine And.intro rfl (And.intro rfl (Exists.intro _ (Exists.intro _ (And.intro (c_lost) ?_))))
                exact ⟨trivial, rfl, rfl⟩
          · refine bad ?_ ?_
            · refine cc_of 80 rfl rfl ?_
              refine And.intro ⟨rfl, rfl⟩ (And.intro rfl (Exists.intro _ (Exists.intro _ (And.intro (cX) ?_))))
              refine br_f (by decide) ?_
              refine And.intro ⟨rfl, rfl⟩ (And.intro rfl (Exists.intro _ (Exists.intro _ (And.intro (cX2) ?_))))
              refine br_f (by decide) ?_
              refine br_f xyn ?_
              refine And.intro rfl (And.intro rfl (Exists.intro _ (Exists.intro _ (And.intro (cd) ?_))))
              refine br_t (by decide) ?_
              refine And.intro rfl ?_
              refine And.intro (⟨rfl, ij⟩) ?_
              rw [ej, show zA (nh h) (zA (nh h) 1 0) j = c from hc]
              refine And.intro ⟨rfl, kc⟩ (And.intro rfl (Exists.intro _ (Exists.intro _ (And.intro (cn) ?_))))
              refine br_t (show nI (qV C t' 0) ≤ 0 from nI_le (a := qV C t' 0) (b := 0) (by omega) (by omega)) ?_
              exact ⟨trivial, rfl, rfl⟩
            · refine cc_of 80 rfl rfl ?_
              refine And.intro ⟨rfl, rfl⟩ (And.intro rfl (Exists.intro _ (Exists.intro _ (And.intro (cM) ?_))))
              refine br_f (by exact fun z => z rfl) ?_
              refine And.intro ⟨rfl, rfl⟩ (And.intro rfl (Exists.intro _ (Exists.intro _ (And.intro (cM2) ?_))))
              refine br_f (by exact fun z => z rfl) ?_
              refine br_f xyn ?_
              refine And.intro rfl (And.intro rfl (Exists.intro _ (Exists.intro _ (And.intro (cs _) ?_))))
              refine br_f (by decide) ?_
              refine And.intro ⟨rfl, rfl⟩ (And.intro rfl (Exists.intro _ (Exists.intro _ (And.intro (H.of m7 (by decide : 0 < 5)) ?_))))
              refine br_t (by rw [show qV C t' 0 = 0 by omega]; rfl) ?_
              refine And.intro rfl (And.intro rfl (Exists.intro _ (Exists.intro _ (And.intro (c_lost) ?_))))
              exact ⟨trivial, rfl, rfl⟩
        · refine bad ?_ ?_
          · refine cc_of 80 rfl rfl ?_
            refine And.intro ⟨rfl, rfl⟩ (And.intro rfl (Exists.intro _ (Exists.intro _ (And.intro (cX) ?_))))
            refine br_f (by decide) ?_
            refine And.intro ⟨rfl, rfl⟩ (And.intro rfl (Exists.intro _ (Exists.intro _ (And.intro (cX2) ?_))))
            refine br_f (by decide) ?_
            refine br_f xy ?_
            refine And.intro rfl (And.intro rfl (Exists.intro _ (Exists.intro _ (And.intro (c_isDay n) ?_))))
            refine br_f (by rw [bI_z]; exact fun z => z (decide_eq_false q)) ?_
            exact ⟨trivial, rfl, rfl⟩
          · refine cc_of 80 rfl rfl ?_
            refine And.intro ⟨rfl, rfl⟩ (And.intro rfl (Exists.intro _ (Exists.intro _ (And.intro (cM) ?_))))
            refine br_f (by exact fun z => z rfl) ?_
            refine And.intro ⟨rfl, rfl⟩ (And.intro rfl (Exists.intro _ (Exists.intro _ (And.intro (cM2) ?_))))
            refine br_f (by exact fun z => z rfl) ?_
            refine br_f xy ?_
            refine And.intro rfl (And.intro rfl (Exists.intro _ (Exists.intro _ (And.intro (c_isSpan n) ?_))))
            refine br_t (by rw [bI_z]; exact decide_eq_false q) ?_
            refine And.intro rfl (And.intro rfl (Exists.intro _ (Exists.intro _ (And.intro (c_lost) ?_))))
            exact ⟨trivial, rfl, rfl⟩
end
