/-! both -/
section
variable {sc : Nat × (Nat → Int32)} {h : Hp}
theorem c_canSwap {g : Hp} {C : Cp} {j c nc s t : Nat} (H : HM g C j c nc) (hs : s < qS C) (ht : t < qS C) : Cc sc 137 [.ref c, .int (nI s), .int (nI t)] g (some (.int (bI (decide (0 < qV C s 0 ∧ qV C t 0 < 5))))) g := by
  obtain ⟨c1, k1, v1⟩ := H.num (sc := sc) hs (by decide : 0 < 5)
  obtain ⟨c2, k2, v2⟩ := H.num (sc := sc) ht (by decide : 0 < 5)
  refine cc_of 30 rfl rfl ?_
  refine And.intro ⟨rfl, k1⟩ (And.intro rfl (Exists.intro _ (Exists.intro _ (And.intro (c1) ?_))))
  by_cases q1 : 0 < qV C s 0
  · refine br_f (show ¬ nI (qV C s 0) ≤ 0 from nI_ge (a := 0) (b := qV C s 0) q1 (by omega)) ?_
    refine And.intro ⟨rfl, k1⟩ (And.intro rfl (Exists.intro _ (Exists.intro _ (And.intro (c2) ?_))))
    by_cases q2 : qV C t 0 < 5
    · refine br_f (show ¬ 5 ≤ nI (qV C t 0) from nI_ge (a := qV C t 0) (b := 5) q2 (by omega)) ?_
      exact ⟨Or.inr ⟨rfl, Or.inr rfl⟩, by rw [decide_eq_true ⟨q1, q2⟩]; rfl, rfl⟩
    · refine br_t (show 5 ≤ nI (qV C t 0) from nI_le (a := 5) (b := qV C t 0) (by omega) (by omega)) ?_
      exact ⟨Or.inr ⟨rfl, Or.inl rfl⟩, by rw [decide_eq_false (fun z => q2 z.2)]; rfl, rfl⟩
  · refine br_t (show nI (qV C s 0) ≤ 0 from nI_le (a := qV C s 0) (b := 0) (by omega) (by omega)) ?_
    exact ⟨Or.inr ⟨rfl, Or.inl rfl⟩, by rw [decide_eq_false (fun z => q1 z.1)]; rfl, rfl⟩
theorem gain_le {a b : Nat} (ha : a < 2 ^ 60) (hb : b < 2 ^ 60) : lg_cmp (lN a - lN b) 0 ≤ 0 ↔ a ≤ b := by
  rw [cmp_le0, l_sub, pk_lT (by omega), pk_lT (by omega)]
  · show (a : Int) - b ≤ 0 ↔ a ≤ b
    omega
  · rw [pk_lT (by omega), pk_lT (by omega)]
    omega
  · rw [pk_lT (by omega), pk_lT (by omega)]
    omega
theorem HM.vb {g : Hp} {C : Cp} {j c nc n : Nat} (H : HM g C j c nc) (hn : n ≤ 12) (f : Nat → Nat) : Vd C 0 0 n n f < 2 ^ 60 := by
  obtain ⟨nb, br, K, M, -⟩ := H.k
  have b := K.b
  obtain ⟨k1, k2, k3, k4, k5, k6, k7⟩ := M
  have := Vd_le (C := C) (rule := 0) (e := 0) (n := n) b.2.1 (fun k hk => (k7 k hk).1) (fun s w => K.v12) n f
  omega
theorem op_both (hS : Sim0 h) (O : OutI h) (x y s t n : Int32) : Op4 sc 100 182 [.int x, .int y, .int s, .int t, .int n] h := by
  obtain ⟨h, rfl⟩ : ∃ g, h = nh g := ⟨h, (nh_eq hS.1).symm⟩
  have hs := hS.1
  have hC := hS.2.2.2.1
  obtain ⟨b1, hb1, hd1⟩ := sort_cases hC x s
  obtain ⟨b2, hb2, hd2⟩ := sort_cases hC y s
  obtain ⟨b3, hb3, hd3⟩ := sort_cases hC x t
  obtain ⟨b4, hb4, hd4⟩ := sort_cases hC y t
  have X1 := c_isSortOf (sc := sc) hs hC x s hb1
  have M1 := c_noSort (sc := sc) hs hC x s hb1
  have X2 := c_isSortOf (sc := sc) hs hC y s hb2
  have M2 := c_noSort (sc := sc) hs hC y s hb2
  have X3 := c_isSortOf (sc := sc) hs hC x t hb3
  have M3 := c_noSort (sc := sc) hs hC x t hb3
  have X4 := c_isSortOf (sc := sc) hs hC y t hb4
  have M4 := c_noSort (sc := sc) hs hC y t hb4
  have bad : ∀ (v : Int32) (a : Cc sc 100 [.ref 1, .int x, .int y, .int s, .int t, .int n] (nh h) (some (.int v)) (nh h)) (b : Cc sc 182 [.ref 39, .int x, .int y, .int s, .int t, .int n] (nh h) (some (.int v)) (nh h)), Op4 sc 100 182 [.int x, .int y, .int s, .int t, .int n] (nh h) := fun v a b => op4_of hS a b (Mid.refl hS O)
  cases b1 with
  | false =>
    refine bad (-1) ?_ ?_
    · refine cc_of 100 rfl rfl ?_
      refine And.intro ⟨rfl, rfl⟩ (And.intro rfl (Exists.intro _ (Exists.intro _ (And.intro (X1) ?_))))
      refine br_t (by rfl) ?_
      exact ⟨Or.inl rfl, rfl, rfl⟩
    · refine cc_of 100 rfl rfl ?_
      refine And.intro ⟨rfl, rfl⟩ (And.intro rfl (Exists.intro _ (Exists.intro _ (And.intro (M1) ?_))))
      refine br_t (by decide) ?_
      exact ⟨Or.inl rfl, rfl, rfl⟩
  | true =>
    cases b2 with
    | false =>
      refine bad (-1) ?_ ?_
      · refine cc_of 100 rfl rfl ?_
        refine And.intro ⟨rfl, rfl⟩ (And.intro rfl (Exists.intro _ (Exists.intro _ (And.intro (X1) ?_))))
        refine br_f (by decide) ?_
        refine And.intro ⟨rfl, rfl⟩ (And.intro rfl (Exists.intro _ (Exists.intro _ (And.intro (X2) ?_))))
        refine br_t (by rfl) ?_
        exact ⟨Or.inl rfl, rfl, rfl⟩
      · refine cc_of 100 rfl rfl ?_
        refine And.intro ⟨rfl, rfl⟩ (And.intro rfl (Exists.intro _ (Exists.intro _ (And.intro (M1) ?_))))
        refine br_f (by exact fun z => z rfl) ?_
        refine And.intro ⟨rfl, rfl⟩ (And.intro rfl (Exists.intro _ (Exists.intro _ (And.intro (M2) ?_))))
        refine br_t (by decide) ?_
        exact ⟨Or.inl rfl, rfl, rfl⟩
    | true =>
      cases b3 with
      | false =>
        refine bad (-1) ?_ ?_
        · refine cc_of 100 rfl rfl ?_
          refine And.intro ⟨rfl, rfl⟩ (And.intro rfl (Exists.intro _ (Exists.intro _ (And.intro (X1) ?_))))
          refine br_f (by decide) ?_
          refine And.intro ⟨rfl, rfl⟩ (And.intro rfl (Exists.intro _ (Exists.intro _ (And.intro (X2) ?_))))
          refine br_f (by decide) ?_
          refine And.intro ⟨rfl, rfl⟩ (And.intro rfl (Exists.intro _ (Exists.intro _ (And.intro (X3) ?_))))
          refine br_t (by rfl) ?_
          exact ⟨Or.inl rfl, rfl, rfl⟩
        · refine cc_of 100 rfl rfl ?_
          refine And.intro ⟨rfl, rfl⟩ (And.intro rfl (Exists.intro _ (Exists.intro _ (And.intro (M1) ?_))))
          refine br_f (by exact fun z => z rfl) ?_
          refine And.intro ⟨rfl, rfl⟩ (And.intro rfl (Exists.intro _ (Exists.intro _ (And.intro (M2) ?_))))
          refine br_f (by exact fun z => z rfl) ?_
          refine And.intro ⟨rfl, rfl⟩ (And.intro rfl (Exists.intro _ (Exists.intro _ (And.intro (M3) ?_))))
          refine br_t (by decide) ?_
          exact ⟨Or.inl rfl, rfl, rfl⟩
      | true =>
        cases b4 with
        | false =>
          refine bad (-1) ?_ ?_
          · refine cc_of 100 rfl rfl ?_
            refine And.intro ⟨rfl, rfl⟩ (And.intro rfl (Exists.intro _ (Exists.intro _ (And.intro (X1) ?_))))
            refine br_f (by decide) ?_
            refine And.intro ⟨rfl, rfl⟩ (And.intro rfl (Exists.intro _ (Exists.intro _ (And.intro (X2) ?_))))
            refine br_f (by decide) ?_
            refine And.intro ⟨rfl, rfl⟩ (And.intro rfl (Exists.intro _ (Exists.intro _ (And.intro (X3) ?_))))
            refine br_f (by decide) ?_
            refine And.intro ⟨rfl, rfl⟩ (And.intro rfl (Exists.intro _ (Exists.intro _ (And.intro (X4) ?_))))
            refine br_f (by exact fun z => z rfl) ?_
            exact ⟨Or.inl rfl, rfl, rfl⟩
          · refine cc_of 100 rfl rfl ?_
            refine And.intro ⟨rfl, rfl⟩ (And.intro rfl (Exists.intro _ (Exists.intro _ (And.intro (M1) ?_))))
            refine br_f (by exact fun z => z rfl) ?_
            refine And.intro ⟨rfl, rfl⟩ (And.intro rfl (Exists.intro _ (Exists.intro _ (And.intro (M2) ?_))))
            refine br_f (by exact fun z => z rfl) ?_
            refine And.intro ⟨rfl, rfl⟩ (And.intro rfl (Exists.intro _ (Exists.intro _ (And.intro (M3) ?_))))
            refine br_f (by exact fun z => z rfl) ?_
            refine And.intro ⟨rfl, rfl⟩ (And.intro rfl (Exists.intro _ (Exists.intro _ (And.intro (M4) ?_))))
            refine br_f (by decide) ?_
            exact ⟨Or.inl rfl, rfl, rfl⟩
        | true =>
          by_cases xy : x = y
          · refine bad (-2) ?_ ?_
            · refine cc_of 100 rfl rfl ?_
              refine And.intro ⟨rfl, rfl⟩ (And.intro rfl (Exists.intro _ (Exists.intro _ (And.intro (X1) ?_))))
              refine br_f (by decide) ?_
              refine And.intro ⟨rfl, rfl⟩ (And.intro rfl (Exists.intro _ (Exists.intro _ (And.intro (X2) ?_))))
              refine br_f (by decide) ?_
              refine And.intro ⟨rfl, rfl⟩ (And.intro rfl (Exists.intro _ (Exists.intro _ (And.intro (X3) ?_))))
              refine br_f (by decide) ?_
              refine And.intro ⟨rfl, rfl⟩ (And.intro rfl (Exists.intro _ (Exists.intro _ (And.intro (X4) ?_))))
              refine br_t (by decide) ?_
              refine br_t xy ?_
              exact ⟨Or.inl rfl, rfl, rfl⟩
            · refine cc_of 100 rfl rfl ?_
              refine And.intro ⟨rfl, rfl⟩ (And.intro rfl (Exists.intro _ (Exists.intro _ (And.intro (M1) ?_))))
              refine br_f (by exact fun z => z rfl) ?_
              refine And.intro ⟨rfl, rfl⟩ (And.intro rfl (Exists.intro _ (Exists.intro _ (And.intro (M2) ?_))))
              refine br_f (by exact fun z => z rfl) ?_
              refine And.intro ⟨rfl, rfl⟩ (And.intro rfl (Exists.intro _ (Exists.intro _ (And.intro (M3) ?_))))
              refine br_f (by exact fun z => z rfl) ?_
              refine And.intro ⟨rfl, rfl⟩ (And.intro rfl (Exists.intro _ (Exists.intro _ (And.intro (M4) ?_))))
              refine br_t (by rfl) ?_
              refine br_t xy ?_
              exact ⟨Or.inl rfl, rfl, rfl⟩
          · by_cases st : s = t
            · refine bad (-2) ?_ ?_
              · refine cc_of 100 rfl rfl ?_
                refine And.intro ⟨rfl, rfl⟩ (And.intro rfl (Exists.intro _ (Exists.intro _ (And.intro (X1) ?_))))
                refine br_f (by decide) ?_
                refine And.intro ⟨rfl, rfl⟩ (And.intro rfl (Exists.intro _ (Exists.intro _ (And.intro (X2) ?_))))
                refine br_f (by decide) ?_
                refine And.intro ⟨rfl, rfl⟩ (And.intro rfl (Exists.intro _ (Exists.intro _ (And.intro (X3) ?_))))
                refine br_f (by decide) ?_
                refine And.intro ⟨rfl, rfl⟩ (And.intro rfl (Exists.intro _ (Exists.intro _ (And.intro (X4) ?_))))
                refine br_t (by decide) ?_
                refine br_f xy ?_
                refine br_t st ?_
                exact ⟨Or.inl rfl, rfl, rfl⟩
              · refine cc_of 100 rfl rfl ?_
                refine And.intro ⟨rfl, rfl⟩ (And.intro rfl (Exists.intro _ (Exists.intro _ (And.intro (M1) ?_))))
                refine br_f (by exact fun z => z rfl) ?_
                refine And.intro ⟨rfl, rfl⟩ (And.intro rfl (Exists.intro _ (Exists.intro _ (And.intro (M2) ?_))))
                refine br_f (by exact fun z => z rfl) ?_
                refine And.intro ⟨rfl, rfl⟩ (And.intro rfl (Exists.intro _ (Exists.intro _ (And.intro (M3) ?_))))
                refine br_f (by exact fun z => z rfl) ?_
                refine And.intro ⟨rfl, rfl⟩ (And.intro rfl (Exists.intro _ (Exists.intro _ (And.intro (M4) ?_))))
                refine br_t (by rfl) ?_
                refine br_f xy ?_
                refine br_t st ?_
                exact ⟨Or.inl rfl, rfl, rfl⟩
            · by_cases q : 1 ≤ n.toInt ∧ n.toInt ≤ 12
              · obtain ⟨j, s', nc, c, nb, br, m1, m2, m3, m4, rfl, rfl, m7, D⟩ := hd1 rfl
                obtain ⟨j', t', nc', c', nb', br', p1, p2, p3, p4, rfl, rfl, p7, D'⟩ := hd4 rfl
                obtain ⟨j2, s2, nc2, c2, nb2, br2, u1, u2, u3, u4, u5, u6, u7, D2⟩ := hd2 rfl
                obtain ⟨j3, t3, nc3, c3, nb3, br3, w1, w2, w3, w4, w5, w6, w7, D3⟩ := hd3 rfl
                obtain rfl : nc' = nc := (nI_eq (by omega) (by omega)).mp (p2.symm.trans m2)
                have b := D.B
                have b' := D'.B
                have bb2 := D2.B
                have bb3 := D3.B
                obtain rfl : j2 = j' := ((nI_eq (by omega) (by omega)).mp u5).symm
                obtain rfl : j3 = j := ((nI_eq (by omega) (by omega)).mp w5).symm
                obtain rfl : s2 = s' := ((nI_eq (by omega) (by omega)).mp u6).symm
                obtain rfl : t3 = t' := ((nI_eq (by omega) (by omega)).mp w6).symm
                have H := mkHM hS O m1 m2 m3 m4
                have H' := mkHM hS O m1 m2 m3 p4
                have hc : zA (nh h) 2 j3 = c := D.A.1
                have hc' : zA (nh h) 2 j2 = c' := D'.A.1
                rw [hc] at H
                rw [hc'] at H'
                have f1 : s2 < qS (cpO (nh h) j3) := m7
                have f2 : s2 < qS (cpO (nh h) j2) := u7
                have f3 : t3 < qS (cpO (nh h) j3) := w7
                have f4 : t3 < qS (cpO (nh h) j2) := p7
                generalize hC1 : cpO (nh h) j3 = C at *
                generalize hC2 : cpO (nh h) j2 = C' at *
                have v1 := (H.num (sc := sc) f1 (by decide : 0 < 5)).2.2
                have v2 := (H.num (sc := sc) f3 (by decide : 0 < 5)).2.2
                have v3 := (H'.num (sc := sc) f2 (by decide : 0 < 5)).2.2
                have v4 := (H'.num (sc := sc) f4 (by decide : 0 < 5)).2.2
                have ij : inB (nI j3) 3 = true := inB_nI (by omega) (by decide)
                have ej : (nI j3).toNatClampNeg = j3 := nI_clamp (by omega)
                have ij' : inB (nI j2) 3 = true := inB_nI (by omega) (by decide)
                have ej' : (nI j2).toNatClampNeg = j2 := nI_clamp (by omega)
                have cd := c_isDay (sc := sc) (h := nh h) n
                rw [decide_eq_true q] at cd
                have cs := fun g : Hp => c_isSpan (sc := sc) (h := g) n
                rw [decide_eq_true q] at cs
                obtain ⟨n, hn, rfl⟩ := i_of (a := n) (n := 13) (by omega) (by omega) (by decide)
                rw [nI_toInt (by omega)] at q
                have stn : s2 ≠ t3 := fun z => st (by rw [z])
                have sw1 := c_canSwap (sc := sc) H f1 f3
                have sw2 := c_canSwap (sc := sc) H' f4 f2
                by_cases g1 : (0 < qV C s2 0 ∧ qV C t3 0 < 5) ∧ (0 < qV C' t3 0 ∧ qV C' s2 0 < 5)
                · rw [decide_eq_true g1.1] at sw1
                  rw [decide_eq_true g1.2] at sw2
                  have ok1 : okG C (some t3) (some s2) := ⟨fun s z => (by cases z; exact ⟨f3, g1.1.2⟩), fun s z => (by cases z; exact ⟨f1, g1.1.1⟩), fun s z => (by obtain ⟨z1, z2⟩ := z; cases z1; cases z2; exact stn rfl)⟩
                  have ok2 : okG C' (some s2) (some t3) := ⟨fun s z => (by cases z; exact ⟨f2, g1.2.2⟩), fun s z => (by cases z; exact ⟨f4, g1.2.1⟩), fun s z => (by obtain ⟨z1, z2⟩ := z; cases z1; cases z2; exact stn rfl)⟩
                  obtain ⟨a1, C1, y1⟩ := H.bg (sc := sc) (n := n) (by omega) (by omega) ok1
                  have A1 := H.mid y1
                  have A1' := H'.mid y1
                  have k39 := fun {C : Cp} {j c : Nat} (g : Hp) (H : HM g C j c nc') => (shp39 H.1.1).1
                  have z1 := shp39 A1.1.1
                  have B1 := H.vb (n := n) (by omega) (g1C C (some t3) (some s2))
                  have B0 := H.vb (n := n) (by omega) (g0C C)
                  have B1' := H'.vb (n := n) (by omega) (g1C C' (some s2) (some t3))
                  have B0' := H'.vb (n := n) (by omega) (g0C C')
                  -- the class, as far as its first gain
                  have X : ∀ (r : Option Value) (g : Hp), Rn sc (mtk 100) 110 [some (.ref 1), some (.int (nI j3)), some (.int (nI j2)), some (.int (nI s2)), some (.int (nI t3)), some (.int (nI n))] [.long (lN (Vd C 0 0 n n (g1C C (some t3) (some s2))) - lN (Vd C 0 0 n n (g0C C)))] a1 r g → Cc sc 100 [.ref 1, .int (nI j3), .int (nI j2), .int (nI s2), .int (nI t3), .int (nI n)] (nh h) r g := fun r g R => by
                    refine cc_cut [110] 100 rfl rfl ?_
                    refine And.intro ⟨rfl, rfl⟩ (And.intro rfl (Exists.intro _ (Exists.intro _ (And.intro (X1) ?_))))
                    refine br_f (by decide) ?_
                    refine And.intro ⟨rfl, rfl⟩ (And.intro rfl (Exists.intro _ (Exists.intro _ (And.intro (X2) ?_))))
                    refine br_f (by decide) ?_
                    refine And.intro ⟨rfl, rfl⟩ (And.intro rfl (Exists.intro _ (Exists.intro _ (And.intro (X3) ?_))))
                    refine br_f (by decide) ?_
                    refine And.intro ⟨rfl, rfl⟩ (And.intro rfl (Exists.intro _ (Exists.intro _ (And.intro (X4) ?_))))
                    refine br_t (by decide) ?_
                    refine br_f xy ?_
                    refine br_f st ?_
                    refine And.intro rfl (And.intro rfl (Exists.intro _ (Exists.intro _ (And.intro (cd) ?_))))
                    refine br_t (by decide) ?_
                    refine And.intro rfl ?_
                    refine And.intro (⟨rfl, ij⟩) ?_
                    rw [ej, show zA (nh h) (zA (nh h) 1 0) j3 = c from hc]
                    refine And.intro rfl (And.intro rfl (Exists.intro _ (Exists.intro _ (And.intro (sw1) ?_))))
                    refine br_f (by decide) ?_
                    refine And.intro rfl ?_
                    refine And.intro (⟨rfl, ij'⟩) ?_
                    rw [ej', show zA (nh h) (zA (nh h) 1 0) j2 = c' from hc']
                    refine And.intro rfl (And.intro rfl (Exists.intro _ (Exists.intro _ (And.intro (sw2) ?_))))
                    refine br_t (by decide) ?_
                    refine And.intro rfl ?_
                    refine And.intro (⟨rfl, ij⟩) ?_
                    rw [ej, show zA (nh h) (zA (nh h) 1 0) j3 = c from hc]
                    refine And.intro ⟨rfl, rfl⟩ (And.intro rfl (Exists.intro _ (Exists.intro _ (And.intro (C1) ?_))))
                    exact R
                  have M : ∀ (g0 : Hp) (_ : HM g0 C j3 c nc') (_ : HM g0 C' j2 c' nc') (r : Option Value) (g : Hp), Rn sc (mtk 182) 109 [some (.ref 39), some (.int (nI j3)), some (.int (nI j2)), some (.int (nI s2)), some (.int (nI t3)), some (.int (nI n))] [] g0 r g → Cc sc 182 [.ref 39, .int (nI j3), .int (nI j2), .int (nI s2), .int (nI t3), .int (nI n)] g0 r g := fun g0 G1 G2 r g R => by
                    refine cc_cut [109] 100 rfl rfl ?_
                    refine And.intro ⟨rfl, k39 g0 G1⟩ (And.intro rfl (Exists.intro _ (Exists.intro _ (And.intro (G1.noSort f1) ?_))))
                    refine br_f (by exact fun z => z rfl) ?_
                    refine And.intro ⟨rfl, k39 g0 G1⟩ (And.intro rfl (Exists.intro _ (Exists.intro _ (And.intro (G2.noSort f2) ?_))))
                    refine br_f (by exact fun z => z rfl) ?_
                    refine And.intro ⟨rfl, k39 g0 G1⟩ (And.intro rfl (Exists.intro _ (Exists.intro _ (And.intro (G1.noSort f3) ?_))))
                    refine br_f (by exact fun z => z rfl) ?_
                    refine And.intro ⟨rfl, k39 g0 G1⟩ (And.intro rfl (Exists.intro _ (Exists.intro _ (And.intro (G2.noSort f4) ?_))))
                    refine br_t (by rfl) ?_
                    refine br_f xy ?_
                    refine br_f st ?_
                    refine And.intro rfl (And.intro rfl (Exists.intro _ (Exists.intro _ (And.intro (cs g0) ?_))))
                    refine br_t (by decide) ?_
                    refine And.intro ⟨rfl, k39 g0 G1⟩ (And.intro rfl (Exists.intro _ (Exists.intro _ (And.intro (G1.of f1 (by decide : 0 < 5)) ?_))))
                    refine br_f (fun z => by have := (nI_eq (a := qV C s2 0) (b := 0) (by omega) (by omega)).mp z; omega) ?_
                    refine And.intro ⟨rfl, k39 g0 G1⟩ (And.intro rfl (Exists.intro _ (Exists.intro _ (And.intro (G2.of f4 (by decide : 0 < 5)) ?_))))
                    refine br_f (fun z => by have := (nI_eq (a := qV C' t3 0) (b := 0) (by omega) (by omega)).mp z; omega) ?_
                    refine And.intro ⟨rfl, k39 g0 G1⟩ (And.intro rfl (Exists.intro _ (Exists.intro _ (And.intro (G1.of f3 (by decide : 0 < 5)) ?_))))
                    refine br_f (fun z => by have := (nI_eq (a := qV C t3 0) (b := 5) (by omega) (by omega)).mp z; omega) ?_
                    refine And.intro ⟨rfl, k39 g0 G1⟩ (And.intro rfl (Exists.intro _ (Exists.intro _ (And.intro (G2.of f2 (by decide : 0 < 5)) ?_))))
                    refine br_t (fun z => by have := (nI_eq (a := qV C' s2 0) (b := 5) (by omega) (by omega)).mp z; omega) ?_
                    exact R
                  by_cases e1 : Vd C 0 0 n n (g0C C) < Vd C 0 0 n n (g1C C (some t3) (some s2))
                  · obtain ⟨a2, C2, y2⟩ := A1'.bg (sc := sc) (n := n) (by omega) (by omega) ok2
                    have A2 := A1.mid y2
                    have A2' := A1'.mid y2
                    obtain ⟨a3, C3, y3⟩ := A2.more (sc := sc) (n := n) (by omega) (by omega) ok1 (by omega) (by omega)
                    have A3 := A2.mid y3
                    have A3' := A2'.mid y3
                    obtain ⟨a4, C4, y4⟩ := A3'.more (sc := sc) (n := n) (by omega) (by omega) ok2 (by omega) (by omega)
                    rw [decide_eq_true e1] at C3
                    have X2' : ∀ (r : Option Value) (g : Hp), Rn sc (mtk 100) 130 [some (.ref 1), some (.int (nI j3)), some (.int (nI j2)), some (.int (nI s2)), some (.int (nI t3)), some (.int (nI n))] [.long (lN (Vd C' 0 0 n n (g1C C' (some s2) (some t3))) - lN (Vd C' 0 0 n n (g0C C')))] a2 r g → Rn sc (mtk 100) 110 [some (.ref 1), some (.int (nI j3)), some (.int (nI j2)), some (.int (nI s2)), some (.int (nI t3)), some (.int (nI n))] [.long (lN (Vd C 0 0 n n (g1C C (some t3) (some s2))) - lN (Vd C 0 0 n n (g0C C)))] a1 r g := fun r g R => by
                      refine bk_sound (cuts := [130]) 40 _ _ _ _ ?_
                      refine br_f (show ¬ lg_cmp (lN (Vd C 0 0 n n (g1C C (some t3) (some s2))) - lN (Vd C 0 0 n n (g0C C))) 0 ≤ 0 by rw [gain_le B1 B0]; omega) ?_
                      refine And.intro (show kin 10 (zK a1 1) = true by rw [z1.2.1]; rfl) ?_
                      rw [z1.2.2.2.2.2.1]
                      refine And.intro (show aar (zK a1 2) = true ∧ inB (nI j2) (zN a1 2) = true from ⟨by rw [z1.2.2.2.1]; rfl, by rw [z1.2.2.2.2.1]; exact ij'⟩) ?_
                      rw [ej', show zA a1 2 j2 = c' from A1'.2.2.2.2.2.2.2]
                      refine And.intro ⟨rfl, z1.2.1⟩ (And.intro rfl (Exists.intro _ (Exists.intro _ (And.intro (C2) ?_))))
                      exact R
                    by_cases e2 : Vd C' 0 0 n n (g0C C') < Vd C' 0 0 n n (g1C C' (some s2) (some t3))
                    · rw [decide_eq_true e2] at C4
                      refine op4_of (r := .int 1) hS (h1 := a2) (h2 := a4) (X _ _ (X2' _ _ ?_)) (M a2 A2 A2' _ _ ?_) (((y1.trans y2).trans y3).trans y4)
                      · refine bk_sound (cuts := []) 20 _ _ _ _ ?_
                        refine br_f (show ¬ lg_cmp (lN (Vd C' 0 0 n n (g1C C' (some s2) (some t3))) - lN (Vd C' 0 0 n n (g0C C'))) 0 ≤ 0 by rw [gain_le B1' B0']; omega) ?_
                        exact ⟨Or.inl rfl, rfl, rfl⟩
                      · refine bk_sound (cuts := []) 20 _ _ _ _ ?_
                        refine And.intro ⟨rfl, k39 a2 A2⟩ (And.intro rfl (Exists.intro _ (Exists.intro _ (And.intro (C3) ?_))))
                        refine br_f (by decide) ?_
                        refine And.intro ⟨rfl, k39 a3 A3⟩ (And.intro rfl (Exists.intro _ (Exists.intro _ (And.intro (C4) ?_))))
                        refine br_f (by decide) ?_
                        exact ⟨Or.inl rfl, rfl, rfl⟩
                    · rw [decide_eq_false e2] at C4
                      refine op4_of (r := .int 0) hS (h1 := a2) (h2 := a4) (X _ _ (X2' _ _ ?_)) (M a2 A2 A2' _ _ ?_) (((y1.trans y2).trans y3).trans y4)
                      · refine bk_sound (cuts := []) 20 _ _ _ _ ?_
                        refine br_t (show lg_cmp (lN (Vd C' 0 0 n n (g1C C' (some s2) (some t3))) - lN (Vd C' 0 0 n n (g0C C'))) 0 ≤ 0 by rw [gain_le B1' B0']; omega) ?_
                        exact ⟨Or.inl rfl, rfl, rfl⟩
                      · refine bk_sound (cuts := []) 20 _ _ _ _ ?_
                        refine And.intro ⟨rfl, k39 a2 A2⟩ (And.intro rfl (Exists.intro _ (Exists.intro _ (And.intro (C3) ?_))))
                        refine br_f (by decide) ?_
                        refine And.intro ⟨rfl, k39 a3 A3⟩ (And.intro rfl (Exists.intro _ (Exists.intro _ (And.intro (C4) ?_))))
                        refine br_t (by rfl) ?_
                        exact ⟨Or.inl rfl, rfl, rfl⟩
                  · obtain ⟨a3, C3, y3⟩ := A1.more (sc := sc) (n := n) (by omega) (by omega) ok1 (by omega) (by omega)
                    rw [decide_eq_false e1] at C3
                    refine op4_of (r := .int 0) hS (h1 := a1) (h2 := a3) (X _ _ ?_) (M a1 A1 A1' _ _ ?_) (y1.trans y3)
                    · refine bk_sound (cuts := []) 20 _ _ _ _ ?_
                      refine br_t (show lg_cmp (lN (Vd C 0 0 n n (g1C C (some t3) (some s2))) - lN (Vd C 0 0 n n (g0C C))) 0 ≤ 0 by rw [gain_le B1 B0]; omega) ?_
                      exact ⟨Or.inl rfl, rfl, rfl⟩
                    · refine bk_sound (cuts := []) 20 _ _ _ _ ?_
                      refine And.intro ⟨rfl, k39 a1 A1⟩ (And.intro rfl (Exists.intro _ (Exists.intro _ (And.intro (C3) ?_))))
                      refine br_t (by rfl) ?_
                      exact ⟨Or.inl rfl, rfl, rfl⟩
                · refine bad (-3) ?_ ?_
                  · refine cc_of 100 rfl rfl ?_
                    refine And.intro ⟨rfl, rfl⟩ (And.intro rfl (Exists.intro _ (Exists.intro _ (And.intro (X1) ?_))))
                    refine br_f (by decide) ?_
                    refine And.intro ⟨rfl, rfl⟩ (And.intro rfl (Exists.intro _ (Exists.intro _ (And.intro (X2) ?_))))
                    refine br_f (by decide) ?_
                    refine And.intro ⟨rfl, rfl⟩ (And.intro rfl (Exists.intro _ (Exists.intro _ (And.intro (X3) ?_))))
                    refine br_f (by decide) ?_
                    refine And.intro ⟨rfl, rfl⟩ (And.intro rfl (Exists.intro _ (Exists.intro _ (And.intro (X4) ?_))))
                    refine br_t (by decide) ?_
                    refine br_f xy ?_
                    refine br_f st ?_
                    refine And.intro rfl (And.intro rfl (Exists.intro _ (Exists.intro _ (And.intro (cd) ?_))))
                    refine br_t (by decide) ?_
                    refine And.intro rfl ?_
                    refine And.intro (⟨rfl, ij⟩) ?_
                    rw [ej, show zA (nh h) (zA (nh h) 1 0) j3 = c from hc]
                    refine And.intro rfl (And.intro rfl (Exists.intro _ (Exists.intro _ (And.intro (sw1) ?_))))
                    by_cases w : 0 < qV C s2 0 ∧ qV C t3 0 < 5
                    · refine br_f (by rw [bI_z, decide_eq_false_iff_not]; exact fun z => z w) ?_
                      refine And.intro rfl ?_
                      refine And.intro (⟨rfl, ij'⟩) ?_
                      rw [ej', show zA (nh h) (zA (nh h) 1 0) j2 = c' from hc']
                      refine And.intro rfl (And.intro rfl (Exists.intro _ (Exists.intro _ (And.intro (sw2) ?_))))
                      refine br_f (by rw [bI_z]; exact fun z => z (decide_eq_false (fun y => g1 ⟨w, y⟩))) ?_
                      exact ⟨Or.inl rfl, rfl, rfl⟩
                    · refine br_t (by rw [bI_z]; exact decide_eq_false w) ?_
                      exact ⟨Or.inl rfl, rfl, rfl⟩
                  · refine cc_of 100 rfl rfl ?_
                    refine And.intro ⟨rfl, rfl⟩ (And.intro rfl (Exists.intro _ (Exists.intro _ (And.intro (M1) ?_))))
                    refine br_f (by exact fun z => z rfl) ?_
                    refine And.intro ⟨rfl, rfl⟩ (And.intro rfl (Exists.intro _ (Exists.intro _ (And.intro (M2) ?_))))
                    refine br_f (by exact fun z => z rfl) ?_
                    refine And.intro ⟨rfl, rfl⟩ (And.intro rfl (Exists.intro _ (Exists.intro _ (And.intro (M3) ?_))))
                    refine br_f (by exact fun z => z rfl) ?_
                    refine And.intro ⟨rfl, rfl⟩ (And.intro rfl (Exists.intro _ (Exists.intro _ (And.intro (M4) ?_))))
                    refine br_t (by rfl) ?_
                    refine br_f xy ?_
                    refine br_f st ?_
                    refine And.intro rfl (And.intro rfl (Exists.intro _ (Exists.intro _ (And.intro (cs _) ?_))))
                    refine br_t (by decide) ?_
                    refine And.intro ⟨rfl, rfl⟩ (And.intro rfl (Exists.intro _ (Exists.intro _ (And.intro (H.of f1 (by decide : 0 < 5)) ?_))))
                    by_cases w1 : qV C s2 0 = 0
                    · refine br_t (by rw [w1]; rfl) ?_
                      exact ⟨Or.inl rfl, rfl, rfl⟩
                    · refine br_f (fun z => w1 ((nI_eq (a := qV C s2 0) (b := 0) (by omega) (by omega)).mp z)) ?_
                      refine And.intro ⟨rfl, rfl⟩ (And.intro rfl (Exists.intro _ (Exists.intro _ (And.intro (H'.of f4 (by decide : 0 < 5)) ?_))))
                      by_cases w2 : qV C' t3 0 = 0
                      · refine br_t (by rw [w2]; rfl) ?_
                        exact ⟨Or.inl rfl, rfl, rfl⟩
                      · refine br_f (fun z => w2 ((nI_eq (a := qV C' t3 0) (b := 0) (by omega) (by omega)).mp z)) ?_
                        refine And.intro ⟨rfl, rfl⟩ (And.intro rfl (Exists.intro _ (Exists.intro _ (And.intro (H.of f3 (by decide : 0 < 5)) ?_))))
                        by_cases w3 : qV C t3 0 = 5
                        · refine br_t (by rw [w3]; rfl) ?_
                          exact ⟨Or.inl rfl, rfl, rfl⟩
                        · refine br_f (fun z => w3 ((nI_eq (a := qV C t3 0) (b := 5) (by omega) (by omega)).mp z)) ?_
                          refine And.intro ⟨rfl, rfl⟩ (And.intro rfl (Exists.intro _ (Exists.intro _ (And.intro (H'.of f2 (by decide : 0 < 5)) ?_))))
                          refine br_f (fun z => z (by rw [show qV C' s2 0 = 5 by omega]; rfl)) ?_
                          exact ⟨Or.inl rfl, rfl, rfl⟩
              · refine bad (-2) ?_ ?_
                · refine cc_of 100 rfl rfl ?_
                  refine And.intro ⟨rfl, rfl⟩ (And.intro rfl (Exists.intro _ (Exists.intro _ (And.intro (X1) ?_))))
                  refine br_f (by decide) ?_
                  refine And.intro ⟨rfl, rfl⟩ (And.intro rfl (Exists.intro _ (Exists.intro _ (And.intro (X2) ?_))))
                  refine br_f (by decide) ?_
                  refine And.intro ⟨rfl, rfl⟩ (And.intro rfl (Exists.intro _ (Exists.intro _ (And.intro (X3) ?_))))
                  refine br_f (by decide) ?_
                  refine And.intro ⟨rfl, rfl⟩ (And.intro rfl (Exists.intro _ (Exists.intro _ (And.intro (X4) ?_))))
                  refine br_t (by decide) ?_
                  refine br_f xy ?_
                  refine br_f st ?_
                  refine And.intro rfl (And.intro rfl (Exists.intro _ (Exists.intro _ (And.intro (c_isDay n) ?_))))
                  refine br_f (by rw [bI_z]; exact fun z => z (decide_eq_false q)) ?_
                  exact ⟨Or.inl rfl, rfl, rfl⟩
                · refine cc_of 100 rfl rfl ?_
                  refine And.intro ⟨rfl, rfl⟩ (And.intro rfl (Exists.intro _ (Exists.intro _ (And.intro (M1) ?_))))
                  refine br_f (by exact fun z => z rfl) ?_
                  refine And.intro ⟨rfl, rfl⟩ (And.intro rfl (Exists.intro _ (Exists.intro _ (And.intro (M2) ?_))))
                  refine br_f (by exact fun z => z rfl) ?_
                  refine And.intro ⟨rfl, rfl⟩ (And.intro rfl (Exists.intro _ (Exists.intro _ (And.intro (M3) ?_))))
                  refine br_f (by exact fun z => z rfl) ?_
                  refine And.intro ⟨rfl, rfl⟩ (And.intro rfl (Exists.intro _ (Exists.intro _ (And.intro (M4) ?_))))
                  refine br_t (by rfl) ?_
                  refine br_f xy ?_
                  refine br_f st ?_
                  refine And.intro rfl (And.intro rfl (Exists.intro _ (Exists.intro _ (And.intro (c_isSpan n) ?_))))
                  refine br_f (by rw [bI_z]; exact fun z => z (decide_eq_false q)) ?_
                  exact ⟨Or.inl rfl, rfl, rfl⟩
end
