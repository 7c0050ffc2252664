/-! a new camp: both sides alike -/
/-- what a new camp may write among the cells that were there -/
def WC (nc a i : Nat) : Prop := a = 3 ∨ a = 4 ∨ (a = 5 ∧ 1 ≤ i) ∨ (a = 1 ∧ (i = 1 ∨ i = 7)) ∨ WM nc a i
theorem sim_camp {h g : Hp} {t : Nat → Int32} {L nc : Nat} (hS : Sim0 h) (hg : Shp g) (hn : zI h 1 1 = nI nc) (n3 : nc < 3) (z1 : zc g = zc h + 3) (z2 : zs g = zs h + 25) (zk : ∀ x, x ≤ zc h → zK g x = zK h x ∧ zN g x = zN h x) (zk' : ∀ x, zc h + 3 < x → zK g x = zK h x) (kc : zK g (zc h + 1) = 0) (kn : zK g (zc h + 2) = 12 ∧ zN g (zc h + 2) = 15) (kb : zK g (zc h + 3) = 12 ∧ zN g (zc h + 3) = 5) (A1 : ∀ x, x ≠ 2 → x ≠ 3 → x ≤ zc h → zA g x = zA h x) (A2 : ∀ j, zA g 2 j = if j = nc then zc h + 1 else zA h 2 j) (ac : zA g (zc h + 1) 3 = zc h + 2 ∧ zA g (zc h + 1) 4 = zc h + 3) (J1 : zJ g 10 = zJ h 10) (hI : ∀ a i, a ≤ zc h → ¬ WC nc a i → zI g a i = zI h a i) (i11 : zI g 1 1 = nI (nc + 1)) (i391 : zI g 39 1 = nI (nc + 1)) (flt : zI g 1 7 = zI g 39 0) (tx : (txR t L).1 = true) (cl : zI g (zc h + 1) 0 = nI (tL t L) ∧ zI g 40 nc = nI (tL t L)) (cs : zI g (zc h + 1) 1 = nI (tAll t L).2.2 ∧ zI g 41 nc = nI (tAll t L).2.2) (cp : zI g (zc h + 1) 2 = (tPl t L).2.2 ∧ zI g 42 nc = (tPl t L).2.2) (cn : ∀ r w, r < (tAll t L).2.2 → w < 5 → zI g (zc h + 2) (5 * r + w) = tN t L r w ∧ zI g 44 (15 * nc + 5 * r + w) = tN t L r w) (cb : ∀ k, k ≤ tL t L → zI g (zc h + 3) k = tB t L k ∧ zI g 43 (5 * nc + k) = tB t L k) : Sim0 g ∧ KpO h g ∧ KpW h g := by
  obtain ⟨np, c1, c2, c3, c4, c5, c6, c7⟩ := hS.2.2.2.2.1
  obtain ⟨nc', d1, d2, d3, d4, d5⟩ := hS.2.2.2.1
  obtain rfl : nc' = nc := (nI_eq (by omega) (by omega)).mp (d2.symm.trans hn)
  obtain ⟨y1, y2, y3, y4, y5, y6⟩ := hS.2.2.2.2.2
  have hz : ∀ a, zK h a ≠ 99 → a ≤ zc h := fun a ha => Nat.le_of_not_lt fun w => ha (y4 a w)
  have hr : ∀ a, a ≤ 64 → (∀ i, ¬ WC nc' a i) → zI g a = zI h a := fun a h1 h2 => funext fun i => hI a i (by omega) (h2 i)
  have O : Old h g := fun a h1 h2 => ⟨funext fun i => hI a i h2 (by unfold WC WM; omega), A1 a (by omega) (by omega) h2, (zk a h2).1, (zk a h2).2⟩
  have n1 : (nI nc').toNatClampNeg = nc' := nI_clamp (by omega)
  have n2 : (nI (nc' + 1)).toNatClampNeg = nc' + 1 := nI_clamp (by omega)
  obtain ⟨l1, l2, s1, s2, ⟨P, p1, p2⟩, p3, p4⟩ := tx_nums tx
  have cOld : ∀ j, j < nc' → CampOK g j := fun j hj => CampOK_old O y4 (by rw [A2, if_neg (by omega)]) (hI 40 j (by omega) (by unfold WC WM; omega)) (hI 41 j (by omega) (by unfold WC WM; omega)) (hI 42 j (by omega) (by unfold WC WM; omega)) (fun k hk => hI 43 _ (by omega) (by unfold WC WM; omega)) (fun k hk => hI 44 _ (by omega) (by unfold WC WM; omega)) (d4 j hj)
  have cNew : CampOK g nc' := by
    refine ⟨zc h + 1, zc h + 2, zc h + 3, tL t L, (tAll t L).2.2, P, by rw [A2, if_pos rfl], ac.1, ac.2, by omega, by omega, by omega, by omega, kc, kn.1, kn.2, kb.1, kb.2, l1, l2, s1, s2, p1, cl.1, cl.2, cs.1, cs.2, by rw [cp.1, p2], by rw [cp.2, p2], fun s w h1 h2 => ?_, fun k hk => ?_⟩
    · obtain ⟨v, v1, v2, v3⟩ := p3 s w h1 h2
      exact ⟨v, v1, v2, by rw [(cn s w h1 h2).1, v3], by rw [(cn s w h1 h2).2, v3]⟩
    · obtain ⟨v, v1, v2, v3⟩ := p4 k hk
      exact ⟨v, v1, v2, by rw [(cb k hk).1, v3], by rw [(cb k hk).2, v3]⟩
  refine ⟨⟨hg, ?_, ?_, ?_, ?_, ?_⟩, ?_, ?_⟩
  · refine ⟨flt, ?_, ?_, fun j hj => ?_⟩
    · rw [hI 30 0 (by omega) (by unfold WC WM; omega), hI 39 37 (by omega) (by unfold WC WM; omega)]
      exact hS.2.1.2.1
    · rw [hI 15 3 (by omega) (by unfold WC WM; omega), hI 39 26 (by omega) (by unfold WC WM; omega)]
      exact hS.2.1.2.2.1
    · rw [hI 18 j (by omega) (by unfold WC WM; omega), hI 58 j (by omega) (by unfold WC WM; omega)]
      exact hS.2.1.2.2.2 j hj
  · intro j hj
    exact RowOK_congr (hI 61 j (by omega) (by unfold WC WM; omega)) (hI 62 j (by omega) (by unfold WC WM; omega)) (fun i _ => hI 63 _ (by omega) (by unfold WC WM; omega)) (hr (31 + 2 * j) (by omega) (fun i => by unfold WC WM; omega)) (hr (32 + 2 * j) (by omega) (fun i => by unfold WC WM; omega)) (hS.2.2.1 j hj)
  · refine ⟨nc' + 1, by omega, i11, i391, fun j hj => ?_, ?_⟩
    · by_cases e : j = nc'
      · rw [e]; exact cNew
      · exact cOld j (by omega)
    · have old : ∀ j, j < nc' → zA g 2 j = zA h 2 j ∧ zA h 2 j ≤ zc h ∧ zA g (zA h 2 j) = zA h (zA h 2 j) ∧ zA h (zA h 2 j) 3 ≤ zc h ∧ zA h (zA h 2 j) 4 ≤ zc h := fun j hj => by
        obtain ⟨c, nb, br, L', S', P', w1, w2, w3, w4, w5, w6, w7, w8, w9, w10, w11, -⟩ := d4 j hj
        have m := hz c (by rw [w8]; decide)
        have m1 := hz nb (by rw [w9]; decide)
        have m2 := hz br (by rw [w11]; decide)
        rw [A2, if_neg (by omega), w1, w2, w3]
        exact ⟨rfl, m, A1 c (by omega) (by omega) m, m1, m2⟩
      have new : zA g 2 nc' = zc h + 1 := by rw [A2, if_pos rfl]
      intro i j hi hj hij
      by_cases ei : i = nc'
      · obtain ⟨o1, o2, o3, o4, o5⟩ := old j (by omega)
        rw [ei, new, ac.1, o1, o3]
        omega
      · obtain ⟨o1, o2, o3, o4, o5⟩ := old i (by omega)
        by_cases ej : j = nc'
        · rw [ej, new, ac.1, ac.2, o1, o3]
          omega
        · obtain ⟨u1, u2, u3, u4, u5⟩ := old j (by omega)
          rw [o1, o3, u1, u3]
          exact d5 i j (by omega) (by omega) hij
  · refine ⟨np, c1, by rw [hI 15 1 (by omega) (by unfold WC WM; omega)]; exact c2, by rw [hI 39 18 (by omega) (by unfold WC WM; omega)]; exact c3, fun p hp => ?_, fun p h1 h2 => by rw [hI 55 p (by omega) (by unfold WC WM; omega)]; exact c5 p h1 h2, ?_, ?_⟩
    · exact PartOK_old O y4 (by rw [A1 16 (by decide) (by decide) (by omega)]) (hI 51 p (by omega) (by unfold WC WM; omega)) (hI 52 p (by omega) (by unfold WC WM; omega)) (hI 53 p (by omega) (by unfold WC WM; omega)) (hI 54 p (by omega) (by unfold WC WM; omega)) (hI 55 p (by omega) (by unfold WC WM; omega)) (hI 56 p (by omega) (by unfold WC WM; omega)) (hr 17 (by omega) (fun i => by unfold WC WM; omega)) (c4 p hp)
    · rw [hr 17 (by omega) (fun i => by unfold WC WM; omega), hr 57 (by omega) (fun i => by unfold WC WM; omega), hr 56 (by omega) (fun i => by unfold WC WM; omega)]
      exact c6
    · rw [A1 16 (by decide) (by decide) (by omega)]
      exact c7
  · rw [hn, n1] at y2 y3
    refine ⟨by omega, ?_, ?_, fun a ha => ?_, by rw [hI 5 0 (by omega) (by unfold WC WM; omega)]; exact y5, fun j hj => by rw [hI 43 _ (by omega) (by unfold WC WM; omega)]; exact y6 j hj⟩
    · rw [z1, i11, n2, hI 15 1 (by omega) (by unfold WC WM; omega)]
      omega
    · rw [z2, i11, n2, hI 15 1 (by omega) (by unfold WC WM; omega)]
      omega
    · rw [z1] at ha
      rw [zk' a ha]
      exact y4 a (by omega)
  · refine ⟨by rw [A1 6 (by decide) (by decide) (by omega)], fun a ha => hr a (by omega) (fun i => by unfold WC WM; omega), J1, by rw [hn, i11, n1, n2]; omega, fun x hx => ?_⟩
    rw [hn, n1] at hx
    exact ⟨by rw [A2, if_neg (by omega)], hI 40 x (by omega) (by unfold WC WM; omega), hI 41 x (by omega) (by unfold WC WM; omega), hI 42 x (by omega) (by unfold WC WM; omega), fun k hk => hI 43 _ (by omega) (by unfold WC WM; omega), fun k hk => hI 44 _ (by omega) (by unfold WC WM; omega)⟩
  · refine Or.inr ⟨hI 15 6 (by omega) (by unfold WC WM; omega), hI 15 1 (by omega) (by unfold WC WM; omega), hI 39 18 (by omega) (by unfold WC WM; omega), fun a ha => hr a (by omega) (fun i => by unfold WC WM; omega)⟩
