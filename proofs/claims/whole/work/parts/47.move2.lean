section
variable {sc : Nat × (Nat → Int32)} {h : Hp}
/-- the model's move, behind its tests; lo: the lorry -/
theorem c_move_m (hs : Shp h) {np p kd st hr : Nat} {gd hd : Bool} {pl : Option Nat} (hn : np ≤ 12) (en : zI h 39 18 = nI np) (hp : p < np) (hkd : kd ≤ 2) (h51 : zI h 51 p = nI kd) (h52 : zI h 52 p = nI st) (hst : st ≤ 2) (hr1 : 1 ≤ hr) (hr9 : hr ≤ 9) (h53 : zI h 53 p = nI hr) (h54 : zI h 54 p = bI gd) (h55 : zI h 55 p = bI hd) (h56 : zI h 56 p = plI pl) (hx : ∀ x, pl = some x → x < 12) (lo so dr : Int32) (hd1 : 0 ≤ dr.toInt ∧ dr.toInt < 12) {tp : Option Nat} (htp : (lo = -9 ∧ tp = none) ∨ ∃ l t : Nat, l < 4 ∧ t < 3 ∧ lo = nI l ∧ so = nI t ∧ tp = some (3 * l + t)) {r : Int32} {g : Hp}
  (H : (r = -3 ∧ g = h ∧ (hd = true ∨ pl = tp ∨ ∃ x, tp = some x ∧ (hF kd st hr (x % 3) = -9 ∨ ¬ (zI h 57 x).toInt < 0))) ∨
    (hd = false ∧ pl ≠ tp ∧ g = mvM h p gd pl tp (decide (dr.toInt < (zI h 39 26).toInt)) ∧ ((tp = none ∧ r = 0) ∨ ∃ x, tp = some x ∧ r = hF kd st hr (x % 3) ∧ ¬ hF kd st hr (x % 3) = -9 ∧ (zI h 57 x).toInt < 0))) :
  Cc sc 191 [.ref 39, .int (nI p), .int lo, .int so, .int dr] h (some (.int r)) g := by
  have ip : inB (nI p) 12 = true := inB_nI (by omega) (by decide)
  have ep : (nI p).toNatClampNeg = p := nI_clamp (by omega)
  have z0 : (0 : Int32).toInt = 0 := by decide
  have b01 : ∀ b : Bool, bI b = 0 ∨ bI b = 1 := bI_01
  rw [← nh_eq hs] at H
  rw [← nh_eq hs]
  generalize hrr : (some (Value.int r) : Option Value) = rr
  -- behind the tests, with 'home', 'to' and 'hours' known
  have K : ∀ (hb to u : Int32), to = plI tp → (hb = bI (decide (tp = none))) → ((tp = none ∧ u = 0) ∨ ∃ x, tp = some x ∧ u = hF kd st hr (x % 3)) → Rn sc (mtk 191) 92 [some (.ref 39), some (.int (nI p)), some (.int lo), some (.int so), some (.int dr), some (.int hb), some (.int to), some (.int u)] [] (nh h) rr g := by
    intro hb to u hto hhb hu
    subst hto hhb
    refine bk_sound (cuts := []) 100 _ _ _ _ ?_
    refine And.intro rfl ?_
    refine And.intro (⟨rfl, ip⟩) ?_
    rw [ep]
    by_cases q1 : hd = true
    · rcases H with ⟨rfl, rfl, -⟩ | ⟨z, -⟩
      · subst hrr
        refine br_t (show ¬ zI h 55 p = 0 by rw [h55, q1]; decide) ?_
        exact ⟨Or.inl rfl, rfl, rfl⟩
      · rw [q1] at z; cases z
    · have q1' : hd = false := by cases hd <;> simp_all
      refine br_f (show ¬ ¬ zI h 55 p = 0 from fun z => z (by rw [h55, q1']; rfl)) ?_
      -- placeOf[p] == to
      have E : pl = tp → bk sc [] rr g (fun pc ls st h => Rn sc (mtk 191) pc ls st h rr g) (mtk 191) 60 121 [some (.ref 39), some (.int (nI p)), some (.int lo), some (.int so), some (.int dr), some (.int (bI (decide (tp = none)))), some (.int (plI tp)), some (.int u)] [] (nh h) := fun q2 => by
        rcases H with ⟨rfl, rfl, -⟩ | ⟨-, z, -⟩
        · subst hrr
          refine And.intro rfl ?_
          refine And.intro (⟨rfl, ip⟩) ?_
          rw [ep]
          refine br_f (show ¬ ¬ zI h 56 p = plI tp from fun z => z (by rw [h56, q2])) ?_
          exact ⟨Or.inl rfl, rfl, rfl⟩
        · exact absurd q2 z
      have E2 : ¬ pl = tp → (∀ x, tp = some x → x < 12) → (¬ plI pl = plI tp) := fun q ht z => by
        cases pl with
        | none => cases tp with
          | none => exact q rfl
          | some x =>
            have := ht x rfl
            exact absurd (show nI x = -9 from z.symm) (by first | assumption | (simp (discharger := omega) only [i_lt, i_le, i_eq, bI_tz, decide_eq_false_iff_not, Int32.reduceToInt, nI_toInt, tm1, tm2, tm3, tm4, tm9]; done) | (simp (discharger := omega) only [i_lt, i_le, i_eq, bI_tz, decide_eq_false_iff_not, Int32.reduceToInt, nI_toInt, tm1, tm2, tm3, tm4, tm9]; omega) | omega)
        | some y =>
          have h12 := hx y rfl
          cases tp with
          | none => exact absurd (show nI y = -9 from z) (by first | assumption | (simp (discharger := omega) only [i_lt, i_le, i_eq, bI_tz, decide_eq_false_iff_not, Int32.reduceToInt, nI_toInt, tm1, tm2, tm3, tm4, tm9]; done) | (simp (discharger := omega) only [i_lt, i_le, i_eq, bI_tz, decide_eq_false_iff_not, Int32.reduceToInt, nI_toInt, tm1, tm2, tm3, tm4, tm9]; omega) | omega)
          | some x =>
            have := ht x rfl
            exact q (by rw [(nI_eq (by omega) (by omega)).mp (show nI y = nI x from z)])
      cases tp with
      | none =>
        rcases hu with ⟨-, rfl⟩ | ⟨x, z, -⟩
        rotate_left
        · cases z
        refine br_f (by decide) ?_
        refine br_t (by decide) ?_
        by_cases q2 : pl = none
        · exact E q2
        · refine And.intro rfl ?_
          refine And.intro (⟨rfl, ip⟩) ?_
          rw [ep]
          refine br_t (show ¬ zI h 56 p = plI none by rw [h56]; exact E2 q2 (fun x z => nomatch z)) ?_
          rcases H with ⟨-, -, z⟩ | ⟨-, -, rfl, z⟩
          · rcases z with z | z | ⟨x, z, -⟩
            · exact absurd z q1
            · exact absurd z q2
            · cases z
          rcases z with ⟨-, rfl⟩ | ⟨x, z, -⟩
          rotate_left
          · cases z
          subst hrr
          cases pl with
          | none => exact absurd rfl q2
          | some y =>
            have hy := hx y rfl
            have iy : inB (nI y) 12 = true := inB_nI hy (by decide)
            have ey : (nI y).toNatClampNeg = y := nI_clamp (by omega)
            refine And.intro rfl ?_
            refine And.intro (⟨rfl, ip⟩) ?_
            rw [ep]
            refine br_f (show ¬ zI h 56 p < 0 by rw [h56]; exact nI_pos (n := y) (by omega)) ?_
            refine And.intro rfl ?_
            refine And.intro rfl ?_
            refine And.intro (⟨rfl, ip⟩) ?_
            rw [ep, show zI (nh h) (zA (nh h) 39 24) p = nI y from h56]
            refine And.intro (⟨rfl, iy⟩) ?_
            rw [ey]
            refine And.intro rfl ?_
            refine And.intro rfl ?_
            refine And.intro (⟨rfl, ip⟩) ?_
            rw [ep]
            unfold mvM
            by_cases g1 : gd = true
            · refine br_f (show ¬ zI h 54 p = 0 by rw [h54, g1]; decide) ?_
              refine And.intro rfl ?_
              by_cases s1 : dr.toInt < (zI h 39 26).toInt
              · refine br_t (show dr < zI h 39 26 by first | assumption | (simp (discharger := omega) only [i_lt, i_le, i_eq, bI_tz, decide_eq_false_iff_not, Int32.reduceToInt, nI_toInt, tm1, tm2, tm3, tm4, tm9]; done) | (simp (discharger := omega) only [i_lt, i_le, i_eq, bI_tz, decide_eq_false_iff_not, Int32.reduceToInt, nI_toInt, tm1, tm2, tm3, tm4, tm9]; omega) | omega) ?_
                refine And.intro (⟨rfl, ip, Or.inl rfl⟩) ?_
                rw [ep]
                refine And.intro rfl ?_
                refine And.intro (⟨rfl, ip⟩) ?_
                rw [ep]
                refine br_t (by decide) ?_
                refine ⟨Or.inl rfl, rfl, ?_⟩
                rw [g1, show decide (dr.toInt < (zI (nh h) 39 26).toInt) = true from decide_eq_true s1]
                rfl
              · refine br_f (show ¬ dr < zI h 39 26 by first | assumption | (simp (discharger := omega) only [i_lt, i_le, i_eq, bI_tz, decide_eq_false_iff_not, Int32.reduceToInt, nI_toInt, tm1, tm2, tm3, tm4, tm9]; done) | (simp (discharger := omega) only [i_lt, i_le, i_eq, bI_tz, decide_eq_false_iff_not, Int32.reduceToInt, nI_toInt, tm1, tm2, tm3, tm4, tm9]; omega) | omega) ?_
                refine And.intro (⟨rfl, ip, Or.inr rfl⟩) ?_
                rw [ep]
                refine And.intro rfl ?_
                refine And.intro (⟨rfl, ip⟩) ?_
                rw [ep]
                refine br_t (by decide) ?_
                refine ⟨Or.inl rfl, rfl, ?_⟩
                rw [g1, show decide (dr.toInt < (zI (nh h) 39 26).toInt) = false from decide_eq_false s1]
                rfl
            · have g1' : gd = false := by cases gd <;> simp_all
              refine br_t (show zI h 54 p = 0 by rw [h54, g1']; rfl) ?_
              refine And.intro (⟨rfl, ip, Or.inl rfl⟩) ?_
              rw [ep]
              refine And.intro rfl ?_
              refine And.intro (⟨rfl, ip⟩) ?_
              rw [ep]
              refine br_t (by decide) ?_
              refine ⟨Or.inl rfl, rfl, ?_⟩
              rw [g1']
              rfl
      | some x =>
        rcases hu with ⟨z, -⟩ | ⟨x', z, rfl⟩
        · cases z
        cases z
        have hx12 : x < 12 := by
          rcases htp with ⟨-, z⟩ | ⟨l, t, hl, ht, -, -, z⟩
          · cases z
          · cases z; omega
        have ix : inB (nI x) 12 = true := inB_nI hx12 (by decide)
        have ex : (nI x).toNatClampNeg = x := nI_clamp (by omega)
        have hneg := hF_neg (kd := kd) (st := st) (t := x % 3) hr1 hr9
        have bd : bI (decide (some x = (none : Option Nat))) = 0 := rfl
        by_cases q3 : hF kd st hr (x % 3) = -9
        · refine br_t (show hF kd st hr (x % 3) < 0 by rw [q3]; decide) ?_
          rcases H with ⟨rfl, rfl, -⟩ | ⟨-, -, -, z⟩
          · subst hrr
            exact ⟨Or.inl rfl, rfl, rfl⟩
          · rcases z with ⟨z, -⟩ | ⟨x', z, -, z2, -⟩
            · cases z
            · cases z; exact absurd q3 z2
        · refine br_f (show ¬ hF kd st hr (x % 3) < 0 by rw [i_lt, z0]; exact fun z => q3 (hneg.mp z)) ?_
          refine br_f (by exact fun z => z rfl) ?_
          refine And.intro rfl ?_
          refine And.intro (⟨rfl, ix⟩) ?_
          rw [show (plI (some x)).toNatClampNeg = x from ex]
          by_cases q4 : (zI h 57 x).toInt < 0
          · refine br_f (show ¬ (0 : Int32) ≤ zI h 57 x by first | assumption | (simp (discharger := omega) only [i_lt, i_le, i_eq, bI_tz, decide_eq_false_iff_not, Int32.reduceToInt, nI_toInt, tm1, tm2, tm3, tm4, tm9]; done) | (simp (discharger := omega) only [i_lt, i_le, i_eq, bI_tz, decide_eq_false_iff_not, Int32.reduceToInt, nI_toInt, tm1, tm2, tm3, tm4, tm9]; omega) | omega) ?_
            by_cases q2 : pl = some x
            · exact E q2
            · refine And.intro rfl ?_
              refine And.intro (⟨rfl, ip⟩) ?_
              rw [ep]
              refine br_t (show ¬ zI h 56 p = plI (some x) by rw [h56]; exact E2 q2 (fun x' z => by cases z; exact hx12)) ?_
              rcases H with ⟨-, -, z⟩ | ⟨-, -, rfl, z⟩
              · rcases z with z | z | ⟨x', z, z'⟩
                · exact absurd z q1
                · exact absurd z q2
                · cases z
                  rcases z' with z' | z'
                  · exact absurd z' q3
                  · exact absurd q4 z'
              rcases z with ⟨z, -⟩ | ⟨x', z, rfl, -, -⟩
              · cases z
              cases z
              subst hrr
              cases pl with
              | none =>
                refine And.intro rfl ?_
                refine And.intro (⟨rfl, ip⟩) ?_
                rw [ep]
                refine br_t (show zI h 56 p < 0 by rw [h56]; decide) ?_
                refine And.intro rfl ?_
                refine And.intro (⟨rfl, ip⟩) ?_
                rw [ep]
                refine br_f (by exact fun z => z rfl) ?_
                refine And.intro rfl ?_
                refine And.intro (⟨rfl, ix⟩) ?_
                rw [show (plI (some x)).toNatClampNeg = x from ex]
                exact ⟨Or.inl rfl, rfl, rfl⟩
              | some y =>
                have hy := hx y rfl
                have iy : inB (nI y) 12 = true := inB_nI hy (by decide)
                have ey : (nI y).toNatClampNeg = y := nI_clamp (by omega)
                refine And.intro rfl ?_
                refine And.intro (⟨rfl, ip⟩) ?_
                rw [ep]
                refine br_f (show ¬ zI h 56 p < 0 by rw [h56]; exact nI_pos (n := y) (by omega)) ?_
                refine And.intro rfl ?_
                refine And.intro rfl ?_
                refine And.intro (⟨rfl, ip⟩) ?_
                rw [ep, show zI (nh h) (zA (nh h) 39 24) p = nI y from h56]
                refine And.intro (⟨rfl, iy⟩) ?_
                rw [ey]
                refine And.intro rfl ?_
                refine And.intro rfl ?_
                refine And.intro (⟨rfl, ip⟩) ?_
                rw [ep]
                unfold mvM
                by_cases g1 : gd = true
                · refine br_f (show ¬ zI h 54 p = 0 by rw [h54, g1]; decide) ?_
                  refine And.intro rfl ?_
                  by_cases s1 : dr.toInt < (zI h 39 26).toInt
                  · refine br_t (show dr < zI h 39 26 by first | assumption | (simp (discharger := omega) only [i_lt, i_le, i_eq, bI_tz, decide_eq_false_iff_not, Int32.reduceToInt, nI_toInt, tm1, tm2, tm3, tm4, tm9]; done) | (simp (discharger := omega) only [i_lt, i_le, i_eq, bI_tz, decide_eq_false_iff_not, Int32.reduceToInt, nI_toInt, tm1, tm2, tm3, tm4, tm9]; omega) | omega) ?_
                    refine And.intro (⟨rfl, ip, Or.inl rfl⟩) ?_
                    rw [ep]
                    refine And.intro rfl ?_
                    refine And.intro (⟨rfl, ip⟩) ?_
                    rw [ep]
                    refine br_f (by exact fun z => z rfl) ?_
                    refine And.intro rfl ?_
                    refine And.intro (⟨rfl, ix⟩) ?_
                    rw [show (plI (some x)).toNatClampNeg = x from ex]
                    refine ⟨Or.inl rfl, rfl, ?_⟩
                    rw [g1, show decide (dr.toInt < (zI (nh h) 39 26).toInt) = true from decide_eq_true s1]
                    rfl
                  · refine br_f (show ¬ dr < zI h 39 26 by first | assumption | (simp (discharger := omega) only [i_lt, i_le, i_eq, bI_tz, decide_eq_false_iff_not, Int32.reduceToInt, nI_toInt, tm1, tm2, tm3, tm4, tm9]; done) | (simp (discharger := omega) only [i_lt, i_le, i_eq, bI_tz, decide_eq_false_iff_not, Int32.reduceToInt, nI_toInt, tm1, tm2, tm3, tm4, tm9]; omega) | omega) ?_
                    refine And.intro (⟨rfl, ip, Or.inr rfl⟩) ?_
                    rw [ep]
                    refine And.intro rfl ?_
                    refine And.intro (⟨rfl, ip⟩) ?_
                    rw [ep]
                    refine br_f (by exact fun z => z rfl) ?_
                    refine And.intro rfl ?_
                    refine And.intro (⟨rfl, ix⟩) ?_
                    rw [show (plI (some x)).toNatClampNeg = x from ex]
                    refine ⟨Or.inl rfl, rfl, ?_⟩
                    rw [g1, show decide (dr.toInt < (zI (nh h) 39 26).toInt) = false from decide_eq_false s1]
                    rfl
                · have g1' : gd = false := by cases gd <;> simp_all
                  refine br_t (show zI h 54 p = 0 by rw [h54, g1']; rfl) ?_
                  refine And.intro (⟨rfl, ip, Or.inl rfl⟩) ?_
                  rw [ep]
                  refine And.intro rfl ?_
                  refine And.intro (⟨rfl, ip⟩) ?_
                  rw [ep]
                  refine br_f (by exact fun z => z rfl) ?_
                  refine And.intro rfl ?_
                  refine And.intro (⟨rfl, ix⟩) ?_
                  rw [show (plI (some x)).toNatClampNeg = x from ex]
                  refine ⟨Or.inl rfl, rfl, ?_⟩
                  rw [g1']
                  rfl
          · refine br_t (show (0 : Int32) ≤ zI h 57 x by first | assumption | (simp (discharger := omega) only [i_lt, i_le, i_eq, bI_tz, decide_eq_false_iff_not, Int32.reduceToInt, nI_toInt, tm1, tm2, tm3, tm4, tm9]; done) | (simp (discharger := omega) only [i_lt, i_le, i_eq, bI_tz, decide_eq_false_iff_not, Int32.reduceToInt, nI_toInt, tm1, tm2, tm3, tm4, tm9]; omega) | omega) ?_
            rcases H with ⟨rfl, rfl, -⟩ | ⟨-, -, -, z⟩
            · subst hrr
              exact ⟨Or.inl rfl, rfl, rfl⟩
            · rcases z with ⟨z, -⟩ | ⟨x', z, -, -, z2⟩
              · cases z
              · cases z; exact absurd z2 q4
  refine cc_cut [92] 100 rfl rfl ?_
  rcases htp with ⟨rfl, rfl⟩ | ⟨l, t, hl, ht, rfl, rfl, rfl⟩
  · refine br_f (by exact fun z => z rfl) ?_
    refine And.intro ⟨rfl, rfl⟩ (And.intro rfl (Exists.intro _ (Exists.intro _ (And.intro (c_noPart (h := nh h) (shp_nh hs) hn en (nI p)) ?_))))
    refine br_f (by first | assumption | (simp (discharger := omega) only [i_lt, i_le, i_eq, bI_tz, decide_eq_false_iff_not, Int32.reduceToInt, nI_toInt, tm1, tm2, tm3, tm4, tm9]; done) | (simp (discharger := omega) only [i_lt, i_le, i_eq, bI_tz, decide_eq_false_iff_not, Int32.reduceToInt, nI_toInt, tm1, tm2, tm3, tm4, tm9]; omega) | omega) ?_
    refine br_t (by decide) ?_
    refine And.intro rfl (And.intro rfl (Exists.intro _ (Exists.intro _ (And.intro (c_inN dr (m := 11) (n := 11) (by decide)) ?_))))
    refine br_t (by rw [bI_z, decide_eq_false_iff_not]; omega) ?_
    refine br_f (by decide) ?_
    refine br_f (by decide) ?_
    exact K 1 (-9) 0 rfl rfl (Or.inl ⟨rfl, rfl⟩)
  · refine br_t (show ¬ nI l = -9 by first | assumption | (simp (discharger := omega) only [i_lt, i_le, i_eq, bI_tz, decide_eq_false_iff_not, Int32.reduceToInt, nI_toInt, tm1, tm2, tm3, tm4, tm9]; done) | (simp (discharger := omega) only [i_lt, i_le, i_eq, bI_tz, decide_eq_false_iff_not, Int32.reduceToInt, nI_toInt, tm1, tm2, tm3, tm4, tm9]; omega) | omega) ?_
    refine And.intro ⟨rfl, rfl⟩ (And.intro rfl (Exists.intro _ (Exists.intro _ (And.intro (c_noPart (h := nh h) (shp_nh hs) hn en (nI p)) ?_))))
    refine br_f (by first | assumption | (simp (discharger := omega) only [i_lt, i_le, i_eq, bI_tz, decide_eq_false_iff_not, Int32.reduceToInt, nI_toInt, tm1, tm2, tm3, tm4, tm9]; done) | (simp (discharger := omega) only [i_lt, i_le, i_eq, bI_tz, decide_eq_false_iff_not, Int32.reduceToInt, nI_toInt, tm1, tm2, tm3, tm4, tm9]; omega) | omega) ?_
    refine br_f (by exact fun z => z rfl) ?_
    refine And.intro rfl (And.intro rfl (Exists.intro _ (Exists.intro _ (And.intro (c_noLorry _) ?_))))
    refine br_f (by first | assumption | (simp (discharger := omega) only [i_lt, i_le, i_eq, bI_tz, decide_eq_false_iff_not, Int32.reduceToInt, nI_toInt, tm1, tm2, tm3, tm4, tm9]; done) | (simp (discharger := omega) only [i_lt, i_le, i_eq, bI_tz, decide_eq_false_iff_not, Int32.reduceToInt, nI_toInt, tm1, tm2, tm3, tm4, tm9]; omega) | omega) ?_
    refine And.intro rfl (And.intro rfl (Exists.intro _ (Exists.intro _ (And.intro (c_noYardSort _) ?_))))
    refine br_t (by first | assumption | (simp (discharger := omega) only [i_lt, i_le, i_eq, bI_tz, decide_eq_false_iff_not, Int32.reduceToInt, nI_toInt, tm1, tm2, tm3, tm4, tm9]; done) | (simp (discharger := omega) only [i_lt, i_le, i_eq, bI_tz, decide_eq_false_iff_not, Int32.reduceToInt, nI_toInt, tm1, tm2, tm3, tm4, tm9]; omega) | omega) ?_
    refine And.intro rfl (And.intro rfl (Exists.intro _ (Exists.intro _ (And.intro (c_inN dr (m := 11) (n := 11) (by decide)) ?_))))
    refine br_t (by rw [bI_z, decide_eq_false_iff_not]; omega) ?_
    refine br_t (by rfl) ?_
    refine br_t (by rfl) ?_
    refine And.intro ⟨rfl, rfl⟩ (And.intro rfl (Exists.intro _ (Exists.intro _ (And.intro (c_hoursFor_m (h := nh h) (shp_nh hs) (by omega) hkd h51 h52 h53 hst hr9 (by omega : t ≤ 2)) ?_))))
    have e2 : 3 * nI l + nI t = plI (some (3 * l + t)) := by
      show 3 * nI l + nI t = nI (3 * l + t)
      rw [show (3 : Int32) = nI 3 from rfl, pk_mul, nI_add]
    exact K 0 _ _ e2 rfl (Or.inr ⟨3 * l + t, rfl, by rw [show (3 * l + t) % 3 = t by omega]⟩)
end
