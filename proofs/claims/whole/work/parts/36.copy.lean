section
variable {sc : Nat × (Nat → Int32)} {h : Hp}
theorem row_A {j : Nat} (hj : j < 4) : zA (nh h) 29 j = 31 + 2 * j := by
  obtain rfl | rfl | rfl | rfl : j = 0 ∨ j = 1 ∨ j = 2 ∨ j = 3 := by omega
  all_goals rfl
theorem row_K {j : Nat} (hj : j < 4) : zK (nh h) (31 + 2 * j) = 5 := by
  obtain rfl | rfl | rfl | rfl : j = 0 ∨ j = 1 ∨ j = 2 ∨ j = 3 := by omega
  all_goals rfl
theorem row_C {j : Nat} (hj : j < 4) : zA (nh h) (31 + 2 * j) 2 = 32 + 2 * j := by
  obtain rfl | rfl | rfl | rfl : j = 0 ∨ j = 1 ∨ j = 2 ∨ j = 3 := by omega
  all_goals rfl
theorem row_CK {j : Nat} (hj : j < 4) : zK (nh h) (32 + 2 * j) = 12 := by
  obtain rfl | rfl | rfl | rfl : j = 0 ∨ j = 1 ∨ j = 2 ∨ j = 3 := by omega
  all_goals rfl
theorem row_CN {j : Nat} (hj : j < 4) : zN (nh h) (32 + 2 * j) = 60 := by
  obtain rfl | rfl | rfl | rfl : j = 0 ∨ j = 1 ∨ j = 2 ∨ j = 3 := by omega
  all_goals rfl
theorem clamp0 {n : Int32} (q : 0 ≤ n.toInt) : (n.toNatClampNeg : Int) = n.toInt := by
  rw [Int32.toNatClampNeg]
  omega
/-- the class's copy, by its roads -/
theorem c_copy_x (hs : Shp h) {k o : Nat} (hk : k < 4) (ho : o < 4) (i j n : Int32) {r : Int32} {g : Hp}
  (H : (r = -11 ∧ g = upI h 1 7 1 ∧ (zI h (31 + 2 * k) 0 = -9 ∨ zI h (31 + 2 * o) 0 = -9)) ∨
    (¬ zI h (31 + 2 * k) 0 = -9 ∧ ¬ zI h (31 + 2 * o) 0 = -9 ∧ ((r = -12 ∧ g = upI h 1 7 2 ∧ ¬ zI h (31 + 2 * k) 0 = zI h (31 + 2 * o) 0) ∨
      (zI h (31 + 2 * k) 0 = zI h (31 + 2 * o) 0 ∧ 0 ≤ (zI h (31 + 2 * k) 1).toInt ∧ (zI h (31 + 2 * k) 1).toInt ≤ 60 ∧ 0 ≤ (zI h (31 + 2 * o) 1).toInt ∧ (zI h (31 + 2 * o) 1).toInt ≤ 60 ∧
        ((r = -13 ∧ g = upI h 1 7 3 ∧ (n.toInt < 0 ∨ i.toInt < 0 ∨ (zI h (31 + 2 * k) 1).toInt < i.toInt + n.toInt ∨ j.toInt < 0 ∨ (zI h (31 + 2 * o) 1).toInt < j.toInt + n.toInt)) ∨
          (r = n ∧ g = rwI (upI h 1 7 0) (32 + 2 * o) (va_cpy (zI h (32 + 2 * k)) (zI h (32 + 2 * o)) i.toNatClampNeg j.toNatClampNeg n.toNatClampNeg) ∧ ¬ (n.toInt < 0 ∨ i.toInt < 0 ∨ (zI h (31 + 2 * k) 1).toInt < i.toInt + n.toInt ∨ j.toInt < 0 ∨ (zI h (31 + 2 * o) 1).toInt < j.toInt + n.toInt))))))) :
  Cc sc 118 [.ref 1, .int (nI k), .int i, .int (nI o), .int j, .int n] h (some (.int r)) g := by
  have ik : inB (nI k) 4 = true := inB_nI hk (by decide)
  have io : inB (nI o) 4 = true := inB_nI ho (by decide)
  have ek : (nI k).toNatClampNeg = k := nI_clamp (by omega)
  have eo : (nI o).toNatClampNeg = o := nI_clamp (by omega)
  have k5 : ∀ j, j < 4 → kin 5 (zK (nh h) (31 + 2 * j)) = true := fun j hj => by rw [row_K hj]; rfl
  rw [← nh_eq hs]
  rw [← nh_eq hs] at H
  generalize hr : (some (Value.int r) : Option Value) = rr
  refine cc_of 100 rfl rfl ?_
  refine And.intro rfl ?_
  refine And.intro rfl (And.intro rfl (Exists.intro _ (Exists.intro _ (And.intro (c_isSheet _) ?_))))
  refine br_f (by first | assumption | (simp (discharger := omega) only [i_lt, i_le, i_eq, bI_tz, decide_eq_false_iff_not, Int32.reduceToInt, nI_toInt, tm1, tm2, tm3, tm4, tm9]; done) | (simp (discharger := omega) only [i_lt, i_le, i_eq, bI_tz, decide_eq_false_iff_not, Int32.reduceToInt, nI_toInt, tm1, tm2, tm3, tm4, tm9]; omega) | omega) ?_
  refine And.intro rfl (And.intro rfl (Exists.intro _ (Exists.intro _ (And.intro (c_isSheet _) ?_))))
  refine br_t (by first | assumption | (simp (discharger := omega) only [i_lt, i_le, i_eq, bI_tz, decide_eq_false_iff_not, Int32.reduceToInt, nI_toInt, tm1, tm2, tm3, tm4, tm9]; done) | (simp (discharger := omega) only [i_lt, i_le, i_eq, bI_tz, decide_eq_false_iff_not, Int32.reduceToInt, nI_toInt, tm1, tm2, tm3, tm4, tm9]; omega) | omega) ?_
  refine And.intro rfl ?_
  refine And.intro (⟨rfl, ik⟩) ?_
  rw [ek, show zA (upI (nh h) 1 7 0) (zA (upI (nh h) 1 7 0) 1 5) k = 31 + 2 * k from row_A hk]
  refine And.intro rfl ?_
  refine And.intro (⟨rfl, io⟩) ?_
  rw [eo, show zA (upI (nh h) 1 7 0) (zA (upI (nh h) 1 7 0) 1 5) o = 31 + 2 * o from row_A ho]
  refine And.intro ⟨rfl, row_K hk⟩ (And.intro rfl (Exists.intro _ (Exists.intro _ (And.intro (c_isNothing (h := upI (nh h) 1 7 0) (a := 31 + 2 * k) (row_K hk)) ?_))))
  have s0 : ∀ a i, 30 ≤ a → zI (upI (nh h) 1 7 0) a i = zI (nh h) a i := fun a i ha => by rw [zI_upI, if_neg (by omega)]
  rw [s0 _ _ (by omega)]
  rcases H with ⟨h1, h2, h3⟩ | ⟨h1, h2, h3⟩
  · subst h1 h2 hr
    by_cases q : zI (nh h) (31 + 2 * k) 0 = -9
    · refine br_t (by rw [bI_z, q]; decide) ?_
      refine And.intro ⟨rfl, rfl⟩ (And.intro rfl (Exists.intro _ (Exists.intro _ (And.intro (c_faulty (h := upI (nh h) 1 7 0) (shp_nh hs) 1) ?_))))
      rw [upI_upI]
      exact ⟨Or.inl rfl, rfl, rfl⟩
    · refine br_f (by rw [bI_z]; exact fun z => z (decide_eq_false q)) ?_
      refine And.intro ⟨rfl, row_K ho⟩ (And.intro rfl (Exists.intro _ (Exists.intro _ (And.intro (c_isNothing (h := upI (nh h) 1 7 0) (a := 31 + 2 * o) (row_K ho)) ?_))))
      rw [s0 _ _ (by omega)]
      refine br_f (by rw [bI_z, h3.resolve_left q]; decide) ?_
      refine And.intro ⟨rfl, rfl⟩ (And.intro rfl (Exists.intro _ (Exists.intro _ (And.intro (c_faulty (h := upI (nh h) 1 7 0) (shp_nh hs) 1) ?_))))
      rw [upI_upI]
      exact ⟨Or.inl rfl, rfl, rfl⟩
  · refine br_f (by rw [bI_z]; exact fun z => z (decide_eq_false h1)) ?_
    refine And.intro ⟨rfl, row_K ho⟩ (And.intro rfl (Exists.intro _ (Exists.intro _ (And.intro (c_isNothing (h := upI (nh h) 1 7 0) (a := 31 + 2 * o) (row_K ho)) ?_))))
    rw [s0 _ _ (by omega)]
    refine br_t (by rw [bI_z]; exact decide_eq_false h2) ?_
    refine And.intro (k5 k hk) ?_
    refine And.intro (k5 o ho) ?_
    rw [s0 _ _ (by omega), s0 _ _ (by omega)]
    rcases h3 with ⟨h3, h4, h5⟩ | ⟨h3, b1, b2, b3, b4, h4⟩
    · subst h3 h4 hr
      refine br_f h5 ?_
      refine And.intro ⟨rfl, rfl⟩ (And.intro rfl (Exists.intro _ (Exists.intro _ (And.intro (c_faulty (h := upI (nh h) 1 7 0) (shp_nh hs) 2) ?_))))
      rw [upI_upI]
      exact ⟨Or.inl rfl, rfl, rfl⟩
    · refine br_t h3 ?_
      by_cases q1 : n.toInt < 0
      · rcases h4 with ⟨h5, h6, h7⟩ | ⟨h5, h6, h7⟩
        · subst h5 h6 hr
          refine br_t (show n < 0 by first | assumption | (simp (discharger := omega) only [i_lt, i_le, i_eq, bI_tz, decide_eq_false_iff_not, Int32.reduceToInt, nI_toInt, tm1, tm2, tm3, tm4, tm9]; done) | (simp (discharger := omega) only [i_lt, i_le, i_eq, bI_tz, decide_eq_false_iff_not, Int32.reduceToInt, nI_toInt, tm1, tm2, tm3, tm4, tm9]; omega) | omega) ?_
          refine And.intro ⟨rfl, rfl⟩ (And.intro rfl (Exists.intro _ (Exists.intro _ (And.intro (c_faulty (h := upI (nh h) 1 7 0) (shp_nh hs) 3) ?_))))
          rw [upI_upI]
          exact ⟨Or.inl rfl, rfl, rfl⟩
        · exact absurd (Or.inl q1) h7
      · refine br_f (show ¬ (n < 0) by first | assumption | (simp (discharger := omega) only [i_lt, i_le, i_eq, bI_tz, decide_eq_false_iff_not, Int32.reduceToInt, nI_toInt, tm1, tm2, tm3, tm4, tm9]; done) | (simp (discharger := omega) only [i_lt, i_le, i_eq, bI_tz, decide_eq_false_iff_not, Int32.reduceToInt, nI_toInt, tm1, tm2, tm3, tm4, tm9]; omega) | omega) ?_
        refine And.intro ⟨rfl, row_K hk⟩ (And.intro rfl (Exists.intro _ (Exists.intro _ (And.intro (c_lacks (h := upI (nh h) 1 7 0) (a := 31 + 2 * k) (row_K hk) i n (by omega) (by rw [s0 _ _ (by omega)]; exact b1)) ?_))))
        rw [s0 _ _ (by omega)]
        by_cases q2 : i.toInt < 0 ∨ (zI (nh h) (31 + 2 * k) 1).toInt < i.toInt + n.toInt
        · rcases h4 with ⟨h5, h6, h7⟩ | ⟨h5, h6, h7⟩
          · subst h5 h6 hr
            refine br_t (by rw [bI_z, decide_eq_true q2]; decide) ?_
            refine And.intro ⟨rfl, rfl⟩ (And.intro rfl (Exists.intro _ (Exists.intro _ (And.intro (c_faulty (h := upI (nh h) 1 7 0) (shp_nh hs) 3) ?_))))
            rw [upI_upI]
            exact ⟨Or.inl rfl, rfl, rfl⟩
          · exact absurd (by omega) h7
        · refine br_f (by rw [bI_z]; exact fun z => z (decide_eq_false q2)) ?_
          refine And.intro ⟨rfl, row_K ho⟩ (And.intro rfl (Exists.intro _ (Exists.intro _ (And.intro (c_lacks (h := upI (nh h) 1 7 0) (a := 31 + 2 * o) (row_K ho) j n (by omega) (by rw [s0 _ _ (by omega)]; exact b3)) ?_))))
          rw [s0 _ _ (by omega)]
          by_cases q3 : j.toInt < 0 ∨ (zI (nh h) (31 + 2 * o) 1).toInt < j.toInt + n.toInt
          · rcases h4 with ⟨h5, h6, h7⟩ | ⟨h5, h6, h7⟩
            · subst h5 h6 hr
              refine br_f (by rw [bI_z, decide_eq_true q3]; decide) ?_
              refine And.intro ⟨rfl, rfl⟩ (And.intro rfl (Exists.intro _ (Exists.intro _ (And.intro (c_faulty (h := upI (nh h) 1 7 0) (shp_nh hs) 3) ?_))))
              rw [upI_upI]
              exact ⟨Or.inl rfl, rfl, rfl⟩
            · exact absurd (by omega) h7
          · rcases h4 with ⟨h5, h6, h7⟩ | ⟨h5, h6, h7⟩
            · exact absurd h7 (by omega)
            · subst h5 h6 hr
              refine br_t (by rw [bI_z]; exact decide_eq_false q3) ?_
              have c1 := clamp0 (n := i) (by omega)
              have c2 := clamp0 (n := j) (by omega)
              have c3 := clamp0 (n := r) (by omega)
              refine And.intro (k5 k hk) ?_
              rw [show zA (upI (nh h) 1 7 0) (31 + 2 * k) 2 = 32 + 2 * k from row_C hk]
              refine And.intro (k5 o ho) ?_
              rw [show zA (upI (nh h) 1 7 0) (31 + 2 * o) 2 = 32 + 2 * o from row_C ho]
              have z0 : (0 : Int32).toInt = 0 := by decide
              refine And.intro (⟨rfl, fun z => by rw [i_lt, z0] at z; omega, fun z => by rw [i_lt, z0] at z; omega, fun z => by rw [i_lt, z0] at z; omega, by rw [show zN (upI (nh h) 1 7 0) (32 + 2 * k) = 60 from row_CN hk]; omega, by rw [show zN (upI (nh h) 1 7 0) (32 + 2 * o) = 60 from row_CN ho]; omega, Or.inl ⟨row_CK hk, row_CK ho⟩⟩) ?_
              rw [if_neg (by rw [show zK (upI (nh h) 1 7 0) (32 + 2 * o) = 12 from row_CK ho]; decide)]
              have s1 : ∀ a, 30 ≤ a → zI (upI (nh h) 1 7 0) a = zI (nh h) a := fun a ha => funext fun i => s0 a i ha
              rw [s1 _ (by omega), s1 _ (by omega)]
              exact ⟨Or.inl rfl, rfl, rfl⟩
end
