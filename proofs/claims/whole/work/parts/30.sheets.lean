/-! Sheets. -/
/-- touches nothing that the two tables rest on -/
def okT (L : List (Nat × Nat)) : Bool := lowP L && [2, 6, 7, 8, 9, 10, 11, 19, 20, 40, 41, 42, 43, 44, 51, 52, 53, 54, 55, 56].all (frP L) && !inP L 15 6 && !inP L 15 1 && !inP L 1 1 && !inP L 39 1 && !inP L 39 18
def Kp (h g : Hp) : Prop := ∃ L, Fr L h g ∧ okT L = true
def Op0 (sc : Nat × (Nat → Int32)) (kx km : Nat) (as : List Value) (h : Hp) : Prop := ∃ r h1 h2, Cc sc kx (.ref 1 :: as) h (some r) h1 ∧ Cc sc km (.ref 39 :: as) h1 (some r) h2 ∧ Sim0 h2 ∧ Kp h h2
section
variable {sc : Nat × (Nat → Int32)} {h : Hp}
theorem shp_nh (hs : Shp h) : Shp (nh h) := by rw [nh_eq hs]; exact hs
theorem c_isNothing {a : Nat} (hk : zK h a = 5) : Cc sc 46 [.ref a] h (some (.int (bI (decide (zI h a 0 = -9))))) h := by
  have k0 : kin 5 (zK h a) = true := by rw [hk]; rfl
  refine cc_of 20 rfl rfl ?_
  refine And.intro (k0) ?_
  refine br_c (fun q => ?_) (fun q => ?_)
  · exact ⟨Or.inr ⟨rfl, Or.inl rfl⟩, by rw [bI_eq q], rfl⟩
  · exact ⟨Or.inr ⟨rfl, Or.inr rfl⟩, by rw [decide_eq_true (Decidable.not_not.mp q)]; rfl, rfl⟩
theorem c_lacks {a : Nat} (hk : zK h a = 5) (i n : Int32) (h1 : 0 ≤ n.toInt) (h2 : 0 ≤ (zI h a 1).toInt) : Cc sc 48 [.ref a, .int i, .int n] h (some (.int (bI (decide (i.toInt < 0 ∨ (zI h a 1).toInt < i.toInt + n.toInt))))) h := by
  have k0 : kin 5 (zK h a) = true := by rw [hk]; rfl
  have b1 := i_bd i
  have b2 := i_bd n
  have b3 := i_bd (zI h a 1)
  have es : (zI h a 1 - n).toInt = (zI h a 1).toInt - n.toInt := i_sub (by omega) (by omega)
  refine cc_of 20 rfl rfl ?_
  refine br_c (fun q => ?_) (fun q => ?_)
  · rw [i_lt, show (0 : Int32).toInt = 0 by decide] at q
    exact ⟨Or.inr ⟨rfl, Or.inr rfl⟩, by rw [decide_eq_true (Or.inl q)]; rfl, rfl⟩
  · rw [i_lt, show (0 : Int32).toInt = 0 by decide] at q
    refine And.intro (k0) ?_
    refine br_c (fun w => ?_) (fun w => ?_)
    · rw [i_le, es] at w
      exact ⟨Or.inr ⟨rfl, Or.inl rfl⟩, by rw [bI_eq (by omega)], rfl⟩
    · rw [i_le, es] at w
      exact ⟨Or.inr ⟨rfl, Or.inr rfl⟩, by rw [decide_eq_true (by omega)]; rfl, rfl⟩
def nar (ln v : Int32) : Int32 := if ln = 0 then v.toInt8.toInt32 else if ln = 1 then v.toInt16.toInt32 else v
theorem c_write {a c i : Nat} (hk : zK h a = 5) (hc : zA h a 2 = c) (hkc : zK h c = 12) (hnc : zN h c = 60) (hi : i < 60) (v : Int32) : Cc sc 49 [.ref a, .int (nI i), .int v] h none (upI h c i (nar (zI h a 0) v)) := by
  have k0 : kin 5 (zK h a) = true := by rw [hk]; rfl
  have ei : (nI i).toNatClampNeg = i := nI_clamp (by omega)
  subst hc
  have ka : zK h (zA h a 2) = 12 ∧ inB (nI i) (zN h (zA h a 2)) = true := ⟨hkc, by rw [hnc]; exact inB_nI hi (by decide)⟩
  refine cc_of 30 rfl rfl ?_
  refine And.intro (k0) ?_
  refine br_c (fun q => ?_) (fun q => ?_)
  · refine And.intro (k0) ?_
    refine br_c (fun w => ?_) (fun w => ?_)
    · refine And.intro (k0) ?_
      refine And.intro (ka) ?_
      exact ⟨trivial, rfl, by rw [ei, nar, if_neg q, if_neg w]⟩
    · refine And.intro (k0) ?_
      refine And.intro (ka) ?_
      exact ⟨trivial, rfl, by rw [ei, nar, if_neg q, if_pos (Decidable.not_not.mp w)]⟩
  · refine And.intro (k0) ?_
    refine And.intro (ka) ?_
    exact ⟨trivial, rfl, by rw [ei, nar, if_pos (Decidable.not_not.mp q)]⟩
theorem c_begin {a c : Nat} (hk : zK h a = 5) (hc : zA h a 2 = c) (hkc : zK h c = 12) (hnc : zN h c = 60) (ln n : Int32) : Cc sc 47 [.ref a, .int ln, .int n] h none (flI (upI (upI h a 0 ln) a 1 n) c 0) := by
  have k0 : kin 5 (zK h a) = true := by rw [hk]; rfl
  subst hc
  refine cc_of 30 rfl rfl ?_
  refine And.intro (k0) ?_
  refine And.intro (k0) ?_
  refine And.intro (k0) ?_
  refine And.intro rfl (And.intro rfl (Exists.intro _ (Exists.intro _ (And.intro (c_fillI (h := upI (upI h a 0 ln) a 1 n) (a := zA h a 2) (v := 0) hkc (by show zN h (zA h a 2) < 2 ^ 31; rw [hnc]; decide)) ?_))))
  exact ⟨trivial, rfl, rfl⟩
theorem c_noCell (hs : Shp h) {k : Nat} (hk : k < 4) (i : Int32) : Cc sc 209 [.ref 39, .int (nI k), .int i] h (some (.int (if (zI h 61 k).toInt < 0 then 1 else if 0 ≤ i.toInt ∧ i.toInt < (zI h 61 k).toInt then 0 else 3))) h := by
  have ek : (nI k).toNatClampNeg = k := nI_clamp (by omega)
  have ik : inB (nI k) 4 = true := inB_nI hk (by decide)
  have b := i_bd (zI h 61 k)
  have e1 : ((zI h 61 k).toInt64 - 1).toInt = (zI h 61 k).toInt - 1 := by
    rw [l_sub] <;> rw [wide, show (1 : Int64).toInt = 1 by decide] <;> omega
  refine cc_nh (F := fun h => h) hs (cc_of 40 rfl rfl ?_)
  refine And.intro rfl ?_
  refine And.intro (⟨rfl, ik⟩) ?_
  rw [ek]
  by_cases q : (zI h 61 k).toInt < 0
  · rw [if_pos q]
    refine br_f (show ¬ ((0 : Int32) ≤ zI h 61 k) by first | assumption | (simp (discharger := omega) only [i_lt, i_le, i_eq, bI_tz, decide_eq_false_iff_not, Int32.reduceToInt, nI_toInt, tm1, tm2, tm3, tm4, tm9]; done) | (simp (discharger := omega) only [i_lt, i_le, i_eq, bI_tz, decide_eq_false_iff_not, Int32.reduceToInt, nI_toInt, tm1, tm2, tm3, tm4, tm9]; omega) | omega) ?_
    exact ⟨Or.inl rfl, rfl, rfl⟩
  · rw [if_neg q]
    refine br_t (show (0 : Int32) ≤ zI h 61 k by first | assumption | (simp (discharger := omega) only [i_lt, i_le, i_eq, bI_tz, decide_eq_false_iff_not, Int32.reduceToInt, nI_toInt, tm1, tm2, tm3, tm4, tm9]; done) | (simp (discharger := omega) only [i_lt, i_le, i_eq, bI_tz, decide_eq_false_iff_not, Int32.reduceToInt, nI_toInt, tm1, tm2, tm3, tm4, tm9]; omega) | omega) ?_
    refine And.intro rfl ?_
    refine And.intro (⟨rfl, ik⟩) ?_
    rw [ek]
    refine And.intro rfl (And.intro rfl (Exists.intro _ (Exists.intro _ (And.intro (c_in i.toInt64 0 ((zI h 61 k).toInt64 - 1)) ?_))))
    rw [e1, wide, show (0 : Int64).toInt = 0 by decide]
    by_cases w : 0 ≤ i.toInt ∧ i.toInt < (zI h 61 k).toInt
    · rw [if_pos w]
      refine br_f (by first | assumption | (simp (discharger := omega) only [i_lt, i_le, i_eq, bI_tz, decide_eq_false_iff_not, Int32.reduceToInt, nI_toInt, tm1, tm2, tm3, tm4, tm9]; done) | (simp (discharger := omega) only [i_lt, i_le, i_eq, bI_tz, decide_eq_false_iff_not, Int32.reduceToInt, nI_toInt, tm1, tm2, tm3, tm4, tm9]; omega) | omega) ?_
      exact ⟨Or.inl rfl, rfl, rfl⟩
    · rw [if_neg w]
      refine br_t (by first | assumption | (simp (discharger := omega) only [i_lt, i_le, i_eq, bI_tz, decide_eq_false_iff_not, Int32.reduceToInt, nI_toInt, tm1, tm2, tm3, tm4, tm9]; done) | (simp (discharger := omega) only [i_lt, i_le, i_eq, bI_tz, decide_eq_false_iff_not, Int32.reduceToInt, nI_toInt, tm1, tm2, tm3, tm4, tm9]; omega) | omega) ?_
      exact ⟨Or.inl rfl, rfl, rfl⟩
end
