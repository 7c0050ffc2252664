/-! a new camp, by the class -/
def iC1 (A : Hp) (c : Nat) : Hp := upI A c 0 (zI A 3 5)
def iC2 (A : Hp) (c : Nat) : Hp := upI (iC1 A c) c 1 (zI (iC1 A c) 3 6)
def iC3 (A : Hp) (c : Nat) : Hp := upI (iC2 A c) c 2 (zI (iC2 A c) 3 7)
def iC4 (A : Hp) (c : Nat) : Hp := nwI (iC3 A c) (zN A 4) (zI (iC3 A c) 4)
def iC5 (A : Hp) (c : Nat) : Hp := upA (iC4 A c) c 3 (zc A + 1)
def iC6 (A : Hp) (c : Nat) : Hp := nwI (iC5 A c) (zN (iC5 A c) 5) (zI (iC5 A c) 5)
def iC7 (A : Hp) (c : Nat) : Hp := upA (iC6 A c) c 4 (zc A + 2)
section
variable {sc : Nat × (Nat → Int32)} {A : Hp} {c : Nat}
theorem c_copyOf {g : Hp} {a : Nat} (ha : zK g a = 12) : Cc sc 3 [.ref a, .int (Int32.ofNat (zN g a))] g (some (.ref (zc g + 1))) (nwI g (zN g a) (zI g a)) := by
  refine cc_of 20 rfl rfl ?_
  refine And.intro (Or.inl ha) ?_
  refine br_f (by exact fun z => z rfl) ?_
  refine And.intro (⟨rfl, ha⟩) ?_
  refine And.intro (show zK (nwI g (zN g a) (zI g a)) (zc g + 1) = 12 from va_up_self _ _ _) ?_
  exact ⟨trivial, rfl, rfl⟩
theorem iC4_r {x : Nat} (h : x ≠ zc A + 1) : zK (iC4 A c) x = zK A x ∧ zN (iC4 A c) x = zN A x ∧ zI (iC4 A c) x = zI (iC3 A c) x ∧ zJ (iC4 A c) x = zJ A x ∧ zA (iC4 A c) x = zA A x := ⟨va_up_ne _ _ h, va_up_ne _ _ h, va_up_ne _ _ h, va_up_ne _ _ h, va_up_ne _ _ h⟩
theorem iC6_r {x : Nat} (h : x ≠ zc A + 2) : zK (iC6 A c) x = zK (iC4 A c) x ∧ zN (iC6 A c) x = zN (iC4 A c) x ∧ zI (iC6 A c) x = zI (iC4 A c) x ∧ zJ (iC6 A c) x = zJ (iC4 A c) x ∧ zA (iC6 A c) x = zA (iC5 A c) x := ⟨va_up_ne _ _ h, va_up_ne _ _ h, va_up_ne _ _ h, va_up_ne _ _ h, va_up_ne _ _ h⟩
theorem iC3_r {x : Nat} (h : x ≠ c) : zI (iC3 A c) x = zI A x := by
  unfold iC3 iC2 iC1
  rw [zIr_upI h, zIr_upI h, zIr_upI h]
theorem c_Camp_init (hc5 : 5 < c) (hz : c ≤ zc A) (kc : zK A c = 0) (k3 : zK A 3 = 6) (k4 : zK A 4 = 12) (k5 : zK A 5 = 12) (a8 : zA A 3 8 = 4) (a9 : zA A 3 9 = 5) : Cc sc 4 [.ref c, .ref 3] A none (iC7 A c) := by
  have c0 : ¬ c = 0 := by omega
  have e3 : kin 6 (zK A 3) = true := by rw [k3]; rfl
  have ec : kin 0 (zK A c) = true := by rw [kc]; rfl
  have ec4 : kin 0 (zK (iC4 A c) c) = true := by
    rw [(iC4_r (by omega)).1]
    exact ec
  have e34 : kin 6 (zK (iC4 A c) 3) = true := by
    rw [(iC4_r (by omega)).1]
    exact e3
  have a95 : zA (iC5 A c) 3 9 = 5 := by
    rw [show zA (iC5 A c) 3 = zA (iC4 A c) 3 from zAr_upA (by omega), (iC4_r (by omega)).2.2.2.2]
    exact a9
  have k55 : zK (iC5 A c) 5 = 12 := by
    show zK (iC4 A c) 5 = 12
    rw [(iC4_r (by omega)).1]
    exact k5
  have ec6 : kin 0 (zK (iC6 A c) c) = true := by
    rw [(iC6_r (by omega)).1]
    exact ec4
  refine cc_of 80 rfl rfl ?_
  refine And.intro (⟨rfl, c0⟩) ?_
  refine And.intro (e3) ?_
  refine And.intro (ec) ?_
  refine And.intro (e3) ?_
  refine And.intro (ec) ?_
  refine And.intro (e3) ?_
  refine And.intro (ec) ?_
  refine And.intro (e3) ?_
  rw [show zA (upI (upI (upI A c 0 (zI A 3 5)) c 1 (zI (upI A c 0 (zI A 3 5)) 3 6)) c 2 (zI (upI (upI A c 0 (zI A 3 5)) c 1 (zI (upI A c 0 (zI A 3 5)) 3 6)) 3 7)) 3 8 = 4 from a8]
  refine And.intro (e3) ?_
  rw [show zA (upI (upI (upI A c 0 (zI A 3 5)) c 1 (zI (upI A c 0 (zI A 3 5)) 3 6)) c 2 (zI (upI (upI A c 0 (zI A 3 5)) c 1 (zI (upI A c 0 (zI A 3 5)) 3 6)) 3 7)) 3 8 = 4 from a8]
  refine And.intro (Or.inl k4) ?_
  refine And.intro rfl (And.intro rfl (Exists.intro _ (Exists.intro _ (And.intro (c_copyOf (g := iC3 A c) (a := 4) k4) ?_))))
  refine And.intro (ec4) ?_
  refine And.intro (e34) ?_
  rw [show zA (upA (nwI (iC3 A c) (zN (iC3 A c) 4) (zI (iC3 A c) 4)) c 3 (zc (iC3 A c) + 1)) 3 9 = 5 from a95]
  refine And.intro (e34) ?_
  rw [show zA (upA (nwI (iC3 A c) (zN (iC3 A c) 4) (zI (iC3 A c) 4)) c 3 (zc (iC3 A c) + 1)) 3 9 = 5 from a95]
  refine And.intro (Or.inl k55) ?_
  refine And.intro rfl (And.intro rfl (Exists.intro _ (Exists.intro _ (And.intro (c_copyOf (g := iC5 A c) (a := 5) k55) ?_))))
  refine And.intro (ec6) ?_
  exact ⟨trivial, rfl, rfl⟩
/-- what is in the heap then -/
theorem iC7_z : (iC7 A c).1 = (zc A + 2, zs A + zN A 4 + zN (iC5 A c) 5) := rfl
theorem iC7_K {x : Nat} (h1 : x ≠ zc A + 1) (h2 : x ≠ zc A + 2) : zK (iC7 A c) x = zK A x ∧ zN (iC7 A c) x = zN A x :=
  ⟨(iC6_r h2).1.trans (iC4_r h1).1, (iC6_r h2).2.1.trans (iC4_r h1).2.1⟩
theorem iC7_n1 : zK (iC7 A c) (zc A + 1) = 12 ∧ zN (iC7 A c) (zc A + 1) = zN A 4 :=
  ⟨(iC6_r (by omega)).1.trans (va_up_self _ _ _), (iC6_r (by omega)).2.1.trans (va_up_self _ _ _)⟩
theorem iC7_n2 : zK (iC7 A c) (zc A + 2) = 12 ∧ zN (iC7 A c) (zc A + 2) = zN (iC5 A c) 5 := ⟨va_up_self _ _ _, va_up_self _ _ _⟩
theorem iC7_I {x : Nat} (h0 : x ≠ c) (h1 : x ≠ zc A + 1) (h2 : x ≠ zc A + 2) : zI (iC7 A c) x = zI A x := ((iC6_r h2).2.2.1.trans (iC4_r h1).2.2.1).trans (iC3_r h0)
theorem iC7_J {x : Nat} (h1 : x ≠ zc A + 1) (h2 : x ≠ zc A + 2) : zJ (iC7 A c) x = zJ A x := (iC6_r h2).2.2.2.1.trans (iC4_r h1).2.2.2.1
theorem iC7_A {x : Nat} (h0 : x ≠ c) (h1 : x ≠ zc A + 1) (h2 : x ≠ zc A + 2) : zA (iC7 A c) x = zA A x := by
  unfold iC7
  rw [zAr_upA h0, (iC6_r h2).2.2.2.2]
  unfold iC5
  rw [zAr_upA h0]
  exact (iC4_r h1).2.2.2.2
theorem iC7_c (hc5 : 5 < c) (hz : c ≤ zc A) : zI (iC7 A c) c 0 = zI A 3 5 ∧ zI (iC7 A c) c 1 = zI A 3 6 ∧ zI (iC7 A c) c 2 = zI A 3 7 := by
  have e : zI (iC7 A c) c = zI (iC3 A c) c := (iC6_r (by omega)).2.2.1.trans (iC4_r (by omega)).2.2.1
  rw [e]
  unfold iC3 iC2 iC1
  refine ⟨?_, ?_, ?_⟩
  · rw [zI_upI, if_pos rfl, if_neg (by decide), zI_upI, if_pos rfl, if_neg (by decide), zI_upI, if_pos rfl, if_pos rfl]
  · rw [zI_upI, if_pos rfl, if_neg (by decide), zI_upI, if_pos rfl, if_pos rfl, zIr_upI (by omega)]
  · rw [zI_upI, if_pos rfl, if_pos rfl, zIr_upI (by omega), zIr_upI (by omega)]
theorem iC7_a (hz : c ≤ zc A) : zA (iC7 A c) c 3 = zc A + 1 ∧ zA (iC7 A c) c 4 = zc A + 2 := by
  unfold iC7
  refine ⟨?_, ?_⟩
  · rw [zA_upA, if_pos rfl, if_neg (by decide), (iC6_r (by omega)).2.2.2.2]
    unfold iC5
    rw [zA_upA, if_pos rfl, if_pos rfl]
  · rw [zA_upA, if_pos rfl, if_pos rfl]
theorem iC7_i1 (hc5 : 5 < c) : zI (iC7 A c) (zc A + 1) = zI A 4 := by
  rw [show zI (iC7 A c) (zc A + 1) = zI (iC4 A c) (zc A + 1) from (iC6_r (by omega)).2.2.1]
  rw [show zI (iC4 A c) (zc A + 1) = zI (iC3 A c) 4 from va_up_self _ _ _]
  exact iC3_r (by omega)
theorem iC7_i2 (hc5 : 5 < c) (hz : c ≤ zc A) : zI (iC7 A c) (zc A + 2) = zI A 5 := by
  rw [show zI (iC7 A c) (zc A + 2) = zI (iC4 A c) 5 from va_up_self _ _ _]
  rw [(iC4_r (by omega)).2.2.1]
  exact iC3_r (by omega)
end
