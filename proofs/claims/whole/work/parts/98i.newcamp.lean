/-! a new camp, by the class -/
def iC1 (A : Hp) (c : Nat) : Hp := upI A c 0 (zI A 3 5)
def iC2 (A : Hp) (c : Nat) : Hp := upI (iC1 A c) c 1 (zI (iC1 A c) 3 6)
def iC3 (A : Hp) (c : Nat) : Hp := upI (iC2 A c) c 2 (zI (iC2 A c) 3 7)
def iC4 (A : Hp) (c : Nat) : Hp := nwI (iC3 A c) (zN A 4) (zI (iC3 A c) 4)
def iC5 (A : Hp) (c : Nat) : Hp := upA (iC4 A c) c 3 (zc A + 1)
def iC6 (A : Hp) (c : Nat) : Hp := nwI (iC5 A c) (zN (iC5 A c) 5) (zI (iC5 A c) 5)
def iC7 (A : Hp) (c : Nat) : Hp := upA (iC6 A c) c 4 (zc A + 2)
section
variable {sc : Nat × (Nat → Int32)} {A : Hp} {c : Nat}
theorem c_copyOf {g : Hp} {a : Nat} (ha : zK g a = 12) : Cc sc 3 [.ref a, .int (Int32.ofNat (zN g a))] g (some (.ref (zc g + 1))) (nwI g (zN g a) (zI g a)) := by
  refine cc_of 20 rfl rfl ?_
  refine And.intro (Or.inl ha) ?_
  refine br_f (by exact fun z => z rfl) ?_
  refine And.intro (⟨rfl, ha⟩) ?_
  refine And.intro (show zK (nwI g (zN g a) (zI g a)) (zc g + 1) = 12 from va_up_self _ _ _) ?_
  exact ⟨trivial, rfl, rfl⟩
theorem zK_nwI {g : Hp} {n : Nat} {f : Nat → Int32} {x : Nat} (hx : x ≠ zc g + 1) : zK (nwI g n f) x = zK g x := va_up_ne _ _ hx
theorem zN_nwI {g : Hp} {n : Nat} {f : Nat → Int32} {x : Nat} (hx : x ≠ zc g + 1) : zN (nwI g n f) x = zN g x := va_up_ne _ _ hx
theorem zI_nwI {g : Hp} {n : Nat} {f : Nat → Int32} {x : Nat} (hx : x ≠ zc g + 1) : zI (nwI g n f) x = zI g x := va_up_ne _ _ hx
theorem zJ_nwI {g : Hp} {n : Nat} {f : Nat → Int32} {x : Nat} (hx : x ≠ zc g + 1) : zJ (nwI g n f) x = zJ g x := va_up_ne _ _ hx
theorem zA_nwI {g : Hp} {n : Nat} {f : Nat → Int32} {x : Nat} (hx : x ≠ zc g + 1) : zA (nwI g n f) x = zA g x := va_up_ne _ _ hx
theorem c_Camp_init (hc5 : 5 < c) (hz : c ≤ zc A) (kc : zK A c = 0) (k3 : zK A 3 = 6) (k4 : zK A 4 = 12) (k5 : zK A 5 = 12) (a8 : zA A 3 8 = 4) (a9 : zA A 3 9 = 5) : Cc sc 4 [.ref c, .ref 3] A none (iC7 A c) := by
  have e3 : kin 6 (zK A 3) = true := by rw [k3]; rfl
  have ec : kin 0 (zK A c) = true := by rw [kc]; rfl
  have ec4 : kin 0 (zK (iC4 A c) c) = true := by
    rw [show zK (iC4 A c) c = zK A c from zK_nwI (g := iC3 A c) (by show c ≠ zc A + 1; omega)]
    exact ec
  have e34 : kin 6 (zK (iC4 A c) 3) = true := by
    rw [show zK (iC4 A c) 3 = zK A 3 from zK_nwI (g := iC3 A c) (by show 3 ≠ zc A + 1; omega)]
    exact e3
  have a95 : zA (iC5 A c) 3 9 = 5 := by
    rw [show zA (iC5 A c) 3 = zA (iC4 A c) 3 from zAr_upA (by omega), show zA (iC4 A c) 3 = zA A 3 from zA_nwI (g := iC3 A c) (by show 3 ≠ zc A + 1; omega)]
    exact a9
  have k55 : zK (iC5 A c) 5 = 12 := by
    rw [show zK (iC5 A c) 5 = zK A 5 from zK_nwI (g := iC3 A c) (by show 5 ≠ zc A + 1; omega)]
    exact k5
  have ec6 : kin 0 (zK (iC6 A c) c) = true := by
    rw [show zK (iC6 A c) c = zK (iC5 A c) c from zK_nwI (g := iC5 A c) (by show c ≠ zc A + 1 + 1; omega)]
    exact ec4
  refine cc_of 80 rfl rfl ?_
  refine And.intro (⟨rfl, by omega⟩) ?_
  refine And.intro (e3) ?_
  refine And.intro (ec) ?_
  refine And.intro (e3) ?_
  refine And.intro (ec) ?_
  refine And.intro (e3) ?_
  refine And.intro (ec) ?_
  refine And.intro (e3) ?_
  rw [show zA (upI (upI (upI A c 0 (zI A 3 5)) c 1 (zI (upI A c 0 (zI A 3 5)) 3 6)) c 2 (zI (upI (upI A c 0 (zI A 3 5)) c 1 (zI (upI A c 0 (zI A 3 5)) 3 6)) 3 7)) 3 8 = 4 from a8]
  refine And.intro (e3) ?_
  rw [show zA (upI (upI (upI A c 0 (zI A 3 5)) c 1 (zI (upI A c 0 (zI A 3 5)) 3 6)) c 2 (zI (upI (upI A c 0 (zI A 3 5)) c 1 (zI (upI A c 0 (zI A 3 5)) 3 6)) 3 7)) 3 8 = 4 from a8]
  refine And.intro (Or.inl k4) ?_
  refine And.intro rfl (And.intro rfl (Exists.intro _ (Exists.intro _ (And.intro (c_copyOf (g := iC3 A c) (a := 4) k4) ?_))))
  refine And.intro (ec4) ?_
  refine And.intro (e34) ?_
  rw [show zA (upA (nwI (iC3 A c) (zN (iC3 A c) 4) (zI (iC3 A c) 4)) c 3 (zc (iC3 A c) + 1)) 3 9 = 5 from a95]
  refine And.intro (e34) ?_
  rw [show zA (upA (nwI (iC3 A c) (zN (iC3 A c) 4) (zI (iC3 A c) 4)) c 3 (zc (iC3 A c) + 1)) 3 9 = 5 from a95]
  refine And.intro (Or.inl k55) ?_
  refine And.intro rfl (And.intro rfl (Exists.intro _ (Exists.intro _ (And.intro (c_copyOf (g := iC5 A c) (a := 5) k55) ?_))))
  refine And.intro (ec6) ?_
  exact ⟨trivial, rfl, rfl⟩
/-- what is in the heap then -/
theorem iC7_z : (iC7 A c).1 = (zc A + 2, zs A + zN A 4 + zN (iC5 A c) 5) := rfl
theorem iC7_K {x : Nat} (h1 : x ≠ zc A + 1) (h2 : x ≠ zc A + 2) : zK (iC7 A c) x = zK A x ∧ zN (iC7 A c) x = zN A x :=
  ⟨(zK_nwI (g := iC5 A c) h2).trans (zK_nwI (g := iC3 A c) h1), (zN_nwI (g := iC5 A c) h2).trans (zN_nwI (g := iC3 A c) h1)⟩
theorem iC7_n1 : zK (iC7 A c) (zc A + 1) = 12 ∧ zN (iC7 A c) (zc A + 1) = zN A 4 :=
  ⟨(zK_nwI (g := iC5 A c) (by show zc A + 1 ≠ zc A + 1 + 1; omega)).trans (va_up_self _ _ _), (zN_nwI (g := iC5 A c) (by show zc A + 1 ≠ zc A + 1 + 1; omega)).trans (va_up_self _ _ _)⟩
theorem iC7_n2 : zK (iC7 A c) (zc A + 2) = 12 ∧ zN (iC7 A c) (zc A + 2) = zN (iC5 A c) 5 := ⟨va_up_self _ _ _, va_up_self _ _ _⟩
theorem iC7_I {x : Nat} (h0 : x ≠ c) (h1 : x ≠ zc A + 1) (h2 : x ≠ zc A + 2) : zI (iC7 A c) x = zI A x := by
  rw [show zI (iC7 A c) x = zI (iC5 A c) x from zI_nwI (g := iC5 A c) h2, show zI (iC5 A c) x = zI (iC3 A c) x from zI_nwI (g := iC3 A c) h1]
  unfold iC3 iC2 iC1
  rw [zIr_upI h0, zIr_upI h0, zIr_upI h0]
theorem iC7_J {x : Nat} (h1 : x ≠ zc A + 1) (h2 : x ≠ zc A + 2) : zJ (iC7 A c) x = zJ A x := (zJ_nwI (g := iC5 A c) h2).trans (zJ_nwI (g := iC3 A c) h1)
theorem iC7_A {x : Nat} (h0 : x ≠ c) (h1 : x ≠ zc A + 1) (h2 : x ≠ zc A + 2) : zA (iC7 A c) x = zA A x := by
  unfold iC7
  rw [zAr_upA h0, show zA (iC6 A c) x = zA (iC5 A c) x from zA_nwI (g := iC5 A c) h2]
  unfold iC5
  rw [zAr_upA h0]
  exact zA_nwI (g := iC3 A c) h1
theorem iC7_c (hc5 : 5 < c) (hz : c ≤ zc A) : zI (iC7 A c) c 0 = zI A 3 5 ∧ zI (iC7 A c) c 1 = zI A 3 6 ∧ zI (iC7 A c) c 2 = zI A 3 7 := by
  have e : zI (iC7 A c) c = zI (iC3 A c) c := by
    rw [show zI (iC7 A c) c = zI (iC5 A c) c from zI_nwI (g := iC5 A c) (by show c ≠ zc A + 1 + 1; omega)]
    exact zI_nwI (g := iC3 A c) (by show c ≠ zc A + 1; omega)
  rw [e]
  unfold iC3 iC2 iC1
  refine ⟨?_, ?_, ?_⟩
  · rw [zI_upI, if_pos rfl, if_neg (by decide), zI_upI, if_pos rfl, if_neg (by decide), zI_upI, if_pos rfl, if_pos rfl]
  · rw [zI_upI, if_pos rfl, if_neg (by decide), zI_upI, if_pos rfl, if_pos rfl, zIr_upI (by omega)]
  · rw [zI_upI, if_pos rfl, if_pos rfl, zIr_upI (by omega), zIr_upI (by omega)]
theorem iC7_a (hz : c ≤ zc A) : zA (iC7 A c) c 3 = zc A + 1 ∧ zA (iC7 A c) c 4 = zc A + 2 := by
  unfold iC7
  refine ⟨?_, ?_⟩
  · rw [zA_upA, if_pos rfl, if_neg (by decide), show zA (iC6 A c) c = zA (iC5 A c) c from zA_nwI (g := iC5 A c) (by show c ≠ zc A + 1 + 1; omega)]
    unfold iC5
    rw [zA_upA, if_pos rfl, if_pos rfl]
  · rw [zA_upA, if_pos rfl, if_pos rfl]
theorem iC7_i1 (hc5 : 5 < c) (hz : c ≤ zc A) : zI (iC7 A c) (zc A + 1) = zI A 4 := by
  rw [show zI (iC7 A c) (zc A + 1) = zI (iC5 A c) (zc A + 1) from zI_nwI (g := iC5 A c) (by show zc A + 1 ≠ zc A + 1 + 1; omega)]
  rw [show zI (iC5 A c) (zc A + 1) = zI (iC3 A c) 4 from va_up_self _ _ _]
  unfold iC3 iC2 iC1
  rw [zIr_upI (by omega), zIr_upI (by omega), zIr_upI (by omega)]
theorem iC7_i2 (hc5 : 5 < c) (hz : c ≤ zc A) : zI (iC7 A c) (zc A + 2) = zI A 5 := by
  rw [show zI (iC7 A c) (zc A + 2) = zI (iC5 A c) 5 from va_up_self _ _ _]
  rw [show zI (iC5 A c) 5 = zI (iC3 A c) 5 from zI_nwI (g := iC3 A c) (by show 5 ≠ zc A + 1; omega)]
  unfold iC3 iC2 iC1
  rw [zIr_upI (by omega), zIr_upI (by omega), zIr_upI (by omega)]
end
