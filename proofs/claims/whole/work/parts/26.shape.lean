/-! The shape of what the law makes first: cells 1 .. 64. Of these the class has 1 .. 38, the model 39 .. 64. -/
def K0s : List Nat := [99, 10, 15, 6, 12, 12, 3, 12, 12, 12, 13, 12, 13, 13, 13, 9, 16, 12, 12, 8, 12, 12, 13, 13, 13, 13, 12, 12, 14, 17, 7, 5, 12, 5, 12, 5, 12, 5, 12, 11, 12, 12, 12, 12, 12, 12, 12, 13, 13, 13, 13, 12, 12, 12, 14, 14, 12, 12, 12, 12, 12, 12, 12, 12, 12]
def N0s : List Nat := [0, 8, 3, 10, 15, 5, 14, 3, 3, 216, 216, 216, 216, 216, 5, 7, 12, 12, 3, 16, 12, 12, 144, 13, 13, 13, 13, 13, 13, 4, 1, 3, 60, 3, 60, 3, 60, 3, 60, 38, 3, 3, 3, 15, 45, 5, 15, 216, 216, 216, 216, 12, 12, 12, 12, 12, 12, 12, 3, 53248, 12, 4, 4, 240, 60]
def FAs : List (Nat × Nat × Nat) := [(1, 0, 2), (1, 2, 3), (1, 3, 6), (1, 4, 15), (1, 5, 29), (1, 6, 30), (3, 8, 4), (3, 9, 5), (6, 6, 7), (6, 7, 8), (6, 8, 9), (6, 9, 10), (6, 10, 11), (6, 11, 12), (6, 12, 13), (6, 13, 14), (15, 0, 16), (15, 2, 17), (15, 4, 18), (15, 5, 19), (19, 4, 20), (19, 8, 21), (19, 9, 22), (19, 10, 23), (19, 11, 24), (19, 12, 25), (19, 13, 26), (19, 14, 27), (19, 15, 28), (29, 0, 31), (29, 1, 33), (29, 2, 35), (29, 3, 37), (31, 2, 32), (33, 2, 34), (35, 2, 36), (37, 2, 38), (39, 2, 40), (39, 3, 41), (39, 4, 42), (39, 5, 43), (39, 6, 44), (39, 12, 45), (39, 13, 46), (39, 14, 47), (39, 15, 48), (39, 16, 49), (39, 17, 50), (39, 19, 51), (39, 20, 52), (39, 21, 53), (39, 22, 54), (39, 23, 55), (39, 24, 56), (39, 25, 57), (39, 27, 58), (39, 28, 59), (39, 30, 60), (39, 33, 61), (39, 34, 62), (39, 35, 63), (39, 36, 64)]
def K0 (a : Nat) : Nat := K0s.getD a 99
def N0 (a : Nat) : Nat := N0s.getD a 0
def fa (a j : Nat) : Option (Nat × Nat × Nat) := FAs.find? (fun q => q.1 == a && q.2.1 == j)
def Shp (h : Hp) : Prop := (∀ a, a < 65 → zK h a = K0 a ∧ zN h a = N0 a) ∧ ∀ q ∈ FAs, zA h q.1 q.2.1 = q.2.2
/-- the same heap, its first cells' kinds, lengths and rows by computation -/
def nh (h : Hp) : Hp := (h.1, fun a => if a < 65 then K0 a else zK h a, fun a => if a < 65 then N0 a else zN h a, zI h, zJ h, fun a j => if a < 65 then (match fa a j with
  | some q => q.2.2
  | none => zA h a j) else zA h a j)
theorem nh_eq {h : Hp} (hs : Shp h) : nh h = h := by
  have e1 : (fun a => if a < 65 then K0 a else zK h a) = zK h := by
    funext a
    split
    · rename_i q
      exact ((hs.1 a q).1).symm
    · rfl
  have e2 : (fun a => if a < 65 then N0 a else zN h a) = zN h := by
    funext a
    split
    · rename_i q
      exact ((hs.1 a q).2).symm
    · rfl
  have e3 : (fun a j => if a < 65 then (match fa a j with
  | some q => q.2.2
  | none => zA h a j) else zA h a j) = zA h := by
    funext a j
    split
    · split
      · rename_i q hq
        have h1 := List.find?_some hq
        have h2 := hs.2 q (List.mem_of_find?_eq_some hq)
        simp only [Bool.and_eq_true, beq_iff_eq] at h1
        rw [← h1.1, ← h1.2, h2]
      · rfl
    · rfl
  unfold nh
  rw [e1, e2, e3]
theorem nh_K {h : Hp} {a : Nat} (ha : 65 ≤ a) : zK (nh h) a = zK h a := if_neg (by omega)
theorem nh_N {h : Hp} {a : Nat} (ha : 65 ≤ a) : zN (nh h) a = zN h a := if_neg (by omega)
theorem nh_A {h : Hp} {a j : Nat} (ha : 65 ≤ a) : zA (nh h) a j = zA h a j := if_neg (by omega)
/-- by the same heap in its plain form -/
theorem cc_nh {sc : Nat × (Nat → Int32)} {k : Nat} {as : List Value} {h : Hp} {r : Option Value} {F : Hp → Hp} (hs : Shp h) (H : Cc sc k as (nh h) r (F (nh h))) : Cc sc k as h r (F h) := by
  rw [nh_eq hs] at H
  exact H
set_option maxRecDepth 100000 in
theorem shp_hI : Shp hI := by
  constructor
  · intro a ha
    have : ∀ a : Fin 65, zK hI a.val = K0 a.val ∧ zN hI a.val = N0 a.val := by decide +kernel
    exact this ⟨a, ha⟩
  · decide +kernel
theorem size_hI : zc hI = 64 ∧ zs hI ≤ 60000 := by decide +kernel
