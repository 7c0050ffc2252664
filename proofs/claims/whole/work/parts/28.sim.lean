/-! What the class's cells and the model's say alike (tables that are kept apart). -/
def plI (x : Option Nat) : Int32 := match x with
  | none => -9
  | some x => nI x
def pkd (kd : Nat) : Nat := if kd = 0 then 4 else if kd = 1 then 2 else 1
def mnW (w : Nat) : Nat := if w = 3 then 1 else 0
def mxW (w : Nat) : Nat := if w = 0 then 5 else if w = 3 then 9 else if w = 4 then 2 else 12
/-- faults, trace, spoils, odds -/
def SimA (h : Hp) : Prop := zI h 1 7 = zI h 39 0 ∧ zI h 30 0 = zI h 39 37 ∧ zI h 15 3 = zI h 39 26 ∧ ∀ j, j < 3 → zI h 18 j = zI h 58 j
/-- a sheet -/
def RowOK (h : Hp) (k : Nat) : Prop := (zI h 61 k = -1 ∧ zI h (31 + 2 * k) 0 = -9) ∨ ∃ n ln : Nat, n ≤ 60 ∧ ln ≤ 2 ∧ zI h 61 k = nI n ∧ zI h (31 + 2 * k) 1 = nI n ∧ zI h 62 k = nI ln ∧ zI h (31 + 2 * k) 0 = nI ln ∧ ∀ j, j < n → zI h (32 + 2 * k) j = zI h 63 (60 * k + j)
def SimR (h : Hp) : Prop := ∀ k, k < 4 → RowOK h k
def CampOK (h : Hp) (j : Nat) : Prop := ∃ c nb br L S P : Nat, zA h 2 j = c ∧ zA h c 3 = nb ∧ zA h c 4 = br ∧ 65 ≤ c ∧ 65 ≤ nb ∧ 65 ≤ br ∧ nb ≠ br ∧ zK h c = 0 ∧ zK h nb = 12 ∧ zN h nb = 15 ∧ zK h br = 12 ∧ zN h br = 5 ∧ 1 ≤ L ∧ L ≤ 4 ∧ 1 ≤ S ∧ S ≤ 3 ∧ P ≤ 9 ∧ zI h c 0 = nI L ∧ zI h 40 j = nI L ∧ zI h c 1 = nI S ∧ zI h 41 j = nI S ∧ zI h c 2 = nI P ∧ zI h 42 j = nI P ∧ (∀ s w, s < S → w < 5 → ∃ v, mnW w ≤ v ∧ v ≤ mxW w ∧ zI h nb (5 * s + w) = nI v ∧ zI h 44 (15 * j + 5 * s + w) = nI v) ∧ (∀ k, k ≤ L → ∃ v, v ≤ 9 ∧ (k = 0 → v = 0) ∧ zI h br k = nI v ∧ zI h 43 (5 * j + k) = nI v)
def SimC (h : Hp) : Prop := ∃ nc : Nat, nc ≤ 3 ∧ zI h 1 1 = nI nc ∧ zI h 39 1 = nI nc ∧ (∀ j, j < nc → CampOK h j) ∧ ∀ i j, i < nc → j < nc → i ≠ j → zA h 2 i ≠ zA h 2 j ∧ zA h (zA h 2 i) 3 ≠ zA h (zA h 2 j) 3 ∧ zA h (zA h 2 i) 3 ≠ zA h (zA h 2 j) 4
def PartOK (h : Hp) (p : Nat) : Prop := ∃ (a kd st hr : Nat) (gd hd : Bool) (pl : Option Nat), zA h 16 p = a ∧ 65 ≤ a ∧ kd ≤ 2 ∧ zK h a = pkd kd ∧ zI h a 0 = nI p ∧ st ≤ 2 ∧ zI h a 1 = nI st ∧ 1 ≤ hr ∧ hr ≤ 9 ∧ zI h a 2 = nI hr ∧ zI h a 3 = bI gd ∧ zI h a 4 = bI hd ∧ zI h a 5 = plI pl ∧ zI h 51 p = nI kd ∧ zI h 52 p = nI st ∧ zI h 53 p = nI hr ∧ zI h 54 p = bI gd ∧ zI h 55 p = bI hd ∧ zI h 56 p = plI pl ∧ (∀ x, pl = some x → x < 12 ∧ zI h 17 x = nI p ∧ hd = false)
def SimP (h : Hp) : Prop := ∃ np : Nat, np ≤ 12 ∧ zI h 15 1 = nI np ∧ zI h 39 18 = nI np ∧ (∀ p, p < np → PartOK h p) ∧ (∀ p, np ≤ p → p < 12 → zI h 55 p = 0) ∧ (∀ x, x < 12 → (zI h 17 x = -9 ∧ zI h 57 x = -9) ∨ ∃ p, p < np ∧ zI h 17 x = nI p ∧ zI h 57 x = nI p ∧ zI h 56 p = nI x) ∧ ∀ p q, p < np → q < np → p ≠ q → zA h 16 p ≠ zA h 16 q
/-- nothing behind the last cell -/
def SimZ (h : Hp) : Prop := 64 ≤ zc h ∧ zc h ≤ 64 + (zI h 15 1).toNatClampNeg + 3 * (zI h 1 1).toNatClampNeg ∧ zs h ≤ 60000 + 6 * (zI h 15 1).toNatClampNeg + 25 * (zI h 1 1).toNatClampNeg ∧ (∀ a, zc h < a → zK h a = 99) ∧ zI h 5 0 = 0 ∧ ∀ j, j < 3 → zI h 43 (5 * j) = 0
theorem SimA_congr {h g : Hp} (e1 : zI g 1 7 = zI h 1 7) (e2 : zI g 39 0 = zI h 39 0) (e3 : zI g 30 0 = zI h 30 0) (e4 : zI g 39 37 = zI h 39 37) (e5 : zI g 15 3 = zI h 15 3) (e6 : zI g 39 26 = zI h 39 26) (e7 : zI g 18 = zI h 18) (e8 : zI g 58 = zI h 58) (hA : SimA h) : SimA g := by
  unfold SimA
  rw [e1, e2, e3, e4, e5, e6, e7, e8]
  exact hA
theorem RowOK_congr {h g : Hp} {k : Nat} (e1 : zI g 61 k = zI h 61 k) (e2 : zI g 62 k = zI h 62 k) (e3 : ∀ j, j < 60 → zI g 63 (60 * k + j) = zI h 63 (60 * k + j)) (e4 : zI g (31 + 2 * k) = zI h (31 + 2 * k)) (e5 : zI g (32 + 2 * k) = zI h (32 + 2 * k)) (hR : RowOK h k) : RowOK g k := by
  unfold RowOK
  rw [e1, e2, e4, e5]
  rcases hR with q | ⟨n, ln, h1, h2, h3, h4, h5, h6, h7⟩
  · exact Or.inl q
  · exact Or.inr ⟨n, ln, h1, h2, h3, h4, h5, h6, fun j hj => by rw [e3 j (by omega)]; exact h7 j hj⟩
theorem CampOK_congr {h g : Hp} {j : Nat} (e1 : ∀ a, 40 ≤ a → a ≤ 44 → zI g a = zI h a) (e2 : ∀ a, 65 ≤ a → zI g a = zI h a) (e3 : zA g 2 = zA h 2) (e4 : ∀ a, 65 ≤ a → zA g a = zA h a) (e5 : ∀ a, 65 ≤ a → zK g a = zK h a) (e6 : ∀ a, 65 ≤ a → zN g a = zN h a) (hC : CampOK h j) : CampOK g j := by
  obtain ⟨c, nb, br, L, S, P, q1, q2, q3, q4, q5, q6, q7, q8, q9, q10, q11, q12, q13, q14, q15, q16, q17, q18, q19, q20, q21, q22, q23, q24, q25⟩ := hC
  refine ⟨c, nb, br, L, S, P, by rw [e3]; exact q1, by rw [e4 c q4]; exact q2, by rw [e4 c q4]; exact q3, q4, q5, q6, q7, by rw [e5 c q4]; exact q8, by rw [e5 nb q5]; exact q9, by rw [e6 nb q5]; exact q10, by rw [e5 br q6]; exact q11, by rw [e6 br q6]; exact q12, q13, q14, q15, q16, q17, ?_⟩
  rw [e2 c q4, e2 nb q5, e2 br q6, e1 40 (by omega) (by omega), e1 41 (by omega) (by omega), e1 42 (by omega) (by omega), e1 43 (by omega) (by omega), e1 44 (by omega) (by omega)]
  exact ⟨q18, q19, q20, q21, q22, q23, q24, q25⟩
theorem SimC_congr {h g : Hp} (a1 : zI g 1 1 = zI h 1 1) (a2 : zI g 39 1 = zI h 39 1) (e1 : ∀ a, 40 ≤ a → a ≤ 44 → zI g a = zI h a) (e2 : ∀ a, 65 ≤ a → zI g a = zI h a) (e3 : zA g 2 = zA h 2) (e4 : ∀ a, 65 ≤ a → zA g a = zA h a) (e5 : ∀ a, 65 ≤ a → zK g a = zK h a) (e6 : ∀ a, 65 ≤ a → zN g a = zN h a) (hC : SimC h) : SimC g := by
  obtain ⟨nc, c1, c2, c3, c4, c5⟩ := hC
  refine ⟨nc, c1, by rw [a1]; exact c2, by rw [a2]; exact c3, fun j hj => CampOK_congr e1 e2 e3 e4 e5 e6 (c4 j hj), fun i j hi hj hij => ?_⟩
  obtain ⟨c, nb, br, L, S, P, q1, q2, q3, q4, -⟩ := c4 i hi
  obtain ⟨c', nb', br', L', S', P', w1, w2, w3, w4, -⟩ := c4 j hj
  have := c5 i j hi hj hij
  rw [e3, e4 (zA h 2 i) (by omega), e4 (zA h 2 j) (by omega)]
  exact this
theorem PartOK_congr {h g : Hp} {p : Nat} (e1 : ∀ a, 51 ≤ a → a ≤ 56 → zI g a = zI h a) (e2 : ∀ a, 65 ≤ a → zI g a = zI h a) (e3 : zA g 16 = zA h 16) (e5 : ∀ a, 65 ≤ a → zK g a = zK h a) (e6 : zI g 17 = zI h 17) (hC : PartOK h p) : PartOK g p := by
  obtain ⟨a, kd, st, hr, gd, hd, pl, q1, q2, q3, q4, q5⟩ := hC
  refine ⟨a, kd, st, hr, gd, hd, pl, by rw [e3]; exact q1, q2, q3, by rw [e5 a q2]; exact q4, ?_⟩
  rw [e2 a q2, e1 51 (by omega) (by omega), e1 52 (by omega) (by omega), e1 53 (by omega) (by omega), e1 54 (by omega) (by omega), e1 55 (by omega) (by omega), e1 56 (by omega) (by omega), e6]
  exact q5
theorem SimP_congr {h g : Hp} (a1 : zI g 15 1 = zI h 15 1) (a2 : zI g 39 18 = zI h 39 18) (e1 : ∀ a, 51 ≤ a → a ≤ 57 → zI g a = zI h a) (e2 : ∀ a, 65 ≤ a → zI g a = zI h a) (e3 : zA g 16 = zA h 16) (e5 : ∀ a, 65 ≤ a → zK g a = zK h a) (e6 : zI g 17 = zI h 17) (hP : SimP h) : SimP g := by
  obtain ⟨np, c1, c2, c3, c4, c5, c6, c7⟩ := hP
  refine ⟨np, c1, by rw [a1]; exact c2, by rw [a2]; exact c3, fun p hp => PartOK_congr (fun a q1 q2 => e1 a q1 (by omega)) e2 e3 e5 e6 (c4 p hp), ?_, ?_, by rw [e3]; exact c7⟩
  · rw [e1 55 (by omega) (by omega)]
    exact c5
  · rw [e6, e1 57 (by omega) (by omega), e1 56 (by omega) (by omega)]
    exact c6
def nwL (h : Hp) (ks : List Nat) : Hp := ks.foldl (fun h k => nwC h k 0) h
theorem nwL_99 : ∀ (ks : List Nat) (h : Hp), (∀ a, zc h < a → zK h a = 99) → ∀ a, zc h + ks.length < a → zK (nwL h ks) a = 99 := by
  intro ks
  induction ks with
  | nil => exact fun h q a ha => q a (by simpa using ha)
  | cons k ks ih =>
    intro h q a ha
    refine ih (nwC h k 0) (fun b hb => ?_) a ?_
    · have e : zc (nwC h k 0) = zc h + 1 := rfl
      rw [show zK (nwC h k 0) b = zK h b from va_up_ne _ _ (by omega)]
      exact q b (by omega)
    · have e : zc (nwC h k 0) = zc h + 1 := rfl
      simp only [List.length_cons] at ha
      omega
/-- all but the two tables -/
def Sim0 (h : Hp) : Prop := Shp h ∧ SimA h ∧ SimR h ∧ SimC h ∧ SimP h ∧ SimZ h
set_option maxRecDepth 100000 in
theorem sim0_hI : Sim0 hI := by
  refine ⟨shp_hI, ?_, ?_, ?_, ?_, ?_⟩
  · refine ⟨by decide +kernel, by decide +kernel, by decide +kernel, ?_⟩
    have : ∀ j : Fin 3, zI hI 18 j.val = zI hI 58 j.val := by decide +kernel
    exact fun j hj => this ⟨j, hj⟩
  · have : ∀ k : Fin 4, zI hI 61 k.val = -1 ∧ zI hI (31 + 2 * k.val) 0 = -9 := by decide +kernel
    exact fun k hk => Or.inl (this ⟨k, hk⟩)
  · exact ⟨0, by omega, by decide +kernel, by decide +kernel, fun j hj => absurd hj (by omega), fun i j hi => absurd hi (by omega)⟩
  · refine ⟨0, by omega, by decide +kernel, by decide +kernel, fun p hp => absurd hp (by omega), ?_, ?_, fun p q hp => absurd hp (by omega)⟩
    · have : ∀ p : Fin 12, zI hI 55 p.val = 0 := by decide +kernel
      exact fun p _ hp => this ⟨p, hp⟩
    · have : ∀ p : Fin 12, zI hI 17 p.val = -9 ∧ zI hI 57 p.val = -9 := by decide +kernel
      exact fun x hx => Or.inl (this ⟨x, hx⟩)
  · have h43 : ∀ j : Fin 3, zI hI 43 (5 * j.val) = 0 := by decide +kernel
    refine ⟨by decide +kernel, by decide +kernel, by decide +kernel, fun a ha => ?_, by decide +kernel, fun j hj => h43 ⟨j, hj⟩⟩
    have h64 : zc hI = 64 := size_hI.1
    have h1 := nwL_99 (K0s.drop 1) hp0 (fun a _ => rfl) a (by rw [h64] at ha; exact ha)
    exact h1
