section
variable {sc : Nat × (Nat → Int32)} {h : Hp}
/-- how many can run -/
def canR (h : Hp) (j : Nat) : Nat := mnF (cL h j) (fun s => cV h j s 0) (cS h j)
theorem CD.K {j c nb br : Nat} (D : CD h j c nb br) : zK h c = 0 ∧ zK h nb = 12 ∧ zN h nb = 15 ∧ zK h br = 12 ∧ zN h br = 5 := by
  obtain ⟨d1, d2, d3, d4, d5, d6, d7, d8, d9, d10, d11, d12, -⟩ := D
  exact ⟨d8, d9, d10, d11, d12⟩
theorem CD.A {j c nb br : Nat} (D : CD h j c nb br) : zA h 2 j = c ∧ zA h c 3 = nb ∧ zA h c 4 = br ∧ 65 ≤ c ∧ 65 ≤ nb ∧ 65 ≤ br ∧ nb ≠ br := by
  obtain ⟨d1, d2, d3, d4, d5, d6, d7, -⟩ := D
  exact ⟨d1, d2, d3, d4, d5, d6, d7⟩
theorem CD.B {j c nb br : Nat} (D : CD h j c nb br) : 1 ≤ cL h j ∧ cL h j ≤ 4 ∧ 1 ≤ cS h j ∧ cS h j ≤ 3 ∧ cP h j ≤ 9 := by
  obtain ⟨d1, d2, d3, d4, d5, d6, d7, d8, d9, d10, d11, d12, d13, d14, d15, d16, d17, -⟩ := D
  exact ⟨d13, d14, d15, d16, d17⟩
theorem CD.F {j c nb br : Nat} (D : CD h j c nb br) : zI h c 0 = nI (cL h j) ∧ zI h 40 j = nI (cL h j) ∧ zI h c 1 = nI (cS h j) ∧ zI h 41 j = nI (cS h j) ∧ zI h c 2 = nI (cP h j) ∧ zI h 42 j = nI (cP h j) := by
  obtain ⟨d1, d2, d3, d4, d5, d6, d7, d8, d9, d10, d11, d12, d13, d14, d15, d16, d17, d18, d19, d20, d21, d22, d23, -⟩ := D
  exact ⟨d18, d19, d20, d21, d22, d23⟩
theorem CD.V {j c nb br : Nat} (D : CD h j c nb br) {s w : Nat} (hs : s < cS h j) (hw : w < 5) : mnW w ≤ cV h j s w ∧ cV h j s w ≤ mxW w ∧ zI h nb (5 * s + w) = nI (cV h j s w) ∧ zI h 44 (15 * j + 5 * s + w) = nI (cV h j s w) := by
  obtain ⟨d1, d2, d3, d4, d5, d6, d7, d8, d9, d10, d11, d12, d13, d14, d15, d16, d17, d18, d19, d20, d21, d22, d23, d24, d25⟩ := D
  exact d24 s w hs hw
theorem CD.R {j c nb br : Nat} (D : CD h j c nb br) {k : Nat} (hk : k ≤ cL h j) : cB h j k ≤ 9 ∧ (k = 0 → cB h j k = 0) ∧ zI h br k = nI (cB h j k) ∧ zI h 43 (5 * j + k) = nI (cB h j k) := by
  obtain ⟨d1, d2, d3, d4, d5, d6, d7, d8, d9, d10, d11, d12, d13, d14, d15, d16, d17, d18, d19, d20, d21, d22, d23, d24, d25⟩ := D
  exact d25 k hk
theorem CD.num {j c nb br : Nat} (D : CD h j c nb br) {s w : Nat} (hs : s < cS h j) (hw : w < 5) : Cc sc 5 [.ref c, .int (nI s), .int (nI w)] h (some (.int (nI (cV h j s w)))) h := by
  have b := D.B
  exact c_number D.K.1 D.A.2.1 D.K.2.1 D.K.2.2.1 (by omega) hw (D.V hs hw).2.2.1
theorem CD.of {j c nb br : Nat} (D : CD h j c nb br) (hS : Shp h) (hj : j < 3) {s w : Nat} (hs : s < cS h j) (hw : w < 5) : Cc sc 149 [.ref 39, .int (nI j), .int (nI s), .int (nI w)] h (some (.int (nI (cV h j s w)))) h := by
  have b := D.B
  exact c_of hS hj (by omega) hw (D.V hs hw).2.2.2
theorem CD.g6 {j c nb br : Nat} (D : CD h j c nb br) {s : Nat} (hs : s < cS h j) : cV h j s 0 < 6 := by
  have := (D.V hs (by decide : 0 < 5)).2.1
  rw [show mxW 0 = 5 from rfl] at this
  omega
theorem canRun_loop {j c nb br : Nat} (D : CD h j c nb br) : ∀ (d s : Nat), s + d = cS h j → Rn sc (mtk 7) 7 [some (.ref c), some (.int (nI (mnF (cL h j) (fun s => cV h j s 0) s))), some (.int (nI s))] [] h (some (.int (nI (canR h j)))) h := by
  intro d
  have b := D.B
  have k0 : kin 0 (zK h c) = true := by rw [D.K.1]; rfl
  induction d with
  | zero =>
    intro s hs
    refine bk_sound (cuts := []) 20 _ _ _ _ ?_
    refine And.intro (k0) ?_
    refine br_t (show zI h c 1 ≤ nI s by rw [D.F.2.2.1]; exact nI_le (by omega) (by omega)) ?_
    rw [show s = cS h j by omega]
    exact ⟨Or.inl rfl, rfl, rfl⟩
  | succ d ih =>
    intro s hs
    refine bk_sound (cuts := [7]) 30 _ _ _ _ ?_
    refine And.intro (k0) ?_
    refine br_f (show ¬ zI h c 1 ≤ nI s by rw [D.F.2.2.1]; exact nI_ge (by omega) (by omega)) ?_
    refine And.intro ⟨rfl, D.K.1⟩ (And.intro rfl (Exists.intro _ (Exists.intro _ (And.intro (D.num (by omega : s < cS h j) (by decide : 0 < 5)) ?_))))
    refine And.intro rfl ?_
    have e1 := mnF_le (cL h j) (fun s => cV h j s 0) s
    have e2 := D.g6 (by omega : s < cS h j)
    rw [min_nI (a := mnF (cL h j) (fun s => cV h j s 0) s) (b := cV h j s 0) (by omega) (by omega)]
    have := ih (s + 1) (by omega)
    rw [← nI_1] at this
    exact this
theorem c_canRun {j c nb br : Nat} (D : CD h j c nb br) : Cc sc 7 [.ref c] h (some (.int (nI (canR h j)))) h := by
  have k0 : kin 0 (zK h c) = true := by rw [D.K.1]; rfl
  refine cc_cut [7] 20 rfl rfl ?_
  refine And.intro (k0) ?_
  rw [D.F.1]
  exact canRun_loop D (cS h j) 0 (by omega)
def stO (h : Hp) (j : Nat) : Nat := stF (fun s => cV h j s 0) 0 (cS h j)
theorem six_le {S : Nat} (h : S ≤ 3) : 6 ^ S ≤ 216 := Nat.pow_le_pow_right (n := 6) (by decide) h
theorem stO_lt {j c nb br : Nat} (D : CD h j c nb br) : stO h j < 6 ^ cS h j := stF_lt _ 0 (fun t ht => by rw [Nat.zero_add]; exact D.g6 ht)
theorem stO_dg {j c nb br : Nat} (D : CD h j c nb br) {s : Nat} (hs : s < cS h j) : stO h j / 6 ^ s % 6 = cV h j s 0 := by
  have := stF_dg (f := fun s => cV h j s 0) (cS h j) 0 (fun t ht => by rw [Nat.zero_add]; exact D.g6 ht) s hs
  rw [Nat.zero_add] at this
  exact this
theorem i_dec (a : Int32) : a - 1 = a + Int32.ofInt (-1) := by rw [Int32.sub_eq_add_neg]; rfl
theorem stateOf_loop {j c nb br : Nat} (D : CD h j c nb br) (hs : Shp h) (hj : j < 3) : ∀ (s d : Nat), s + d = cS h j → Rn sc (mtk 160) 11 [some (.ref 39), some (.int (nI j)), some (.int (nI (stF (fun s => cV h j s 0) s d))), some (.int (nI s - 1))] [] (nh h) (some (.int (nI (stO h j)))) (nh h) := by
  intro s
  have b := D.B
  induction s with
  | zero =>
    intro d hd
    refine bk_sound (cuts := []) 20 _ _ _ _ ?_
    refine br_t (by decide) ?_
    rw [show d = cS h j by omega]
    exact ⟨Or.inl rfl, rfl, rfl⟩
  | succ s ih =>
    intro d hd
    have := ih (d + 1) (by omega)
    rw [nI_pred]
    refine bk_sound (cuts := [11]) 30 _ _ _ _ ?_
    refine br_f (nI_pos (by omega)) ?_
    have ho := D.of (sc := sc) hs hj (by omega : s < cS h j) (by decide : 0 < 5)
    rw [← nh_eq hs] at ho
    refine And.intro ⟨rfl, rfl⟩ (And.intro rfl (Exists.intro _ (Exists.intro _ (And.intro (ho) ?_))))
    rw [nh_eq hs]
    rw [show stF (fun s => cV h j s 0) s (d + 1) = 6 * stF (fun s => cV h j s 0) (s + 1) d + cV h j s 0 from Nat.add_comm _ _, ← nI_add, ← pk_mul, i_dec] at this
    rw [nh_eq hs] at this
    exact this
theorem c_stateOf {j c nb br : Nat} (D : CD h j c nb br) (hs : Shp h) (hj : j < 3) : Cc sc 160 [.ref 39, .int (nI j)] h (some (.int (nI (stO h j)))) h := by
  have b := D.B
  refine cc_nh (F := fun h => h) hs (cc_cut [11] 20 rfl rfl ?_)
  refine And.intro rfl ?_
  refine And.intro (⟨rfl, inB_nI (n := 3) hj (by decide)⟩) ?_
  rw [nI_clamp (by omega), show zI (nh h) (zA (nh h) 39 3) j = nI (cS h j) from D.F.2.2.2.1]
  exact stateOf_loop D hs hj (cS h j) 0 (by omega)
theorem canRunM_loop {j c nb br g l : Nat} (D : CD h j c nb br) (hs : Shp h) (hj : j < 3) (hg : g < 216) (hl : l ≤ 4) (a3 : Value) : ∀ (d s : Nat), s + d = cS h j → Rn sc (mtk 159) 9 [some (.ref 39), some (.int (nI j)), some (.int (nI g)), some (.int (nI l)), some (.int (nI (mnF l (fun s => g / 6 ^ s % 6) s))), some (.int (nI (g / 6 ^ s))), some (.int (nI s))] [] (nh h) (some (.int (nI (mnF l (fun s => g / 6 ^ s % 6) (cS h j))))) (nh h) := by
  intro d
  have b := D.B
  have ij : inB (nI j) 3 = true := inB_nI hj (by decide)
  have ej : (nI j).toNatClampNeg = j := nI_clamp (by omega)
  have e41 : zI (nh h) 41 j = nI (cS h j) := D.F.2.2.2.1
  induction d with
  | zero =>
    intro s hs'
    refine bk_sound (cuts := []) 20 _ _ _ _ ?_
    refine And.intro rfl ?_
    refine And.intro (⟨rfl, ij⟩) ?_
    rw [ej]
    refine br_t (show zI (nh h) 41 j ≤ nI s by rw [e41]; exact nI_le (by omega) (by omega)) ?_
    rw [show s = cS h j by omega]
    exact ⟨Or.inl rfl, rfl, rfl⟩
  | succ d ih =>
    intro s hs'
    have le : g / 6 ^ s ≤ g := Nat.div_le_self _ _
    have m6 : g / 6 ^ s % 6 < 6 := Nat.mod_lt _ (by decide)
    have e1 := mnF_le l (fun s => g / 6 ^ s % 6) s
    refine bk_sound (cuts := [9]) 30 _ _ _ _ ?_
    refine And.intro rfl ?_
    refine And.intro (⟨rfl, ij⟩) ?_
    rw [ej]
    refine br_f (show ¬ zI (nh h) 41 j ≤ nI s by rw [e41]; exact nI_ge (by omega) (by omega)) ?_
    refine And.intro (by decide) ?_
    rw [show nI (g / 6 ^ s) - nI (g / 6 ^ s) / 6 * 6 = nI (g / 6 ^ s % 6) from pk_rem (d := 6) (by omega) (by decide) (by decide)]
    refine And.intro rfl (And.intro rfl (Exists.intro _ (Exists.intro _ (And.intro (c_lesser (by omega) (by omega)) ?_))))
    refine And.intro (by decide) ?_
    have := ih (s + 1) (by omega)
    rw [← nI_1, Nat.pow_succ, ← Nat.div_div_eq_div_mul, ← pk_div (d := 6) (by omega) (by decide) (by decide)] at this
    exact this
theorem c_canRunM {j c nb br g l : Nat} (D : CD h j c nb br) (hs : Shp h) (hj : j < 3) (hg : g < 216) (hl : l ≤ 4) : Cc sc 159 [.ref 39, .int (nI j), .int (nI g), .int (nI l)] h (some (.int (nI (mnF l (fun s => g / 6 ^ s % 6) (cS h j))))) h := by
  refine cc_nh (F := fun h => h) hs (cc_cut [9] 20 rfl rfl ?_)
  have := canRunM_loop (sc := sc) D hs hj hg hl (.int 0) (cS h j) 0 (by omega)
  rw [Nat.pow_zero, Nat.div_one] at this
  exact this
theorem canR_st {j c nb br : Nat} (D : CD h j c nb br) : mnF (cL h j) (fun s => stO h j / 6 ^ s % 6) (cS h j) = canR h j := mnF_congr _ (fun t ht => stO_dg D ht)
end
