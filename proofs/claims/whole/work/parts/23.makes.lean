/-! The constructors, and fill. -/
theorem zK_nw {h : Hp} {kd n a : Nat} (ha : a ≤ zc h) : zK (nwC h kd n) a = zK h a := va_up_ne _ _ (by omega)
theorem kn {h : Hp} {kd n a b : Nat} (ha : a ≤ zc h) (k : kin b (zK h a) = true) : kin b (zK (nwC h kd n) a) = true := by rw [zK_nw ha]; exact k
theorem zc_nwC (h : Hp) (kd n : Nat) : zc (nwC h kd n) = zc h + 1 := rfl
theorem zc_upA (h : Hp) (a j v : Nat) : zc (upA h a j v) = zc h := rfl
theorem zc_upI (h : Hp) (a j : Nat) (v : Int32) : zc (upI h a j v) = zc h := rfl
theorem zK_upA (h : Hp) (a j v : Nat) : zK (upA h a j v) = zK h := rfl
theorem zK_upI (h : Hp) (a j : Nat) (v : Int32) : zK (upI h a j v) = zK h := rfl
theorem cc_of {sc : Nat × (Nat → Int32)} {k : Nat} {as : List Value} {h : Hp} {r : Option Value} {h' : Hp} (n : Nat) (h1 : decide (k < 221) = true) (h2 : decide (cats as ≤ mL (mro k)) = true) (hb : bk sc [] r h' (fun pc ls st h => Rn sc (mtk k) pc ls st h r h') (mtk k) n 0 (enL (mL (mro k)) as) [] h) : Cc sc k as h r h' := ⟨of_decide_eq_true h1, of_decide_eq_true h2, bk_sound n _ _ _ _ hb⟩
theorem cc_cut {sc : Nat × (Nat → Int32)} {k : Nat} {as : List Value} {h : Hp} {r : Option Value} {h' : Hp} (cuts : List Nat) (n : Nat) (h1 : decide (k < 221) = true) (h2 : decide (cats as ≤ mL (mro k)) = true) (hb : bk sc cuts r h' (fun pc ls st h => Rn sc (mtk k) pc ls st h r h') (mtk k) n 0 (enL (mL (mro k)) as) [] h) : Cc sc k as h r h' := ⟨of_decide_eq_true h1, of_decide_eq_true h2, bk_sound n _ _ _ _ hb⟩
def iRow (h : Hp) (a : Nat) : Hp := upA (nwC (upI (upI h a 0 (-9)) a 1 0) 12 60) a 2 (zc h + 1)
theorem c_Row_init {sc : Nat × (Nat → Int32)} {h : Hp} {a : Nat} (h0 : ¬ a = 0) (ha : a ≤ zc h) (hk : zK h a = 5) : Cc sc 45 [.ref a] h none (iRow h a) := by
  have k0 : kin 5 (zK h a) = true := by rw [hk]; rfl
  refine cc_of 40 rfl rfl ?_
  refine And.intro ⟨rfl, h0⟩ ?_
  refine And.intro k0 ?_
  refine And.intro k0 ?_
  refine And.intro ⟨by decide, by decide⟩ ?_
  refine And.intro (kn ha k0) ?_
  exact ⟨trivial, rfl, rfl⟩
def iTrace (h : Hp) (a : Nat) : Hp := upI h a 0 0
theorem c_Trace_init {sc : Nat × (Nat → Int32)} {h : Hp} {a : Nat} (h0 : ¬ a = 0) (hk : zK h a = 7) : Cc sc 63 [.ref a] h none (iTrace h a) := by
  have k0 : kin 7 (zK h a) = true := by rw [hk]; rfl
  refine cc_of 40 rfl rfl ?_
  refine And.intro ⟨rfl, h0⟩ ?_
  refine And.intro k0 ?_
  exact ⟨trivial, rfl, rfl⟩
def iReader (h : Hp) (a : Nat) : Hp := upA (nwC (upA (nwC (upI (upI (upI (upI (upI (upI (upI (upA (h) a 0 0) a 1 (0)) a 2 (0)) a 3 (0)) a 4 (0)) a 5 (0)) a 6 (0)) a 7 (0)) 12 15) a 8 (zc h + 1)) 12 5) a 9 (zc h + 2)
theorem c_Reader_init {sc : Nat × (Nat → Int32)} {h : Hp} {a : Nat} (h0 : ¬ a = 0) (ha : a ≤ zc h) (hk : zK h a = 6) : Cc sc 51 [.ref a] h none (iReader h a) := by
  have k0 : kin 6 (zK h a) = true := by rw [hk]; rfl
  refine cc_of 100 rfl rfl ?_
  refine And.intro ⟨rfl, h0⟩ ?_
  refine And.intro (by repeat (first | exact k0 | ((try simp only [zK_upA, zK_upI]); refine kn (by first | exact ha | (simp only [zc_nwC, zc_upA, zc_upI]; omega)) ?_))) ?_
  refine And.intro (by repeat (first | exact k0 | ((try simp only [zK_upA, zK_upI]); refine kn (by first | exact ha | (simp only [zc_nwC, zc_upA, zc_upI]; omega)) ?_))) ?_
  refine And.intro (by repeat (first | exact k0 | ((try simp only [zK_upA, zK_upI]); refine kn (by first | exact ha | (simp only [zc_nwC, zc_upA, zc_upI]; omega)) ?_))) ?_
  refine And.intro (by repeat (first | exact k0 | ((try simp only [zK_upA, zK_upI]); refine kn (by first | exact ha | (simp only [zc_nwC, zc_upA, zc_upI]; omega)) ?_))) ?_
  refine And.intro (by repeat (first | exact k0 | ((try simp only [zK_upA, zK_upI]); refine kn (by first | exact ha | (simp only [zc_nwC, zc_upA, zc_upI]; omega)) ?_))) ?_
  refine And.intro (by repeat (first | exact k0 | ((try simp only [zK_upA, zK_upI]); refine kn (by first | exact ha | (simp only [zc_nwC, zc_upA, zc_upI]; omega)) ?_))) ?_
  refine And.intro (by repeat (first | exact k0 | ((try simp only [zK_upA, zK_upI]); refine kn (by first | exact ha | (simp only [zc_nwC, zc_upA, zc_upI]; omega)) ?_))) ?_
  refine And.intro (by repeat (first | exact k0 | ((try simp only [zK_upA, zK_upI]); refine kn (by first | exact ha | (simp only [zc_nwC, zc_upA, zc_upI]; omega)) ?_))) ?_
  refine And.intro ⟨by decide, by decide⟩ ?_
  refine And.intro (by repeat (first | exact k0 | ((try simp only [zK_upA, zK_upI]); refine kn (by first | exact ha | (simp only [zc_nwC, zc_upA, zc_upI]; omega)) ?_))) ?_
  refine And.intro ⟨by decide, by decide⟩ ?_
  refine And.intro (by repeat (first | exact k0 | ((try simp only [zK_upA, zK_upI]); refine kn (by first | exact ha | (simp only [zc_nwC, zc_upA, zc_upI]; omega)) ?_))) ?_
  exact ⟨trivial, rfl, rfl⟩
def iOutlook (h : Hp) (a : Nat) : Hp := upA (nwC (upA (nwC (upA (nwC (upA (nwC (upA (nwC (upA (nwC (upA (nwC (upA (nwC (upI (upI (upI (upI (upI (upA (h) a 0 0) a 1 (0)) a 2 (0)) a 3 (0)) a 4 (0)) a 5 (0)) 12 3) a 6 (zc h + 1)) 12 3) a 7 (zc h + 2)) 12 216) a 8 (zc h + 3)) 13 216) a 9 (zc h + 4)) 12 216) a 10 (zc h + 5)) 13 216) a 11 (zc h + 6)) 13 216) a 12 (zc h + 7)) 13 5) a 13 (zc h + 8)
theorem c_Outlook_init {sc : Nat × (Nat → Int32)} {h : Hp} {a : Nat} (h0 : ¬ a = 0) (ha : a ≤ zc h) (hk : zK h a = 3) : Cc sc 17 [.ref a] h none (iOutlook h a) := by
  have k0 : kin 3 (zK h a) = true := by rw [hk]; rfl
  refine cc_of 100 rfl rfl ?_
  refine And.intro ⟨rfl, h0⟩ ?_
  refine And.intro (by repeat (first | exact k0 | ((try simp only [zK_upA, zK_upI]); refine kn (by first | exact ha | (simp only [zc_nwC, zc_upA, zc_upI]; omega)) ?_))) ?_
  refine And.intro (by repeat (first | exact k0 | ((try simp only [zK_upA, zK_upI]); refine kn (by first | exact ha | (simp only [zc_nwC, zc_upA, zc_upI]; omega)) ?_))) ?_
  refine And.intro (by repeat (first | exact k0 | ((try simp only [zK_upA, zK_upI]); refine kn (by first | exact ha | (simp only [zc_nwC, zc_upA, zc_upI]; omega)) ?_))) ?_
  refine And.intro (by repeat (first | exact k0 | ((try simp only [zK_upA, zK_upI]); refine kn (by first | exact ha | (simp only [zc_nwC, zc_upA, zc_upI]; omega)) ?_))) ?_
  refine And.intro (by repeat (first | exact k0 | ((try simp only [zK_upA, zK_upI]); refine kn (by first | exact ha | (simp only [zc_nwC, zc_upA, zc_upI]; omega)) ?_))) ?_
  refine And.intro (by repeat (first | exact k0 | ((try simp only [zK_upA, zK_upI]); refine kn (by first | exact ha | (simp only [zc_nwC, zc_upA, zc_upI]; omega)) ?_))) ?_
  refine And.intro ⟨by decide, by decide⟩ ?_
  refine And.intro (by repeat (first | exact k0 | ((try simp only [zK_upA, zK_upI]); refine kn (by first | exact ha | (simp only [zc_nwC, zc_upA, zc_upI]; omega)) ?_))) ?_
  refine And.intro ⟨by decide, by decide⟩ ?_
  refine And.intro (by repeat (first | exact k0 | ((try simp only [zK_upA, zK_upI]); refine kn (by first | exact ha | (simp only [zc_nwC, zc_upA, zc_upI]; omega)) ?_))) ?_
  refine And.intro ⟨by decide, by decide⟩ ?_
  refine And.intro (by repeat (first | exact k0 | ((try simp only [zK_upA, zK_upI]); refine kn (by first | exact ha | (simp only [zc_nwC, zc_upA, zc_upI]; omega)) ?_))) ?_
  refine And.intro ⟨by decide, by decide⟩ ?_
  refine And.intro (by repeat (first | exact k0 | ((try simp only [zK_upA, zK_upI]); refine kn (by first | exact ha | (simp only [zc_nwC, zc_upA, zc_upI]; omega)) ?_))) ?_
  refine And.intro ⟨by decide, by decide⟩ ?_
  refine And.intro (by repeat (first | exact k0 | ((try simp only [zK_upA, zK_upI]); refine kn (by first | exact ha | (simp only [zc_nwC, zc_upA, zc_upI]; omega)) ?_))) ?_
  refine And.intro ⟨by decide, by decide⟩ ?_
  refine And.intro (by repeat (first | exact k0 | ((try simp only [zK_upA, zK_upI]); refine kn (by first | exact ha | (simp only [zc_nwC, zc_upA, zc_upI]; omega)) ?_))) ?_
  refine And.intro ⟨by decide, by decide⟩ ?_
  refine And.intro (by repeat (first | exact k0 | ((try simp only [zK_upA, zK_upI]); refine kn (by first | exact ha | (simp only [zc_nwC, zc_upA, zc_upI]; omega)) ?_))) ?_
  refine And.intro ⟨by decide, by decide⟩ ?_
  refine And.intro (by repeat (first | exact k0 | ((try simp only [zK_upA, zK_upI]); refine kn (by first | exact ha | (simp only [zc_nwC, zc_upA, zc_upI]; omega)) ?_))) ?_
  exact ⟨trivial, rfl, rfl⟩
def iWay (h : Hp) (a : Nat) : Hp := upA (nwC (upA (nwC (upA (nwC (upA (nwC (upA (nwC (upA (nwC (upA (nwC (upA (nwC (upI (upI (upA (upA (nwC (upI (upI (upI (upI (h) a 0 (0)) a 1 (0)) a 2 (0)) a 3 (0)) 12 12) a 4 (zc h + 1)) a 5 0) a 6 (0)) a 7 (0)) 12 12) a 8 (zc h + 2)) 13 144) a 9 (zc h + 3)) 13 13) a 10 (zc h + 4)) 13 13) a 11 (zc h + 5)) 13 13) a 12 (zc h + 6)) 12 13) a 13 (zc h + 7)) 12 13) a 14 (zc h + 8)) 14 13) a 15 (zc h + 9)
theorem c_Way_init {sc : Nat × (Nat → Int32)} {h : Hp} {a : Nat} (h0 : ¬ a = 0) (ha : a ≤ zc h) (hk : zK h a = 8) : Cc sc 65 [.ref a] h none (iWay h a) := by
  have k0 : kin 8 (zK h a) = true := by rw [hk]; rfl
  refine cc_of 100 rfl rfl ?_
  refine And.intro ⟨rfl, h0⟩ ?_
  refine And.intro (by repeat (first | exact k0 | ((try simp only [zK_upA, zK_upI]); refine kn (by first | exact ha | (simp only [zc_nwC, zc_upA, zc_upI]; omega)) ?_))) ?_
  refine And.intro (by repeat (first | exact k0 | ((try simp only [zK_upA, zK_upI]); refine kn (by first | exact ha | (simp only [zc_nwC, zc_upA, zc_upI]; omega)) ?_))) ?_
  refine And.intro (by repeat (first | exact k0 | ((try simp only [zK_upA, zK_upI]); refine kn (by first | exact ha | (simp only [zc_nwC, zc_upA, zc_upI]; omega)) ?_))) ?_
  refine And.intro (by repeat (first | exact k0 | ((try simp only [zK_upA, zK_upI]); refine kn (by first | exact ha | (simp only [zc_nwC, zc_upA, zc_upI]; omega)) ?_))) ?_
  refine And.intro ⟨by decide, by decide⟩ ?_
  refine And.intro (by repeat (first | exact k0 | ((try simp only [zK_upA, zK_upI]); refine kn (by first | exact ha | (simp only [zc_nwC, zc_upA, zc_upI]; omega)) ?_))) ?_
  refine And.intro (by repeat (first | exact k0 | ((try simp only [zK_upA, zK_upI]); refine kn (by first | exact ha | (simp only [zc_nwC, zc_upA, zc_upI]; omega)) ?_))) ?_
  refine And.intro (by repeat (first | exact k0 | ((try simp only [zK_upA, zK_upI]); refine kn (by first | exact ha | (simp only [zc_nwC, zc_upA, zc_upI]; omega)) ?_))) ?_
  refine And.intro (by repeat (first | exact k0 | ((try simp only [zK_upA, zK_upI]); refine kn (by first | exact ha | (simp only [zc_nwC, zc_upA, zc_upI]; omega)) ?_))) ?_
  refine And.intro ⟨by decide, by decide⟩ ?_
  refine And.intro (by repeat (first | exact k0 | ((try simp only [zK_upA, zK_upI]); refine kn (by first | exact ha | (simp only [zc_nwC, zc_upA, zc_upI]; omega)) ?_))) ?_
  refine And.intro ⟨by decide, by decide⟩ ?_
  refine And.intro (by repeat (first | exact k0 | ((try simp only [zK_upA, zK_upI]); refine kn (by first | exact ha | (simp only [zc_nwC, zc_upA, zc_upI]; omega)) ?_))) ?_
  refine And.intro ⟨by decide, by decide⟩ ?_
  refine And.intro (by repeat (first | exact k0 | ((try simp only [zK_upA, zK_upI]); refine kn (by first | exact ha | (simp only [zc_nwC, zc_upA, zc_upI]; omega)) ?_))) ?_
  refine And.intro ⟨by decide, by decide⟩ ?_
  refine And.intro (by repeat (first | exact k0 | ((try simp only [zK_upA, zK_upI]); refine kn (by first | exact ha | (simp only [zc_nwC, zc_upA, zc_upI]; omega)) ?_))) ?_
  refine And.intro ⟨by decide, by decide⟩ ?_
  refine And.intro (by repeat (first | exact k0 | ((try simp only [zK_upA, zK_upI]); refine kn (by first | exact ha | (simp only [zc_nwC, zc_upA, zc_upI]; omega)) ?_))) ?_
  refine And.intro ⟨by decide, by decide⟩ ?_
  refine And.intro (by repeat (first | exact k0 | ((try simp only [zK_upA, zK_upI]); refine kn (by first | exact ha | (simp only [zc_nwC, zc_upA, zc_upI]; omega)) ?_))) ?_
  refine And.intro ⟨by decide, by decide⟩ ?_
  refine And.intro (by repeat (first | exact k0 | ((try simp only [zK_upA, zK_upI]); refine kn (by first | exact ha | (simp only [zc_nwC, zc_upA, zc_upI]; omega)) ?_))) ?_
  refine And.intro ⟨by decide, by decide⟩ ?_
  refine And.intro (by repeat (first | exact k0 | ((try simp only [zK_upA, zK_upI]); refine kn (by first | exact ha | (simp only [zc_nwC, zc_upA, zc_upI]; omega)) ?_))) ?_
  exact ⟨trivial, rfl, rfl⟩
