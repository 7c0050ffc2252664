/-! A new part. -/
theorem zIr_upI {h : Hp} {a j x : Nat} {v : Int32} (hx : x ≠ a) : zI (upI h a j v) x = zI h x := va_up_ne _ _ hx
theorem zI_upA (h : Hp) (a j v : Nat) : zI (upA h a j v) = zI h := rfl
theorem zJ_upA (h : Hp) (a j v : Nat) : zJ (upA h a j v) = zJ h := rfl
theorem zN_upA (h : Hp) (a j v : Nat) : zN (upA h a j v) = zN h := rfl
theorem zN_upI (h : Hp) (a j : Nat) (v : Int32) : zN (upI h a j v) = zN h := rfl
theorem zJ_upI (h : Hp) (a j : Nat) (v : Int32) : zJ (upI h a j v) = zJ h := rfl
theorem zA_upI (h : Hp) (a j : Nat) (v : Int32) : zA (upI h a j v) = zA h := rfl
theorem zAr_upA {h : Hp} {a j v x : Nat} (hx : x ≠ a) : zA (upA h a j v) x = zA h x := va_up_ne _ _ hx
theorem zIr_nw {h : Hp} {k n x : Nat} (hx : x ≠ zc h + 1) : zI (nwC h k n) x = zI h x := va_up_ne _ _ hx
theorem zJr_nw {h : Hp} {k n x : Nat} (hx : x ≠ zc h + 1) : zJ (nwC h k n) x = zJ h x := va_up_ne _ _ hx
theorem zKr_nw {h : Hp} {k n x : Nat} (hx : x ≠ zc h + 1) : zK (nwC h k n) x = zK h x := va_up_ne _ _ hx
theorem zNr_nw {h : Hp} {k n x : Nat} (hx : x ≠ zc h + 1) : zN (nwC h k n) x = zN h x := va_up_ne _ _ hx
theorem zAr_nw {h : Hp} {k n x : Nat} (hx : x ≠ zc h + 1) : zA (nwC h k n) x = zA h x := va_up_ne _ _ hx
theorem zK_nw1 {h : Hp} {k n : Nat} : zK (nwC h k n) (zc h + 1) = k := va_up_self _ _ _
theorem zI_nw1 {h : Hp} {k n : Nat} : zI (nwC h k n) (zc h + 1) = fun _ => 0 := va_up_self _ _ _
def iPart (h : Hp) (a : Nat) (n s hr : Int32) : Hp := upI (upI (upI (upI (upI (upI h a 3 1) a 4 0) a 5 (-9)) a 0 n) a 1 s) a 2 hr
section
variable {sc : Nat × (Nat → Int32)} {h : Hp}
theorem c_Part_init {a : Nat} (h0 : ¬ a = 0) (hk : kin 4 (zK h a) = true) (n s hr : Int32) : Cc sc 38 [.ref a, .int n, .int s, .int hr] h none (iPart h a n s hr) := by
  refine cc_of 40 rfl rfl ?_
  refine And.intro (⟨rfl, h0⟩) ?_
  refine And.intro (⟨hk, Or.inr rfl⟩) ?_
  refine And.intro (⟨hk, Or.inl rfl⟩) ?_
  refine And.intro (hk) ?_
  refine And.intro (hk) ?_
  refine And.intro (hk) ?_
  refine And.intro (hk) ?_
  exact ⟨trivial, rfl, rfl⟩
theorem c_Filed_init {a : Nat} (h0 : ¬ a = 0) (hk : kin 4 (zK h a) = true) (n s hr : Int32) : Cc sc 13 [.ref a, .int n, .int s, .int hr] h none (iPart h a n s hr) := by
  refine cc_of 40 rfl rfl ?_
  refine And.intro ⟨rfl, h0⟩ (And.intro rfl (Exists.intro _ (Exists.intro _ (And.intro (c_Part_init h0 hk n s hr) ?_))))
  exact ⟨trivial, rfl, rfl⟩
theorem c_Common_init {a : Nat} (h0 : ¬ a = 0) (hk : kin 4 (zK h a) = true) (n s hr : Int32) : Cc sc 8 [.ref a, .int n, .int s, .int hr] h none (iPart h a n s hr) := by
  refine cc_of 40 rfl rfl ?_
  refine And.intro ⟨rfl, h0⟩ (And.intro rfl (Exists.intro _ (Exists.intro _ (And.intro (c_Filed_init h0 hk n s hr) ?_))))
  exact ⟨trivial, rfl, rfl⟩
def nPart (h : Hp) (kd np : Nat) (s hr : Int32) : Hp := upI (upI (upA (iPart (nwC h (pkd kd) 6) (zc h + 1) (nI np) s hr) 16 np (zc h + 1)) 15 6 0) 15 1 (nI (np + 1))
theorem zI_iPart {h : Hp} {a x : Nat} {n s hr : Int32} (hx : x ≠ a) : zI (iPart h a n s hr) x = zI h x := by
  unfold iPart
  rw [zIr_upI hx, zIr_upI hx, zIr_upI hx, zIr_upI hx, zIr_upI hx, zIr_upI hx]
theorem zK_iPart (h : Hp) (a : Nat) (n s hr : Int32) : zK (iPart h a n s hr) = zK h := rfl
theorem zN_iPart (h : Hp) (a : Nat) (n s hr : Int32) : zN (iPart h a n s hr) = zN h := rfl
theorem zA_iPart (h : Hp) (a : Nat) (n s hr : Int32) : zA (iPart h a n s hr) = zA h := rfl
theorem zJ_iPart (h : Hp) (a : Nat) (n s hr : Int32) : zJ (iPart h a n s hr) = zJ h := rfl
theorem c_addPart (hs : Shp h) {kd np : Nat} (hkd : kd ≤ 2) (hn : np < 12) (e : zI h 15 1 = nI np) (hz : 64 ≤ zc h) (s hr : Int32) : Cc sc 79 [.ref 15, .int (nI kd), .int s, .int hr] h (some (.int (nI np))) (nPart h kd np s hr) := by
  have e0 : zI (nh h) 15 1 = nI np := e
  have ip : inB (nI np) 12 = true := inB_nI (by omega) (by decide)
  have ep : (nI np).toNatClampNeg = np := nI_clamp (by omega)
  have hz' : 64 ≤ zc (nh h) := hz
  have K1 : ∀ k x, x ≤ 64 → zK (nwC (nh h) k 6) x = zK (nh h) x := fun k x hx => zKr_nw (by omega)
  have N1 : ∀ k x, x ≤ 64 → zN (nwC (nh h) k 6) x = zN (nh h) x := fun k x hx => zNr_nw (by omega)
  have I1 : ∀ k x, x ≤ 64 → zI (nwC (nh h) k 6) x = zI (nh h) x := fun k x hx => zIr_nw (by omega)
  have A1 : ∀ k x, x ≤ 64 → zA (nwC (nh h) k 6) x = zA (nh h) x := fun k x hx => zAr_nw (by omega)
  have I2 : ∀ k x, x ≤ 64 → zI (iPart (nwC (nh h) k 6) (zc (nh h) + 1) (nI np) s hr) x = zI (nh h) x := fun k x hx => (zI_iPart (by omega)).trans (I1 k x hx)
  have a0 : ¬ zc (nh h) + 1 = 0 := by omega
  refine cc_nh (F := fun h => nPart h kd np s hr) hs (cc_of 80 rfl rfl ?_)
  refine And.intro rfl ?_
  rw [show zI (nh h) 15 1 = nI np from e0]
  refine br_t (show nI np < 12 by first | assumption | (simp (discharger := omega) only [i_lt, i_le, i_eq, bI_tz, decide_eq_false_iff_not, Int32.reduceToInt, nI_toInt, tm1, tm2, tm3, tm4, tm9]; done) | (simp (discharger := omega) only [i_lt, i_le, i_eq, bI_tz, decide_eq_false_iff_not, Int32.reduceToInt, nI_toInt, tm1, tm2, tm3, tm4, tm9]; omega) | omega) ?_
  obtain rfl | rfl | rfl : kd = 0 ∨ kd = 1 ∨ kd = 2 := by omega
  · have k15 : kin 9 (zK (nwC (nh h) 4 6) 15) = true := by rw [K1 4 15 (by decide)]; rfl
    have kn : kin 4 (zK (nwC (nh h) 4 6) (zc (nh h) + 1)) = true := by rw [zK_nw1]; rfl
    refine br_t (by decide) ?_
    refine br_t (by decide) ?_
    refine And.intro rfl ?_
    refine And.intro rfl ?_
    rw [show zI (nh h) 15 1 = nI np from e0]
    refine And.intro (k15) ?_
    rw [show nf 4 = 6 from rfl, show zI (nwC (nh h) 4 6) 15 1 = nI np by rw [I1 4 15 (by decide)]; exact e0]
    refine And.intro ⟨rfl, a0⟩ (And.intro rfl (Exists.intro _ (Exists.intro _ (And.intro (c_Part_init a0 kn (nI np) s hr) ?_))))
    refine And.intro (⟨?_, Or.inr (Or.inl ⟨?_, kn⟩)⟩) ?_
    · show inB (nI np) (zN (nwC (nh h) 4 6) 16) = true
      rw [N1 4 16 (by decide)]
      exact ip
    · show zK (nwC (nh h) 4 6) 16 = 16
      rw [K1 4 16 (by decide)]
      rfl
    rw [ep]
    refine And.intro (⟨k15, Or.inl rfl⟩) ?_
    refine And.intro (k15) ?_
    refine And.intro (k15) ?_
    refine And.intro (k15) ?_
    have e2 : zI (upI (upA (iPart (nwC (nh h) 4 6) (zc (nh h) + 1) (nI np) s hr) 16 np (zc (nh h) + 1)) 15 6 0) 15 1 = nI np := by
      rw [zI_upI, if_pos rfl, if_neg (by decide), zI_upA, I2 4 15 (by decide)]
      exact e0
    refine ⟨Or.inl rfl, ?_, ?_⟩
    · rw [zI_up_self]
      refine congrArg (fun v => some (Value.int v)) ?_
      show zI (upI (upA (iPart (nwC (nh h) 4 6) (zc (nh h) + 1) (nI np) s hr) 16 np (zc (nh h) + 1)) 15 6 0) 15 1 + 1 - 1 = nI np
      rw [e2, nI_1, nI_pred]
    · show upI (upI (upA (iPart (nwC (nh h) 4 6) (zc (nh h) + 1) (nI np) s hr) 16 np (zc (nh h) + 1)) 15 6 0) 15 1 (zI (upI (upA (iPart (nwC (nh h) 4 6) (zc (nh h) + 1) (nI np) s hr) 16 np (zc (nh h) + 1)) 15 6 0) 15 1 + 1) = _
      rw [e2, nI_1]
      rfl
  · have k15 : kin 9 (zK (nwC (nh h) 2 6) 15) = true := by rw [K1 2 15 (by decide)]; rfl
    have kn : kin 4 (zK (nwC (nh h) 2 6) (zc (nh h) + 1)) = true := by rw [zK_nw1]; rfl
    refine br_t (by decide) ?_
    refine br_f (by decide) ?_
    refine And.intro rfl ?_
    refine And.intro rfl ?_
    rw [show zI (nh h) 15 1 = nI np from e0]
    refine And.intro (k15) ?_
    rw [show nf 2 = 6 from rfl, show zI (nwC (nh h) 2 6) 15 1 = nI np by rw [I1 2 15 (by decide)]; exact e0]
    refine And.intro ⟨rfl, a0⟩ (And.intro rfl (Exists.intro _ (Exists.intro _ (And.intro (c_Filed_init a0 kn (nI np) s hr) ?_))))
    refine And.intro (⟨?_, Or.inr (Or.inl ⟨?_, kn⟩)⟩) ?_
    · show inB (nI np) (zN (nwC (nh h) 2 6) 16) = true
      rw [N1 2 16 (by decide)]
      exact ip
    · show zK (nwC (nh h) 2 6) 16 = 16
      rw [K1 2 16 (by decide)]
      rfl
    rw [ep]
    refine And.intro (⟨k15, Or.inl rfl⟩) ?_
    refine And.intro (k15) ?_
    refine And.intro (k15) ?_
    refine And.intro (k15) ?_
    have e2 : zI (upI (upA (iPart (nwC (nh h) 2 6) (zc (nh h) + 1) (nI np) s hr) 16 np (zc (nh h) + 1)) 15 6 0) 15 1 = nI np := by
      rw [zI_upI, if_pos rfl, if_neg (by decide), zI_upA, I2 2 15 (by decide)]
      exact e0
    refine ⟨Or.inl rfl, ?_, ?_⟩
    · rw [zI_up_self]
      refine congrArg (fun v => some (Value.int v)) ?_
      show zI (upI (upA (iPart (nwC (nh h) 2 6) (zc (nh h) + 1) (nI np) s hr) 16 np (zc (nh h) + 1)) 15 6 0) 15 1 + 1 - 1 = nI np
      rw [e2, nI_1, nI_pred]
    · show upI (upI (upA (iPart (nwC (nh h) 2 6) (zc (nh h) + 1) (nI np) s hr) 16 np (zc (nh h) + 1)) 15 6 0) 15 1 (zI (upI (upA (iPart (nwC (nh h) 2 6) (zc (nh h) + 1) (nI np) s hr) 16 np (zc (nh h) + 1)) 15 6 0) 15 1 + 1) = _
      rw [e2, nI_1]
      rfl
  · have k15 : kin 9 (zK (nwC (nh h) 1 6) 15) = true := by rw [K1 1 15 (by decide)]; rfl
    have kn : kin 4 (zK (nwC (nh h) 1 6) (zc (nh h) + 1)) = true := by rw [zK_nw1]; rfl
    refine br_f (by decide) ?_
    refine And.intro rfl ?_
    refine And.intro rfl ?_
    rw [show zI (nh h) 15 1 = nI np from e0]
    refine And.intro (k15) ?_
    rw [show nf 1 = 6 from rfl, show zI (nwC (nh h) 1 6) 15 1 = nI np by rw [I1 1 15 (by decide)]; exact e0]
    refine And.intro ⟨rfl, a0⟩ (And.intro rfl (Exists.intro _ (Exists.intro _ (And.intro (c_Common_init a0 kn (nI np) s hr) ?_))))
    refine And.intro (⟨?_, Or.inr (Or.inl ⟨?_, kn⟩)⟩) ?_
    · show inB (nI np) (zN (nwC (nh h) 1 6) 16) = true
      rw [N1 1 16 (by decide)]
      exact ip
    · show zK (nwC (nh h) 1 6) 16 = 16
      rw [K1 1 16 (by decide)]
      rfl
    rw [ep]
    refine And.intro (⟨k15, Or.inl rfl⟩) ?_
    refine And.intro (k15) ?_
    refine And.intro (k15) ?_
    refine And.intro (k15) ?_
    have e2 : zI (upI (upA (iPart (nwC (nh h) 1 6) (zc (nh h) + 1) (nI np) s hr) 16 np (zc (nh h) + 1)) 15 6 0) 15 1 = nI np := by
      rw [zI_upI, if_pos rfl, if_neg (by decide), zI_upA, I2 1 15 (by decide)]
      exact e0
    refine ⟨Or.inl rfl, ?_, ?_⟩
    · rw [zI_up_self]
      refine congrArg (fun v => some (Value.int v)) ?_
      show zI (upI (upA (iPart (nwC (nh h) 1 6) (zc (nh h) + 1) (nI np) s hr) 16 np (zc (nh h) + 1)) 15 6 0) 15 1 + 1 - 1 = nI np
      rw [e2, nI_1, nI_pred]
    · show upI (upI (upA (iPart (nwC (nh h) 1 6) (zc (nh h) + 1) (nI np) s hr) 16 np (zc (nh h) + 1)) 15 6 0) 15 1 (zI (upI (upA (iPart (nwC (nh h) 1 6) (zc (nh h) + 1) (nI np) s hr) 16 np (zc (nh h) + 1)) 15 6 0) 15 1 + 1) = _
      rw [e2, nI_1]
      rfl
end
