/-! Arrays.fill. -/
theorem ofI1 : Int32.ofInt 1 = 1 := by decide
theorem up_up {α : Type} (f : Nat → α) (k : Nat) (v w : α) : va_up (va_up f k v) k w = va_up f k w := by
  funext j
  unfold va_up
  split <;> rfl
theorem up_same {α : Type} (f : Nat → α) (k : Nat) : va_up f k (f k) = f := by
  funext j
  unfold va_up
  split
  · rename_i e
    rw [e]
  · rfl
theorem upI_rwI (h : Hp) (a j : Nat) (f : Nat → Int32) (v : Int32) : upI (rwI h a f) a j v = rwI h a (upd f j v) := by
  show (h.1, zK h, zN h, va_up (va_up (zI h) a f) a (upd (va_up (zI h) a f a) j v), zJ h, zA h) = (h.1, zK h, zN h, va_up (zI h) a (upd f j v), zJ h, zA h)
  rw [va_up_self, up_up]
theorem upJ_rwJ (h : Hp) (a j : Nat) (f : Nat → Int64) (v : Int64) : upJ (rwJ h a f) a j v = rwJ h a (vp_updL f j v) := by
  show (h.1, zK h, zN h, zI h, va_up (va_up (zJ h) a f) a (vp_updL (va_up (zJ h) a f a) j v), zA h) = (h.1, zK h, zN h, zI h, va_up (zJ h) a (vp_updL f j v), zA h)
  rw [va_up_self, up_up]
theorem rwI_id (h : Hp) (a : Nat) : rwI h a (zI h a) = h := by
  show (h.1, zK h, zN h, va_up (zI h) a (zI h a), zJ h, zA h) = h
  rw [up_same]
theorem rwJ_id (h : Hp) (a : Nat) : rwJ h a (zJ h a) = h := by
  show (h.1, zK h, zN h, zI h, va_up (zJ h) a (zJ h a), zA h) = h
  rw [up_same]
theorem inB_nI {i n : Nat} (h : i < n) (hn : n < 2 ^ 31) : inB (nI i) n = true := inB_iff.mpr (vp_in_nI h hn)
def flI (h : Hp) (a : Nat) (v : Int32) : Hp := rwI h a (fun j => if j < zN h a then v else zI h a j)
def flJ (h : Hp) (a : Nat) (v : Int64) : Hp := rwJ h a (fun j => if j < zN h a then v else zJ h a j)
theorem fillI_loop {sc : Nat × (Nat → Int32)} {h : Hp} {a : Nat} {v : Int32} (hk : zK h a = 12) (hN : zN h a < 2 ^ 31) : ∀ (d i : Nat) (x : Int32) (f : Nat → Int32), i + d = zN h a → x = nI i → (∀ j, f j = if j < i then v else zI h a j) → Rn sc (mtk 2) 5 [some (.ref a), some (.int v), some (.int x), some (.int (nI (zN h a)))] [] (rwI h a f) none (flI h a v) := by
  intro d
  induction d with
  | zero =>
    intro i x f hi hx hf
    refine bk_sound (cuts := []) 10 _ _ _ _ ?_
    refine br_t ?_ ?_
    · rw [hx, show i = zN h a by omega]
      exact Int32.le_refl _
    · refine ⟨trivial, rfl, ?_⟩
      unfold flI
      congr 1
      funext j
      rw [hf j, show i = zN h a by omega]
  | succ d ih =>
    intro i x f hi hx hf
    refine bk_sound (cuts := [5]) 20 _ _ _ _ ?_
    refine br_f ?_ ?_
    · rw [hx]
      exact nI_ge (by omega) hN
    · refine And.intro ⟨hk, ?_⟩ ?_
      · rw [hx]
        exact inB_nI (n := zN h a) (by omega) hN
      · show Rn sc (mtk 2) 5 [some (.ref a), some (.int v), some (.int (x + Int32.ofInt 1)), some (.int (nI (zN h a)))] [] (upI (rwI h a f) a x.toNatClampNeg v) none (flI h a v)
        rw [upI_rwI]
        refine ih (i + 1) _ _ (by omega) (by rw [hx, ofI1, nI_1]) (fun j => ?_)
        rw [hx, nI_clamp (by omega)]
        unfold upd
        rw [hf j]
        by_cases e1 : j = i
        · rw [if_pos e1, if_pos (by omega)]
        · rw [if_neg e1]
          by_cases e2 : j < i
          · rw [if_pos e2, if_pos (by omega)]
          · rw [if_neg e2, if_neg (by omega)]
theorem c_fillI {sc : Nat × (Nat → Int32)} {h : Hp} {a : Nat} {v : Int32} (hk : zK h a = 12) (hN : zN h a < 2 ^ 31) : Cc sc 2 [.ref a, .int v] h none (flI h a v) := by
  refine cc_cut [5] 10 rfl rfl ?_
  refine And.intro (Or.inl hk) ?_
  have := fillI_loop (sc := sc) (v := v) hk hN (zN h a) 0 0 (zI h a) (by omega) nI_0.symm (fun j => by rw [if_neg (by omega)])
  rw [rwI_id] at this
  exact this
theorem fillJ_loop {sc : Nat × (Nat → Int32)} {h : Hp} {a : Nat} {v : Int64} (hk : zK h a = 13) (hN : zN h a < 2 ^ 31) : ∀ (d i : Nat) (x : Int32) (f : Nat → Int64), i + d = zN h a → x = nI i → (∀ j, f j = if j < i then v else zJ h a j) → Rn sc (mtk 1) 6 [some (.ref a), some (.long v), none, some (.int x), some (.int (nI (zN h a)))] [] (rwJ h a f) none (flJ h a v) := by
  intro d
  induction d with
  | zero =>
    intro i x f hi hx hf
    refine bk_sound (cuts := []) 10 _ _ _ _ ?_
    refine br_t ?_ ?_
    · rw [hx, show i = zN h a by omega]
      exact Int32.le_refl _
    · refine ⟨trivial, rfl, ?_⟩
      unfold flJ
      congr 1
      funext j
      rw [hf j, show i = zN h a by omega]
  | succ d ih =>
    intro i x f hi hx hf
    refine bk_sound (cuts := [6]) 20 _ _ _ _ ?_
    refine br_f ?_ ?_
    · rw [hx]
      exact nI_ge (by omega) hN
    · refine And.intro ⟨hk, ?_⟩ ?_
      · rw [hx]
        exact inB_nI (n := zN h a) (by omega) hN
      · show Rn sc (mtk 1) 6 [some (.ref a), some (.long v), none, some (.int (x + Int32.ofInt 1)), some (.int (nI (zN h a)))] [] (upJ (rwJ h a f) a x.toNatClampNeg v) none (flJ h a v)
        rw [upJ_rwJ]
        refine ih (i + 1) _ _ (by omega) (by rw [hx, ofI1, nI_1]) (fun j => ?_)
        rw [hx, nI_clamp (by omega)]
        unfold vp_updL
        rw [hf j]
        by_cases e1 : j = i
        · rw [if_pos e1, if_pos (by omega)]
        · rw [if_neg e1]
          by_cases e2 : j < i
          · rw [if_pos e2, if_pos (by omega)]
          · rw [if_neg e2, if_neg (by omega)]
theorem c_fillJ {sc : Nat × (Nat → Int32)} {h : Hp} {a : Nat} {v : Int64} (hk : zK h a = 13) (hN : zN h a < 2 ^ 31) : Cc sc 1 [.ref a, .long v] h none (flJ h a v) := by
  refine cc_cut [6] 10 rfl rfl ?_
  refine And.intro (Or.inr hk) ?_
  have := fillJ_loop (sc := sc) (v := v) hk hN (zN h a) 0 0 (zJ h a) (by omega) nI_0.symm (fun j => by rw [if_neg (by omega)])
  rw [rwJ_id] at this
  exact this
