set_option maxRecDepth 100000 in
theorem c_number {sc : Nat × (Nat → Int32)} {h : Hp} {a n : Nat} {s w : Int32} (hk : zK h a = 0) (hn : zA h a 3 = n) (hkn : zK h n = 12) (hin : inB (s * 5 + w) (zN h n) = true) : Cc sc 5 [.ref a, .int s, .int w] h (some (.int (zI h n (s * 5 + w).toNatClampNeg))) h := by
  refine ⟨by decide, by decide, bk_sound (cuts := []) 20 _ _ _ _ ?_⟩
  refine And.intro ?_ ?_
  · trace_state
    rw [hk]
    rfl
  · refine And.intro ?_ ?_
    · trace_state
      sorry
    · trace_state
      sorry
