/-! the law: its loop -/
def sl_h : List Rw := [(18, 19, .iload_n 3, 0, .null), (19, 20, .aload_n 0, 0, .null), (20, 21, .arraylength, 0, .null), (21, 23, .bipush 6, 0, .int 6), (23, 24, .isub, 0, .null), (24, 27, .if_icmp .gt 1464, 1488, .null), (27, 28, .aload_n 0, 0, .null), (28, 29, .iload_n 3, 0, .null), (29, 30, .iaload, 0, .null), (30, 32, .bipush 63, 0, .int 63), (32, 33, .iand, 0, .null), (33, 184, .tableswitch 1449 0 33 #[151, 204, 237, 280, 333, 387, 430, 474, 527, 581, 644, 687, 720, 753, 786, 839, 888, 937, 960, 993, 1006, 1029, 1052, 1105, 1148, 1171, 1214, 1258, 1321, 1344, 1367, 1400, 1413, 1426], 0, .null)]
theorem sl_h_ok : ∀ row ∈ sl_h, cAt ct221 row.1 = some row := by decide +kernel
def sl_n : List Rw := [(1482, 1485, .iinc 3 6, 0, .null), (1485, 1488, .goto (-1467), 18, .null)]
theorem sl_n_ok : ∀ row ∈ sl_n, cAt ct221 row.1 = some row := by decide +kernel
def sl_e : List Rw := [(18, 19, .iload_n 3, 0, .null), (19, 20, .aload_n 0, 0, .null), (20, 21, .arraylength, 0, .null), (21, 23, .bipush 6, 0, .int 6), (23, 24, .isub, 0, .null), (24, 27, .if_icmp .gt 1464, 1488, .null), (1488, 1489, .iconst 1, 0, .int 1), (1489, 1490, .ireturn, 0, .null)]
theorem sl_e_ok : ∀ row ∈ sl_e, cAt ct221 row.1 = some row := by decide +kernel
section
variable {L i : Nat} {xs : Nat → Int32} {h : Hp}
theorem lw_lt (hL : L ≤ 3072) (hi : i ≤ 3080) : (Int32.ofNat L - 6 < nI i) ↔ L < i + 6 := by
  have e : (Int32.ofNat L - 6).toInt = (L : Int) - 6 := by
    have e1 : (Int32.ofNat L).toInt = L := nI_toInt (n := L) (by omega)
    have e2 : (6 : Int32).toInt = 6 := by decide
    rw [i_sub (by rw [e1, e2]; omega) (by rw [e1, e2]; omega), e1, e2]
  rw [i_lt, e, nI_toInt (by omega)]
  omega
theorem lw_next {rr : Option Value} {h' : Hp} (K : Rn (L, xs) lawM 18 [some (.retAddr 5), some (.ref 1), some (.ref 39), some (.int (nI (i + 6)))] [] h rr h') : Rn (L, xs) lawM 1482 [some (.retAddr 5), some (.ref 1), some (.ref 39), some (.int (nI i))] [] h rr h' := by
  rw [show nI (i + 6) = nI i + 6 by rw [show (6 : Int32) = nI 6 from rfl, nI_add]] at K
  refine law_sub sl_n_ok [18] 10 ?_
  exact K
theorem lw_head {rr : Option Value} {h' : Hp} (hL : L ≤ 3072) (hi : i + 6 ≤ L) (K : Rn (L, xs) lawM (tsw 33 1449 0 33 #[151, 204, 237, 280, 333, 387, 430, 474, 527, 581, 644, 687, 720, 753, 786, 839, 888, 937, 960, 993, 1006, 1029, 1052, 1105, 1148, 1171, 1214, 1258, 1321, 1344, 1367, 1400, 1413, 1426] (xs i &&& 63)) [some (.retAddr 5), some (.ref 1), some (.ref 39), some (.int (nI i))] [] h rr h') : Rn (L, xs) lawM 18 [some (.retAddr 5), some (.ref 1), some (.ref 39), some (.int (nI i))] [] h rr h' := by
  rw [show xs i = xs (nI i).toNatClampNeg by rw [nI_clamp (by omega)]] at K
  refine law_sub sl_h_ok [] 12 ?_
  refine And.intro trivial ?_
  refine br_f (show ¬ Int32.ofNat L - 6 < nI i from fun z => by have := (lw_lt (i := i) hL (by omega)).mp z; omega) ?_
  refine And.intro (show inB (nI i) L = true from inB_nI (by omega) (by omega)) ?_
  exact K
theorem lw_stop (hL : L ≤ 3072) (hi : L < i + 6) (hj : i ≤ 3080) : Rn (L, xs) lawM 18 [some (.retAddr 5), some (.ref 1), some (.ref 39), some (.int (nI i))] [] h (some (.int 1)) h := by
  refine law_sub sl_e_ok [] 20 ?_
  refine And.intro trivial ?_
  refine br_t ((lw_lt hL hj).mpr hi) ?_
  exact ⟨Or.inr ⟨rfl, Or.inr rfl⟩, rfl, rfl⟩
theorem lw_step (hL : L ≤ 3072) (hi : i + 6 ≤ L) (I : Inv h) : ∃ h2, Inv h2 ∧ ∀ (rr : Option Value) (h' : Hp), Rn (L, xs) lawM 1482 [some (.retAddr 5), some (.ref 1), some (.ref 39), some (.int (nI i))] [] h2 rr h' → Rn (L, xs) lawM 18 [some (.retAddr 5), some (.ref 1), some (.ref 39), some (.int (nI i))] [] h rr h' := by
  by_cases q : (xs i &&& 63).toInt < 0 ∨ 33 < (xs i &&& 63).toInt
  · refine ⟨h, I, fun rr h' K => lw_head hL hi ?_⟩
    rw [tsw_out q]
    exact K
  · obtain ⟨k, hk, e⟩ := i_of (a := xs i &&& 63) (n := 34) (by omega) (by omega) (by decide)
    have fin : ∀ k s, xs i &&& 63 = nI k → tsw 33 1449 0 33 #[151, 204, 237, 280, 333, 387, 430, 474, 527, 581, 644, 687, 720, 753, 786, 839, 888, 937, 960, 993, 1006, 1029, 1052, 1105, 1148, 1171, 1214, 1258, 1321, 1344, 1367, 1400, 1413, 1426] (nI k) = s → (∃ h2, Inv h2 ∧ ∀ (rr : Option Value) (h' : Hp), Rn (L, xs) lawM 1482 [some (.retAddr 5), some (.ref 1), some (.ref 39), some (.int (nI i))] [] h2 rr h' → Rn (L, xs) lawM s [some (.retAddr 5), some (.ref 1), some (.ref 39), some (.int (nI i))] [] h rr h') → ∃ h2, Inv h2 ∧ ∀ (rr : Option Value) (h' : Hp), Rn (L, xs) lawM 1482 [some (.retAddr 5), some (.ref 1), some (.ref 39), some (.int (nI i))] [] h2 rr h' → Rn (L, xs) lawM 18 [some (.retAddr 5), some (.ref 1), some (.ref 39), some (.int (nI i))] [] h rr h' := by
      intro k s e es g
      obtain ⟨h2, I2, K2⟩ := g
      refine ⟨h2, I2, fun rr h' K => lw_head hL hi ?_⟩
      rw [e, es]
      exact K2 rr h' K
    match k, hk, e with
    | 0, _, e => exact fin 0 184 e (by decide +kernel) (ls_0 hL hi I)
    | 1, _, e => exact fin 1 237 e (by decide +kernel) (ls_1 hL hi I)
    | 2, _, e => exact fin 2 270 e (by decide +kernel) (ls_2 hL hi I)
    | 3, _, e => exact fin 3 313 e (by decide +kernel) (ls_3 hL hi I)
    | 4, _, e => exact fin 4 366 e (by decide +kernel) (ls_4 hL hi I)
    | 5, _, e => exact fin 5 420 e (by decide +kernel) (ls_5 hL hi I)
    | 6, _, e => exact fin 6 463 e (by decide +kernel) (ls_6 hL hi I)
    | 7, _, e => exact fin 7 507 e (by decide +kernel) (ls_7 hL hi I)
    | 8, _, e => exact fin 8 560 e (by decide +kernel) (ls_8 hL hi I)
    | 9, _, e => exact fin 9 614 e (by decide +kernel) (ls_9 hL hi I)
    | 10, _, e => exact fin 10 677 e (by decide +kernel) (ls_10 hL hi I)
    | 11, _, e => exact fin 11 720 e (by decide +kernel) (ls_11 hL hi I)
    | 12, _, e => exact fin 12 753 e (by decide +kernel) (ls_12 hL hi I)
    | 13, _, e => exact fin 13 786 e (by decide +kernel) (ls_13 hL hi I)
    | 14, _, e => exact fin 14 819 e (by decide +kernel) (ls_14 hL hi I)
    | 15, _, e => exact fin 15 872 e (by decide +kernel) (ls_15 hL hi I)
    | 16, _, e => exact fin 16 921 e (by decide +kernel) (ls_16 hL hi I)
    | 17, _, e => exact fin 17 970 e (by decide +kernel) (ls_17 hL hi I)
    | 18, _, e => exact fin 18 993 e (by decide +kernel) (ls_18 hL hi I)
    | 19, _, e => exact fin 19 1026 e (by decide +kernel) (ls_19 hL hi I)
    | 20, _, e => exact fin 20 1039 e (by decide +kernel) (ls_20 hL hi I)
    | 21, _, e => exact fin 21 1062 e (by decide +kernel) (ls_21 hL hi I)
    | 22, _, e => exact fin 22 1085 e (by decide +kernel) (ls_22 hL hi I)
    | 23, _, e => exact fin 23 1138 e (by decide +kernel) (ls_23 hL hi I)
    | 24, _, e => exact fin 24 1181 e (by decide +kernel) (ls_24 hL hi I)
    | 25, _, e => exact fin 25 1204 e (by decide +kernel) (ls_25 hL hi I)
    | 26, _, e => exact fin 26 1247 e (by decide +kernel) (ls_26 hL hi I)
    | 27, _, e => exact fin 27 1291 e (by decide +kernel) (ls_27 hL hi I)
    | 28, _, e => exact fin 28 1354 e (by decide +kernel) (ls_28 hL hi I)
    | 29, _, e => exact fin 29 1377 e (by decide +kernel) (ls_29 hL hi I)
    | 30, _, e => exact fin 30 1400 e (by decide +kernel) (ls_30 hL hi I)
    | 31, _, e => exact fin 31 1433 e (by decide +kernel) (ls_31 hL hi I)
    | 32, _, e => exact fin 32 1446 e (by decide +kernel) (ls_32 hL hi I)
    | 33, _, e => exact fin 33 1459 e (by decide +kernel) (ls_33 hL hi I)
    | n + 34, hk, _ => omega
theorem law_loop (hL : L ≤ 3072) : ∀ (d i : Nat) (h : Hp), L < i + 6 * d + 6 → i ≤ L + 6 → Inv h → ∃ h', Rn (L, xs) lawM 18 [some (.retAddr 5), some (.ref 1), some (.ref 39), some (.int (nI i))] [] h (some (.int 1)) h' ∧ Inv h' := by
  intro d
  induction d with
  | zero =>
    intro i h h1 h2 I
    exact ⟨h, lw_stop hL (by omega) (by omega), I⟩
  | succ d ih =>
    intro i h h1 h2 I
    by_cases q : i + 6 ≤ L
    · obtain ⟨g, I2, K⟩ := lw_step (xs := xs) hL q I
      obtain ⟨h', R, I3⟩ := ih (i + 6) g (by omega) (by omega) I2
      exact ⟨h', K _ _ (lw_next R), I3⟩
    · exact ⟨h, lw_stop hL (by omega) (by omega), I⟩
end
theorem law_run (L : Nat) (xs : Nat → Int32) (hL : L ≤ 3072) : ∃ h', Rn (L, xs) lawM 0 (enL 4 [.retAddr 5]) [] hp0 (some (.int 1)) h' ∧ zc h' ≤ 600000 ∧ zs h' ≤ 7302250 := by
  obtain ⟨h', R, I⟩ := law_loop (xs := xs) hL L 0 hI (by omega) (by omega) inv_hI
  exact ⟨h', law_pro R, inv_room I⟩
