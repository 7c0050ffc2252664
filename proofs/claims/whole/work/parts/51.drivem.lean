section
variable {sc : Nat × (Nat → Int32)} {h : Hp}
def gR (h : Hp) (c : Nat → Int32) (i : Nat) : Nat → Nat → Int32
  | 0 => zI h 54
  | x + 1 => if dRun h x then upd (gR h c i x) (dPl h x) (bI (!dBrk h c i x)) else gR h c i x
theorem drive_loop1 (hs : Shp h) {s from' : Nat} {k lane i n r : Value} (hs16 : s < 16) (hf : from' + 3 * bc s ≤ 240) {rr : Option Value} {g : Hp} {b0 : Bool} (H : ∀ v : Option Value, Rn sc (mtk 205) 99 [some (.ref 39), some k, some lane, some i, some n, some r, some (.int (nI s)), some (.int (nI from')), some (.int (bI b0)), v, none, none, none] [] (nh h) rr g) : ∀ (d x : Nat) (b : Bool), x + d = 3 * bc s → (b && allF (drw (zI h 63)) (from' + x) d) = b0 → Rn sc (mtk 205) 56 [some (.ref 39), some k, some lane, some i, some n, some r, some (.int (nI s)), some (.int (nI from')), some (.int (bI b)), some (.int (nI x)), none, none, none] [] (nh h) rr g := by
  intro d
  have hb : bc s ≤ 4 := by unfold bc; omega
  have e3 : (3 : Int32) * nI (bc s) = nI (3 * bc s) := pk_mul 3 (bc s)
  induction d with
  | zero =>
    intro x b hx hb0
    refine bk_sound (cuts := [99]) 20 _ _ _ _ ?_
    refine And.intro rfl (And.intro rfl (Exists.intro _ (Exists.intro _ (And.intro (c_bits hs16) ?_))))
    refine br_t (show (3 : Int32) * nI (bc s) ≤ nI x by rw [e3]; exact nI_le (by omega) (by omega)) ?_
    rw [show allF (drw (zI h 63)) (from' + x) 0 = true from rfl, Bool.and_true] at hb0
    rw [hb0]
    exact H _
  | succ d ih =>
    intro x b hx hb0
    refine bk_sound (cuts := [56, 99]) 30 _ _ _ _ ?_
    refine And.intro rfl (And.intro rfl (Exists.intro _ (Exists.intro _ (And.intro (c_bits hs16) ?_))))
    refine br_f (show ¬ (3 : Int32) * nI (bc s) ≤ nI x by rw [e3]; exact nI_ge (by omega) (by omega)) ?_
    cases b with
    | false =>
      refine br_t (by rfl) ?_
      rw [Bool.false_and] at hb0
      subst hb0
      exact H _
    | true =>
      refine br_f (by decide) ?_
      refine And.intro rfl ?_
      have ei : nI from' + nI x = nI (from' + x) := nI_add _ _
      refine And.intro (⟨rfl, by rw [ei]; exact inB_nI (n := 240) (by omega) (by decide)⟩) ?_
      rw [ei, nI_clamp (by omega)]
      refine And.intro rfl (And.intro rfl (Exists.intro _ (Exists.intro _ (And.intro (c_inN _ (m := 11) (n := 11) (by decide)) ?_))))
      have := ih (x + 1) (drw (zI h 63) (from' + x)) (by omega) (by rw [← hb0, Bool.true_and, allF, Nat.add_assoc])
      rw [← nI_1] at this
      have e : (decide (0 ≤ (zI h 63 (from' + x)).toInt ∧ (zI h 63 (from' + x)).toInt < 11 + 1)) = drw (zI h 63) (from' + x) := by
        unfold drw
        rw [← Bool.decide_and]
        rfl
      rw [← e] at this
      exact this
theorem drive_loop2 (hs : Shp h) (hP : PlM h) {from' : Nat} {k lane i n r : Value} {b8 : Int32} (hf : from' + 3 * bc (rs (okL h) 4) ≤ 240) (hso : ∀ x, x < 12 → dRun h x = true → ∃ st, st < 3 ∧ zI h 52 (dPl h x) = nI st) : ∀ (d x : Nat) (o : Option Value), x + d = 12 → Rn sc (mtk 205) 120 [some (.ref 39), some k, some lane, some i, some n, some r, some (.int (nI (rs (okL h) 4))), some (.int (nI from')), some (.int b8), some (.int (nI (cN (okL h) x))), some (.int (nI (bN (fun x => dRun h x && dBrk h (zI h 63) from' x) x))), some (.int (nI x)), o] [] (rwI (nh h) 54 (gR h (zI h 63) from' x)) (some (.int (nI (bN (fun x => dRun h x && dBrk h (zI h 63) from' x) 12)))) (upI (rwI (nh h) 54 (gR h (zI h 63) from' 12)) 39 0 0) := by
  intro d
  have s16 : rs (okL h) 4 < 16 := rs_lt _ 4
  induction d with
  | zero =>
    intro x o hx
    refine bk_sound (cuts := []) 20 _ _ _ _ ?_
    refine br_t (show 12 ≤ nI x by first | assumption | (simp (discharger := omega) only [i_lt, i_le, i_eq, bI_tz, decide_eq_false_iff_not, Int32.reduceToInt, nI_toInt, tm1, tm2, tm3, tm4, tm9]; done) | (simp (discharger := omega) only [i_lt, i_le, i_eq, bI_tz, decide_eq_false_iff_not, Int32.reduceToInt, nI_toInt, tm1, tm2, tm3, tm4, tm9]; omega) | omega) ?_
    rw [show x = 12 by omega]
    refine And.intro ⟨rfl, rfl⟩ (And.intro rfl (Exists.intro _ (Exists.intro _ (And.intro (c_refused (h := rwI (nh h) 54 (gR h (zI h 63) from' 12)) (shp_nh hs) _) ?_))))
    exact ⟨Or.inl rfl, rfl, rfl⟩
  | succ d ih =>
    intro x o hx
    have e3 : nI x / 3 = nI (x / 3) := pk_div (a := x) (d := 3) (by omega) (by decide) (by decide)
    refine bk_sound (cuts := [120]) 60 _ _ _ _ ?_
    refine br_f (show ¬ (12 ≤ nI x) by first | assumption | (simp (discharger := omega) only [i_lt, i_le, i_eq, bI_tz, decide_eq_false_iff_not, Int32.reduceToInt, nI_toInt, tm1, tm2, tm3, tm4, tm9]; done) | (simp (discharger := omega) only [i_lt, i_le, i_eq, bI_tz, decide_eq_false_iff_not, Int32.reduceToInt, nI_toInt, tm1, tm2, tm3, tm4, tm9]; omega) | omega) ?_
    refine And.intro (by decide) ?_
    rw [e3]
    refine And.intro rfl (And.intro rfl (Exists.intro _ (Exists.intro _ (And.intro (c_hasBit (u := rs (okL h) 4) (k := x / 3) (by omega) (by omega)) ?_))))
    rw [bit_rs (okL h) (by omega : x / 3 < 4)]
    cases hr : okL h (x / 3) with
    | false =>
      have g2 := ih (x + 1) o (by omega)
      rw [show cN (okL h) (x + 1) = cN (okL h) x by rw [cN, hr]; rfl, show bN (fun x => dRun h x && dBrk h (zI h 63) from' x) (x + 1) = bN (fun x => dRun h x && dBrk h (zI h 63) from' x) x by rw [bN]; simp only [dRun, hr]; rfl, show gR h (zI h 63) from' (x + 1) = gR h (zI h 63) from' x by rw [gR]; unfold dRun; rw [hr]; rfl, ← nI_1] at g2
      refine br_t (by decide) ?_
      exact g2
    | true =>
      have hrun : dRun h x = true := hr
      obtain ⟨w1, w2, w3⟩ := run_pl (np := 0) hP (by omega : x < 12) hrun
      obtain ⟨st, hst, est⟩ := hso x (by omega) hrun
      have hcn := cN_run (by omega : x < 12) hr
      rw [cN_12] at hcn
      have ip : inB (nI (dPl h x)) 12 = true := inB_nI (by omega) (by decide)
      have ep : (nI (dPl h x)).toNatClampNeg = dPl h x := nI_clamp (by omega)
      have ix : inB (nI x) 12 = true := inB_nI (by omega) (by decide)
      have ex : (nI x).toNatClampNeg = x := nI_clamp (by omega)
      have is : inB (nI st) 3 = true := inB_nI (by omega) (by decide)
      have es : (nI st).toNatClampNeg = st := nI_clamp (by omega)
      have ei : nI from' + nI (cN (okL h) x) = nI (from' + cN (okL h) x) := nI_add _ _
      have hb : dBrk h (zI h 63) from' x = decide ((zI h 63 (from' + cN (okL h) x)).toInt < (zI h 58 st).toInt) := by
        unfold dBrk
        rw [est, es]
      refine br_f (by decide) ?_
      refine And.intro rfl ?_
      refine And.intro (⟨rfl, by rw [ei]; exact inB_nI (n := 240) (by omega) (by decide)⟩) ?_
      rw [ei, nI_clamp (by omega)]
      refine And.intro rfl ?_
      refine And.intro rfl ?_
      refine And.intro rfl ?_
      refine And.intro (⟨rfl, ix⟩) ?_
      rw [ex, show zI (rwI (nh h) 54 (gR h (zI h 63) from' x)) (zA (rwI (nh h) 54 (gR h (zI h 63) from' x)) 39 25) x = nI (dPl h x) from w1]
      refine And.intro (⟨rfl, ip⟩) ?_
      rw [ep, show zI (rwI (nh h) 54 (gR h (zI h 63) from' x)) (zA (rwI (nh h) 54 (gR h (zI h 63) from' x)) 39 20) (dPl h x) = nI st from est]
      refine And.intro (⟨rfl, is⟩) ?_
      rw [es]
      have g2 := fun o => ih (x + 1) o (by omega)
      rw [show cN (okL h) (x + 1) = cN (okL h) x + 1 by rw [cN, hr]; rfl, show gR h (zI h 63) from' (x + 1) = upd (gR h (zI h 63) from' x) (dPl h x) (bI (!dBrk h (zI h 63) from' x)) by rw [gR, hrun]; rfl, ← nI_1, ← nI_1] at g2
      by_cases q : (zI h 63 (from' + cN (okL h) x)).toInt < (zI h 58 st).toInt
      · have hbt : dBrk h (zI h 63) from' x = true := by rw [hb]; exact decide_eq_true q
        rw [show bN (fun x => dRun h x && dBrk h (zI h 63) from' x) (x + 1) = bN (fun x => dRun h x && dBrk h (zI h 63) from' x) x + 1 by rw [bN]; simp only [hrun, hbt]; rfl, hbt, ← nI_1, ← upI_rwI] at g2
        refine br_f (show ¬ zI h 58 st ≤ zI h 63 (from' + cN (okL h) x) by first | assumption | (simp (discharger := omega) only [i_lt, i_le, i_eq, bI_tz, decide_eq_false_iff_not, Int32.reduceToInt, nI_toInt, tm1, tm2, tm3, tm4, tm9]; done) | (simp (discharger := omega) only [i_lt, i_le, i_eq, bI_tz, decide_eq_false_iff_not, Int32.reduceToInt, nI_toInt, tm1, tm2, tm3, tm4, tm9]; omega) | omega) ?_
        refine And.intro rfl ?_
        refine And.intro rfl ?_
        refine And.intro (⟨rfl, ix⟩) ?_
        rw [ex, show zI (rwI (nh h) 54 (gR h (zI h 63) from' x)) (zA (rwI (nh h) 54 (gR h (zI h 63) from' x)) 39 25) x = nI (dPl h x) from w1]
        refine br_t (by decide) ?_
        refine And.intro (⟨rfl, ip, Or.inl rfl⟩) ?_
        rw [ep]
        refine br_f (by decide) ?_
        exact g2 _
      · have hbt : dBrk h (zI h 63) from' x = false := by rw [hb]; exact decide_eq_false q
        rw [show bN (fun x => dRun h x && dBrk h (zI h 63) from' x) (x + 1) = bN (fun x => dRun h x && dBrk h (zI h 63) from' x) x + 0 by rw [bN]; simp only [hrun, hbt]; rfl, hbt, ← nI_add, ← upI_rwI] at g2
        refine br_t (show zI h 58 st ≤ zI h 63 (from' + cN (okL h) x) by first | assumption | (simp (discharger := omega) only [i_lt, i_le, i_eq, bI_tz, decide_eq_false_iff_not, Int32.reduceToInt, nI_toInt, tm1, tm2, tm3, tm4, tm9]; done) | (simp (discharger := omega) only [i_lt, i_le, i_eq, bI_tz, decide_eq_false_iff_not, Int32.reduceToInt, nI_toInt, tm1, tm2, tm3, tm4, tm9]; omega) | omega) ?_
        refine And.intro rfl ?_
        refine And.intro rfl ?_
        refine And.intro (⟨rfl, ix⟩) ?_
        rw [ex, show zI (rwI (nh h) 54 (gR h (zI h 63) from' x)) (zA (rwI (nh h) 54 (gR h (zI h 63) from' x)) 39 25) x = nI (dPl h x) from w1]
        refine br_f (by exact fun z => z rfl) ?_
        refine And.intro (⟨rfl, ip, Or.inr rfl⟩) ?_
        rw [ep]
        refine br_t (by rfl) ?_
        exact g2 _
theorem c_drive_m (hs : Shp h) (hP : PlM h) {k i n : Nat} {lane : Int32} (hk : k < 4) (htk : tk (zI h 61) (zI h 62) (nI k) lane (nI i) (nI n) = (0, 0)) (hin : i + n ≤ 60) (hso : ∀ x, x < 12 → dRun h x = true → ∃ st, st < 3 ∧ zI h 52 (dPl h x) = nI st) {r : Int32} {g : Hp}
  (H : (r = -2 ∧ g = upI h 39 0 0 ∧ (decide (3 * bc (rs (okL h) 4) ≤ n) && allF (drw (zI h 63)) (60 * k + i) (3 * bc (rs (okL h) 4))) = false) ∨
    (r = nI (bN (fun x => dRun h x && dBrk h (zI h 63) (60 * k + i) x) 12) ∧ g = upI (rwI h 54 (gR h (zI h 63) (60 * k + i) 12)) 39 0 0 ∧ (decide (3 * bc (rs (okL h) 4) ≤ n) && allF (drw (zI h 63)) (60 * k + i) (3 * bc (rs (okL h) 4))) = true)) :
  Cc sc 205 [.ref 39, .int (nI k), .int lane, .int (nI i), .int (nI n)] h (some (.int r)) g := by
  have s16 : rs (okL h) 4 < 16 := rs_lt _ 4
  have hb : bc (rs (okL h) 4) ≤ 4 := by unfold bc; omega
  have e3 : (3 : Int32) * nI (bc (rs (okL h) 4)) = nI (3 * bc (rs (okL h) 4)) := pk_mul 3 _
  have ei : (60 : Int32) * nI k + nI i = nI (60 * k + i) := by rw [show (60 : Int32) = nI 60 from rfl, pk_mul, nI_add]
  have hbar := c_barred (sc := sc) hs (nI k) lane (nI i) (nI n)
  rw [htk, if_pos rfl, ← nh_eq hs] at hbar
  have hruns := c_runs (sc := sc) hs hP
  rw [← nh_eq hs] at hruns
  rw [nh_eq hs] at hruns
  have eg : ∃ F : Hp → Hp, g = F h ∧ Cc sc 205 [.ref 39, .int (nI k), .int lane, .int (nI i), .int (nI n)] (nh h) (some (.int r)) (F (nh h)) := by
    have hruns' : Cc sc 197 [.ref 39] (nh h) (some (.int (nI (rs (okL h) 4)))) (nh h) := by
      rw [nh_eq hs]
      exact hruns
    rcases H with ⟨rfl, rfl, hb0⟩ | ⟨rfl, rfl, hb0⟩
    · refine ⟨fun h => upI h 39 0 0, rfl, cc_cut [56] 60 rfl rfl ?_⟩
      refine And.intro ⟨rfl, rfl⟩ (And.intro rfl (Exists.intro _ (Exists.intro _ (And.intro (hbar) ?_))))
      refine br_t (by decide) ?_
      refine And.intro ⟨rfl, rfl⟩ (And.intro rfl (Exists.intro _ (Exists.intro _ (And.intro (hruns') ?_))))
      refine And.intro rfl (And.intro rfl (Exists.intro _ (Exists.intro _ (And.intro (c_bits s16) ?_))))
      have L := drive_loop1 (sc := sc) (h := h) (s := rs (okL h) 4) (from' := 60 * k + i) (k := .int (nI k)) (lane := .int lane) (i := .int (nI i)) (n := .int (nI n)) (r := .int 0) (rr := some (.int (-2))) (g := upI (nh h) 39 0 0) (b0 := false) hs s16
      by_cases q : 3 * bc (rs (okL h) 4) ≤ n
      · have L := L (by omega) (fun v => by
          refine bk_sound (cuts := []) 20 _ _ _ _ ?_
          refine br_f (by decide) ?_
          refine And.intro ⟨rfl, rfl⟩ (And.intro rfl (Exists.intro _ (Exists.intro _ (And.intro (c_refused (h := nh h) (shp_nh hs) (-2)) ?_))))
          exact ⟨Or.inl rfl, rfl, rfl⟩) (3 * bc (rs (okL h) 4)) 0 true (by omega) (by rw [← hb0, decide_eq_true q]; rfl)
        refine br_f (show ¬ nI n < 3 * nI (bc (rs (okL h) 4)) by rw [e3]; exact nI_nlt q (by omega)) ?_
        rw [ei]
        exact L
      · refine br_t (show nI n < 3 * nI (bc (rs (okL h) 4)) by rw [e3]; exact nI_lt (by omega) (by omega)) ?_
        rw [ei]
        show Rn sc (mtk 205) 56 [some (.ref 39), some (.int (nI k)), some (.int lane), some (.int (nI i)), some (.int (nI n)), some (.int 0), some (.int (nI (rs (okL h) 4))), some (.int (nI (60 * k + i))), some (.int 0), some (.int 0), none, none, none] [] (nh h) _ _
        refine bk_sound (cuts := []) 30 _ _ _ _ ?_
        refine And.intro rfl (And.intro rfl (Exists.intro _ (Exists.intro _ (And.intro (c_bits s16) ?_))))
        by_cases q0 : (3 : Int32) * nI (bc (rs (okL h) 4)) ≤ 0
        · refine br_t q0 ?_
          refine br_f (by decide) ?_
          refine And.intro ⟨rfl, rfl⟩ (And.intro rfl (Exists.intro _ (Exists.intro _ (And.intro (c_refused (h := nh h) (shp_nh hs) (-2)) ?_))))
          exact ⟨Or.inl rfl, rfl, rfl⟩
        · refine br_f q0 ?_
          refine br_t (by rfl) ?_
          refine br_f (by decide) ?_
          refine And.intro ⟨rfl, rfl⟩ (And.intro rfl (Exists.intro _ (Exists.intro _ (And.intro (c_refused (h := nh h) (shp_nh hs) (-2)) ?_))))
          exact ⟨Or.inl rfl, rfl, rfl⟩
    · refine ⟨fun h' => upI (rwI h' 54 (gR h (zI h 63) (60 * k + i) 12)) 39 0 0, rfl, cc_cut [56] 60 rfl rfl ?_⟩
      rw [Bool.and_eq_true, decide_eq_true_iff] at hb0
      obtain ⟨q, hall⟩ := hb0
      refine And.intro ⟨rfl, rfl⟩ (And.intro rfl (Exists.intro _ (Exists.intro _ (And.intro (hbar) ?_))))
      refine br_t (by decide) ?_
      refine And.intro ⟨rfl, rfl⟩ (And.intro rfl (Exists.intro _ (Exists.intro _ (And.intro (hruns') ?_))))
      refine And.intro rfl (And.intro rfl (Exists.intro _ (Exists.intro _ (And.intro (c_bits s16) ?_))))
      have L2 := drive_loop2 (sc := sc) (h := h) (from' := 60 * k + i) (k := .int (nI k)) (lane := .int lane) (i := .int (nI i)) (n := .int (nI n)) (r := .int 0) (b8 := 1) hs hP (by omega) hso 12 0 none rfl
      rw [show rwI (nh h) 54 (gR h (zI h 63) (60 * k + i) 0) = nh h from rwI_id (nh h) 54] at L2
      have L := drive_loop1 (sc := sc) (h := h) (s := rs (okL h) 4) (from' := 60 * k + i) (k := .int (nI k)) (lane := .int lane) (i := .int (nI i)) (n := .int (nI n)) (r := .int 0) (rr := some (.int (nI (bN (fun x => dRun h x && dBrk h (zI h 63) (60 * k + i) x) 12)))) (g := upI (rwI (nh h) 54 (gR h (zI h 63) (60 * k + i) 12)) 39 0 0) (b0 := true) hs s16 (by omega) (fun v => by
          refine bk_sound (cuts := [120]) 20 _ _ _ _ ?_
          refine br_t (by decide) ?_
          exact L2) (3 * bc (rs (okL h) 4)) 0 true (by omega) (by rw [Bool.true_and]; exact hall)
      refine br_f (show ¬ nI n < 3 * nI (bc (rs (okL h) 4)) by rw [e3]; exact nI_nlt q (by omega)) ?_
      rw [ei]
      exact L
  obtain ⟨F, rfl, hF⟩ := eg
  exact cc_nh (F := F) hs hF
end
