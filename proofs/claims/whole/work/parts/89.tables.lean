/-! layAll; what both tables say of a camp of the heap -/
section
variable {sc : Nat × (Nat → Int32)} {h : Hp} {F : Nat → Nat → Int32} {G : Nat → Nat → Int64} {C : Cp} {x e n rule : Nat}
theorem la_z {r : Option Value} {h' : Hp} {x1 x2 x3 x4 : Int32} (KK : Rn sc (mtk 173) 25 [some (.ref 39), some (.int x1), some (.int x2), some (.int x3), some (.int x4), some (.int (nI 216))] [] (wIJ (nh h) F (flG 47 (fun _ => 0) G 216)) r h') : ∀ (d i : Nat), i + d = 216 → Rn sc (mtk 173) 3 [some (.ref 39), some (.int x1), some (.int x2), some (.int x3), some (.int x4), some (.int (nI i))] [] (wIJ (nh h) F (flG 47 (fun _ => 0) G i)) r h' := by
  intro d
  induction d with
  | zero =>
    intro i hi
    obtain rfl : i = 216 := by omega
    refine bk_sound (cuts := [25]) 20 _ _ _ _ ?_
    refine br_t (by decide) ?_
    exact KK
  | succ d ih =>
    intro i hi
    have R := ih (i + 1) (by omega)
    rw [← nI_1 i, ← flG_s] at R
    refine bk_sound (cuts := [3]) 20 _ _ _ _ ?_
    refine br_f (show ¬ 216 ≤ nI i from nI_ge (a := i) (b := 216) (by omega) (by omega)) ?_
    refine And.intro rfl ?_
    refine And.intro (⟨rfl, inB_nI (n := 216) (by omega) (by decide)⟩) ?_
    rw [nI_clamp (by omega)]
    exact R
theorem la_d (hs : Shp h) (K : MK F C x) (hr : rule ≤ 3) (he : e ≤ 1) (hn : n ≤ 12) : ∀ (d m : Nat) (G1 : Nat → Nat → Int64), m + d = n → (∀ i, i < 6 ^ qS C → G1 47 i = lN (Vd C rule e n m (dgN (qS C) T6 Z6 i))) → (m ≠ 0 → ∀ i, i < 6 ^ qS C → G1 48 i = lN (10 * (Kd C rule e n (m - 1) (dgN (qS C) T6 Z6 i)).1 + (Kd C rule e n (m - 1) (dgN (qS C) T6 Z6 i)).2)) → ∃ G2, Rn sc (mtk 173) 28 [some (.ref 39), some (.int (nI x)), some (.int (nI rule)), some (.int (nI n)), some (.int (nI e)), some (.int (nI d))] [] (wIJ (nh h) F G1) none (wIJ (nh h) F G2) ∧ (∀ a, a ≠ 47 → a ≠ 48 → a ≠ 49 → a ≠ 50 → G2 a = G1 a) ∧ (∀ i, i < 6 ^ qS C → G2 47 i = lN (Vd C rule e n n (dgN (qS C) T6 Z6 i))) ∧ (n ≠ 0 → ∀ i, i < 6 ^ qS C → G2 48 i = lN (10 * (Kd C rule e n (n - 1) (dgN (qS C) T6 Z6 i)).1 + (Kd C rule e n (n - 1) (dgN (qS C) T6 Z6 i)).2)) := by
  intro d
  obtain ⟨k1, k2, k3, k4, k5, k6, k7⟩ := id K
  induction d with
  | zero =>
    intro m G1 hm g1 g2
    obtain rfl : m = n := by omega
    refine ⟨G1, ?_, fun _ _ _ _ _ => rfl, g1, g2⟩
    refine bk_sound (cuts := []) 20 _ _ _ _ ?_
    refine br_t (by decide) ?_
    exact ⟨trivial, rfl, rfl⟩
  | succ d ih =>
    intro m G1 hm g1 g2
    have bd := Vd_le (C := C) (rule := rule) (e := e) (n := n) k2.2.1 (fun k hk => (k7 k hk).1) (fun s w h1 h2 => (k6 s w h1 h2).1) m
    obtain ⟨G2, C2, y1, y2⟩ := c_layDay (sc := sc) (h := h) (F := F) (G := G1) (C := C) (x := x) (day := d + 1) (e := e) (B := 27000000 * m) (N := 6 ^ qS C) (rule := rule) (f := Vd C rule e n m) hs K rfl hr he (by omega) (by omega) bd g1
    have ed : n - m = d + 1 := by omega
    obtain ⟨G3, R, z1, z2, z3⟩ := ih (m + 1) G2 (by omega) (fun i hi => by
      obtain ⟨y, e1, e2, e3⟩ := y2 i hi
      rw [e2, ← e1]
      show _ = lN (outA (dayF (trC rule) rule (canD C rule (dgN (qS C) T6 Z6 i)) (fun k z => vlK C e (n - m) (Vd C rule e n m) k z (dgN (qS C) T6 Z6 i)) (lrR C rule) none)).1
      rw [ed]) (fun _ i hi => by
      obtain ⟨y, e1, e2, e3⟩ := y2 i hi
      rw [e3, ← e1, Nat.add_sub_cancel]
      unfold Kd
      rw [ed])
    refine ⟨G3, ?_, fun a h1 h2 h3 h4 => (z1 a h1 h2 h3 h4).trans (y1 a h1 h2 h3 h4), z2, z3⟩
    rw [show nI d = nI (d + 1) + Int32.ofInt (-1) by rw [← i_dec, nI_pred]] at R
    refine bk_sound (cuts := [28]) 20 _ _ _ _ ?_
    refine br_f (show ¬ nI (d + 1) ≤ 0 from nI_ge (a := 0) (b := d + 1) (by omega) (by omega)) ?_
    refine br_t (fun z => by have := (nI_eq (a := rule) (b := 4) (by omega) (by omega)).mp z; omega) ?_
    refine And.intro ⟨rfl, rfl⟩ (And.intro rfl (Exists.intro _ (Exists.intro _ (And.intro (C2) ?_))))
    exact R
theorem c_layAll (hs : Shp h) (K : MK F C x) (hr : rule ≤ 3) (he : e ≤ 1) (hn1 : 1 ≤ n) (hn : n ≤ 12) : ∃ G2, Cc sc 173 [.ref 39, .int (nI x), .int (nI rule), .int (nI n), .int (nI e)] (wIJ (nh h) F G) none (wIJ (nh h) F G2) ∧ (∀ a, a ≠ 47 → a ≠ 48 → a ≠ 49 → a ≠ 50 → G2 a = G a) ∧ (∀ i, i < 6 ^ qS C → G2 47 i = lN (Vd C rule e n n (dgN (qS C) T6 Z6 i))) ∧ (∀ i, i < 6 ^ qS C → G2 48 i = lN (10 * (Kd C rule e n (n - 1) (dgN (qS C) T6 Z6 i)).1 + (Kd C rule e n (n - 1) (dgN (qS C) T6 Z6 i)).2)) := by
  obtain ⟨k1, k2, k3, k4, k5, k6, k7⟩ := id K
  have n216 := six_b (S := qS C) k2.2.2.2.1
  obtain ⟨G2, R, z1, z2, z3⟩ := la_d (sc := sc) (h := h) (F := F) (C := C) (x := x) (rule := rule) (e := e) (n := n) hs K hr he hn n 0 (flG 47 (fun _ => 0) G 216) (by omega) (fun i hi => if_pos ⟨rfl, by omega⟩) (fun z => absurd rfl z)
  refine ⟨G2, ?_, fun a h1 h2 h3 h4 => ?_, z2, z3 (by omega)⟩
  · have L := la_z (sc := sc) (h := h) (F := F) (G := G) (x1 := nI x) (x2 := nI rule) (x3 := nI n) (x4 := nI e) (r := none) (h' := wIJ (nh h) F G2) (by
      refine bk_sound (cuts := [28]) 20 _ _ _ _ ?_
      exact R) 216 0 rfl
    rw [flG_0] at L
    refine cc_cut [3] 20 rfl rfl ?_
    exact L
  · rw [z1 a h1 h2 h3 h4]
    funext j
    exact if_neg (fun z => h1 z.1)
theorem la_l (hs : Shp h) (K : MK F C x) (he : e ≤ 1) (hn : n ≤ 12) : ∀ (d m : Nat) (G1 : Nat → Nat → Int64), m + d = n → (∀ i, i < 5 → G1 47 i = lN (Ln C e m i)) → ∃ G2, Rn sc (mtk 173) 28 [some (.ref 39), some (.int (nI x)), some (.int (nI 4)), some (.int (nI n)), some (.int (nI e)), some (.int (nI d))] [] (wIJ (nh h) F G1) none (wIJ (nh h) F G2) ∧ (∀ a, a ≠ 47 → a ≠ 49 → G2 a = G1 a) ∧ ∀ i, i < 5 → G2 47 i = lN (Ln C e n i) := by
  intro d
  obtain ⟨k1, k2, k3, k4, k5, k6, k7⟩ := id K
  induction d with
  | zero =>
    intro m G1 hm g1
    obtain rfl : m = n := by omega
    refine ⟨G1, ?_, fun _ _ _ => rfl, g1⟩
    refine bk_sound (cuts := []) 20 _ _ _ _ ?_
    refine br_t (by decide) ?_
    exact ⟨trivial, rfl, rfl⟩
  | succ d ih =>
    intro m G1 hm g1
    have lb := Ln_le (C := C) (e := e) (fun s hs => (k6 s 1 hs (by decide)).1) (fun k hk => (k7 k hk).1) m
    obtain ⟨G2, C2, y1, y2⟩ := c_layLone (sc := sc) (h := h) (F := F) (G := G1) (C := C) (x := x) (e := e) (B := 27000000 * m) (ff := Ln C e m) hs K he (by omega) lb g1
    obtain ⟨G3, R, z1, z2⟩ := ih (m + 1) G2 (by omega) (fun i hi => y2 i hi)
    refine ⟨G3, ?_, fun a h1 h2 => (z1 a h1 h2).trans (y1 a h1 h2), z2⟩
    rw [show nI d = nI (d + 1) + Int32.ofInt (-1) by rw [← i_dec, nI_pred]] at R
    refine bk_sound (cuts := [28]) 20 _ _ _ _ ?_
    refine br_f (show ¬ nI (d + 1) ≤ 0 from nI_ge (a := 0) (b := d + 1) (by omega) (by omega)) ?_
    refine br_f (fun z => z rfl) ?_
    refine And.intro ⟨rfl, rfl⟩ (And.intro rfl (Exists.intro _ (Exists.intro _ (And.intro (C2) ?_))))
    exact R
theorem c_layAll4 (hs : Shp h) (K : MK F C x) (he : e ≤ 1) (hn : n ≤ 12) : ∃ G2, Cc sc 173 [.ref 39, .int (nI x), .int (nI 4), .int (nI n), .int (nI e)] (wIJ (nh h) F G) none (wIJ (nh h) F G2) ∧ (∀ a, a ≠ 47 → a ≠ 49 → G2 a = G a) ∧ ∀ i, i < 5 → G2 47 i = lN (Ln C e n i) := by
  obtain ⟨G2, R, z1, z2⟩ := la_l (sc := sc) (h := h) (F := F) (C := C) (x := x) (e := e) (n := n) hs K he hn n 0 (flG 47 (fun _ => 0) G 216) (by omega) (fun i hi => if_pos ⟨rfl, by omega⟩)
  refine ⟨G2, ?_, fun a h1 h2 => ?_, z2⟩
  · have L := la_z (sc := sc) (h := h) (F := F) (G := G) (x1 := nI x) (x2 := nI 4) (x3 := nI n) (x4 := nI e) (r := none) (h' := wIJ (nh h) F G2) (by
      refine bk_sound (cuts := [28]) 20 _ _ _ _ ?_
      exact R) 216 0 rfl
    rw [flG_0] at L
    refine cc_cut [3] 20 rfl rfl ?_
    exact L
  · rw [z1 a h1 h2]
    funext j
    exact if_neg (fun z => h1 z.1)
theorem c_isDay (n : Int32) : Cc sc 128 [.int n] h (some (.int (bI (decide (1 ≤ n.toInt ∧ n.toInt ≤ 12))))) h := by
  refine cc_of 20 rfl rfl ?_
  by_cases q1 : n.toInt < 1
  · refine br_t (show n < 1 by first | assumption | (simp (discharger := omega) only [i_lt, i_le, i_eq, bI_tz, decide_eq_false_iff_not, Int32.reduceToInt, nI_toInt, tm1, tm2, tm3, tm4, tm9]; done) | (simp (discharger := omega) only [i_lt, i_le, i_eq, bI_tz, decide_eq_false_iff_not, Int32.reduceToInt, nI_toInt, tm1, tm2, tm3, tm4, tm9]; omega) | omega) ?_
    exact ⟨Or.inr ⟨rfl, Or.inl rfl⟩, by rw [bI_eq (by omega)], rfl⟩
  · refine br_f (show ¬ (n < 1) by first | assumption | (simp (discharger := omega) only [i_lt, i_le, i_eq, bI_tz, decide_eq_false_iff_not, Int32.reduceToInt, nI_toInt, tm1, tm2, tm3, tm4, tm9]; done) | (simp (discharger := omega) only [i_lt, i_le, i_eq, bI_tz, decide_eq_false_iff_not, Int32.reduceToInt, nI_toInt, tm1, tm2, tm3, tm4, tm9]; omega) | omega) ?_
    by_cases q2 : 12 < n.toInt
    · refine br_t (show 12 < n by first | assumption | (simp (discharger := omega) only [i_lt, i_le, i_eq, bI_tz, decide_eq_false_iff_not, Int32.reduceToInt, nI_toInt, tm1, tm2, tm3, tm4, tm9]; done) | (simp (discharger := omega) only [i_lt, i_le, i_eq, bI_tz, decide_eq_false_iff_not, Int32.reduceToInt, nI_toInt, tm1, tm2, tm3, tm4, tm9]; omega) | omega) ?_
      exact ⟨Or.inr ⟨rfl, Or.inl rfl⟩, by rw [bI_eq (by omega)], rfl⟩
    · refine br_f (show ¬ (12 < n) by first | assumption | (simp (discharger := omega) only [i_lt, i_le, i_eq, bI_tz, decide_eq_false_iff_not, Int32.reduceToInt, nI_toInt, tm1, tm2, tm3, tm4, tm9]; done) | (simp (discharger := omega) only [i_lt, i_le, i_eq, bI_tz, decide_eq_false_iff_not, Int32.reduceToInt, nI_toInt, tm1, tm2, tm3, tm4, tm9]; omega) | omega) ?_
      exact ⟨Or.inr ⟨rfl, Or.inr rfl⟩, by rw [decide_eq_true (by omega)]; rfl, rfl⟩
theorem c_isSpan (n : Int32) : Cc sc 174 [.int n] h (some (.int (bI (decide (1 ≤ n.toInt ∧ n.toInt ≤ 12))))) h := by
  refine cc_of 20 rfl rfl ?_
  refine And.intro rfl (And.intro rfl (Exists.intro _ (Exists.intro _ (And.intro (c_inMN n (l := 1) (m := 12) (n0 := 1) (n := 12) (by decide) (by decide)) ?_))))
  exact ⟨Or.inr ⟨rfl, bI_01 _⟩, rfl, rfl⟩
end
/-- a camp of the heap -/
def cpO (h : Hp) (j : Nat) : Cp := (cS h j, cL h j, cP h j, fun s w => if s < 3 ∧ w < 5 then cV h j s w else 0, fun k => if k < 5 then cB h j k else 0)
theorem cpV {h : Hp} {j s w : Nat} (h1 : s < 3) (h2 : w < 5) : qV (cpO h j) s w = cV h j s w := if_pos ⟨h1, h2⟩
theorem cpB {h : Hp} {j k : Nat} (h1 : k < 5) : qB (cpO h j) k = cB h j k := if_pos h1
theorem CD.ck {h : Hp} {j c nb br : Nat} (D : CD h j c nb br) : CK h (cpO h j) c nb br := by
  have b := D.B
  obtain ⟨d1, d2, d3, d4, d5, d6, d7, d8, d9, d10, d11, d12, d13, d14, d15, d16, d17, d18, d19, d20, d21, d22, d23, d24, d25⟩ := D
  refine ⟨d4, d5, d6, d8, d2, d3, d9, d10, d11, d12, b, d18, d20, d22, fun s w h1 h2 => ?_, fun k hk => ?_⟩
  · have h1 : s < cS h j := h1
    rw [cpV (by omega) h2]
    exact ⟨(d24 s w h1 h2).1, (d24 s w h1 h2).2.1, (d24 s w h1 h2).2.2.1⟩
  · have hk : k ≤ cL h j := hk
    rw [cpB (by omega)]
    exact ⟨(d25 k hk).1, (d25 k hk).2.1, (d25 k hk).2.2.1⟩
theorem CD.mk' {h : Hp} {j c nb br : Nat} (D : CD h j c nb br) (hj : j < 3) : MK (zI h) (cpO h j) j := by
  have b := D.B
  obtain ⟨d1, d2, d3, d4, d5, d6, d7, d8, d9, d10, d11, d12, d13, d14, d15, d16, d17, d18, d19, d20, d21, d22, d23, d24, d25⟩ := D
  refine ⟨hj, b, d19, d21, d23, fun s w h1 h2 => ?_, fun k hk => ?_⟩
  · have h1 : s < cS h j := h1
    rw [cpV (by omega) h2]
    have := mxW_le w
    exact ⟨by have := (d24 s w h1 h2).2.1; omega, (d24 s w h1 h2).2.2.2⟩
  · have hk : k ≤ cL h j := hk
    rw [cpB (by omega)]
    exact ⟨(d25 k hk).1, (d25 k hk).2.1, (d25 k hk).2.2.2⟩
theorem cpO_congr {h g : Hp} {j : Nat} (e0 : zI g 40 j = zI h 40 j) (e1 : zI g 41 j = zI h 41 j) (e2 : zI g 42 j = zI h 42 j) (e3 : ∀ k, k < 5 → zI g 43 (5 * j + k) = zI h 43 (5 * j + k)) (e4 : ∀ k, k < 15 → zI g 44 (15 * j + k) = zI h 44 (15 * j + k)) : cpO g j = cpO h j := by
  unfold cpO cS cL cP cV cB
  rw [e0, e1, e2]
  have a : (fun s w => if s < 3 ∧ w < 5 then (zI g 44 (15 * j + 5 * s + w)).toNatClampNeg else 0) = (fun s w => if s < 3 ∧ w < 5 then (zI h 44 (15 * j + 5 * s + w)).toNatClampNeg else 0) := by
    funext s w
    by_cases q : s < 3 ∧ w < 5
    · rw [if_pos q, if_pos q, show 15 * j + 5 * s + w = 15 * j + (5 * s + w) by omega, e4 _ (by omega)]
    · rw [if_neg q, if_neg q]
  have b : (fun k => if k < 5 then (zI g 43 (5 * j + k)).toNatClampNeg else 0) = (fun k => if k < 5 then (zI h 43 (5 * j + k)).toNatClampNeg else 0) := by
    funext k
    by_cases q : k < 5
    · rw [if_pos q, if_pos q, e3 k q]
    · rw [if_neg q, if_neg q]
  rw [a, b]
def OutI (h : Hp) : Prop := zA h 6 0 = 0 ∨ ∃ j rule n e sp, j < (zI h 1 1).toNatClampNeg ∧ zA h 6 0 = zA h 2 j ∧ TabOK (cpO h j) rule n e sp (zI h) (zJ h)
theorem TabOK_congr {C : Cp} {rule n e sp : Nat} {F F' : Nat → Nat → Int32} {G G' : Nat → Nat → Int64} (e6 : F' 6 = F 6) (e7 : F' 7 = F 7) (e8 : F' 8 = F 8) (e11 : F' 11 = F 11) (e10 : G' 10 = G 10) (T : TabOK C rule n e sp F G) : TabOK C rule n e sp F' G' := by
  unfold TabOK SZ
  rw [e6, e7, e8, e11, e10]
  exact T
theorem OutI_kp {h g : Hp} (O : OutI h) (k : KpO h g ∨ zA g 6 0 = 0) : OutI g := by
  rcases k with k | k
  · obtain ⟨k1, k2, k3, k4, k5⟩ := k
    rcases O with O | ⟨j, rule, n, e, sp, o1, o2, o3⟩
    · exact Or.inl (by rw [k1]; exact O)
    · obtain ⟨x1, x2, x3, x4, x5, x6⟩ := k5 j o1
      refine Or.inr ⟨j, rule, n, e, sp, by omega, by rw [k1, x1]; exact o2, ?_⟩
      rw [cpO_congr x2 x3 x4 x5 x6]
      exact TabOK_congr (k2 6 (by omega)) (k2 7 (by omega)) (k2 8 (by omega)) (k2 11 (by omega)) k3 o3
  · exact Or.inl k
/-- between a heap and one in which only tables are other -/
def Mid (h g : Hp) : Prop := Shp g ∧ BF h g ∧ OutI g ∧ zI g 15 6 = zI h 15 6 ∧ zI g 19 = zI h 19 ∧ zI g 20 = zI h 20
theorem Mid.trans {h g f : Hp} (a : Mid h g) (b : Mid g f) : Mid h f := ⟨b.1, a.2.1.trans b.2.1, b.2.2.1, b.2.2.2.1.trans a.2.2.2.1, b.2.2.2.2.1.trans a.2.2.2.2.1, b.2.2.2.2.2.trans a.2.2.2.2.2⟩
theorem Mid.sim {h g : Hp} (a : Mid h g) (hS : Sim0 h) : Sim0 g := a.2.1.sim a.1 hS
theorem Mid.kpW {h g : Hp} (a : Mid h g) : KpW h g := by
  have I : ∀ a j, ¬ Scr a j → zI g a j = zI h a j := a.2.1.2.2.2.2
  refine Or.inr ⟨a.2.2.2.1, I 15 1 (by unfold Scr; omega), I 39 18 (by unfold Scr; omega), fun x hx => ?_⟩
  rcases hx with rfl | rfl | rfl | rfl | rfl | rfl | rfl | rfl
  · exact a.2.2.2.2.1
  · exact a.2.2.2.2.2
  all_goals exact a.2.1.row (fun j => by unfold Scr; omega)
def HM (g : Hp) (C : Cp) (j c nc : Nat) : Prop := Sim0 g ∧ OutI g ∧ nc ≤ 3 ∧ zI g 1 1 = nI nc ∧ zI g 39 1 = nI nc ∧ j < nc ∧ cpO g j = C ∧ zA g 2 j = c
theorem HM.cd {g : Hp} {C : Cp} {j c nc : Nat} (H : HM g C j c nc) : ∃ nb br, CD g j c nb br := by
  obtain ⟨h1, h2, h3, h4, h5, h6, h7, h8⟩ := H
  obtain ⟨nc', d1, d2, d3, d4, d5⟩ := h1.2.2.2.1
  have : nc' = nc := (nI_eq (by omega) (by omega)).mp (d2.symm.trans h4)
  subst this
  obtain ⟨c', nb, br, D⟩ := (d4 j h6).cd
  have : c' = c := D.A.1.symm.trans h8
  subst this
  exact ⟨nb, br, D⟩
theorem HM.mid {h g : Hp} {C : Cp} {j c nc : Nat} (H : HM h C j c nc) (m : Mid h g) : HM g C j c nc := by
  obtain ⟨h1, h2, h3, h4, h5, h6, h7, h8⟩ := H
  have I : ∀ a j, ¬ Scr a j → zI g a j = zI h a j := m.2.1.2.2.2.2
  refine ⟨m.sim h1, m.2.2.1, h3, by rw [I 1 1 (by unfold Scr; omega)]; exact h4, by rw [I 39 1 (by unfold Scr; omega)]; exact h5, h6, ?_, by rw [m.2.1.2.2.2.1 2 (by decide) (by decide) (by decide)]; exact h8⟩
  rw [cpO_congr (I 40 j (by unfold Scr; omega)) (I 41 j (by unfold Scr; omega)) (I 42 j (by unfold Scr; omega)) (fun k _ => I 43 _ (by unfold Scr; omega)) (fun k _ => I 44 _ (by unfold Scr; omega))]
  exact h7
section
variable {sc : Nat × (Nat → Int32)} {h : Hp} {C : Cp} {j c nc n rule e : Nat}
theorem HM.k {h : Hp} (H : HM h C j c nc) : ∃ nb br, CK h C c nb br ∧ MK (zI h) C j ∧ 65 ≤ c := by
  obtain ⟨nb, br, D⟩ := H.cd
  have hj : j < 3 := by have := H.2.2.1; have := H.2.2.2.2.2.1; omega
  have e := H.2.2.2.2.2.2.1
  exact ⟨nb, br, by rw [← e]; exact D.ck, by rw [← e]; exact D.mk' hj, D.A.2.2.2.1⟩
theorem HM.look (H : HM h C j c nc) {s0 : Nat} (hn1 : 1 ≤ n) (hn : n ≤ 12) (hr : rule ≤ 3) (he : e ≤ 1) (hs0 : s0 ≤ 5) : ∃ F G sp, Cc sc 19 [.ref 6, .ref c, .int (nI rule), .int (nI n), .int (nI e), .int (nI s0)] h none (wIJ (upA h 6 0 c) F G) ∧ s0 ≤ sp ∧ TabOK C rule n e sp F G ∧ Hi (upA h 6 0 c) F ∧ Mid h (wIJ (upA h 6 0 c) F G) := by
  obtain ⟨nb, br, K, M, c65⟩ := H.k
  obtain ⟨h1, h2, h3, h4, h5, h6, h7, h8⟩ := id H
  have hs := h1.1
  obtain ⟨F, G, sp, C1, l1, l2, l3⟩ := c_look (sc := sc) (s0 := s0) (rule := rule) (n := n) (e := e) hs K hn1 hn hr he hs0 (fun z => by
    rcases h2 with o | ⟨j', rule0, n0, e0, sp0, o1, o2, o3⟩
    · omega
    · obtain ⟨nc', d1, d2, d3, d4, d5⟩ := h1.2.2.2.1
      have : nc' = nc := (nI_eq (by omega) (by omega)).mp (d2.symm.trans h4)
      subst this
      rw [h4, nI_clamp (by omega)] at o1
      have : j' = j := Decidable.not_not.mp fun q => (d5 j' j o1 h6 q).1 (o2.symm.trans (z.trans h8.symm))
      subst this
      rw [h7] at o3
      exact ⟨rule0, n0, e0, sp0, o3⟩)
  have b : BF h (wIJ (upA h 6 0 c) F G) := ⟨rfl, rfl, rfl, fun a _ h2 _ => va_up_ne _ _ h2, fun a i hn => by
    show F a i = zI h a i
    rw [l2.1 a (fun z => hn (by unfold Scr; omega)) (fun z => hn (by unfold Scr; omega)) (fun z => hn (by unfold Scr; omega)) (fun z => hn (by unfold Scr; omega)) (fun z => hn (by unfold Scr; omega))]⟩
  refine ⟨F, G, sp, C1, l1, l3, fun a ha => l2.1 a (by omega) (by omega) (by omega) (by omega) (by omega), shp_6 hs c, b, Or.inr ⟨j, rule, n, e, sp, ?_, ?_, ?_⟩, ?_, ?_, ?_⟩
  · show j < (F 1 1).toNatClampNeg
    rw [l2.1 1 (by decide) (by decide) (by decide) (by decide) (by decide), h4, nI_clamp (by omega)]
    exact h6
  · show va_up (zA h) 6 (va_up (zA h 6) 0 c) 6 0 = va_up (zA h) 6 (va_up (zA h 6) 0 c) 2 j
    rw [va_up_self, va_up_self, va_up_ne _ _ (by decide), h8]
  · have I : ∀ a j, ¬ Scr a j → zI (wIJ (upA h 6 0 c) F G) a j = zI h a j := b.2.2.2.2
    rw [cpO_congr (I 40 j (by unfold Scr; omega)) (I 41 j (by unfold Scr; omega)) (I 42 j (by unfold Scr; omega)) (fun k _ => I 43 _ (by unfold Scr; omega)) (fun k _ => I 44 _ (by unfold Scr; omega)), h7]
    exact l3
  · show F 15 6 = _
    rw [l2.1 15 (by decide) (by decide) (by decide) (by decide) (by decide)]
  · exact l2.1 19 (by decide) (by decide) (by decide) (by decide) (by decide)
  · exact l2.1 20 (by decide) (by decide) (by decide) (by decide) (by decide)
/-- the model's tables leave all as it was -/
theorem mid_J {G : Nat → Nat → Int64} (H : HM h C j c nc) (g : ∀ a, a ≠ 47 → a ≠ 48 → a ≠ 49 → a ≠ 50 → G a = zJ h a) : Mid h (wIJ (nh h) (zI h) G) := by
  have hs := H.1.1
  rw [nh_eq hs]
  refine ⟨hs, ⟨rfl, rfl, rfl, fun _ _ _ _ => rfl, fun _ _ _ => rfl⟩, ?_, rfl, rfl, rfl⟩
  rcases H.2.1 with o | ⟨j', rule, n, e, sp, o1, o2, o3⟩
  · exact Or.inl o
  · exact Or.inr ⟨j', rule, n, e, sp, o1, o2, TabOK_congr (F := zI h) (G := zJ h) rfl rfl rfl rfl (g 10 (by decide) (by decide) (by decide) (by decide)) o3⟩
theorem HM.all (H : HM h C j c nc) (hn1 : 1 ≤ n) (hn : n ≤ 12) (hr : rule ≤ 3) (he : e ≤ 1) : ∃ G, Cc sc 173 [.ref 39, .int (nI j), .int (nI rule), .int (nI n), .int (nI e)] h none (wIJ (nh h) (zI h) G) ∧ Mid h (wIJ (nh h) (zI h) G) ∧ (∀ i, i < 6 ^ qS C → G 47 i = lN (Vd C rule e n n (dgN (qS C) T6 Z6 i))) ∧ (∀ i, i < 6 ^ qS C → G 48 i = lN (10 * (Kd C rule e n (n - 1) (dgN (qS C) T6 Z6 i)).1 + (Kd C rule e n (n - 1) (dgN (qS C) T6 Z6 i)).2)) := by
  obtain ⟨nb, br, K, M, c65⟩ := H.k
  obtain ⟨G, C1, g1, g2, g3⟩ := c_layAll (sc := sc) (h := h) (F := zI h) (G := zJ h) (C := C) (x := j) (rule := rule) (e := e) (n := n) H.1.1 M hr he hn1 hn
  rw [wIJ_id, nh_eq H.1.1] at C1
  refine ⟨G, ?_, mid_J H g1, g2, g3⟩
  rw [nh_eq H.1.1]
  exact C1
/-- the model's number of what there is now -/
theorem HM.st (H : HM h C j c nc) : Cc sc 160 [.ref 39, .int (nI j)] h (some (.int (nI (ixN T6 (g0C C) (qS C))))) h ∧ ixN T6 (g0C C) (qS C) < 6 ^ qS C ∧ dgN (qS C) T6 Z6 (ixN T6 (g0C C) (qS C)) = g0C C := by
  obtain ⟨nb, br, D⟩ := H.cd
  have e := H.2.2.2.2.2.2.1
  have b := D.B
  have hj : j < 3 := by have := H.2.2.1; have := H.2.2.2.2.2.1; omega
  have S1 : 1 ≤ qS C := by rw [← e]; exact b.2.2.1
  have S3 : qS C ≤ 3 := by rw [← e]; exact b.2.2.2.1
  have vq : ∀ s, s < qS C → qV C s 0 < 6 := fun s hs => by
    rw [← e] at hs ⊢
    rw [cpV (by have : s < cS h j := hs; omega) (by decide)]
    exact D.g6 hs
  obtain ⟨o1, o2⟩ := (NS_m S1 S3).of (g := g0C C) (fun s hs => by unfold g0C; rw [if_pos hs]; exact vq s hs) (fun s hs => if_neg (by omega))
  refine ⟨?_, o1, o2⟩
  have cs := c_stateOf (sc := sc) D H.1.1 hj
  have es : stO h j = ixN T6 (g0C C) (qS C) := by
    unfold stO
    rw [stF_ix b.2.2.2.1]
    rw [← e]
    refine ixN_congr _ (fun s hs => ?_)
    unfold g0C
    rw [if_pos (show s < qS (cpO h j) from hs), cpV (by omega) (by decide)]
  rw [es] at cs
  exact cs
end
