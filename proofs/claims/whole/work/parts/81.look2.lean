/-! Outlook: look. -/
theorem Vd_le {C : Cp} {rule e n : Nat} (hL : qL C ≤ 4) (hb : ∀ k, k ≤ qL C → qB C k ≤ 9) (hv : ∀ s w, s < qS C → w < 5 → qV C s w ≤ 12) : ∀ m g, Vd C rule e n m g ≤ 27000000 * m := by
  intro m
  induction m with
  | zero => exact fun g => Nat.le_refl _
  | succ m ih =>
    intro g
    have lr : lrR C rule ≤ qL C := by unfold lrR; split <;> omega
    show (outA (dayF (trC rule) rule (canD C rule g) (fun k z => vlK C e (n - m) (Vd C rule e n m) k z g) (lrR C rule) none)).1 ≤ _
    have sm := dayF_some (tr := trC rule) (rule := rule) (can := canD C rule g) (v := fun k z => vlK C e (n - m) (Vd C rule e n m) k z g) (trC_ex rule) (lrR C rule) none (Or.inr (mnF_le _ _ _))
    cases hd : dayF (trC rule) rule (canD C rule g) (fun k z => vlK C e (n - m) (Vd C rule e n m) k z g) (lrR C rule) none with
    | none => exact absurd hd sm
    | some x =>
      have := dayF_le (tr := trC rule) (rule := rule) (can := canD C rule g) (v := fun k z => vlK C e (n - m) (Vd C rule e n m) k z g) (B := 27000000 + 27000000 * m) (lrR C rule) (fun j z hj hz => vlK_le (by omega) hz (hb j (by omega)) hv ih g) none (fun x hx => by cases hx) x hd
      show x.1 ≤ _
      omega
theorem stA_z0 {rule k z can v : Nat} {a : Ac} (hz : k = 0 → z = 0) (ha : ∀ x, a = some x → x.2.1 = 0 → x.2.2 = 0) : ∀ x, stA rule k z can v a = some x → x.2.1 = 0 → x.2.2 = 0 := by
  intro x hx
  unfold stA at hx
  split at hx
  · cases hx
    exact hz
  · exact ha x hx
theorem st2_z0 {rule k can : Nat} {v : Nat → Nat → Nat} {a : Ac} (ha : ∀ x, a = some x → x.2.1 = 0 → x.2.2 = 0) : ∀ x, st2A (trC rule) rule can v k a = some x → x.2.1 = 0 → x.2.2 = 0 := by
  have h1 : ∀ x, (if trC rule k 0 = true then stA rule k 0 can (v k 0) a else a) = some x → x.2.1 = 0 → x.2.2 = 0 := by
    split
    · exact stA_z0 (fun _ => rfl) ha
    · exact ha
  show ∀ x, (if trC rule k 1 = true then stA rule k 1 can (v k 1) (if trC rule k 0 = true then stA rule k 0 can (v k 0) a else a) else (if trC rule k 0 = true then stA rule k 0 can (v k 0) a else a)) = some x → x.2.1 = 0 → x.2.2 = 0
  by_cases q : trC rule k 1 = true
  · rw [if_pos q]
    refine stA_z0 (fun k0 => ?_) h1
    subst k0
    cases q
  · rw [if_neg q]
    exact h1
theorem dayF_z0 {rule can : Nat} {v : Nat → Nat → Nat} : ∀ k (a : Ac), (∀ x, a = some x → x.2.1 = 0 → x.2.2 = 0) → ∀ x, dayF (trC rule) rule can v k a = some x → x.2.1 = 0 → x.2.2 = 0 := by
  intro k
  induction k with
  | zero => exact fun a ha => st2_z0 ha
  | succ k ih => exact fun a ha => ih _ (st2_z0 ha)
def TabOK (C : Cp) (rule n e sp : Nat) (F : Nat → Nat → Int32) (G : Nat → Nat → Int64) : Prop := F 6 1 = nI rule ∧ F 6 2 = nI n ∧ F 6 3 = nI e ∧ F 6 4 = nI sp ∧ sp ≤ 5 ∧ 1 ≤ n ∧ n ≤ 12 ∧ rule ≤ 3 ∧ e ≤ 1 ∧ SZ F (qS C) (nC C sp) (tC C sp) (zC C sp) ∧ (∀ i, i < nC C sp → G 10 i = lN (Vd C rule e n n (dgN (qS C) (tC C sp) (zC C sp) i))) ∧ ∀ i, i < nC C sp → F 11 i = nI (2 * (Kd C rule e n (n - 1) (dgN (qS C) (tC C sp) (zC C sp) i)).1 + (Kd C rule e n (n - 1) (dgN (qS C) (tC C sp) (zC C sp) i)).2)
def lkF (C : Cp) (rule sp : Nat) (F : Nat → Nat → Int32) (i : Nat) : Nat → Nat → Int32 := fun a j => if a = 9 ∧ j < i then nI (canD C rule (dgN (qS C) (tC C sp) (zC C sp) j)) else F a j
def lkG (G : Nat → Nat → Int64) (i : Nat) : Nat → Nat → Int64 := fun a j => if a = 10 ∧ j < i then 0 else G a j
theorem lkF_s {C : Cp} {rule sp i : Nat} {F : Nat → Nat → Int32} : u2 (lkF C rule sp F i) 9 i (nI (canD C rule (dgN (qS C) (tC C sp) (zC C sp) i))) = lkF C rule sp F (i + 1) := by
  funext a j
  rw [u2_eq]
  unfold lkF
  by_cases q : a = 9 ∧ j = i
  · rw [if_pos q, if_pos ⟨q.1, by omega⟩, q.2]
  · rw [if_neg q]
    by_cases w : a = 9 ∧ j < i
    · rw [if_pos w, if_pos ⟨w.1, by omega⟩]
    · rw [if_neg w, if_neg (by omega)]
theorem lkG_s {G : Nat → Nat → Int64} {i : Nat} : u2L (lkG G i) 10 i 0 = lkG G (i + 1) := by
  funext a j
  rw [u2L_eq]
  unfold lkG
  by_cases q : a = 10 ∧ j = i
  · rw [if_pos q, if_pos ⟨q.1, by omega⟩]
  · rw [if_neg q]
    by_cases w : a = 10 ∧ j < i
    · rw [if_pos w, if_pos ⟨w.1, by omega⟩]
    · rw [if_neg w, if_neg (by omega)]
section
variable {sc : Nat × (Nat → Int32)} {h : Hp} {F : Nat → Nat → Int32} {G : Nat → Nat → Int64} {C : Cp} {c nb br sp rule n e : Nat}
theorem lk1_loop {r : Option Value} {h' : Hp} {x2 x3 x4 x5 : Int32} (K : CK h C c nb br) (hF : Hi h F) (hA : zA h 6 0 = c) (Q : SZ F (qS C) (nC C sp) (tC C sp) (zC C sp)) (KK : Rn sc (mtk 19) 147 [some (.ref 6), some (.ref c), some (.int x2), some (.int x3), some (.int x4), some (.int x5), some (.int (nI (lrR C rule))), some (.int (nI (nC C sp)))] [] (wIJ (nh h) (lkF C rule sp F (nC C sp)) (lkG G (nC C sp))) r h') : ∀ (d i : Nat), i + d = nC C sp → Rn sc (mtk 19) 106 [some (.ref 6), some (.ref c), some (.int x2), some (.int x3), some (.int x4), some (.int x5), some (.int (nI (lrR C rule))), some (.int (nI i))] [] (wIJ (nh h) (lkF C rule sp F i) (lkG G i)) r h' := by
  intro d
  have b := K.b
  have n216 : nC C sp ≤ 216 := Q.2.1
  have fo : ∀ i a j, a ≠ 9 → lkF C rule sp F i a j = F a j := fun i a j ha => if_neg (fun z => ha z.1)
  have lr : lrR C rule ≤ 4 := by unfold lrR; split <;> omega
  have e5 : ∀ i, lkF C rule sp F i 6 5 = nI (nC C sp) := fun i => by rw [fo i 6 5 (by decide)]; exact Q.2.2.2
  induction d with
  | zero =>
    intro i hi
    obtain rfl : i = nC C sp := by omega
    refine bk_sound (cuts := [147]) 20 _ _ _ _ ?_
    refine And.intro rfl ?_
    refine br_t (show lkF C rule sp F (nC C sp) 6 5 ≤ nI (nC C sp) by rw [e5]; exact nI_le (Nat.le_refl _) (by omega)) ?_
    exact KK
  | succ d ih =>
    intro i hi
    have R := ih (i + 1) (by omega)
    rw [← nI_1 i, ← lkF_s, ← lkG_s] at R
    have ii : inB (nI i) 216 = true := inB_nI (by omega) (by decide)
    have ei : (nI i).toNatClampNeg = i := nI_clamp (by omega)
    have Q' : SZ (lkF C rule sp F i) (qS C) (nC C sp) (tC C sp) (zC C sp) := by
      have k : ∀ a, a ≠ 9 → lkF C rule sp F i a = F a := fun a ha => funext fun j => fo i a j ha
      unfold SZ
      rw [k 8 (by decide), k 7 (by decide), k 6 (by decide)]
      exact Q
    have cf := c_fewestIn (sc := sc) (h := h) (F := lkF C rule sp F i) (G := lkG G i) K (fun a ha => by rw [← hF a ha]; funext j; exact fo i a j (by omega)) hA Q' (i := i) (by omega)
    have m5 := mnF_le 5 (dgN (qS C) (tC C sp) (zC C sp) i) (qS C)
    have em := min_nI (a := lrR C rule) (b := mnF 5 (dgN (qS C) (tC C sp) (zC C sp) i) (qS C)) (by omega) (by omega)
    rw [mnF_min (by omega)] at em
    rw [show nI (canD C rule (dgN (qS C) (tC C sp) (zC C sp) i)) = _ from em.symm] at R
    refine bk_sound (cuts := [106]) 40 _ _ _ _ ?_
    refine And.intro rfl ?_
    refine br_f (show ¬ lkF C rule sp F i 6 5 ≤ nI i by rw [e5]; exact nI_ge (by omega) (by omega)) ?_
    refine And.intro rfl ?_
    refine And.intro ⟨rfl, rfl⟩ (And.intro rfl (Exists.intro _ (Exists.intro _ (And.intro (cf) ?_))))
    refine And.intro rfl ?_
    refine And.intro (⟨rfl, ii⟩) ?_
    refine And.intro rfl ?_
    refine And.intro (⟨rfl, ii⟩) ?_
    rw [ei]
    exact R
/-- the table's state: m days from the last on are done -/
def DS (C : Cp) (rule n e sp m : Nat) (F0 F : Nat → Nat → Int32) (G0 G : Nat → Nat → Int64) : Prop := (∀ a, a ≠ 11 → F a = F0 a) ∧ (∀ a, a ≠ 10 → a ≠ 12 → a ≠ 13 → a ≠ 14 → G a = G0 a) ∧ (∀ i, i < nC C sp → G 10 i = lN (Vd C rule e n m (dgN (qS C) (tC C sp) (zC C sp) i))) ∧ (m ≠ 0 → ∀ i, i < nC C sp → F 11 i = nI (2 * (Kd C rule e n (m - 1) (dgN (qS C) (tC C sp) (zC C sp) i)).1 + (Kd C rule e n (m - 1) (dgN (qS C) (tC C sp) (zC C sp) i)).2))
theorem lk2_loop {F0 : Nat → Nat → Int32} {G0 : Nat → Nat → Int64} {x2 x3 x4 x5 : Int32} (K : CK h C c nb br) (hF : Hi h F0) (hA : zA h 6 0 = c) (Q : SZ F0 (qS C) (nC C sp) (tC C sp) (zC C sp)) (hn : n ≤ 12) (hr : rule ≤ 3) (he : e ≤ 1) (e1 : F0 6 1 = nI rule) (e3 : F0 6 3 = nI e) (hc : ∀ i, i < nC C sp → F0 9 i = nI (canD C rule (dgN (qS C) (tC C sp) (zC C sp) i))) : ∀ (d m : Nat) (F : Nat → Nat → Int32) (G : Nat → Nat → Int64), m + d = n → DS C rule n e sp m F0 F G0 G → ∃ F' G', Rn sc (mtk 19) 153 [some (.ref 6), some (.ref c), some (.int x2), some (.int x3), some (.int x4), some (.int x5), some (.int (nI (lrR C rule))), some (.int (nI d))] [] (wIJ (nh h) F G) none (wIJ (nh h) F' G') ∧ DS C rule n e sp n F0 F' G0 G' := by
  intro d
  have b := K.b
  have hb9 : ∀ k, k ≤ qL C → qB C k ≤ 9 := by
    obtain ⟨k1, k2, k3, k4', k5, k6, k7, k8, k9, k10, k11, k12, k13, k14, k15, k16⟩ := K
    exact fun k hk => (k16 k hk).1
  induction d with
  | zero =>
    intro m F G hm D
    obtain rfl : m = n := by omega
    refine ⟨F, G, ?_, D⟩
    refine bk_sound (cuts := []) 20 _ _ _ _ ?_
    refine br_t (by decide) ?_
    exact ⟨trivial, rfl, rfl⟩
  | succ d ih =>
    intro m F G hm D
    obtain ⟨d1, d2, d3, d4⟩ := D
    have bd := Vd_le (C := C) (rule := rule) (e := e) (n := n) b.2.1 hb9 (fun s w => K.v12) m
    have Q' : SZ F (qS C) (nC C sp) (tC C sp) (zC C sp) := by
      unfold SZ
      rw [d1 8 (by decide), d1 7 (by decide), d1 6 (by decide)]
      exact Q
    obtain ⟨F1, G1, C1, p1, p2, p3, p4⟩ := c_passDay (sc := sc) (h := h) (F := F) (G := G) (day := d + 1) (rule := rule) (e := e) (B := 27000000 * m) (f := Vd C rule e n m) K (fun a ha => by rw [d1 a (by omega)]; exact hF a ha) hA Q' (fun s _ h1 h2 => by unfold zC; rw [if_pos ⟨h1, h2⟩]) (by omega) (by omega) he (by rw [d1 6 (by decide)]; exact e1) (by rw [d1 6 (by decide)]; exact e3) (by omega) bd (fun i hi => by rw [d1 9 (by decide)]; exact hc i hi) d3
    have ed : n - m = d + 1 := by omega
    have sm : ∀ g : Nat → Nat, ∃ x, dayF (trC rule) rule (canD C rule g) (fun k z => vlK C e (d + 1) (Vd C rule e n m) k z g) (lrR C rule) none = some x ∧ Vd C rule e n (m + 1) g = x.1 ∧ Kd C rule e n m g = (x.2.1, x.2.2) := fun g => by
      have sm := dayF_some (tr := trC rule) (rule := rule) (can := canD C rule g) (v := fun k z => vlK C e (d + 1) (Vd C rule e n m) k z g) (trC_ex rule) (lrR C rule) none (Or.inr (mnF_le _ _ _))
      cases hd : dayF (trC rule) rule (canD C rule g) (fun k z => vlK C e (d + 1) (Vd C rule e n m) k z g) (lrR C rule) none with
      | none => exact absurd hd sm
      | some x =>
        refine ⟨x, rfl, ?_, ?_⟩
        · show (outA (dayF (trC rule) rule (canD C rule g) (fun k z => vlK C e (n - m) (Vd C rule e n m) k z g) (lrR C rule) none)).1 = x.1
          rw [ed, hd]
          rfl
        · unfold Kd
          rw [ed, hd]
          show (x.2.1, if x.2.1 = 0 then 0 else x.2.2) = _
          by_cases q : x.2.1 = 0
          · rw [if_pos q, dayF_z0 _ _ (fun y hy => by cases hy) x hd q]
          · rw [if_neg q]
    obtain ⟨F2, G2, R, D2⟩ := ih (m + 1) F1 G1 (by omega) ⟨fun a ha => (p1 a ha).trans (d1 a ha), fun a h1 h2 h3 h4 => (p2 a h1 h2 h3 h4).trans (d2 a h1 h2 h3 h4), fun i hi => by
      obtain ⟨x, x1, x2, x3⟩ := sm (dgN (qS C) (tC C sp) (zC C sp) i)
      rw [p3 i hi, x1, x2]
      rfl, fun _ i hi => by
      obtain ⟨x, x1, x2, x3⟩ := sm (dgN (qS C) (tC C sp) (zC C sp) i)
      rw [(p4 i hi x x1).2, Nat.add_sub_cancel, x3]⟩
    refine ⟨F2, G2, ?_, D2⟩
    rw [show nI d = nI (d + 1) + Int32.ofInt (-1) by rw [← i_dec, nI_pred]] at R
    refine bk_sound (cuts := [153]) 20 _ _ _ _ ?_
    refine br_f (show ¬ nI (d + 1) < 1 from nI_nlt (a := d + 1) (b := 1) (by omega) (by omega)) ?_
    refine And.intro ⟨rfl, rfl⟩ (And.intro rfl (Exists.intro _ (Exists.intro _ (And.intro (C1) ?_))))
    exact R
theorem shp_6 (hs : Shp h) (v : Nat) : Shp (upA h 6 0 v) := by
  refine ⟨hs.1, fun q hq => ?_⟩
  have : ∀ q ∈ FAs, ¬ (q.1 = 6 ∧ q.2.1 = 0) := by decide
  have n := this q hq
  have := hs.2 q hq
  show va_up (zA h) 6 (va_up (zA h 6) 0 v) q.1 q.2.1 = q.2.2
  by_cases e : q.1 = 6
  · rw [e, va_up_self, va_up_ne _ _ (fun z => n ⟨e, z⟩), ← e]
    exact this
  · rw [va_up_ne _ _ e]
    exact this
theorem CK_6 (K : CK h C c nb br) (v : Nat) : CK (upA h 6 0 v) C c nb br := by
  obtain ⟨k1, k2, k3, k4, k5, k6, k7, k8, k9, k10, k11, k12, k13, k14, k15, k16⟩ := K
  have e : zA (upA h 6 0 v) c = zA h c := va_up_ne _ _ (by omega)
  exact ⟨k1, k2, k3, k4, by rw [e]; exact k5, by rw [e]; exact k6, k7, k8, k9, k10, k11, k12, k13, k14, k15, k16⟩
theorem upA_id {a j v : Nat} (e : zA h a j = v) : upA h a j v = h := by
  have : va_up (zA h) a (va_up (zA h a) j v) = zA h := by
    rw [← e, up_same, up_same]
  show (h.1, zK h, zN h, zI h, zJ h, va_up (zA h) a (va_up (zA h a) j v)) = h
  rw [this]
def lFr (h : Hp) (F : Nat → Nat → Int32) (G : Nat → Nat → Int64) : Prop := (∀ a, a ≠ 6 → a ≠ 7 → a ≠ 8 → a ≠ 9 → a ≠ 11 → F a = zI h a) ∧ ∀ a, a ≠ 10 → a ≠ 12 → a ≠ 13 → a ≠ 14 → G a = zJ h a
theorem c_look {s0 : Nat} (hs : Shp h) (K : CK h C c nb br) (hn1 : 1 ≤ n) (hn : n ≤ 12) (hr : rule ≤ 3) (he : e ≤ 1) (hs0 : s0 ≤ 5) (T0 : zA h 6 0 = c → ∃ rule0 n0 e0 sp0, TabOK C rule0 n0 e0 sp0 (zI h) (zJ h)) : ∃ F G sp, Cc sc 19 [.ref 6, .ref c, .int (nI rule), .int (nI n), .int (nI e), .int (nI s0)] h none (wIJ (upA h 6 0 c) F G) ∧ s0 ≤ sp ∧ lFr h F G ∧ TabOK C rule n e sp F G := by
  have b := K.b
  have hs1 := shp_6 hs c
  have K1 := CK_6 K c
  have lr : lrR C rule ≤ 4 := by unfold lrR; split <;> omega
  -- the table is made anew
  have new : ∃ F G sp, Rn sc (mtk 19) 43 [some (.ref 6), some (.ref c), some (.int (nI rule)), some (.int (nI n)), some (.int (nI e)), some (.int (nI s0)), none, none] [] (nh h) none (wIJ (upA h 6 0 c) F G) ∧ s0 ≤ sp ∧ lFr h F G ∧ TabOK C rule n e sp F G := by
    generalize eF1 : u2 (u2 (u2 (u2 (zI h) 6 1 (nI rule)) 6 2 (nI n)) 6 3 (nI e)) 6 4 (nI s0) = F1
    have o1 : ∀ a, a ≠ 6 → F1 a = zI h a := fun a ha => by
      rw [← eF1]
      funext j
      rw [u2_eq, if_neg (fun z => ha z.1), u2_eq, if_neg (fun z => ha z.1), u2_eq, if_neg (fun z => ha z.1), u2_eq, if_neg (fun z => ha z.1)]
    have f1 : F1 6 1 = nI rule ∧ F1 6 2 = nI n ∧ F1 6 3 = nI e ∧ F1 6 4 = nI s0 := by
      rw [← eF1]
      refine ⟨?_, ?_, ?_, ?_⟩
      · rw [u2_eq, if_neg (by omega), u2_eq, if_neg (by omega), u2_eq, if_neg (by omega), u2_eq, if_pos ⟨rfl, rfl⟩]
      · rw [u2_eq, if_neg (by omega), u2_eq, if_neg (by omega), u2_eq, if_pos ⟨rfl, rfl⟩]
      · rw [u2_eq, if_neg (by omega), u2_eq, if_pos ⟨rfl, rfl⟩]
      · rw [u2_eq, if_pos ⟨rfl, rfl⟩]
    have hi1 : Hi (upA h 6 0 c) F1 := fun a ha => o1 a (by omega)
    obtain ⟨F2, C2, o2, Q2⟩ := c_setSizes (sc := sc) (h := upA h 6 0 c) (F := F1) (G := zJ h) (sp := s0) K1 hi1 rfl f1.2.2.2 hs0
    have hi2 : Hi (upA h 6 0 c) F2 := fun a ha => by
      rw [← hi1 a ha]
      funext j
      exact o2 a j (by omega) (by omega) (by omega)
    -- behind the first loop
    have Q3 : SZ (lkF C rule s0 F2 (nC C s0)) (qS C) (nC C s0) (tC C s0) (zC C s0) := by
      have k : ∀ a, a ≠ 9 → lkF C rule s0 F2 (nC C s0) a = F2 a := fun a ha => funext fun j => if_neg (fun z => ha z.1)
      unfold SZ
      rw [k 8 (by decide), k 7 (by decide), k 6 (by decide)]
      exact Q2
    have l6 : ∀ j, lkF C rule s0 F2 (nC C s0) 6 j = F2 6 j := fun j => if_neg (fun z => absurd z.1 (by decide))
    have g6 : ∀ j, j ≠ 5 → F2 6 j = F1 6 j := fun j hj => o2 6 j (by omega) (by decide) (by decide)
    obtain ⟨F3, G3, R3, D3⟩ := lk2_loop (sc := sc) (h := upA h 6 0 c) (F0 := lkF C rule s0 F2 (nC C s0)) (G0 := lkG (zJ h) (nC C s0)) (x2 := nI rule) (x3 := nI n) (x4 := nI e) (x5 := nI s0) K1 (fun a ha => by rw [← hi2 a ha]; funext j; exact if_neg (by omega)) rfl Q3 hn hr he (by rw [l6, g6 1 (by decide)]; exact f1.1) (by rw [l6, g6 3 (by decide)]; exact f1.2.2.1) (fun i hi => if_pos ⟨rfl, hi⟩) n 0 _ _ (by omega) ⟨fun _ _ => rfl, fun _ _ _ _ _ => rfl, fun i hi => if_pos ⟨rfl, hi⟩, fun z => absurd rfl z⟩
    obtain ⟨t1, t2, t3, t4⟩ := D3
    refine ⟨F3, G3, s0, ?_, Nat.le_refl _, ⟨fun a h1 h2 h3 h4 h5 => ?_, fun a h1 h2 h3 h4 => ?_⟩, ?_⟩
    · have L1 := lk1_loop (sc := sc) (h := upA h 6 0 c) (F := F2) (G := zJ h) (sp := s0) (rule := rule) (r := none) (h' := wIJ (nh (upA h 6 0 c)) F3 G3) (x2 := nI rule) (x3 := nI n) (x4 := nI e) (x5 := nI s0) K1 hi2 rfl Q2 (by
        refine bk_sound (cuts := [153]) 20 _ _ _ _ ?_
        refine And.intro rfl ?_
        rw [show zI (wIJ (nh (upA h 6 0 c)) (lkF C rule s0 F2 (nC C s0)) (lkG (zJ h) (nC C s0))) 6 2 = nI n from (by show lkF C rule s0 F2 (nC C s0) 6 2 = nI n; rw [l6, g6 2 (by decide)]; exact f1.2.1)]
        exact R3) (nC C s0) 0 (by omega)
      have z0 : lkF C rule s0 F2 0 = F2 ∧ lkG (zJ h) 0 = zJ h := ⟨funext fun a => funext fun j => if_neg (by omega), funext fun a => funext fun j => if_neg (by omega)⟩
      rw [z0.1, z0.2] at L1
      have fc := K1.f hi2
      have B1 : Rn sc (mtk 19) 74 [some (.ref 6), some (.ref c), some (.int (nI rule)), some (.int (nI n)), some (.int (nI e)), some (.int (nI s0)), none, none] [] (wIJ (nh (upA h 6 0 c)) F2 (zJ h)) none (wIJ (nh (upA h 6 0 c)) F3 G3) := by
        have a6 : zA (wIJ (nh (upA h 6 0 c)) F2 (zJ h)) 6 0 = c := rfl
        have e1 : F2 6 1 = nI rule := by rw [g6 1 (by decide)]; exact f1.1
        refine bk_sound (cuts := [106]) 30 _ _ _ _ ?_
        refine And.intro rfl ?_
        by_cases q : rule = 3
        · refine br_f (show ¬ ¬ F2 6 1 = 3 from fun z => z (by rw [e1, q]; rfl)) ?_
          refine And.intro rfl ?_
          rw [a6]
          refine And.intro (show kin 0 (zK (nh (upA h 6 0 c)) c) = true by rw [K1.k]; rfl) ?_
          rw [show zI (wIJ (nh (upA h 6 0 c)) F2 (zJ h)) c 0 = nI (qL C) from fc.1]
          rw [show lrR C rule = qL C - 1 from if_pos q, show nI (qL C - 1) = nI (qL C) - 1 by rw [show (1 : Int32) = nI 1 from rfl, pk_sub (by omega)]] at L1
          exact L1
        · refine br_t (show ¬ F2 6 1 = 3 by rw [e1]; exact fun z => q ((nI_eq (a := rule) (b := 3) (by omega) (by omega)).mp z)) ?_
          refine And.intro rfl ?_
          rw [a6]
          refine And.intro (show kin 0 (zK (nh (upA h 6 0 c)) c) = true by rw [K1.k]; rfl) ?_
          rw [show zI (wIJ (nh (upA h 6 0 c)) F2 (zJ h)) c 0 = nI (qL C) from fc.1]
          rw [show lrR C rule = qL C from if_neg q] at L1
          exact L1
      have C2' := C2
      rw [nh_eq hs1] at B1 C2'
      rw [nh_eq hs]
      have k6 : zK h 6 = 3 := (hs.1 6 (by decide)).1
      refine bk_sound (cuts := [74]) 40 _ _ _ _ ?_
      refine And.intro (by rw [k6]; rfl) ?_
      refine And.intro (show kin 3 (zK h 6) = true by rw [k6]; rfl) ?_
      refine And.intro (show kin 3 (zK h 6) = true by rw [k6]; rfl) ?_
      refine And.intro (show kin 3 (zK h 6) = true by rw [k6]; rfl) ?_
      refine And.intro (show kin 3 (zK h 6) = true by rw [k6]; rfl) ?_
      rw [← eF1] at C2'
      refine And.intro ⟨rfl, show zK h 6 = 3 from k6⟩ (And.intro rfl (Exists.intro _ (Exists.intro _ (And.intro C2' ?_))))
      exact B1
    · rw [t1 a h5, ← o1 a h1]
      funext j
      rw [show lkF C rule s0 F2 (nC C s0) a j = F2 a j from if_neg (fun z => h4 z.1)]
      exact o2 a j (fun z => h1 z.1) h2 h3
    · rw [t2 a h1 h2 h3 h4]
      funext j
      exact if_neg (fun z => h1 z.1)
    · have k6 : ∀ j, F3 6 j = F2 6 j := fun j => by rw [t1 6 (by decide)]; exact l6 j
      refine ⟨by rw [k6, g6 1 (by decide)]; exact f1.1, by rw [k6, g6 2 (by decide)]; exact f1.2.1, by rw [k6, g6 3 (by decide)]; exact f1.2.2.1, by rw [k6, g6 4 (by decide)]; exact f1.2.2.2, hs0, hn1, hn, hr, he, ?_, t3, t4 (by omega)⟩
      unfold SZ
      rw [t1 8 (by decide), t1 7 (by decide), t1 6 (by decide)]
      exact Q3
  by_cases hA : zA h 6 0 = c
  · obtain ⟨rule0, n0, e0, sp0, T⟩ := T0 hA
    have T' := T
    obtain ⟨q1, q2, q3, q4, q5, q6, q7, q8, q9, -⟩ := T
    by_cases q : rule0 = rule ∧ n0 = n ∧ e0 = e ∧ s0 ≤ sp0
    · obtain ⟨rfl, rfl, rfl, hsp⟩ := q
      refine ⟨zI h, zJ h, sp0, ?_, hsp, ⟨fun _ _ _ _ _ _ => rfl, fun _ _ _ _ _ => rfl⟩, T'⟩
      refine cc_nh (F := fun _ => wIJ (upA h 6 0 c) (zI h) (zJ h)) hs (cc_of 40 rfl rfl ?_)
      refine And.intro rfl ?_
      refine br_f (show ¬ ¬ zA (nh h) 6 0 = c from fun z => z hA) ?_
      refine And.intro rfl ?_
      refine br_f (show ¬ ¬ zI (nh h) 6 1 = nI rule0 from fun z => z q1) ?_
      refine And.intro rfl ?_
      refine br_f (show ¬ ¬ zI (nh h) 6 2 = nI n0 from fun z => z q2) ?_
      refine And.intro rfl ?_
      refine br_f (show ¬ ¬ zI (nh h) 6 3 = nI e0 from fun z => z q3) ?_
      refine And.intro rfl ?_
      refine br_f (show ¬ zI (nh h) 6 4 < nI s0 by rw [show zI (nh h) 6 4 = nI sp0 from q4]; exact nI_nlt hsp (by omega)) ?_
      refine ⟨trivial, rfl, ?_⟩
      rw [nh_eq hs, upA_id hA]
      rfl
    · obtain ⟨F, G, sp, R, r1, r2, r3⟩ := new
      refine ⟨F, G, sp, ?_, r1, r2, r3⟩
      refine cc_nh (F := fun _ => wIJ (upA h 6 0 c) F G) hs (cc_cut [43] 40 rfl rfl ?_)
      refine And.intro rfl ?_
      refine br_f (show ¬ ¬ zA (nh h) 6 0 = c from fun z => z hA) ?_
      refine And.intro rfl ?_
      by_cases w1 : rule0 = rule
      · refine br_f (show ¬ ¬ zI (nh h) 6 1 = nI rule from fun z => z (by rw [← w1]; exact q1)) ?_
        refine And.intro rfl ?_
        by_cases w2 : n0 = n
        · refine br_f (show ¬ ¬ zI (nh h) 6 2 = nI n from fun z => z (by rw [← w2]; exact q2)) ?_
          refine And.intro rfl ?_
          by_cases w3 : e0 = e
          · refine br_f (show ¬ ¬ zI (nh h) 6 3 = nI e from fun z => z (by rw [← w3]; exact q3)) ?_
            refine And.intro rfl ?_
            refine br_t (show zI (nh h) 6 4 < nI s0 by rw [show zI (nh h) 6 4 = nI sp0 from q4]; exact nI_lt (by omega) (by omega)) ?_
            exact R
          · refine br_t (show ¬ zI (nh h) 6 3 = nI e by rw [show zI (nh h) 6 3 = nI e0 from q3]; exact fun z => w3 ((nI_eq (by omega) (by omega)).mp z)) ?_
            exact R
        · refine br_t (show ¬ zI (nh h) 6 2 = nI n by rw [show zI (nh h) 6 2 = nI n0 from q2]; exact fun z => w2 ((nI_eq (by omega) (by omega)).mp z)) ?_
          exact R
      · refine br_t (show ¬ zI (nh h) 6 1 = nI rule by rw [show zI (nh h) 6 1 = nI rule0 from q1]; exact fun z => w1 ((nI_eq (by omega) (by omega)).mp z)) ?_
        exact R
  · obtain ⟨F, G, sp, R, r1, r2, r3⟩ := new
    refine ⟨F, G, sp, ?_, r1, r2, r3⟩
    refine cc_nh (F := fun _ => wIJ (upA h 6 0 c) F G) hs (cc_cut [43] 40 rfl rfl ?_)
    refine And.intro rfl ?_
    refine br_t (show ¬ zA (nh h) 6 0 = c from hA) ?_
    exact R
end
