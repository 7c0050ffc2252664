/-! move -/
def mvT (h : Hp) (a : Nat) (pl : Option Nat) (sp : Bool) : Hp := match pl with
  | none => h
  | some y => if sp then upI (upI h 17 y (-9)) a 3 0 else upI h 17 y (-9)
def mvX (h : Hp) (a p : Nat) (pl tp : Option Nat) (sp : Bool) : Hp := upI (match tp with
  | none => upI (mvT h a pl sp) a 5 (-9)
  | some x => upI (upI (mvT h a pl sp) a 5 (nI x)) 17 x (nI p)) 15 6 0
def mvG (gd : Bool) (pl : Option Nat) (sp : Bool) : Bool := match pl with
  | none => gd
  | some _ => gd && !sp
def mvM (h : Hp) (p : Nat) (gd : Bool) (pl tp : Option Nat) (sp : Bool) : Hp :=
  match tp with
  | none => upI (match pl with
    | none => h
    | some y => upI (upI h 57 y (-9)) 54 p (bI (gd && !sp))) 56 p (-9)
  | some x => upI (upI (match pl with
    | none => h
    | some y => upI (upI h 57 y (-9)) 54 p (bI (gd && !sp))) 56 p (nI x)) 57 x (nI p)
theorem hF_neg {kd st hr t : Nat} (h1 : 1 ≤ hr) (h9 : hr ≤ 9) : (hF kd st hr t).toInt < 0 ↔ hF kd st hr t = -9 := by
  constructor
  · intro q
    unfold hF at *
    split at q
    · rw [nI_toInt (by omega)] at q; omega
    · split at q
      · rw [nI_toInt (by omega)] at q; omega
      · split at q
        · rw [nI_toInt (by omega)] at q; omega
        · simp_all
  · intro q
    rw [q]
    decide
section
variable {sc : Nat × (Nat → Int32)} {h : Hp}
theorem mvT_K (a : Nat) (pl : Option Nat) (sp : Bool) : zK (mvT h a pl sp) = zK h ∧ zN (mvT h a pl sp) = zN h ∧ zA (mvT h a pl sp) = zA h ∧ zJ (mvT h a pl sp) = zJ h ∧ (mvT h a pl sp).1 = h.1 := by
  cases pl with
  | none => exact ⟨rfl, rfl, rfl, rfl, rfl⟩
  | some y => cases sp <;> exact ⟨rfl, rfl, rfl, rfl, rfl⟩
theorem c_takeOff (hs : Shp h) {a : Nat} {pl : Option Nat} (k4 : kin 4 (zK h a) = true) (ha : 65 ≤ a) (h5 : zI h a 5 = plI pl) (hx : ∀ x, pl = some x → x < 12) (dr : Int32) : Cc sc 81 [.ref 15, .ref a, .int dr] h none (mvT h a pl (decide (dr.toInt < (zI h 15 3).toInt))) := by
  have k4' : kin 4 (zK (nh h) a) = true := by rw [nh_K ha]; exact k4
  refine cc_nh (F := fun h => mvT h a pl (decide (dr.toInt < (zI h 15 3).toInt))) hs (cc_of 40 rfl rfl ?_)
  refine And.intro (k4') ?_
  cases pl with
  | none =>
    refine br_f (show ¬ ¬ zI h a 5 = -9 from fun z => z h5) ?_
    exact ⟨trivial, rfl, rfl⟩
  | some y =>
    have hy := hx y rfl
    have iy : inB (nI y) 12 = true := inB_nI hy (by decide)
    have ey : (nI y).toNatClampNeg = y := nI_clamp (by omega)
    refine br_t (show ¬ zI h a 5 = -9 by rw [h5]; show ¬ nI y = -9; first | assumption | (simp (discharger := omega) only [i_lt, i_le, i_eq, bI_tz, decide_eq_false_iff_not, Int32.reduceToInt, nI_toInt, tm1, tm2, tm3, tm4, tm9]; done) | (simp (discharger := omega) only [i_lt, i_le, i_eq, bI_tz, decide_eq_false_iff_not, Int32.reduceToInt, nI_toInt, tm1, tm2, tm3, tm4, tm9]; omega) | omega) ?_
    refine And.intro rfl ?_
    refine And.intro (k4') ?_
    rw [show zI (nh h) a 5 = nI y from h5]
    refine And.intro (⟨rfl, iy⟩) ?_
    rw [ey]
    refine And.intro rfl ?_
    by_cases q : dr.toInt < (zI h 15 3).toInt
    · refine br_f (show ¬ zI h 15 3 ≤ dr by first | assumption | (simp (discharger := omega) only [i_lt, i_le, i_eq, bI_tz, decide_eq_false_iff_not, Int32.reduceToInt, nI_toInt, tm1, tm2, tm3, tm4, tm9]; done) | (simp (discharger := omega) only [i_lt, i_le, i_eq, bI_tz, decide_eq_false_iff_not, Int32.reduceToInt, nI_toInt, tm1, tm2, tm3, tm4, tm9]; omega) | omega) ?_
      refine And.intro (⟨k4', Or.inl rfl⟩) ?_
      refine ⟨trivial, rfl, ?_⟩
      show _ = mvT (nh h) a (some y) (decide (dr.toInt < (zI h 15 3).toInt))
      rw [decide_eq_true q]
      rfl
    · refine br_t (show zI h 15 3 ≤ dr by first | assumption | (simp (discharger := omega) only [i_lt, i_le, i_eq, bI_tz, decide_eq_false_iff_not, Int32.reduceToInt, nI_toInt, tm1, tm2, tm3, tm4, tm9]; done) | (simp (discharger := omega) only [i_lt, i_le, i_eq, bI_tz, decide_eq_false_iff_not, Int32.reduceToInt, nI_toInt, tm1, tm2, tm3, tm4, tm9]; omega) | omega) ?_
      refine ⟨trivial, rfl, ?_⟩
      show _ = mvT (nh h) a (some y) (decide (dr.toInt < (zI h 15 3).toInt))
      rw [decide_eq_false q]
      rfl
theorem mvT_zI {a : Nat} {pl : Option Nat} {sp : Bool} {x i : Nat} (h1 : x ≠ 17) (h2 : x ≠ a ∨ i ≠ 3) : zI (mvT h a pl sp) x i = zI h x i := by
  cases pl with
  | none => rfl
  | some y =>
    cases sp
    · show zI (upI h 17 y (-9)) x i = _
      rw [zI_upI, if_neg h1]
    · show zI (upI (upI h 17 y (-9)) a 3 0) x i = _
      rw [zI_upI]
      by_cases e : x = a
      · rw [if_pos e, if_neg (by omega), zI_upI, if_neg (by omega), e]
      · rw [if_neg e, zI_upI, if_neg h1]
theorem c_carry (hs : Shp h) {a p kd st hr : Nat} {hd : Bool} {pl tp : Option Nat} (ha : 65 ≤ a) (hkd : kd ≤ 2) (hk : zK h a = pkd kd) (h0 : zI h a 0 = nI p) (h1 : zI h a 1 = nI st) (hst : st ≤ 2) (hr1 : 1 ≤ hr) (hr9 : hr ≤ 9) (h2 : zI h a 2 = nI hr) (h4 : zI h a 4 = bI hd) (h5 : zI h a 5 = plI pl) (hx : ∀ x, pl = some x → x < 12) (ht : ∀ x, tp = some x → x < 12) (dr : Int32) {r : Int32} {g : Hp}
  (H : (r = -3 ∧ g = h ∧ (hd = true ∨ pl = tp ∨ ∃ x, tp = some x ∧ (hF kd st hr (x % 3) = -9 ∨ ¬ zI h 17 x = -9))) ∨
    (hd = false ∧ pl ≠ tp ∧ g = mvX h a p pl tp (decide (dr.toInt < (zI h 15 3).toInt)) ∧ ((tp = none ∧ r = 0) ∨ ∃ x, tp = some x ∧ r = hF kd st hr (x % 3) ∧ ¬ hF kd st hr (x % 3) = -9 ∧ zI h 17 x = -9))) :
  Cc sc 80 [.ref 15, .ref a, .int (plI tp), .int dr] h (some (.int r)) g := by
  have k4 : kin 4 (zK h a) = true := by rw [hk]; exact kin_part hkd
  have hk' : zK (nh h) a = pkd kd := by rw [nh_K ha]; exact hk
  have k4' : kin 4 (zK (nh h) a) = true := by rw [nh_K ha]; exact k4
  have e5 : ∀ tp', (∀ x, tp' = some x → x < 12) → (plI pl = plI tp' ↔ pl = tp') := fun tp' ht' => by
    cases pl with
    | none => cases tp' with
      | none => exact ⟨fun _ => rfl, fun _ => rfl⟩
      | some x =>
        have := ht' x rfl
        refine ⟨fun q => ?_, fun q => nomatch q⟩
        exact absurd (show nI x = -9 from q.symm) (by first | assumption | (simp (discharger := omega) only [i_lt, i_le, i_eq, bI_tz, decide_eq_false_iff_not, Int32.reduceToInt, nI_toInt, tm1, tm2, tm3, tm4, tm9]; done) | (simp (discharger := omega) only [i_lt, i_le, i_eq, bI_tz, decide_eq_false_iff_not, Int32.reduceToInt, nI_toInt, tm1, tm2, tm3, tm4, tm9]; omega) | omega)
    | some y =>
      have h12 := hx y rfl
      cases tp' with
      | none =>
        refine ⟨fun q => ?_, fun q => nomatch q⟩
        exact absurd (show nI y = -9 from q) (by first | assumption | (simp (discharger := omega) only [i_lt, i_le, i_eq, bI_tz, decide_eq_false_iff_not, Int32.reduceToInt, nI_toInt, tm1, tm2, tm3, tm4, tm9]; done) | (simp (discharger := omega) only [i_lt, i_le, i_eq, bI_tz, decide_eq_false_iff_not, Int32.reduceToInt, nI_toInt, tm1, tm2, tm3, tm4, tm9]; omega) | omega)
      | some x =>
        have := ht' x rfl
        refine ⟨fun q => ?_, fun q => by rw [q]⟩
        rw [(nI_eq (by omega) (by omega)).mp (show nI y = nI x from q)]
  rw [← nh_eq hs] at H
  rw [← nh_eq hs]
  refine cc_of 60 rfl rfl ?_
  refine And.intro (k4') ?_
  by_cases q1 : hd = true
  · rcases H with ⟨rfl, rfl, -⟩ | ⟨z, -⟩
    · refine br_t (show ¬ zI h a 4 = 0 by rw [h4, q1]; decide) ?_
      exact ⟨Or.inl rfl, rfl, rfl⟩
    · rw [q1] at z; cases z
  · have q1' : hd = false := by cases hd <;> simp_all
    refine br_f (show ¬ ¬ zI h a 4 = 0 from fun z => z (by rw [h4, q1']; rfl)) ?_
    refine And.intro (k4') ?_
    by_cases q2 : pl = tp
    · rcases H with ⟨rfl, rfl, -⟩ | ⟨-, z, -⟩
      · refine br_f (show ¬ ¬ zI h a 5 = plI tp from fun z => z (by rw [h5, q2])) ?_
        exact ⟨Or.inl rfl, rfl, rfl⟩
      · exact absurd q2 z
    · refine br_t (show ¬ zI h a 5 = plI tp by rw [h5, e5 tp ht]; exact q2) ?_
      cases tp with
      | none =>
        refine br_f (by exact fun z => z rfl) ?_
        refine br_f (by decide) ?_
        refine br_t (by rfl) ?_
        rcases H with ⟨-, -, z⟩ | ⟨-, -, rfl, z⟩
        · rcases z with z | z | ⟨x, z, -⟩
          · exact absurd z q1
          · exact absurd z q2
          · cases z
        rcases z with ⟨-, rfl⟩ | ⟨x, z, -⟩
        rotate_left
        · cases z
        refine And.intro ⟨rfl, rfl⟩ (And.intro rfl (Exists.intro _ (Exists.intro _ (And.intro (c_takeOff (h := nh h) (pl := pl) (shp_nh hs) k4' ha h5 hx dr) ?_))))
        obtain ⟨m1, m2, m3, m4, m5⟩ := mvT_K (h := nh h) a pl (decide (dr.toInt < (zI (nh h) 15 3).toInt))
        refine And.intro (by rw [m1]; exact k4') ?_
        refine br_t (by rfl) ?_
        refine And.intro (⟨by show kin 9 (zK (mvT (nh h) a pl (decide (dr.toInt < (zI (nh h) 15 3).toInt))) 15) = true; rw [m1]; rfl, Or.inl rfl⟩) ?_
        exact ⟨Or.inl rfl, rfl, rfl⟩
      | some x =>
        have hx12 := ht x rfl
        have ix : inB (nI x) 12 = true := inB_nI hx12 (by decide)
        have ex : (nI x).toNatClampNeg = x := nI_clamp (by omega)
        have n9 : ¬ plI (some x) = -9 := by show ¬ nI x = -9; first | assumption | (simp (discharger := omega) only [i_lt, i_le, i_eq, bI_tz, decide_eq_false_iff_not, Int32.reduceToInt, nI_toInt, tm1, tm2, tm3, tm4, tm9]; done) | (simp (discharger := omega) only [i_lt, i_le, i_eq, bI_tz, decide_eq_false_iff_not, Int32.reduceToInt, nI_toInt, tm1, tm2, tm3, tm4, tm9]; omega) | omega
        refine br_t n9 ?_
        refine And.intro (by decide) ?_
        have hc := c_hoursFor (sc := sc) (h := nh h) hkd hk' h1 h2 hst hr9 (by omega : x % 3 ≤ 2)
        rw [← hk', show nI (x % 3) = plI (some x) - plI (some x) / 3 * 3 from (pk_rem (a := x) (d := 3) (by omega) (by decide) (by decide)).symm] at hc
        have hcall : ∀ {R : Option Value → Hp → Prop}, R (some (.int (hF kd st hr (x % 3)))) (nh h) → (okc (mtk 80).1 (mro (pck (zK (nh h) a) 40 15 10)) [] = true ∧ kin 4 (zK (nh h) a) = true ∧ pck (zK (nh h) a) 40 15 10 < 999) ∧ 2 = ary (pck (zK (nh h) a) 40 15 10) ∧ ∃ r1 h1, Cc sc (pck (zK (nh h) a) 40 15 10) [.ref a, .int (plI (some x) - plI (some x) / 3 * 3)] (nh h) r1 h1 ∧ R r1 h1 := fun hR => by
          obtain rfl | rfl | rfl : kd = 0 ∨ kd = 1 ∨ kd = 2 := by omega
          · exact ⟨v_ok (show zK (nh h) a = 4 from hk') ⟨rfl, rfl, by decide⟩, v_ary (show zK (nh h) a = 4 from hk') rfl, _, _, hc, hR⟩
          · exact ⟨v_ok (show zK (nh h) a = 2 from hk') ⟨rfl, rfl, by decide⟩, v_ary (show zK (nh h) a = 2 from hk') rfl, _, _, hc, hR⟩
          · exact ⟨v_ok (show zK (nh h) a = 1 from hk') ⟨rfl, rfl, by decide⟩, v_ary (show zK (nh h) a = 1 from hk') rfl, _, _, hc, hR⟩
        refine hcall ?_
        by_cases q3 : hF kd st hr (x % 3) = -9
        · rcases H with ⟨rfl, rfl, -⟩ | ⟨-, -, -, z⟩
          · refine br_t q3 ?_
            exact ⟨Or.inl rfl, rfl, rfl⟩
          · rcases z with ⟨z, -⟩ | ⟨x', z, -, z2, -⟩
            · cases z
            · cases z; exact absurd q3 z2
        · refine br_f q3 ?_
          refine br_f n9 ?_
          refine And.intro rfl ?_
          refine And.intro (⟨rfl, ix⟩) ?_
          rw [show (plI (some x)).toNatClampNeg = x from ex]
          by_cases q4 : zI h 17 x = -9
          · refine br_t q4 ?_
            rcases H with ⟨-, -, z⟩ | ⟨-, -, rfl, z⟩
            · rcases z with z | z | ⟨x', z, z'⟩
              · exact absurd z q1
              · exact absurd z q2
              · cases z
                rcases z' with z' | z'
                · exact absurd z' q3
                · exact absurd q4 z'
            rcases z with ⟨z, -⟩ | ⟨x', z, rfl, -, -⟩
            · cases z
            cases z
            refine And.intro ⟨rfl, rfl⟩ (And.intro rfl (Exists.intro _ (Exists.intro _ (And.intro (c_takeOff (h := nh h) (pl := pl) (shp_nh hs) k4' ha h5 hx dr) ?_))))
            obtain ⟨m1, m2, m3, m4, m5⟩ := mvT_K (h := nh h) a pl (decide (dr.toInt < (zI (nh h) 15 3).toInt))
            refine And.intro (by rw [m1]; exact k4') ?_
            refine br_f n9 ?_
            refine And.intro (by show kin 9 (zK (mvT (nh h) a pl (decide (dr.toInt < (zI (nh h) 15 3).toInt))) 15) = true; rw [m1]; rfl) ?_
            refine And.intro (by show kin 4 (zK (mvT (nh h) a pl (decide (dr.toInt < (zI (nh h) 15 3).toInt))) a) = true; rw [m1]; exact k4') ?_
            rw [show zA (upI (mvT (nh h) a pl (decide (dr.toInt < (zI (nh h) 15 3).toInt))) a 5 (plI (some x))) 15 2 = 17 by show zA (mvT (nh h) a pl (decide (dr.toInt < (zI (nh h) 15 3).toInt))) 15 2 = 17; rw [m3]; rfl]
            rw [show zI (upI (mvT (nh h) a pl (decide (dr.toInt < (zI (nh h) 15 3).toInt))) a 5 (plI (some x))) a 0 = nI p by rw [zI_upI, if_pos rfl, if_neg (by decide), mvT_zI (by omega) (by omega)]; exact h0]
            refine And.intro (⟨by show zK (mvT (nh h) a pl (decide (dr.toInt < (zI (nh h) 15 3).toInt))) 17 = 12; rw [m1]; rfl, by show inB (nI x) (zN (mvT (nh h) a pl (decide (dr.toInt < (zI (nh h) 15 3).toInt))) 17) = true; rw [m2]; exact ix⟩) ?_
            rw [show (plI (some x)).toNatClampNeg = x from ex]
            refine And.intro (⟨by show kin 9 (zK (mvT (nh h) a pl (decide (dr.toInt < (zI (nh h) 15 3).toInt))) 15) = true; rw [m1]; rfl, Or.inl rfl⟩) ?_
            exact ⟨Or.inl rfl, rfl, rfl⟩
          · refine br_f q4 ?_
            rcases H with ⟨rfl, rfl, -⟩ | ⟨-, -, -, z⟩
            · exact ⟨Or.inl rfl, rfl, rfl⟩
            · rcases z with ⟨z, -⟩ | ⟨x', z, -, -, z2⟩
              · cases z
              · cases z; exact absurd z2 q4
end
