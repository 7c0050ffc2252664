section
variable {sc : Nat × (Nat → Int32)} {h : Hp}
variable {F : Nat → Nat → Int32} {G : Nat → Nat → Int64} {M s : Nat}
theorem lw_loop {h' : Hp} (hs : s < 16) (K : Rn sc (mtk 198) 49 [some (.ref 39), some (.int (nI s)), some (.int 12)] [] (wIJ (nh h) (swF 39 29 60 F (fS s) 12) G) none h') : ∀ (d x : Nat), x + d = 12 → Rn sc (mtk 198) 7 [some (.ref 39), some (.int (nI s)), some (.int (nI x))] [] (wIJ (nh h) (swF 39 29 60 F (fS s) x) G) none h' := by
  intro d
  induction d with
  | zero =>
    intro x hx
    obtain rfl : x = 12 := by omega
    refine bk_sound (cuts := [49]) 20 _ _ _ _ ?_
    refine br_t (by decide) ?_
    exact K
  | succ d ih =>
    intro x hx
    have R := ih (x + 1) (by omega)
    rw [← nI_1] at R
    have e3 : nI x / 3 = nI (x / 3) := pk_div (d := 3) (by omega) (by decide) (by decide)
    refine bk_sound (cuts := [7]) 40 _ _ _ _ ?_
    refine br_f (show ¬ 12 ≤ nI x from nI_ge (a := x) (b := 12) (by omega) (by omega)) ?_
    refine And.intro (by decide) ?_
    rw [e3]
    refine And.intro rfl (And.intro rfl (Exists.intro _ (Exists.intro _ (And.intro (c_hasBit (by omega) (by omega)) ?_))))
    by_cases q : s / 2 ^ (x / 3) % 2 = 1
    · have hf : fS s (x / 3) = true := decide_eq_true q
      have cl := cN_12le (fS s) (x := x + 1) (by omega)
      have ce : cN (fS s) (x + 1) = cN (fS s) x + 1 := by rw [cN, hf]; rfl
      have e7 : swF 39 29 60 F (fS s) x 39 29 = nI (cN (fS s) x) := if_pos ⟨rfl, rfl⟩
      refine br_f (bI_ne q) ?_
      refine And.intro rfl ?_
      refine And.intro rfl ?_
      refine And.intro (show _ ∧ inB (swF 39 29 60 F (fS s) x 39 29) 12 = true from ⟨rfl, by rw [e7]; exact inB_nI (by omega) (by decide)⟩) ?_
      refine And.intro rfl ?_
      refine And.intro rfl ?_
      refine rn_eq (show wIJ (nh h) (u2 (u2 (swF 39 29 60 F (fS s) x) 60 (swF 39 29 60 F (fS s) x 39 29).toNatClampNeg (nI x)) 39 29 (u2 (swF 39 29 60 F (fS s) x) 60 (swF 39 29 60 F (fS s) x 39 29).toNatClampNeg (nI x) 39 29 + 1)) G = _ from ?_) R
      rw [e7, nI_clamp (by omega), u2_eq _ _ _ _ 39, if_neg (by omega), e7, swF_take (by decide) hf]
    · have hf : fS s (x / 3) = false := decide_eq_false q
      refine br_t (bI_eq q) ?_
      rw [swF_skip hf]
      exact R
theorem c_layWanted (hs : s < 16) : Cc sc 198 [.ref 39, .int (nI s)] (wIJ (nh h) F G) none (wIJ (nh h) (swF 39 29 60 F (fS s) 12) G) := by
  refine cc_cut [7] 20 rfl rfl ?_
  refine And.intro rfl ?_
  refine rn_eq (show wIJ (nh h) (u2 F 39 29 0) G = _ from wIJ_eq _ (swF_0 39 29 60 F (fS s)) rfl) (lw_loop hs ?_ 12 0 rfl)
  refine bk_sound (cuts := []) 20 _ _ _ _ ?_
  exact ⟨trivial, rfl, rfl⟩
/-- what the table is laid of -/
def LC (h : Hp) (M s : Nat) (F : Nat → Nat → Int32) : Prop := F 39 18 = nI M ∧ F 39 29 = nI (wW s) ∧ (∀ n, n < wW s → F 60 n = nI (wP s n)) ∧ ∀ a, 51 ≤ a → a ≤ 56 → F a = zI h a
theorem pow_M (hM : M ≤ 12) : 2 ^ M ≤ 4096 := Nat.pow_le_pow_right (n := 2) (by decide) hM
theorem lc_p {h' : Hp} {x u : Nat} (hS : Shp h) (hM : M ≤ 12) (hP : ∀ p, p < M → PH h p) (hs : s < 16) (L : LC h M s F) (hx : x < wW s) (hu : u < 2 ^ M) (K : ∀ o, Rn sc (mtk 200) 142 [some (.ref 39), some (.int (nI s)), some (.int (nI (2 ^ M))), some (.int (nI x)), some (.int (nI u)), some (.int (nI (Dx h M s x u))), some (.int (nI M)), o] [] (wIJ (nh h) (lcF h M s F x u) G) none h') : ∀ (d p : Nat) (o : Option Value), p + d = M → Rn sc (mtk 200) 50 [some (.ref 39), some (.int (nI s)), some (.int (nI (2 ^ M))), some (.int (nI x)), some (.int (nI u)), some (.int (nI (dpL (fX h M s x u) p))), some (.int (nI p)), o] [] (wIJ (nh h) (lcF h M s F x u) G) none h' := by
  intro d
  obtain ⟨l1, l2, l3, l4⟩ := L
  have w12 := (wW_eq hs).2
  have pM := pow_M hM
  have e18 : lcF h M s F x u 39 18 = nI M := by rw [lcF_o (by decide)]; exact l1
  have e29 : lcF h M s F x u 39 29 = nI (wW s) := by rw [lcF_o (by decide)]; exact l2
  have e60 : lcF h M s F x u 60 x = nI (wP s x) := by rw [lcF_o (by decide)]; exact l3 x hx
  induction d with
  | zero =>
    intro p o hp
    obtain rfl : p = M := by omega
    refine bk_sound (cuts := [142]) 20 _ _ _ _ ?_
    refine And.intro rfl ?_
    refine br_t (show lcF h p s F x u 39 18 ≤ nI p by rw [e18]; exact nI_le (Nat.le_refl _) (by omega)) ?_
    have := K o
    rw [Dx_s hx] at this
    exact this
  | succ d ih =>
    intro p o hp
    have R := fun o => ih (p + 1) o (by omega)
    rw [← nI_1 p] at R
    have far := dpL_far (fX h M s x u) p
    obtain ⟨y1, y2, y3, y4, y5, y6, y7, y8, ⟨gd, hd, y9, y10, y11, y12, y13⟩, y14, y15, y16, y17⟩ := hP p (by omega)
    have lo : ∀ a, 51 ≤ a → a ≤ 56 → lcF h M s F x u a = zI h a := fun a h1 h2 => by
      rw [← l4 a h1 h2]
      funext j
      exact lcF_o (by omega)
    have hc := c_costOf (sc := sc) (g := wIJ (nh h) (lcF h M s F x u) G) (wIJ_shp hS _ _) (p := p) (x := wP s x) (by omega) (wP_eq hs hx).2 y2 (show lcF h M s F x u 51 p = _ by rw [lo 51 (by omega) (by omega)]; exact y15) (show lcF h M s F x u 52 p = _ by rw [lo 52 (by omega) (by omega)]; exact y16) (show lcF h M s F x u 53 p = _ by rw [lo 53 (by omega) (by omega)]; exact y17) (show lcF h M s F x u 54 p = _ by rw [lo 54 (by omega) (by omega)]; exact y11) (show lcF h M s F x u 55 p = _ by rw [lo 55 (by omega) (by omega)]; exact y12) (pl := zI h 56 p) (show lcF h M s F x u 56 p = _ by rw [lo 56 (by omega) (by omega)]) y4 y6
    rw [← y13] at hc
    have ix : inB (nI x) 12 = true := inB_nI (by omega) (by decide)
    have exx : (nI x).toNatClampNeg = x := nI_clamp (by omega)
    have dn : dpL (fX h M s x u) (p + 1) = match fX h M s x u p with
      | none => dpL (fX h M s x u) p
      | some c => min (dpL (fX h M s x u) p) c := rfl
    refine bk_sound (cuts := [50]) 80 _ _ _ _ ?_
    refine And.intro rfl ?_
    refine br_f (show ¬ lcF h M s F x u 39 18 ≤ nI p by rw [e18]; exact nI_ge (by omega) (by omega)) ?_
    refine And.intro rfl ?_
    refine br_f (show ¬ lcF h M s F x u 39 29 ≤ nI x by rw [e29]; exact nI_ge (by omega) (by omega)) ?_
    refine And.intro rfl (And.intro rfl (Exists.intro _ (Exists.intro _ (And.intro (c_hasBit (by omega) (by omega)) ?_))))
    by_cases q : u / 2 ^ p % 2 = 1
    · refine br_f (bI_ne q) ?_
      refine br_f (show ¬ (0 : Int32) ≤ -9 by decide) ?_
      have fn : fX h M s x u p = none := by
        unfold fX opA
        rw [tb_dec, decide_eq_true q]
      rw [dn, fn] at R
      exact R _
    · refine br_t (bI_eq q) ?_
      refine And.intro rfl ?_
      refine And.intro (⟨rfl, ix⟩) ?_
      rw [exx, show zI (wIJ (nh h) (lcF h M s F x u) G) (zA (wIJ (nh h) (lcF h M s F x u) G) 39 30) x = nI (wP s x) from e60]
      refine And.intro ⟨rfl, rfl⟩ (And.intro rfl (Exists.intro _ (Exists.intro _ (And.intro (hc) ?_))))
      have hb : u.testBit p = false := by rw [tb_dec, decide_eq_false q]
      have fe : fX h M s x u p = opA (cs1 1000 (pKd h p) (pSt h p) (pHr h p) (pUs h p) (zI h 56 p) (wP s x)) u p (Dx h M s (x + 1) (u ||| 2 ^ p)) := rfl
      cases hcc : cs1 1000 (pKd h p) (pSt h p) (pHr h p) (pUs h p) (zI h 56 p) (wP s x) with
      | none =>
        refine br_f (show ¬ 0 ≤ oI none by decide) ?_
        rw [dn, fe, hcc, show opA none u p (Dx h M s (x + 1) (u ||| 2 ^ p)) = none by unfold opA; rw [hb]] at R
        exact R _
      | some c =>
        have cl := cs1_le y6 hcc
        have df := Dx_far h M s (x + 1) (u ||| 2 ^ p)
        have ul : u ||| 2 ^ p < 2 ^ M := Nat.or_lt_two_pow hu (Nat.pow_lt_pow_right (by decide) (by omega))
        refine br_t (show 0 ≤ oI (some c) from (by
          show 0 ≤ nI c
          rw [i_le, nI_toInt (by omega)]
          simp only [Int32.reduceToInt]
          omega)) ?_
        refine And.intro rfl ?_
        have ei : 4096 * (nI x + 1) + (nI u ||| ((1 : Int32) <<< (nI p &&& 31))) = nI (4096 * (x + 1) + (u ||| 2 ^ p)) := by
          rw [shl_1 ⟨p, by omega⟩, or_nI, nI_1, show (4096 : Int32) = nI 4096 from rfl, pk_mul, nI_add]
        have er : lcF h M s F x u 59 (4096 * (x + 1) + (u ||| 2 ^ p)) = nI (Dx h M s (x + 1) (u ||| 2 ^ p)) := by
          unfold lcF
          rw [show (4096 * (x + 1) + (u ||| 2 ^ p)) / 4096 = x + 1 by omega, show (4096 * (x + 1) + (u ||| 2 ^ p)) % 4096 = u ||| 2 ^ p by omega, if_pos ⟨rfl, Or.inl ⟨by omega, by omega, ul⟩⟩]
        refine And.intro (show _ ∧ inB (4096 * (nI x + 1) + (nI u ||| ((1 : Int32) <<< (nI p &&& 31)))) 53248 = true from ⟨rfl, by rw [ei]; exact inB_nI (by omega) (by decide)⟩) ?_
        have hl := c_lesser (sc := sc) (h := wIJ (nh h) (lcF h M s F x u) G) (a := dpL (fX h M s x u) p) (b := c + Dx h M s (x + 1) (u ||| 2 ^ p)) (by omega) (by omega)
        rw [dn, fe, hcc, show opA (some c) u p (Dx h M s (x + 1) (u ||| 2 ^ p)) = some (c + Dx h M s (x + 1) (u ||| 2 ^ p)) by unfold opA; rw [hb]] at R
        rw [ei, nI_clamp (by omega), show zI (wIJ (nh h) (lcF h M s F x u) G) (zA (wIJ (nh h) (lcF h M s F x u) G) 39 28) (4096 * (x + 1) + (u ||| 2 ^ p)) = nI (Dx h M s (x + 1) (u ||| 2 ^ p)) from er]
        rw [← nI_add] at hl
        refine And.intro rfl (And.intro rfl (Exists.intro _ (Exists.intro _ (And.intro (hl) ?_))))
        exact R _
theorem lc_u {h' : Hp} {x : Nat} (hS : Shp h) (hM : M ≤ 12) (hP : ∀ p, p < M → PH h p) (hs : s < 16) (L : LC h M s F) (hx : x ≤ wW s) (K : ∀ o5 o6 o7, Rn sc (mtk 200) 163 [some (.ref 39), some (.int (nI s)), some (.int (nI (2 ^ M))), some (.int (nI x)), some (.int (nI (2 ^ M))), o5, o6, o7] [] (wIJ (nh h) (lcF h M s F x (2 ^ M)) G) none h') : ∀ (d u : Nat) (o5 o6 o7 : Option Value), u + d = 2 ^ M → Rn sc (mtk 200) 24 [some (.ref 39), some (.int (nI s)), some (.int (nI (2 ^ M))), some (.int (nI x)), some (.int (nI u)), o5, o6, o7] [] (wIJ (nh h) (lcF h M s F x u) G) none h' := by
  intro d
  have w12 := (wW_eq hs).2
  have pM := pow_M hM
  induction d with
  | zero =>
    intro u o5 o6 o7 hu
    obtain rfl : u = 2 ^ M := by omega
    refine bk_sound (cuts := [163]) 20 _ _ _ _ ?_
    refine br_t (nI_le (Nat.le_refl _) (by omega)) ?_
    exact K _ _ _
  | succ d ih =>
    intro u o5 o6 o7 hu
    have R := fun o5 o6 o7 => ih (u + 1) o5 o6 o7 (by omega)
    rw [← nI_1 u, ← lcF_s (by omega)] at R
    have e29 : lcF h M s F x u 39 29 = nI (wW s) := by rw [lcF_o (by decide)]; exact L.2.1
    have e18 : lcF h M s F x u 39 18 = nI M := by rw [lcF_o (by decide)]; exact L.1
    have df := Dx_far h M s x u
    have K1 : ∀ o6 o7, Rn sc (mtk 200) 142 [some (.ref 39), some (.int (nI s)), some (.int (nI (2 ^ M))), some (.int (nI x)), some (.int (nI u)), some (.int (nI (Dx h M s x u))), o6, o7] [] (wIJ (nh h) (lcF h M s F x u) G) none h' := fun o6 o7 => by
      have ei : 4096 * nI x + nI u = nI (4096 * x + u) := by rw [show (4096 : Int32) = nI 4096 from rfl, pk_mul, nI_add]
      refine bk_sound (cuts := [24]) 20 _ _ _ _ ?_
      refine And.intro rfl ?_
      refine And.intro (show _ ∧ inB (4096 * nI x + nI u) 53248 = true from ⟨rfl, by rw [ei]; exact inB_nI (by omega) (by decide)⟩) ?_
      rw [ei, nI_clamp (by omega)]
      exact R _ _ _
    by_cases q : x < wW s
    · have P := lc_p (sc := sc) (h := h) (F := F) (G := G) hS hM hP hs L q (by omega) (fun o => K1 _ o) M 0 o7 (by omega)
      refine bk_sound (cuts := [50]) 40 _ _ _ _ ?_
      refine br_f (nI_ge (by omega) (by omega)) ?_
      refine And.intro rfl ?_
      refine br_t (show ¬ nI x = lcF h M s F x u 39 29 by rw [e29]; exact fun z => by have := (nI_eq (by omega) (by omega)).mp z; omega) ?_
      exact P
    · obtain rfl : x = wW s := by omega
      rw [Dx_W] at K1
      refine bk_sound (cuts := [142]) 40 _ _ _ _ ?_
      refine br_f (nI_ge (by omega) (by omega)) ?_
      refine And.intro rfl ?_
      refine br_f (show ¬ ¬ nI (wW s) = lcF h M s F (wW s) u 39 29 from fun z => z e29.symm) ?_
      refine And.intro rfl ?_
      by_cases q0 : M = 0
      · refine br_t (show lcF h M s F (wW s) u 39 18 ≤ 0 by rw [e18, q0]; decide) ?_
        exact K1 _ _
      · refine br_f (show ¬ lcF h M s F (wW s) u 39 18 ≤ 0 by rw [e18]; exact nI_ge (a := 0) (b := M) (by omega) (by omega)) ?_
        refine And.intro rfl ?_
        refine br_t (show lcF h M s F (wW s) u 39 29 ≤ nI (wW s) by rw [e29]; exact nI_le (Nat.le_refl _) (by omega)) ?_
        exact K1 _ _
theorem lc_x (hS : Shp h) (hM : M ≤ 12) (hP : ∀ p, p < M → PH h p) (hs : s < 16) (L : LC h M s F) : ∀ (n : Nat) (o4 o5 o6 o7 : Option Value) (F1 : Nat → Nat → Int32), n ≤ wW s + 1 → (n ≤ wW s → F1 = lcF h M s F n (2 ^ M)) → (n = wW s + 1 → F1 = F) → Rn sc (mtk 200) 17 [some (.ref 39), some (.int (nI s)), some (.int (nI (2 ^ M))), some (.int (nI n - 1)), o4, o5, o6, o7] [] (wIJ (nh h) F1 G) none (wIJ (nh h) (lcF h M s F 0 (2 ^ M)) G) := by
  intro n
  have w12 := (wW_eq hs).2
  have pM := pow_M hM
  induction n with
  | zero =>
    intro o4 o5 o6 o7 F1 hn h1 h2
    refine bk_sound (cuts := []) 20 _ _ _ _ ?_
    refine br_t (by decide) ?_
    refine ⟨trivial, rfl, ?_⟩
    rw [h1 (by omega)]
  | succ n ih =>
    intro o4 o5 o6 o7 F1 hn h1 h2
    have e0 : F1 = lcF h M s F n 0 := by
      by_cases q : n + 1 ≤ wW s
      · rw [h1 q, lcF_r q]
      · rw [h2 (by omega)]
        funext a j
        unfold lcF
        rw [if_neg (by omega)]
    subst e0
    have R := fun o4 o5 o6 o7 => ih o4 o5 o6 o7 (lcF h M s F n (2 ^ M)) (by omega) (fun _ => rfl) (fun z => by omega)
    rw [i_dec (nI n)] at R
    have U := lc_u (sc := sc) (h := h) (F := F) (G := G) (x := n) (h' := wIJ (nh h) (lcF h M s F 0 (2 ^ M)) G) hS hM hP hs L (by omega) (fun o5 o6 o7 => by
      refine bk_sound (cuts := [17]) 20 _ _ _ _ ?_
      exact R _ _ _ _) (2 ^ M) 0 o5 o6 o7 (by omega)
    rw [nI_pred]
    refine bk_sound (cuts := [24]) 20 _ _ _ _ ?_
    refine br_f (nI_pos (by omega)) ?_
    exact U
/-- what a layout leaves as it was -/
def mFr (F' F : Nat → Nat → Int32) : Prop := ∀ a j, ¬ (a = 39 ∧ (j = 29 ∨ j = 31 ∨ j = 32)) → a ≠ 59 → a ≠ 60 → F' a j = F a j
theorem c_layCosts (hS : Shp h) (hM : M ≤ 12) (hP : ∀ p, p < M → PH h p) (hs : s < 16) (e18 : F 39 18 = nI M) (e5 : ∀ a, 51 ≤ a → a ≤ 56 → F a = zI h a) : ∃ F', Cc sc 200 [.ref 39, .int (nI s)] (wIJ (nh h) F G) none (wIJ (nh h) F' G) ∧ (∀ a j, ¬ (a = 39 ∧ j = 29) → a ≠ 59 → a ≠ 60 → F' a j = F a j) ∧ LC h M s F' ∧ ∀ x u, x ≤ wW s → u < 2 ^ M → F' 59 (4096 * x + u) = nI (Dx h M s x u) := by
  have w12 := (wW_eq hs).2
  have pM := pow_M hM
  have eo : ∀ a j, ¬ (a = 39 ∧ j = 29) → a ≠ 60 → swF 39 29 60 F (fS s) 12 a j = F a j := fun a j h1 h2 => by
    unfold swF
    rw [if_neg h1, if_neg (fun z => h2 z.1)]
  have L : LC h M s (swF 39 29 60 F (fS s) 12) := by
    refine ⟨by rw [eo 39 18 (by omega) (by decide)]; exact e18, if_pos ⟨rfl, rfl⟩, fun n hn => ?_, fun a h1 h2 => ?_⟩
    · unfold swF
      rw [if_neg (by omega), if_pos ⟨rfl, hn⟩]
      rfl
    · rw [← e5 a h1 h2]
      funext j
      exact eo a j (by omega) (by omega)
  refine ⟨lcF h M s (swF 39 29 60 F (fS s) 12) 0 (2 ^ M), ?_, fun a j h1 h2 h3 => ?_, ⟨?_, ?_, fun n hn => ?_, fun a h1 h2 => ?_⟩, fun x u hx hu => ?_⟩
  · refine cc_cut [17] 20 rfl rfl ?_
    refine And.intro ⟨rfl, rfl⟩ (And.intro rfl (Exists.intro _ (Exists.intro _ (And.intro (c_layWanted hs) ?_))))
    refine And.intro rfl ?_
    refine And.intro rfl ?_
    rw [show zI (wIJ (nh h) (swF 39 29 60 F (fS s) 12) G) 39 29 = nI (wW s) from L.2.1, show zI (wIJ (nh h) (swF 39 29 60 F (fS s) 12) G) 39 18 = nI M from L.1, shl_1 ⟨M, by omega⟩]
    have R := lc_x (sc := sc) (h := h) (F := swF 39 29 60 F (fS s) 12) (G := G) hS hM hP hs L (wW s + 1) none none none none (swF 39 29 60 F (fS s) 12) (Nat.le_refl _) (fun z => by omega) (fun _ => rfl)
    rw [nI_pred] at R
    exact R
  · rw [lcF_o h2, eo a j h1 h3]
  · rw [lcF_o (by decide)]
    exact L.1
  · rw [lcF_o (by decide)]
    exact L.2.1
  · rw [lcF_o (by decide)]
    exact L.2.2.1 n hn
  · rw [← L.2.2.2 a h1 h2]
    funext j
    exact lcF_o (by omega)
  · unfold lcF
    rw [show (4096 * x + u) / 4096 = x by omega, show (4096 * x + u) % 4096 = u by omega, if_pos ⟨rfl, by omega⟩]
end
