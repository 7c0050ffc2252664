/-! goes -/
def anI (s : Nat) (x : Option Nat) : Int32 := match x with
  | none => -9
  | some x => nI (10 * (wP s x / 3) + wP s x % 3)
section
variable {sc : Nat × (Nat → Int32)} {h : Hp} {F : Nat → Nat → Int32} {G : Nat → Nat → Int64} {M s : Nat}
theorem us_lt (fe : Dw h M s < 1000000) : ∀ x, x ≤ wW s → us M (cM h s) (wW s) x < 2 ^ M := by
  intro x
  induction x with
  | zero => intro _; exact Nat.pow_pos (by decide)
  | succ x ih =>
    intro hx
    have g := gr_at (M := M) (cs := cM h s) (W := wW s) (x := x) (by omega) (gr_dp fe x (by omega))
    rw [us_succ]
    exact Nat.or_lt_two_pow (ih (by omega)) (Nat.pow_lt_pow_right (by decide) g.2.1)
def qX (h : Hp) (M s x : Nat) (q : Nat) : Bool := isq M (cM h s) (wW s) x (us M (cM h s) (wW s) x) q
theorem go_q {r h'} {x : Nat} {p : Int32} (hS : Shp h) (hM : M ≤ 12) (hP : ∀ p, p < M → PH h p) (hs : s < 16) (L : LC h M s F) (T : ∀ x u, x ≤ wW s → u < 2 ^ M → F 59 (4096 * x + u) = nI (Dx h M s x u)) (hx : x < wW s) (hu : us M (cM h s) (wW s) x < 2 ^ M) (K : ∀ o5 o6 o7, Rn sc (mtk 204) 148 [some (.ref 39), some (.int p), some (.int (nI (us M (cM h s) (wW s) x))), some (.int (nI x)), some (.int (oI (ff (qX h M s x) 0 M))), o5, o6, o7] [] (wIJ (nh h) F G) r h') : ∀ (n : Nat) (o6 o7 : Option Value), n ≤ M → Rn sc (mtk 204) 46 [some (.ref 39), some (.int p), some (.int (nI (us M (cM h s) (wW s) x))), some (.int (nI x)), some (.int (oI (ff (qX h M s x) n (M - n)))), some (.int (nI n - 1)), o6, o7] [] (wIJ (nh h) F G) r h' := by
  intro n
  have w12 := (wW_eq hs).2
  have pM := pow_M hM
  obtain ⟨l1, l2, l3, l4⟩ := L
  induction n with
  | zero =>
    intro o6 o7 _
    refine bk_sound (cuts := [148]) 20 _ _ _ _ ?_
    refine br_t (by decide) ?_
    exact K _ _ _
  | succ n ih =>
    intro o6 o7 hn
    generalize hU : us M (cM h s) (wW s) x = u at *
    have R := fun o6 o7 => ih o6 o7 (by omega)
    rw [i_dec (nI n)] at R
    obtain ⟨y1, y2, y3, y4, y5, y6, y7, y8, ⟨gd, hd, y9, y10, y11, y12, y13⟩, y14, y15, y16, y17⟩ := hP n (by omega)
    have hc := c_costOf (sc := sc) (g := wIJ (nh h) F G) (wIJ_shp hS _ _) (p := n) (x := wP s x) (by omega) (wP_eq hs hx).2 y2 (show F 51 n = _ by rw [l4 51 (by omega) (by omega)]; exact y15) (show F 52 n = _ by rw [l4 52 (by omega) (by omega)]; exact y16) (show F 53 n = _ by rw [l4 53 (by omega) (by omega)]; exact y17) (show F 54 n = _ by rw [l4 54 (by omega) (by omega)]; exact y11) (show F 55 n = _ by rw [l4 55 (by omega) (by omega)]; exact y12) (pl := zI h 56 n) (show F 56 n = _ by rw [l4 56 (by omega) (by omega)]) y4 y6
    rw [← y13] at hc
    have ix : inB (nI x) 12 = true := inB_nI (by omega) (by decide)
    have exx : (nI x).toNatClampNeg = x := nI_clamp (by omega)
    have fs : ff (qX h M s x) n (M - n) = if qX h M s x n = true then some n else ff (qX h M s x) (n + 1) (M - (n + 1)) := by
      rw [show M - n = M - (n + 1) + 1 by omega]
      rfl
    have qe : qX h M s x n = decide (opA (cs1 1000 (pKd h n) (pSt h n) (pHr h n) (pUs h n) (zI h 56 n) (wP s x)) u n (Dx h M s (x + 1) (u ||| 2 ^ n)) = some (Dx h M s x u)) := by
      unfold qX isq
      rw [hU]
      rfl
    -- not taken
    have no : qX h M s x n = false → ∀ o6 o7, Rn sc (mtk 204) 46 [some (.ref 39), some (.int p), some (.int (nI u)), some (.int (nI x)), some (.int (oI (ff (qX h M s x) (n + 1) (M - (n + 1))))), some (.int (nI n + Int32.ofInt (-1))), o6, o7] [] (wIJ (nh h) F G) r h' := fun z o6 o7 => by
      have := R o6 o7
      rw [fs, z, if_neg (by decide)] at this
      exact this
    rw [nI_pred]
    refine bk_sound (cuts := [46]) 100 _ _ _ _ ?_
    refine br_f (nI_pos (by omega)) ?_
    refine And.intro rfl (And.intro rfl (Exists.intro _ (Exists.intro _ (And.intro (c_hasBit (by omega) (by omega)) ?_))))
    by_cases q : u / 2 ^ n % 2 = 1
    · refine br_f (bI_ne q) ?_
      refine br_t (show (-9 : Int32) < 0 by decide) ?_
      refine br_t (by rfl) ?_
      exact no (by rw [qe]; exact decide_eq_false (fun z => by rw [opA_some] at z; have := z.1; rw [tb_dec, decide_eq_true q] at this; cases this)) _ _
    · refine br_t (bI_eq q) ?_
      refine And.intro rfl ?_
      refine And.intro (⟨rfl, ix⟩) ?_
      rw [exx, show zI (wIJ (nh h) F G) (zA (wIJ (nh h) F G) 39 30) x = nI (wP s x) from l3 x hx]
      refine And.intro ⟨rfl, rfl⟩ (And.intro rfl (Exists.intro _ (Exists.intro _ (And.intro (hc) ?_))))
      have hb : u.testBit n = false := by rw [tb_dec, decide_eq_false q]
      cases hcc : cs1 1000 (pKd h n) (pSt h n) (pHr h n) (pUs h n) (zI h 56 n) (wP s x) with
      | none =>
        refine br_t (show oI none < 0 by decide) ?_
        refine br_t (by rfl) ?_
        exact no (by rw [qe, hcc]; exact decide_eq_false (fun z => by rw [opA_some] at z; obtain ⟨-, c, z, -⟩ := z; cases z)) _ _
      | some c =>
        have cl := cs1_le y6 hcc
        have df := Dx_far h M s (x + 1) (u ||| 2 ^ n)
        have df2 := Dx_far h M s x u
        have ul : u ||| 2 ^ n < 2 ^ M := Nat.or_lt_two_pow hu (Nat.pow_lt_pow_right (by decide) (by omega))
        have c0 : ¬ nI c < 0 := by
          rw [i_lt, nI_toInt (by omega)]
          simp only [Int32.reduceToInt]
          omega
        refine br_f (show ¬ oI (some c) < 0 from c0) ?_
        refine And.intro rfl ?_
        have ei : 4096 * (nI x + 1) + (nI u ||| ((1 : Int32) <<< (nI n &&& 31))) = nI (4096 * (x + 1) + (u ||| 2 ^ n)) := by
          rw [shl_1 ⟨n, by omega⟩, or_nI, nI_1, show (4096 : Int32) = nI 4096 from rfl, pk_mul, nI_add]
        have ei2 : 4096 * nI x + nI u = nI (4096 * x + u) := by rw [show (4096 : Int32) = nI 4096 from rfl, pk_mul, nI_add]
        refine And.intro (show _ ∧ inB (4096 * (nI x + 1) + (nI u ||| ((1 : Int32) <<< (nI n &&& 31)))) 53248 = true from ⟨rfl, by rw [ei]; exact inB_nI (by omega) (by decide)⟩) ?_
        rw [ei, nI_clamp (by omega), show zI (wIJ (nh h) F G) (zA (wIJ (nh h) F G) 39 28) (4096 * (x + 1) + (u ||| 2 ^ n)) = nI (Dx h M s (x + 1) (u ||| 2 ^ n)) from T (x + 1) _ (by omega) ul]
        refine And.intro rfl ?_
        refine And.intro (show _ ∧ inB (4096 * nI x + nI u) 53248 = true from ⟨rfl, by rw [ei2]; exact inB_nI (by omega) (by decide)⟩) ?_
        rw [ei2, nI_clamp (by omega), show zI (wIJ (nh h) F G) (zA (wIJ (nh h) F G) 39 28) (4096 * x + u) = nI (Dx h M s x u) from T x u (by omega) hu]
        have oe : opA (some c) u n (Dx h M s (x + 1) (u ||| 2 ^ n)) = some (c + Dx h M s (x + 1) (u ||| 2 ^ n)) := by unfold opA; rw [hb]
        by_cases w : c + Dx h M s (x + 1) (u ||| 2 ^ n) = Dx h M s x u
        · refine br_f (show ¬ ¬ oI (some c) + nI (Dx h M s (x + 1) (u ||| 2 ^ n)) = nI (Dx h M s x u) from fun z => z (by show nI c + _ = _; rw [nI_add, w])) ?_
          refine br_f (by decide) ?_
          have hy : qX h M s x n = true := by
            rw [qe, hcc, oe, w]
            exact decide_eq_true rfl
          have := R
          rw [fs, hy, if_pos rfl] at this
          exact this _ _
        · refine br_t (show ¬ oI (some c) + nI (Dx h M s (x + 1) (u ||| 2 ^ n)) = nI (Dx h M s x u) by
            show ¬ nI c + _ = _
            rw [nI_add]
            exact fun z => w ((nI_eq (by omega) (by omega)).mp z)) ?_
          refine br_t (by rfl) ?_
          exact no (by rw [qe, hcc, oe]; exact decide_eq_false (fun z => w (Option.some.inj z))) _ _
theorem go_x {p : Nat} (hS : Shp h) (hM : M ≤ 12) (hP : ∀ p, p < M → PH h p) (hs : s < 16) (fe : Dw h M s < 1000000) (L : LC h M s F) (T : ∀ x u, x ≤ wW s → u < 2 ^ M → F 59 (4096 * x + u) = nI (Dx h M s x u)) (hp : p < M) : ∀ (d x : Nat) (o4 o5 o6 o7 : Option Value), x + d = wW s → Rn sc (mtk 204) 26 [some (.ref 39), some (.int (nI p)), some (.int (nI (us M (cM h s) (wW s) x))), some (.int (nI x)), o4, o5, o6, o7] [] (wIJ (nh h) F G) (some (.int (anI s (ff (fun x => decide (gW h M s x = p)) x d)))) (wIJ (nh h) F G) := by
  intro d
  have w12 := (wW_eq hs).2
  have pM := pow_M hM
  induction d with
  | zero =>
    intro x o4 o5 o6 o7 hx
    obtain rfl : x = wW s := by omega
    refine bk_sound (cuts := []) 20 _ _ _ _ ?_
    refine And.intro rfl ?_
    refine br_t (show F 39 29 ≤ nI (wW s) by rw [L.2.1]; exact nI_le (Nat.le_refl _) (by omega)) ?_
    exact ⟨Or.inl rfl, rfl, rfl⟩
  | succ d ih =>
    intro x o4 o5 o6 o7 hx
    have g := gr_at (M := M) (cs := cM h s) (W := wW s) (x := x) (by omega) (gr_dp fe x (by omega))
    have gM : gW h M s x < M := g.2.1
    have fe1 : ff (qX h M s x) 0 M = some (gW h M s x) := g.1
    have R := fun o4 o5 o6 o7 => ih (x + 1) o4 o5 o6 o7 (by omega)
    have wp := (wP_eq (n := x) hs (by omega)).2
    have ix : inB (nI x) 12 = true := inB_nI (by omega) (by decide)
    have exx : (nI x).toNatClampNeg = x := nI_clamp (by omega)
    have fn : ff (fun x => decide (gW h M s x = p)) x (d + 1) = if decide (gW h M s x = p) = true then some x else ff (fun x => decide (gW h M s x = p)) (x + 1) d := rfl
    have ul := us_lt fe x (by omega)
    have Q := go_q (sc := sc) (h := h) (F := F) (G := G) (x := x) (p := nI p) (r := some (.int (anI s (ff (fun x => decide (gW h M s x = p)) x (d + 1))))) (h' := wIJ (nh h) F G) hS hM hP hs L T (by omega) ul (fun o5 o6 o7 => by
      rw [fe1]
      by_cases q : gW h M s x = p
      · rw [fn, decide_eq_true q, if_pos rfl]
        refine bk_sound (cuts := []) 40 _ _ _ _ ?_
        refine br_f (show ¬ ¬ nI (gW h M s x) = nI p from fun z => z (by rw [q])) ?_
        refine And.intro rfl ?_
        refine And.intro (⟨rfl, ix⟩) ?_
        rw [exx, show zI (wIJ (nh h) F G) (zA (wIJ (nh h) F G) 39 30) x = nI (wP s x) from L.2.2.1 x (by omega)]
        refine And.intro (by decide) ?_
        refine And.intro rfl ?_
        refine And.intro (⟨rfl, ix⟩) ?_
        rw [exx, show zI (wIJ (nh h) F G) (zA (wIJ (nh h) F G) 39 30) x = nI (wP s x) from L.2.2.1 x (by omega)]
        refine And.intro (by decide) ?_
        refine ⟨Or.inl rfl, ?_, rfl⟩
        show some (Value.int (10 * (nI (wP s x) / 3) + (nI (wP s x) - nI (wP s x) / 3 * 3))) = some (Value.int (nI (10 * (wP s x / 3) + wP s x % 3)))
        rw [show nI (wP s x) - nI (wP s x) / 3 * 3 = nI (wP s x % 3) from pk_rem (d := 3) (by omega) (by decide) (by decide), show nI (wP s x) / 3 = nI (wP s x / 3) from pk_div (d := 3) (by omega) (by decide) (by decide), show (10 : Int32) = nI 10 from rfl, pk_mul, nI_add]
      · rw [fn, decide_eq_false q, if_neg (by decide)]
        refine bk_sound (cuts := [26]) 40 _ _ _ _ ?_
        refine br_t (show ¬ nI (gW h M s x) = nI p from fun z => q ((nI_eq (by omega) (by omega)).mp z)) ?_
        have R := R (some (.int (nI (gW h M s x)))) o5 o6 o7
        rw [us_succ, ← or_nI, ← nI_1 x] at R
        have sh := shl_1 ⟨gW h M s x, by omega⟩
        rw [show nI (2 ^ gr M (cM h s) (wW s) x) = (1 : Int32) <<< (nI (gW h M s x) &&& 31) from sh.symm] at R
        exact R) M o6 o7 (Nat.le_refl _)
    rw [Nat.sub_self] at Q
    refine bk_sound (cuts := [46]) 40 _ _ _ _ ?_
    refine And.intro rfl ?_
    refine br_f (show ¬ F 39 29 ≤ nI x by rw [L.2.1]; exact nI_ge (by omega) (by omega)) ?_
    refine And.intro rfl ?_
    rw [show zI (wIJ (nh h) F G) 39 18 = nI M from L.1]
    exact Q
theorem op_goes (hS : Sim0 h) (W : WayI h) (p : Int32) : Op3 sc 112 204 [.int p] h := by
  have hs := hS.1
  obtain ⟨np, c1, c2, c3, c4, c5, c6, c7⟩ := hS.2.2.2.2.1
  by_cases q : 0 ≤ p.toInt ∧ p.toInt < np
  · obtain ⟨p, hp, rfl⟩ := i_of q.1 (n := np) q.2 (by omega)
    obtain ⟨g, M, ws, C, b, hsg, e0, e, eJ, hM, eM, eM1, WO⟩ := c_bestWay (sc := sc) hS W
    obtain rfl : M = np := nI_inj12 hM c1 (eM.symm.trans c3)
    have hSg := b.sim hsg hS
    have gM : zI g 39 18 = nI M := by rw [b.2.2.2.2 39 18 (by unfold Scr; omega)]; exact eM
    have hP : ∀ p, p < M → PH g p := fun p hp => by
      obtain ⟨np', d1, d2, d3, d4, -⟩ := hSg.2.2.2.2.1
      have : M = np' := nI_inj12 hM d1 (gM.symm.trans d3)
      exact PH_of (d4 p (by omega))
    obtain ⟨F', ws', L, m, S1, S2, l31, l32⟩ := c_layWay (sc := sc) (h := g) (F := zI g) (G := zJ g) hsg hM hP gM (fun _ _ _ => rfl)
    obtain rfl : ws' = ws := Sel_uniq S1 WO.1
    have wl := WO.1.1
    obtain ⟨F2, C2, f1, f2, f3⟩ := c_layCosts (sc := sc) (h := g) (F := F') (G := zJ g) (M := M) (s := ws') hsg hM hP wl (by rw [m 39 18 (by omega) (by decide) (by decide)]; exact gM) (fun a h1 h2 => funext fun j => m a j (by omega) (by omega) (by omega))
    have m2 : mFr F2 (zI g) := fun a j h1 h2 h3 => (f1 a j (by omega) h2 h3).trans (m a j h1 h2 h3)
    obtain ⟨k1, k2, k3⟩ := fin_way hS hsg b e0 e eJ hM eM WO m2
    have C' : Cc sc 87 [.ref 15] (nh h) (some (.ref 19)) g := by rw [nh_eq hs]; exact C
    have ip : inB (nI p) 12 = true := inB_nI (by omega) (by decide)
    have ep : (nI p).toNatClampNeg = p := nI_clamp (by omega)
    have k19 : zK g 19 = 8 := (hsg.1 19 (by decide)).1
    have a20 : zA g 19 4 = 20 := hsg.2 (19, 4, 20) (by decide)
    have k20 : zK g 20 = 12 ∧ zN g 20 = 12 := hsg.1 20 (by decide)
    have e20 : zI g 20 p = goI g M ws' p := WO.2.2.2.2.2.2.2 p hp
    refine ⟨.int (anI ws' (goR g M ws' p)), g, wIJ (nh g) F2 (zJ g), ?_, ?_, k1, k2, k3⟩
    · refine cc_nh (F := fun _ => g) hs (cc_cut [23] 30 rfl rfl ?_)
      refine And.intro ⟨rfl, rfl⟩ (And.intro rfl (Exists.intro _ (Exists.intro _ (And.intro (c_isPart (h := nh h) (shp_nh hs) c1 c2 (nI p)) ?_))))
      refine br_t (by first | assumption | (simp (discharger := omega) only [i_lt, i_le, i_eq, bI_tz, decide_eq_false_iff_not, Int32.reduceToInt, nI_toInt, tm1, tm2, tm3, tm4, tm9]; done) | (simp (discharger := omega) only [i_lt, i_le, i_eq, bI_tz, decide_eq_false_iff_not, Int32.reduceToInt, nI_toInt, tm1, tm2, tm3, tm4, tm9]; omega) | omega) ?_
      refine And.intro rfl ?_
      refine And.intro ⟨rfl, rfl⟩ (And.intro rfl (Exists.intro _ (Exists.intro _ (And.intro (C') ?_))))
      refine And.intro (by rw [k19]; rfl) ?_
      rw [a20]
      refine And.intro (show zK g 20 = 12 ∧ inB (nI p) (zN g 20) = true from ⟨k20.1, by rw [k20.2]; exact ip⟩) ?_
      rw [ep, e20]
      refine bk_sound (cuts := []) 40 _ _ _ _ ?_
      unfold goI
      cases hg : goR g M ws' p with
      | none =>
        refine br_f (by exact fun z => z rfl) ?_
        exact ⟨Or.inl rfl, rfl, rfl⟩
      | some x =>
        have wp := (wP_eq (n := x) wl (by have := ff_some _ _ _ hg; omega)).2
        refine br_t (show ¬ nI (wP ws' x) = -9 from fun z => ?_) ?_
        · have := congrArg Int32.toInt z
          rw [nI_toInt (by omega), tm9] at this
          omega
        · refine And.intro (by decide) ?_
          refine And.intro (by decide) ?_
          refine ⟨Or.inl rfl, ?_, rfl⟩
          show some (Value.int (nI (wP ws' x) / 3 * 10 + (nI (wP ws' x) - nI (wP ws' x) / 3 * 3))) = some (Value.int (nI (10 * (wP ws' x / 3) + wP ws' x % 3)))
          rw [show nI (wP ws' x) - nI (wP ws' x) / 3 * 3 = nI (wP ws' x % 3) from pk_rem (d := 3) (by omega) (by decide) (by decide), show nI (wP ws' x) / 3 = nI (wP ws' x / 3) from pk_div (d := 3) (by omega) (by decide) (by decide), show (10 : Int32) = nI 10 from rfl, pk_mul, nI_add, Nat.mul_comm]
    · refine cc_nh (F := fun _ => wIJ (nh g) F2 (zJ g)) hsg (cc_cut [26] 30 rfl rfl ?_)
      refine And.intro ⟨rfl, rfl⟩ (And.intro rfl (Exists.intro _ (Exists.intro _ (And.intro (c_noPart (h := nh g) (shp_nh hsg) hM gM (nI p)) ?_))))
      refine br_t (by first | assumption | (simp (discharger := omega) only [i_lt, i_le, i_eq, bI_tz, decide_eq_false_iff_not, Int32.reduceToInt, nI_toInt, tm1, tm2, tm3, tm4, tm9]; done) | (simp (discharger := omega) only [i_lt, i_le, i_eq, bI_tz, decide_eq_false_iff_not, Int32.reduceToInt, nI_toInt, tm1, tm2, tm3, tm4, tm9]; omega) | omega) ?_
      refine And.intro ⟨rfl, rfl⟩ (And.intro rfl (Exists.intro _ (Exists.intro _ (And.intro (L) ?_))))
      refine And.intro rfl ?_
      rw [show zI (wIJ (nh g) F' (zJ g)) 39 31 = nI ws' from l31]
      refine And.intro ⟨rfl, rfl⟩ (And.intro rfl (Exists.intro _ (Exists.intro _ (And.intro (C2) ?_))))
      have X := go_x (sc := sc) (h := g) (F := F2) (G := zJ g) hsg hM hP wl S2 f2 f3 hp (wW ws') 0 none none none none (by omega)
      exact X
  · refine ⟨.int (-1), h, h, ?_, ?_, hS, KpO_bf (BF.refl h) rfl (fun _ _ => rfl) rfl, W⟩
    · refine cc_nh (F := fun h => h) hs (cc_of 30 rfl rfl ?_)
      refine And.intro ⟨rfl, rfl⟩ (And.intro rfl (Exists.intro _ (Exists.intro _ (And.intro (c_isPart (h := nh h) (shp_nh hs) c1 c2 p) ?_))))
      refine br_f (by rw [bI_z]; exact fun z => z (decide_eq_false q)) ?_
      exact ⟨Or.inl rfl, rfl, rfl⟩
    · refine cc_nh (F := fun h => h) hs (cc_of 30 rfl rfl ?_)
      refine And.intro ⟨rfl, rfl⟩ (And.intro rfl (Exists.intro _ (Exists.intro _ (And.intro (c_noPart (h := nh h) (shp_nh hs) c1 c3 p) ?_))))
      refine br_f (by rw [bI_z, decide_eq_false_iff_not]; exact fun z => z q) ?_
      exact ⟨Or.inl rfl, rfl, rfl⟩
end
