/-! most: what the class knows of the way, and the model's -/
def Scr (a j : Nat) : Prop := a = 3 ∨ a = 4 ∨ (a = 5 ∧ 0 < j) ∨ (6 ≤ a ∧ a ≤ 14) ∨ (19 ≤ a ∧ a ≤ 28) ∨ (45 ≤ a ∧ a ≤ 50) ∨ a = 59 ∨ a = 60 ∨ a = 64 ∨ (a = 39 ∧ ((7 ≤ j ∧ j ≤ 11) ∨ j = 29 ∨ j = 31 ∨ j = 32)) ∨ (a = 15 ∧ j = 6)
/-- only what is made anew at each call has changed -/
def BF (h g : Hp) : Prop := g.1 = h.1 ∧ zK g = zK h ∧ zN g = zN h ∧ (∀ a, a ≠ 3 → a ≠ 6 → a ≠ 19 → zA g a = zA h a) ∧ ∀ a j, ¬ Scr a j → zI g a j = zI h a j
theorem BF.refl (h : Hp) : BF h h := ⟨rfl, rfl, rfl, fun _ _ _ _ => rfl, fun _ _ _ => rfl⟩
theorem BF.trans {h g f : Hp} (a : BF h g) (b : BF g f) : BF h f := ⟨b.1.trans a.1, b.2.1.trans a.2.1, b.2.2.1.trans a.2.2.1, fun x h1 h2 h3 => (b.2.2.2.1 x h1 h2 h3).trans (a.2.2.2.1 x h1 h2 h3), fun x j q => (b.2.2.2.2 x j q).trans (a.2.2.2.2 x j q)⟩
theorem BF.row {h g : Hp} (b : BF h g) {a : Nat} (q : ∀ j, ¬ Scr a j) : zI g a = zI h a := funext fun j => b.2.2.2.2 a j (q j)
theorem BF.sim {h g : Hp} (b : BF h g) (hs : Shp g) (hS : Sim0 h) : Sim0 g := by
  have I : ∀ a j, ¬ Scr a j → zI g a j = zI h a j := b.2.2.2.2
  have hi : ∀ a, 65 ≤ a → zI g a = zI h a := fun a ha => b.row (fun j => by unfold Scr; omega)
  have hA : ∀ a, 65 ≤ a → zA g a = zA h a := fun a ha => b.2.2.2.1 a (by omega) (by omega) (by omega)
  refine ⟨hs, ?_, ?_, ?_, ?_, ?_⟩
  · exact SimA_congr (I 1 7 (by unfold Scr; omega)) (I 39 0 (by unfold Scr; omega)) (I 30 0 (by unfold Scr; omega)) (I 39 37 (by unfold Scr; omega)) (I 15 3 (by unfold Scr; omega)) (I 39 26 (by unfold Scr; omega)) (b.row (fun j => by unfold Scr; omega)) (b.row (fun j => by unfold Scr; omega)) hS.2.1
  · intro k hk
    exact RowOK_congr (I 61 k (by unfold Scr; omega)) (I 62 k (by unfold Scr; omega)) (fun j _ => I 63 _ (by unfold Scr; omega)) (b.row (fun j => by unfold Scr; omega)) (b.row (fun j => by unfold Scr; omega)) (hS.2.2.1 k hk)
  · exact SimC_congr (I 1 1 (by unfold Scr; omega)) (I 39 1 (by unfold Scr; omega)) (fun a h1 h2 => b.row (fun j => by unfold Scr; omega)) hi (b.2.2.2.1 2 (by decide) (by decide) (by decide)) hA (fun a _ => by rw [b.2.1]) (fun a _ => by rw [b.2.2.1]) hS.2.2.2.1
  · exact SimP_congr (I 15 1 (by unfold Scr; omega)) (I 39 18 (by unfold Scr; omega)) (fun a h1 h2 => b.row (fun j => by unfold Scr; omega)) hi (b.2.2.2.1 16 (by decide) (by decide) (by decide)) (fun a _ => by rw [b.2.1]) (b.row (fun j => by unfold Scr; omega)) hS.2.2.2.2.1
  · unfold SimZ
    rw [show zc g = zc h by rw [show zc g = g.1.1 from rfl, b.1], show zs g = zs h by rw [show zs g = g.1.2 from rfl, b.1], b.2.1, I 15 1 (by unfold Scr; omega), I 1 1 (by unfold Scr; omega), I 5 0 (by unfold Scr; omega), b.row (a := 43) (fun j => by unfold Scr; omega)]
    exact hS.2.2.2.2.2
theorem KpO_bf {h g : Hp} (b : BF h g) (e0 : zA g 6 0 = zA h 6 0) (e : ∀ a, a = 6 ∨ a = 7 ∨ a = 8 ∨ a = 11 → zI g a = zI h a) (eJ : zJ g 10 = zJ h 10) : KpO h g := by
  have I : ∀ a j, ¬ Scr a j → zI g a j = zI h a j := b.2.2.2.2
  refine ⟨e0, e, eJ, by rw [I 1 1 (by unfold Scr; omega)]; exact Nat.le_refl _, fun x hx => ⟨by rw [b.2.2.2.1 2 (by decide) (by decide) (by decide)], I 40 x (by unfold Scr; omega), I 41 x (by unfold Scr; omega), I 42 x (by unfold Scr; omega), fun k _ => I 43 _ (by unfold Scr; omega), fun k _ => I 44 _ (by unfold Scr; omega)⟩⟩
/-- the way that is known -/
def WayI (h : Hp) : Prop := zI h 15 6 = 0 ∨ ∃ M ws, M ≤ 12 ∧ zI h 39 18 = nI M ∧ WayOK h M (zI h) ws
theorem cs_congr {h g : Hp} (e : ∀ a, 51 ≤ a → a ≤ 56 → zI g a = zI h a) : (∀ K, csH K g = csH K h) ∧ Fm g = Fm h := by
  have e1 : pKd g = pKd h := by funext p; unfold pKd; rw [e 51 (by omega) (by omega)]
  have e2 : pSt g = pSt h := by funext p; unfold pSt; rw [e 52 (by omega) (by omega)]
  have e3 : pHr g = pHr h := by funext p; unfold pHr; rw [e 53 (by omega) (by omega)]
  have e4 : pUs g = pUs h := by funext p; unfold pUs; rw [e 54 (by omega) (by omega), e 55 (by omega) (by omega)]
  constructor
  · intro K
    funext x p
    unfold csH
    rw [e1, e2, e3, e4, e 56 (by omega) (by omega)]
  · funext p
    unfold Fm
    rw [e1, e2, e3, e4]
theorem D_congr {h g : Hp} (e : ∀ a, 51 ≤ a → a ≤ 56 → zI g a = zI h a) : Dw g = Dw h ∧ Sel g = Sel h ∧ goI g = goI h := by
  obtain ⟨c1, c2⟩ := cs_congr e
  have cm : cM g = cM h := by
    funext s x p
    unfold cM
    rw [c1]
  have d : Dw g = Dw h := by
    funext M s
    unfold Dw
    rw [cm]
  refine ⟨d, ?_, ?_⟩
  · funext M ws
    unfold Sel
    rw [d, c2]
  · funext M s p
    unfold goI goR gW
    rw [cm]
theorem WayOK_congr {h g : Hp} {M ws : Nat} {F F' : Nat → Nat → Int32} (e : ∀ a, 51 ≤ a → a ≤ 56 → zI g a = zI h a) (e19 : ∀ j, j ≤ 3 → F' 19 j = F 19 j) (e20 : F' 20 = F 20) (W : WayOK h M F ws) : WayOK g M F' ws := by
  obtain ⟨d1, d2, d3⟩ := D_congr e
  unfold WayOK
  rw [d1, d2, d3, e19 0 (by decide), e19 1 (by decide), e19 2 (by decide), e19 3 (by decide), e20]
  exact W
theorem WayI_kp {h g : Hp} (W : WayI h) (k : KpW h g) : WayI g := by
  rcases k with k | ⟨k1, k2, k3, k4⟩
  · exact Or.inl k
  · rcases W with W | ⟨M, ws, w1, w2, w3⟩
    · exact Or.inl (by rw [k1]; exact W)
    · exact Or.inr ⟨M, ws, w1, by rw [k3]; exact w2, WayOK_congr (fun a h1 h2 => k4 a (by omega)) (fun j _ => by rw [k4 19 (by omega)]) (k4 20 (by omega)) w3⟩
section
variable {sc : Nat × (Nat → Int32)} {h : Hp}
/-- the class's way -/
theorem c_bestWay (hS : Sim0 h) (W : WayI h) : ∃ g M ws, Cc sc 87 [.ref 15] h (some (.ref 19)) g ∧ BF h g ∧ Shp g ∧ zA g 6 0 = zA h 6 0 ∧ (∀ a, a = 6 ∨ a = 7 ∨ a = 8 ∨ a = 11 → zI g a = zI h a) ∧ zJ g 10 = zJ h 10 ∧ M ≤ 12 ∧ zI h 39 18 = nI M ∧ zI h 15 1 = nI M ∧ WayOK g M (zI g) ws := by
  have hs := hS.1
  obtain ⟨np, c1, c2, c3, c4, c5, c6, c7⟩ := hS.2.2.2.2.1
  have k15 : zK h 15 = 9 := (hs.1 15 (by decide)).1
  by_cases q : zI h 15 6 = 0
  · obtain ⟨F, G, ws, C, f1, f2, f3⟩ := c_find (sc := sc) hs c1 (fun p hp => PH_of (c4 p hp))
    have hA : ∀ a, a ≠ 19 → zA (upA h 19 5 16) a = zA h a := fun a ha => va_up_ne _ _ ha
    have I : ∀ a j, zI (upI (wIJ (upA h 19 5 16) F G) 15 6 1) a j = if a = 15 ∧ j = 6 then 1 else F a j := fun a j => by
      rw [zI_upI]
      by_cases e : a = 15
      · by_cases e2 : j = 6
        · rw [if_pos e, if_pos e2, if_pos ⟨e, e2⟩]
        · rw [if_pos e, if_neg e2, if_neg (fun z => e2 z.2), e]
          rfl
      · rw [if_neg e, if_neg (fun z => e z.1)]
        rfl
    refine ⟨upI (wIJ (upA h 19 5 16) F G) 15 6 1, np, ws, ?_, ⟨rfl, rfl, rfl, fun a _ _ h3 => hA a h3, fun a j hn => ?_⟩, shp_19 hs, by rw [show zA (upI (wIJ (upA h 19 5 16) F G) 15 6 1) 6 = zA h 6 from hA 6 (by decide)], fun a ha => ?_, f2 10 (by decide) (by decide) (by decide) (by decide), c1, c3, c2, ?_⟩
    · have hs1 := hs
      refine cc_nh (F := fun h' => upI (wIJ (upA h 19 5 16) F G) 15 6 1) hs (cc_of 30 rfl rfl ?_)
      have C' : Cc sc 66 [.ref 19, .ref 16, .int (zI (nh h) 15 1)] (nh h) none (wIJ (upA h 19 5 16) F G) := by
        rw [nh_eq hs, c2]
        exact C
      refine And.intro rfl ?_
      refine br_f (show ¬ ¬ zI (nh h) 15 6 = 0 from fun z => z q) ?_
      refine And.intro rfl ?_
      refine And.intro rfl ?_
      refine And.intro rfl ?_
      refine And.intro ⟨rfl, rfl⟩ (And.intro rfl (Exists.intro _ (Exists.intro _ (And.intro (C') ?_))))
      refine And.intro (show kin 9 (zK h 15) = true ∧ ((1 : Int32) = 0 ∨ (1 : Int32) = 1) from ⟨by rw [k15]; rfl, Or.inr rfl⟩) ?_
      refine And.intro (show kin 9 (zK h 15) = true by rw [k15]; rfl) ?_
      exact ⟨trivial, congrArg (fun v => some (Value.ref v)) (show zA (upA h 19 5 16) 15 5 = 19 by rw [hA 15 (by decide)]; exact hs.2 (15, 5, 19) (by decide)), rfl⟩
    · rw [I]
      have : ¬ (a = 15 ∧ j = 6) := fun z => hn (by unfold Scr; omega)
      rw [if_neg this, f1 a (by intro z; exact hn (by unfold Scr; omega)) (by intro z; exact hn (by unfold Scr; omega)) (by intro z; exact hn (by unfold Scr; omega)) (by intro z; exact hn (by unfold Scr; omega)) (by intro z; exact hn (by unfold Scr; omega)) (by intro z; exact hn (by unfold Scr; omega))]
    · funext j
      rw [I, if_neg (by omega), f1 a (by omega) (by omega) (by omega) (by omega) (by omega) (by omega)]
    · refine WayOK_congr (F := F) (fun a h1 h2 => ?_) (fun j _ => by rw [I, if_neg (by omega)]) (by funext j; rw [I, if_neg (by omega)]) f3
      funext j
      rw [I, if_neg (by omega), f1 a (by omega) (by omega) (by omega) (by omega) (by omega) (by omega)]
  · rcases W with W | ⟨M, ws, w1, w2, w3⟩
    · exact absurd W q
    · have hM : M = np := nI_inj12 w1 c1 (w2.symm.trans c3)
      subst hM
      refine ⟨h, M, ws, ?_, BF.refl h, hs, rfl, fun _ _ => rfl, rfl, w1, w2, c2, w3⟩
      refine cc_nh (F := fun h => h) hs (cc_of 30 rfl rfl ?_)
      refine And.intro rfl ?_
      refine br_t (show ¬ zI (nh h) 15 6 = 0 from q) ?_
      refine And.intro rfl ?_
      exact ⟨trivial, rfl, rfl⟩
def Op3 (sc : Nat × (Nat → Int32)) (kx km : Nat) (as : List Value) (h : Hp) : Prop := ∃ r h1 h2, Cc sc kx (.ref 1 :: as) h (some r) h1 ∧ Cc sc km (.ref 39 :: as) h1 (some r) h2 ∧ Sim0 h2 ∧ KpO h h2 ∧ WayI h2
/-- the class's side of most: it ends with its answer -/
theorem most_x {g : Hp} {w : Int32} {M ws : Nat} (hs : Shp h) (hsg : Shp g) (C : Cc sc 87 [.ref 15] h (some (.ref 19)) g) (W : WayOK g M (zI g) ws) : Cc sc 111 [.ref 1, .int w] h (some (.int (if w = 0 then nI (bc ws) else if w = 1 then nI (Dw g M ws / 1000) else if w = 2 then nI (Dw g M ws % 1000) else if w = 3 then nI ws else -2))) g := by
  obtain ⟨-, x0, -, -, x3, x1, x2, -⟩ := W
  have k19 : zK g 19 = 8 := (hsg.1 19 (by decide)).1
  have C' : Cc sc 87 [.ref 15] (nh h) (some (.ref 19)) g := by rw [nh_eq hs]; exact C
  have R : Rn sc (mtk 111) 9 [some (.ref 1), some (.int w), some (.ref 19)] [.int w] g (some (.int (if w = 0 then nI (bc ws) else if w = 1 then nI (Dw g M ws / 1000) else if w = 2 then nI (Dw g M ws % 1000) else if w = 3 then nI ws else -2))) g := by
    by_cases qo : w.toInt < 0 ∨ 3 < w.toInt
    · have n : ∀ k : Int32, 0 ≤ k.toInt → k.toInt ≤ 3 → ¬ w = k := fun k h1 h2 e => by rw [e] at qo; omega
      rw [if_neg (n 0 (by decide) (by decide)), if_neg (n 1 (by decide) (by decide)), if_neg (n 2 (by decide) (by decide)), if_neg (n 3 (by decide) (by decide))]
      refine bk_sound (cuts := []) 1 _ _ _ _ ?_
      show Rn sc (mtk 111) (tsw 9 51 0 3 #[31, 36, 41, 46] w) [some (.ref 1), some (.int w), some (.ref 19)] [] g (some (.int (-2))) g
      rw [tsw_out qo]
      refine bk_sound (cuts := []) 20 _ _ _ _ ?_
      exact ⟨Or.inl rfl, rfl, rfl⟩
    · obtain ⟨w, hw, rfl⟩ := i_of (a := w) (n := 4) (by omega) (by omega) (by decide)
      obtain rfl | rfl | rfl | rfl : w = 0 ∨ w = 1 ∨ w = 2 ∨ w = 3 := by omega
      · refine bk_sound (cuts := []) 20 _ _ _ _ ?_
        refine And.intro (by rw [k19]; rfl) ?_
        exact ⟨Or.inl rfl, congrArg (fun v => some (Value.int v)) x0, rfl⟩
      · refine bk_sound (cuts := []) 20 _ _ _ _ ?_
        refine And.intro (by rw [k19]; rfl) ?_
        exact ⟨Or.inl rfl, congrArg (fun v => some (Value.int v)) x1, rfl⟩
      · refine bk_sound (cuts := []) 20 _ _ _ _ ?_
        refine And.intro (by rw [k19]; rfl) ?_
        exact ⟨Or.inl rfl, congrArg (fun v => some (Value.int v)) x2, rfl⟩
      · refine bk_sound (cuts := []) 20 _ _ _ _ ?_
        refine And.intro (by rw [k19]; rfl) ?_
        exact ⟨Or.inl rfl, congrArg (fun v => some (Value.int v)) x3, rfl⟩
  refine cc_nh (F := fun _ => g) hs (cc_cut [9] 30 rfl rfl ?_)
  refine And.intro rfl ?_
  refine And.intro ⟨rfl, rfl⟩ (And.intro rfl (Exists.intro _ (Exists.intro _ (And.intro (C') ?_))))
  exact R
theorem wIJ_id (h : Hp) : wIJ (nh h) (zI h) (zJ h) = nh h := rfl
/-- behind the model's layout all is as it should be -/
theorem fin_way {g : Hp} {F : Nat → Nat → Int32} {M ws : Nat} (hS : Sim0 h) (hsg : Shp g) (b : BF h g) (e0 : zA g 6 0 = zA h 6 0) (e : ∀ a, a = 6 ∨ a = 7 ∨ a = 8 ∨ a = 11 → zI g a = zI h a) (eJ : zJ g 10 = zJ h 10) (hM : M ≤ 12) (eM : zI h 39 18 = nI M) (W : WayOK g M (zI g) ws) (m : mFr F (zI g)) : Sim0 (wIJ (nh g) F (zJ g)) ∧ KpO h (wIJ (nh g) F (zJ g)) ∧ WayI (wIJ (nh g) F (zJ g)) := by
  have b2 : BF g (wIJ (nh g) F (zJ g)) := by
    rw [nh_eq hsg]
    exact ⟨rfl, rfl, rfl, fun _ _ _ _ => rfl, fun a j hn => m a j (fun z => hn (by unfold Scr; omega)) (fun z => hn (by unfold Scr; omega)) (fun z => hn (by unfold Scr; omega))⟩
  have bb := b.trans b2
  have mr : ∀ a, a ≠ 39 → a ≠ 59 → a ≠ 60 → F a = zI g a := fun a h1 h2 h3 => funext fun j => m a j (fun z => h1 z.1) h2 h3
  refine ⟨bb.sim (shp_nh hsg) hS, KpO_bf bb ?_ (fun a ha => (mr a (by omega) (by omega) (by omega)).trans (e a ha)) eJ, Or.inr ⟨M, ws, hM, ?_, WayOK_congr (h := g) (F := zI g) (fun a h1 h2 => mr a (by omega) (by omega) (by omega)) (fun j _ => by rw [show zI (wIJ (nh g) F (zJ g)) 19 = F 19 from rfl, mr 19 (by decide) (by decide) (by decide)]) (mr 20 (by decide) (by decide) (by decide)) W⟩⟩
  · show zA (nh g) 6 0 = _
    rw [nh_eq hsg]
    exact e0
  · show F 39 18 = nI M
    rw [m 39 18 (by omega) (by decide) (by decide), b.2.2.2.2 39 18 (by unfold Scr; omega)]
    exact eM
theorem op_most (hS : Sim0 h) (W : WayI h) (w : Int32) : Op3 sc 111 203 [.int w] h := by
  obtain ⟨g, M, ws, C, b, hsg, e0, e, eJ, hM, eM, eM1, WO⟩ := c_bestWay (sc := sc) hS W
  have hSg := b.sim hsg hS
  have X := most_x (w := w) hS.1 hsg C WO
  have gM : zI g 39 18 = nI M := by rw [b.2.2.2.2 39 18 (by unfold Scr; omega)]; exact eM
  by_cases q : 0 ≤ w.toInt ∧ w.toInt < 4
  · have hP : ∀ p, p < M → PH g p := fun p hp => by
      obtain ⟨np, c1, c2, c3, c4, -⟩ := hSg.2.2.2.2.1
      have : M = np := nI_inj12 hM c1 (gM.symm.trans c3)
      exact PH_of (c4 p (by omega))
    obtain ⟨F', ws', L, m, S1, S2, l31, l32⟩ := c_layWay (sc := sc) (h := g) (F := zI g) (G := zJ g) hsg hM hP gM (fun _ _ _ => rfl)
    obtain rfl : ws' = ws := Sel_uniq S1 WO.1
    obtain ⟨k1, k2, k3⟩ := fin_way hS hsg b e0 e eJ hM eM WO m
    have wl := WO.1.1
    refine ⟨_, g, wIJ (nh g) F' (zJ g), X, ?_, k1, k2, k3⟩
    obtain ⟨w, hw, rfl⟩ := i_of (a := w) (n := 4) (by omega) (by omega) (by decide)
    refine cc_nh (F := fun _ => wIJ (nh g) F' (zJ g)) hsg ?_
    obtain rfl | rfl | rfl | rfl : w = 0 ∨ w = 1 ∨ w = 2 ∨ w = 3 := by omega
    · refine cc_of 40 rfl rfl ?_
      refine And.intro rfl (And.intro rfl (Exists.intro _ (Exists.intro _ (And.intro (c_inN (nI 0) (m := 3) (n := 3) (by decide)) ?_))))
      refine br_t (by decide) ?_
      refine And.intro ⟨rfl, rfl⟩ (And.intro rfl (Exists.intro _ (Exists.intro _ (And.intro (L) ?_))))
      refine br_f (by exact fun z => z rfl) ?_
      refine And.intro rfl ?_
      rw [show zI (wIJ (nh g) F' (zJ g)) 39 31 = nI ws' from l31]
      refine And.intro rfl (And.intro rfl (Exists.intro _ (Exists.intro _ (And.intro (c_bits wl) ?_))))
      exact ⟨Or.inl rfl, rfl, rfl⟩
    · refine cc_of 40 rfl rfl ?_
      refine And.intro rfl (And.intro rfl (Exists.intro _ (Exists.intro _ (And.intro (c_inN (nI 1) (m := 3) (n := 3) (by decide)) ?_))))
      refine br_t (by decide) ?_
      refine And.intro ⟨rfl, rfl⟩ (And.intro rfl (Exists.intro _ (Exists.intro _ (And.intro (L) ?_))))
      refine br_t (by decide) ?_
      refine br_f (by exact fun z => z rfl) ?_
      refine And.intro rfl ?_
      rw [show zI (wIJ (nh g) F' (zJ g)) 39 32 = nI (Dw g M ws') from l32]
      refine And.intro (by decide) ?_
      rw [show (1000 : Int32) = nI 1000 from rfl, pk_div (by omega) (by decide) (by decide)]
      exact ⟨Or.inl rfl, rfl, rfl⟩
    · refine cc_of 40 rfl rfl ?_
      refine And.intro rfl (And.intro rfl (Exists.intro _ (Exists.intro _ (And.intro (c_inN (nI 2) (m := 3) (n := 3) (by decide)) ?_))))
      refine br_t (by decide) ?_
      refine And.intro ⟨rfl, rfl⟩ (And.intro rfl (Exists.intro _ (Exists.intro _ (And.intro (L) ?_))))
      refine br_t (by decide) ?_
      refine br_t (by decide) ?_
      refine br_f (by exact fun z => z rfl) ?_
      refine And.intro rfl ?_
      rw [show zI (wIJ (nh g) F' (zJ g)) 39 32 = nI (Dw g M ws') from l32]
      refine And.intro (by decide) ?_
      rw [show (1000 : Int32) = nI 1000 from rfl, pk_rem (by omega) (by decide) (by decide)]
      exact ⟨Or.inl rfl, rfl, rfl⟩
    · refine cc_of 40 rfl rfl ?_
      refine And.intro rfl (And.intro rfl (Exists.intro _ (Exists.intro _ (And.intro (c_inN (nI 3) (m := 3) (n := 3) (by decide)) ?_))))
      refine br_t (by decide) ?_
      refine And.intro ⟨rfl, rfl⟩ (And.intro rfl (Exists.intro _ (Exists.intro _ (And.intro (L) ?_))))
      refine br_t (by decide) ?_
      refine br_t (by decide) ?_
      refine br_t (by decide) ?_
      refine And.intro rfl ?_
      exact ⟨Or.inl rfl, congrArg (fun v => some (Value.int v)) l31, rfl⟩
  · have n : ∀ k : Int32, 0 ≤ k.toInt → k.toInt ≤ 3 → ¬ w = k := fun k h1 h2 z => by rw [z] at q; omega
    rw [if_neg (n 0 (by decide) (by decide)), if_neg (n 1 (by decide) (by decide)), if_neg (n 2 (by decide) (by decide)), if_neg (n 3 (by decide) (by decide))] at X
    refine ⟨.int (-2), g, g, X, ?_, hSg, KpO_bf b e0 e eJ, Or.inr ⟨M, ws, hM, gM, WO⟩⟩
    refine cc_nh (F := fun h => h) hsg (cc_of 40 rfl rfl ?_)
    refine And.intro rfl (And.intro rfl (Exists.intro _ (Exists.intro _ (And.intro (c_inN w (m := 3) (n := 3) (by decide)) ?_))))
    refine br_f (by rw [bI_z]; exact fun z => z (decide_eq_false q)) ?_
    exact ⟨Or.inl rfl, rfl, rfl⟩
end
