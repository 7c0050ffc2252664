/-! keep, find -/
theorem sN_le {f : Nat → Nat} {B : Nat} : ∀ n, (∀ i, i < n → f i ≤ B) → sN f n ≤ n * B := by
  intro n
  induction n with
  | zero => intro _; exact Nat.zero_le _
  | succ n ih =>
    intro h
    have h1 := ih (fun i hi => h i (by omega))
    have h2 := h n (by omega)
    show sN f n + f n ≤ (n + 1) * B
    rw [Nat.add_mul, Nat.one_mul]
    omega
theorem goI_of {h : Hp} {M s p : Nat} {m : Nat → Nat} {hd : Nat → Nat} {f : Nat → Int32} (me : ∀ i, i < wW s → m i = gW h M s i) (m1 : ∀ i, i < wW s → hd (m i + 1) = i + 1) (m2 : ∀ i j, i < wW s → j < wW s → m i = m j → i = j) (m3 : hd (p + 1) ≠ 0 → m (hd (p + 1) - 1) = p) (hk : hd (p + 1) ≤ wW s) (hf : ∀ n, n < wW s → f n = nI (wP s n)) : (if hd (p + 1) = 0 then -9 else f (hd (p + 1) - 1)) = goI h M s p := by
  unfold goI goR
  by_cases q : hd (p + 1) = 0
  · rw [if_pos q]
    cases hr : ff (fun x => decide (gW h M s x = p)) 0 (wW s) with
    | none => rfl
    | some x =>
      exfalso
      obtain ⟨-, f2, f3, -⟩ := ff_some _ _ _ hr
      have f3 : gW h M s x = p := of_decide_eq_true f3
      have := m1 x (by omega)
      rw [me x (by omega), f3] at this
      omega
  · rw [if_neg q]
    have k := m3 q
    have e := me (hd (p + 1) - 1) (by omega)
    obtain ⟨x, hx⟩ := ff_ex (P := fun x => decide (gW h M s x = p)) (wW s) 0 (hd (p + 1) - 1) (by omega) (by omega) (decide_eq_true (by rw [← e]; exact k))
    obtain ⟨-, f2, f3, -⟩ := ff_some _ _ _ hx
    have f3 : gW h M s x = p := of_decide_eq_true f3
    have : x = hd (p + 1) - 1 := m2 x (hd (p + 1) - 1) (by omega) (by omega) (by rw [me x (by omega), f3]; exact k.symm)
    rw [hx]
    show f (hd (p + 1) - 1) = nI (wP s x)
    rw [hf _ (by omega), this]
def kpF (F : Nat → Nat → Int32) (s P k : Nat) : Nat → Nat → Int32 := fun a j => if a = 19 ∧ j = 2 then nI (P % 256) else if a = 19 ∧ j = 1 then nI (P / 256) else if a = 19 ∧ j = 3 then nI s else if a = 20 ∧ j < k then (if hO F (j + 1) = 0 then -9 else F 21 (hO F (j + 1) - 1)) else F a j
theorem kpF_0 (F : Nat → Nat → Int32) (s P : Nat) : u2 (u2 (u2 F 19 3 (nI s)) 19 1 (nI (P / 256))) 19 2 (nI (P % 256)) = kpF F s P 0 := by
  funext a j
  rw [u2_eq, u2_eq, u2_eq]
  unfold kpF
  rw [if_neg (show ¬ (a = 20 ∧ j < 0) from fun z => absurd z.2 (Nat.not_lt_zero _))]
theorem kpF_s (F : Nat → Nat → Int32) (s P k : Nat) : u2 (kpF F s P k) 20 k (if hO F (k + 1) = 0 then -9 else F 21 (hO F (k + 1) - 1)) = kpF F s P (k + 1) := by
  funext a j
  rw [u2_eq]
  unfold kpF
  by_cases e : a = 20 ∧ j = k
  · obtain ⟨rfl, rfl⟩ := e
    rw [if_pos (show (20 : Nat) = 20 ∧ j = j from ⟨rfl, rfl⟩), if_neg (show ¬ ((20 : Nat) = 19 ∧ j = 2) by omega), if_neg (show ¬ ((20 : Nat) = 19 ∧ j = 1) by omega), if_neg (show ¬ ((20 : Nat) = 19 ∧ j = 3) by omega), if_pos (show (20 : Nat) = 20 ∧ j < j + 1 from ⟨rfl, by omega⟩)]
  · rw [if_neg e]
    by_cases q : a = 20 ∧ j < k
    · rw [if_pos q, if_pos (show a = 20 ∧ j < k + 1 from ⟨q.1, by omega⟩)]
    · rw [if_neg q, if_neg (show ¬ (a = 20 ∧ j < k + 1) by omega)]
theorem kpF_o {F : Nat → Nat → Int32} {s P k a j : Nat} (h1 : a ≠ 20) (h2 : ¬ (a = 19 ∧ (j = 1 ∨ j = 2 ∨ j = 3))) : kpF F s P k a j = F a j := by
  unfold kpF
  rw [if_neg (by omega), if_neg (by omega), if_neg (by omega), if_neg (by omega)]
section
variable {sc : Nat × (Nat → Int32)} {h : Hp} {F : Nat → Nat → Int32} {G : Nat → Nat → Int64} {M s P : Nat}
theorem keep_loop {v : Int64} {W : Nat} (hM : M ≤ 12) (hW : W ≤ 12) (e6 : F 19 6 = nI M) (h26 : ∀ p, 1 ≤ p → p ≤ M → F 26 p = nI (hO F p) ∧ hO F p ≤ W) : ∀ (d k : Nat), k + d = M → Rn sc (mtk 77) 28 [some (.ref 19), some (.int (nI s)), some (.long v), none, some (.int (nI (k + 1)))] [] (wIJ (nh h) (kpF F s P k) G) none (wIJ (nh h) (kpF F s P M) G) := by
  intro d
  induction d with
  | zero =>
    intro k hk
    obtain rfl : k = M := by omega
    refine bk_sound (cuts := []) 20 _ _ _ _ ?_
    refine And.intro rfl ?_
    refine br_t (show kpF F s P k 19 6 < nI (k + 1) by rw [kpF_o (by decide) (by omega), e6]; exact nI_lt (by omega) (by omega)) ?_
    exact ⟨trivial, rfl, rfl⟩
  | succ d ih =>
    intro k hk
    have R := ih (k + 1) (by omega)
    rw [← nI_1 (k + 1), ← kpF_s] at R
    obtain ⟨e26, hk12⟩ := h26 (k + 1) (by omega) (by omega)
    have ip : inB (nI (k + 1)) 13 = true := inB_nI (by omega) (by decide)
    have ep : (nI (k + 1)).toNatClampNeg = k + 1 := nI_clamp (by omega)
    have em : nI (k + 1) - 1 = nI k := nI_pred k
    have ik : inB (nI (k + 1) - 1) 12 = true := by rw [em]; exact inB_nI (by omega) (by decide)
    have ek : (nI (k + 1) - 1).toNatClampNeg = k := by rw [em]; exact nI_clamp (by omega)
    have f26 : kpF F s P k 26 (k + 1) = nI (hO F (k + 1)) := by rw [kpF_o (by decide) (by omega)]; exact e26
    refine bk_sound (cuts := [28]) 60 _ _ _ _ ?_
    refine And.intro rfl ?_
    refine br_f (show ¬ kpF F s P k 19 6 < nI (k + 1) by rw [kpF_o (by decide) (by omega), e6]; exact nI_nlt (by omega) (by omega)) ?_
    refine And.intro rfl ?_
    refine And.intro rfl ?_
    refine And.intro (⟨rfl, ip⟩) ?_
    by_cases q : hO F (k + 1) = 0
    · refine br_f (show ¬ ¬ kpF F s P k 26 (nI (k + 1)).toNatClampNeg = 0 from fun z => z (by rw [ep, f26, q]; rfl)) ?_
      refine And.intro (show _ ∧ inB (nI (k + 1) - 1) 12 = true from ⟨rfl, ik⟩) ?_
      rw [if_pos q] at R
      refine rn_eq (show wIJ (nh h) (u2 (kpF F s P k) 20 (nI (k + 1) - 1).toNatClampNeg (-9)) G = _ from ?_) R
      rw [ek]
    · refine br_t (show ¬ kpF F s P k 26 (nI (k + 1)).toNatClampNeg = 0 by rw [ep, f26]; exact fun z => q ((nI_eq (by omega) (by omega)).mp z)) ?_
      refine And.intro rfl ?_
      refine And.intro rfl ?_
      refine And.intro (⟨rfl, ip⟩) ?_
      rw [ep, show zI (wIJ (nh h) (kpF F s P k) G) (zA (wIJ (nh h) (kpF F s P k) G) 19 13) (k + 1) = nI (hO F (k + 1)) from f26]
      have ex : nI (hO F (k + 1)) - 1 = nI (hO F (k + 1) - 1) := by rw [show (1 : Int32) = nI 1 from rfl, pk_sub (by omega)]
      refine And.intro (show _ ∧ inB (nI (hO F (k + 1)) - 1) 12 = true from ⟨rfl, by rw [ex]; exact inB_nI (by omega) (by decide)⟩) ?_
      refine And.intro (show _ ∧ inB (nI (k + 1) - 1) 12 = true from ⟨rfl, ik⟩) ?_
      rw [if_neg q] at R
      refine rn_eq (show wIJ (nh h) (u2 (kpF F s P k) 20 (nI (k + 1) - 1).toNatClampNeg (kpF F s P k 21 (nI (hO F (k + 1)) - 1).toNatClampNeg)) G = _ from ?_) R
      rw [ek, ex, nI_clamp (by omega), kpF_o (by decide) (by omega)]
theorem c_keep {W : Nat} (hM : M ≤ 12) (hW : W ≤ 12) (hPb : P < 2 ^ 31) (e6 : F 19 6 = nI M) (h26 : ∀ p, 1 ≤ p → p ≤ M → F 26 p = nI (hO F p) ∧ hO F p ≤ W) : Cc sc 77 [.ref 19, .int (nI s), .long (lN P)] (wIJ (nh h) F G) none (wIJ (nh h) (kpF F s P M) G) := by
  refine cc_cut [28] 40 rfl rfl ?_
  refine And.intro rfl ?_
  refine And.intro (by decide) ?_
  refine And.intro rfl ?_
  refine And.intro (by decide) ?_
  refine And.intro rfl ?_
  refine rn_eq (show wIJ (nh h) (u2 (u2 (u2 F 19 3 (nI s)) 19 1 (lN P / 256).toInt32) 19 2 (lN P - lN P / 256 * 256).toInt32) G = wIJ (nh h) (kpF F s P 0) G from ?_) (keep_loop hM hW e6 h26 M 0 (by omega))
  rw [show (256 : Int64) = lN 256 from rfl, pk_lRem (by omega) (by decide) (by decide), pk_lDiv (by omega) (by decide) (by decide), lN_i, lN_i, kpF_0]
end
/-- what is kept of the sets looked at -/
def FI (h : Hp) (M t : Nat) (F : Nat → Nat → Int32) (least : Int64) : Prop :=
  (least = 4611686018427387904 ∧ ∀ s, s < t → bc s ≠ mlF (Fm h) M 7) ∨ ∃ ws, ws < t ∧ bc ws = mlF (Fm h) M 7 ∧ (∀ s, s < t → bc s = mlF (Fm h) M 7 → Dw h M ws ≤ Dw h M s ∧ (s < ws → Dw h M ws < Dw h M s)) ∧ least = lN (256 * (Dw h M ws / 1000) + Dw h M ws % 1000) ∧ Dw h M ws % 1000 ≤ 132 ∧ Dw h M ws < 1000000 ∧ F 19 3 = nI ws ∧ F 19 1 = nI (Dw h M ws / 1000) ∧ F 19 2 = nI (Dw h M ws % 1000) ∧ ∀ p, p < M → F 20 p = goI h M ws p
def fFr (h : Hp) (F : Nat → Nat → Int32) : Prop := ∀ a, a ≠ 19 → a ≠ 20 → a ≠ 21 → a ≠ 26 → a ≠ 27 → a ≠ 28 → F a = zI h a
def gFr (h : Hp) (G : Nat → Nat → Int64) : Prop := ∀ a, a ≠ 22 → a ≠ 23 → a ≠ 24 → a ≠ 25 → G a = zJ h a
theorem bc_ex : ∀ c : Fin 5, ∃ s : Fin 16, bc s.val = c.val := by decide
section
variable {sc : Nat × (Nat → Int32)} {h : Hp} {M : Nat}
theorem find_loop (hA : zA h 19 5 = 16) (hM : M ≤ 12) (hP : ∀ p, p < M → PH h p) : ∀ (d t : Nat) (F : Nat → Nat → Int32) (G : Nat → Nat → Int64) (least : Int64) (o : Option Value), t + d = 16 → fFr h F → gFr h G → F 19 6 = nI M → F 19 0 = nI (mlF (Fm h) M 7) → FI h M t F least → ∃ F' G' least', Rn sc (mtk 66) 25 [some (.ref 19), some (.ref 16), some (.int (nI M)), some (.long least), none, some (.int (nI t)), o, none] [] (wIJ (nh h) F G) none (wIJ (nh h) F' G') ∧ fFr h F' ∧ gFr h G' ∧ F' 19 0 = nI (mlF (Fm h) M 7) ∧ FI h M 16 F' least' := by
  intro d
  have P9 : ∀ p, p < M → pHr h p ≤ 9 := fun p hp => (hP p hp).2.2.2.2.2.1
  have m4 := mlF_4 (Fm h) M 7
  induction d with
  | zero =>
    intro t F G least o ht fF fG e6 e0 I
    obtain rfl : t = 16 := by omega
    refine ⟨F, G, least, ?_, fF, fG, e0, I⟩
    refine bk_sound (cuts := []) 20 _ _ _ _ ?_
    refine br_t (by decide) ?_
    exact ⟨trivial, rfl, rfl⟩
  | succ d ih =>
    intro t F G least o ht fF fG e6 e0 I
    have b4 : bc t ≤ 4 := bc_4 ⟨t, by omega⟩
    by_cases q : bc t = mlF (Fm h) M 7
    · have fe : Dw h M t < 1000000 := (fe_iff P9 (by omega)).mpr (by omega)
      have w12 := (wW_eq (s := t) (by omega)).2
      obtain ⟨F1, G1, T, C, k1, k2, k3, k4, k5, m, m1, m2, m3, m5, m6⟩ := c_priceOf (sc := sc) (h := h) (F := F) (G := G) (s := t) hA hM (fun a ha => fF a (by omega) (by omega) (by omega) (by omega) (by omega) (by omega)) hP e6 (by omega) (fe_W fe)
      obtain ⟨y1, y2, y3⟩ := way_eq hM P9 (by omega) fe (fun i hi => (m1 i hi).1) m2 (by rw [m5] at m6; exact m6)
      rw [← m5] at y2
      have Tb : T < 2 ^ 63 := by
        have := sN_le (f := fun i => qn h t i (m i)) (B := 144123361168011264) (wW t) (fun i hi => qn_le (by omega) (by have := (m1 i hi).1; omega) (P9 _ (m1 i hi).1))
        rw [← m5] at this
        have : wW t * 144123361168011264 ≤ 12 * 144123361168011264 := Nat.mul_le_mul_right _ w12
        omega
      have fF1 : fFr h F1 := fun a h1 h2 h3 h4 h5 h6 => by
        rw [← fF a h1 h2 h3 h4 h5 h6]
        funext j
        exact k1 a j (by omega) h3 h4 h5 h6
      have fG1 : gFr h G1 := fun a h1 h2 h3 h4 => (k2 a h1 h2 h3 h4).trans (fG a h1 h2 h3 h4)
      have o6 : F1 19 6 = nI M := by rw [k1 19 6 (by omega) (by decide) (by decide) (by decide) (by decide)]; exact e6
      have o0 : F1 19 0 = nI (mlF (Fm h) M 7) := by rw [k1 19 0 (by omega) (by decide) (by decide) (by decide) (by decide)]; exact e0
      have div : lN T / 8916100448256 = lN (256 * (Dw h M t / 1000) + Dw h M t % 1000) := by
        rw [show (8916100448256 : Int64) = lN 8916100448256 from rfl, pk_lDiv Tb (by decide) (by decide), y2]
      have Tn : (lN (256 * (Dw h M t / 1000) + Dw h M t % 1000)).toInt = (256 * (Dw h M t / 1000) + Dw h M t % 1000 : Nat) := pk_lT (by omega)
      by_cases lt : (256 * (Dw h M t / 1000) + Dw h M t % 1000 : Nat) < least.toInt
      · -- kept
        generalize hPd : 256 * (Dw h M t / 1000) + Dw h M t % 1000 = Pd at *
        have ck := c_keep (sc := sc) (h := h) (F := F1) (G := G1) (M := M) (s := t) (P := Pd) (W := wW t) hM w12 (by omega) o6 k5
        have fF2 : fFr h (kpF F1 t Pd M) := fun a h1 h2 h3 h4 h5 h6 => by
          rw [← fF1 a h1 h2 h3 h4 h5 h6]
          funext j
          exact kpF_o h2 (by omega)
        have I2 : FI h M (t + 1) (kpF F1 t Pd M) (lN Pd) := by
          refine Or.inr ⟨t, by omega, q, fun s s1 s2 => ?_, by rw [hPd], y3, fe, ?_, ?_, ?_, fun p hp => ?_⟩
          · by_cases e : s = t
            · subst e
              exact ⟨Nat.le_refl _, fun z => by omega⟩
            · rcases I with ⟨i1, i2⟩ | ⟨ws, i1, i2, i3, i4, i5, i6, -⟩
              · exact absurd s2 (i2 s (by omega))
              · have j := i3 s (by omega) s2
                rw [i4, pk_lT (by omega)] at lt
                have : Dw h M t < Dw h M ws := by omega
                exact ⟨by omega, fun _ => by omega⟩
          · show kpF F1 t Pd M 19 3 = nI t
            unfold kpF
            rw [if_neg (by omega), if_neg (by omega), if_pos ⟨rfl, rfl⟩]
          · show kpF F1 t Pd M 19 1 = _
            unfold kpF
            rw [if_neg (by omega), if_pos ⟨rfl, rfl⟩, show Pd / 256 = Dw h M t / 1000 by omega]
          · show kpF F1 t Pd M 19 2 = _
            unfold kpF
            rw [if_pos ⟨rfl, rfl⟩, show Pd % 256 = Dw h M t % 1000 by omega]
          · show kpF F1 t Pd M 20 p = _
            unfold kpF
            rw [if_neg (by omega), if_neg (by omega), if_neg (by omega), if_pos ⟨rfl, hp⟩]
            exact goI_of (m := m) y1 (fun i hi => (m1 i hi).2) m2 (m3 p hp) (k5 (p + 1) (by omega) (by omega)).2 k4
        obtain ⟨F', G', l', R, j1, j2, j3, j4⟩ := ih (t + 1) (kpF F1 t Pd M) G1 (lN Pd) (some (.long (lN Pd))) (by omega) fF2 fG1 (by rw [kpF_o (by decide) (by omega)]; exact o6) (by rw [kpF_o (by decide) (by omega)]; exact o0) I2
        refine ⟨F', G', l', ?_, j1, j2, j3, j4⟩
        rw [← nI_1 t] at R
        refine bk_sound (cuts := [25]) 60 _ _ _ _ ?_
        refine br_f (show ¬ 16 ≤ nI t from nI_ge (a := t) (b := 16) (by omega) (by omega)) ?_
        refine And.intro rfl (And.intro rfl (Exists.intro _ (Exists.intro _ (And.intro (c_bitCount (by omega : t < 16)) ?_))))
        refine And.intro rfl ?_
        refine br_t (show nI (bc t) = F 19 0 by rw [e0, q]) ?_
        refine And.intro ⟨rfl, rfl⟩ (And.intro rfl (Exists.intro _ (Exists.intro _ (And.intro (C) ?_))))
        refine And.intro (by decide) ?_
        rw [div]
        refine br_f (show ¬ 0 ≤ lg_cmp (lN Pd) least by rw [cmp_ge0, Tn]; omega) ?_
        refine And.intro ⟨rfl, rfl⟩ (And.intro rfl (Exists.intro _ (Exists.intro _ (And.intro (ck) ?_))))
        exact R
      · have I2 : FI h M (t + 1) F1 least := by
          rcases I with ⟨i1, i2⟩ | ⟨ws, i1, i2, i3, i4, i5, i6, i7, i8, i9, i10⟩
          · exfalso
            rw [i1, show (4611686018427387904 : Int64).toInt = 4611686018427387904 from rfl] at lt
            omega
          · refine Or.inr ⟨ws, by omega, i2, fun s s1 s2 => ?_, i4, i5, i6, ?_, ?_, ?_, fun p hp => ?_⟩
            · by_cases e : s = t
              · subst e
                rw [i4, pk_lT (by omega)] at lt
                exact ⟨by omega, fun z => by omega⟩
              · exact i3 s (by omega) s2
            · rw [k1 19 3 (by omega) (by decide) (by decide) (by decide) (by decide)]; exact i7
            · rw [k1 19 1 (by omega) (by decide) (by decide) (by decide) (by decide)]; exact i8
            · rw [k1 19 2 (by omega) (by decide) (by decide) (by decide) (by decide)]; exact i9
            · rw [k1 20 p (by omega) (by decide) (by decide) (by decide) (by decide)]; exact i10 p hp
        obtain ⟨F', G', l', R, j1, j2, j3, j4⟩ := ih (t + 1) F1 G1 least (some (.long (lN (256 * (Dw h M t / 1000) + Dw h M t % 1000)))) (by omega) fF1 fG1 o6 o0 I2
        refine ⟨F', G', l', ?_, j1, j2, j3, j4⟩
        rw [← nI_1 t] at R
        refine bk_sound (cuts := [25]) 60 _ _ _ _ ?_
        refine br_f (show ¬ 16 ≤ nI t from nI_ge (a := t) (b := 16) (by omega) (by omega)) ?_
        refine And.intro rfl (And.intro rfl (Exists.intro _ (Exists.intro _ (And.intro (c_bitCount (by omega : t < 16)) ?_))))
        refine And.intro rfl ?_
        refine br_t (show nI (bc t) = F 19 0 by rw [e0, q]) ?_
        refine And.intro ⟨rfl, rfl⟩ (And.intro rfl (Exists.intro _ (Exists.intro _ (And.intro (C) ?_))))
        refine And.intro (by decide) ?_
        rw [div]
        refine br_t (show 0 ≤ lg_cmp (lN (256 * (Dw h M t / 1000) + Dw h M t % 1000)) least by rw [cmp_ge0, Tn]; omega) ?_
        exact R
    · have I2 : FI h M (t + 1) F least := by
        rcases I with ⟨i1, i2⟩ | ⟨ws, i1, i2, i3, i4⟩
        · refine Or.inl ⟨i1, fun s hs => ?_⟩
          by_cases e : s = t
          · rw [e]; exact q
          · exact i2 s (by omega)
        · refine Or.inr ⟨ws, by omega, i2, fun s s1 s2 => ?_, i4⟩
          have : s ≠ t := fun e => q (by rw [← e]; exact s2)
          exact i3 s (by omega) s2
      obtain ⟨F', G', l', R, j1, j2, j3, j4⟩ := ih (t + 1) F G least o (by omega) fF fG e6 e0 I2
      refine ⟨F', G', l', ?_, j1, j2, j3, j4⟩
      rw [← nI_1 t] at R
      refine bk_sound (cuts := [25]) 60 _ _ _ _ ?_
      refine br_f (show ¬ 16 ≤ nI t from nI_ge (a := t) (b := 16) (by omega) (by omega)) ?_
      refine And.intro rfl (And.intro rfl (Exists.intro _ (Exists.intro _ (And.intro (c_bitCount (by omega : t < 16)) ?_))))
      refine And.intro rfl ?_
      refine br_f (show ¬ nI (bc t) = F 19 0 by rw [e0]; exact fun z => q ((nI_eq (by omega) (by omega)).mp z)) ?_
      exact R
/-- what the class knows of the way -/
def WayOK (h : Hp) (M : Nat) (F : Nat → Nat → Int32) (ws : Nat) : Prop := Sel h M ws ∧ F 19 0 = nI (bc ws) ∧ Dw h M ws % 1000 ≤ 132 ∧ Dw h M ws < 1000000 ∧ F 19 3 = nI ws ∧ F 19 1 = nI (Dw h M ws / 1000) ∧ F 19 2 = nI (Dw h M ws % 1000) ∧ ∀ p, p < M → F 20 p = goI h M ws p
theorem shp_19 {h : Hp} (hs : Shp h) : Shp (upA h 19 5 16) := by
  refine ⟨hs.1, fun q hq => ?_⟩
  have : ∀ q ∈ FAs, ¬ (q.1 = 19 ∧ q.2.1 = 5) := by decide
  have n := this q hq
  have := hs.2 q hq
  show va_up (zA h) 19 (va_up (zA h 19) 5 16) q.1 q.2.1 = q.2.2
  by_cases e : q.1 = 19
  · rw [e, va_up_self, va_up_ne _ _ (fun z => n ⟨e, z⟩), ← e]
    exact this
  · rw [va_up_ne _ _ e]
    exact this
theorem c_find (hs : Shp h) (hM : M ≤ 12) (hP : ∀ p, p < M → PH h p) : ∃ F G ws, Cc sc 66 [.ref 19, .ref 16, .int (nI M)] h none (wIJ (upA h 19 5 16) F G) ∧ fFr h F ∧ gFr h G ∧ WayOK h M F ws := by
  have hs1 := shp_19 hs
  have m4 := mlF_4 (Fm h) M 7
  have fF1 : fFr (upA h 19 5 16) (u2 (u2 (zI h) 19 6 (nI M)) 19 0 (nI (mlF (Fm h) M 7))) := fun a h1 _ _ _ _ _ => by
    funext j
    rw [u2_eq, if_neg (fun z => h1 z.1), u2_eq, if_neg (fun z => h1 z.1)]
    rfl
  have o6 : (u2 (u2 (zI h) 19 6 (nI M)) 19 0 (nI (mlF (Fm h) M 7))) 19 6 = nI M := by rw [u2_eq, if_neg (by omega), u2_eq, if_pos ⟨rfl, rfl⟩]
  have o0 : (u2 (u2 (zI h) 19 6 (nI M)) 19 0 (nI (mlF (Fm h) M 7))) 19 0 = nI (mlF (Fm h) M 7) := by rw [u2_eq, if_pos ⟨rfl, rfl⟩]
  have e6 : (u2 (zI h) 19 6 (nI M)) 19 6 = nI M := by rw [u2_eq, if_pos ⟨rfl, rfl⟩]
  obtain ⟨F', G', l', R, j1, j2, j3, j4⟩ := find_loop (sc := sc) (h := upA h 19 5 16) (M := M) rfl hM hP 16 0 (u2 (u2 (zI h) 19 6 (nI M)) 19 0 (nI (mlF (Fm h) M 7))) (zJ h) 4611686018427387904 none rfl fF1 (fun _ _ _ _ _ => rfl) o6 o0 (Or.inl ⟨rfl, fun s z => by omega⟩)
  have cm := c_mostLorries (sc := sc) (h := upA h 19 5 16) (F := u2 (zI h) 19 6 (nI M)) (G := zJ h) (M := M) rfl hM (fun a ha => by funext j; rw [u2_eq, if_neg (by omega)]; rfl) hP e6
  rw [nh_eq hs1] at cm R
  rcases j4 with ⟨i1, i2⟩ | ⟨ws, i1, i2, i3, i4, i5, i6, i7, i8, i9, i10⟩
  · exfalso
    obtain ⟨s, hsx⟩ := bc_ex ⟨mlF (Fm h) M 7, by omega⟩
    exact i2 s.val s.isLt hsx
  · refine ⟨F', G', ws, ?_, j1, j2, ⟨i1, i2, i3⟩, by rw [j3]; exact congrArg nI i2.symm, i5, i6, i7, i8, i9, i10⟩
    have k19 : zK h 19 = 8 := (hs.1 19 (by decide)).1
    refine cc_cut [25] 40 rfl rfl ?_
    refine And.intro (by rw [k19]; rfl) ?_
    refine And.intro (show kin 8 (zK h 19) = true by rw [k19]; rfl) ?_
    refine And.intro ⟨rfl, show zK h 19 = 8 from k19⟩ (And.intro rfl (Exists.intro _ (Exists.intro _ (And.intro cm ?_))))
    refine And.intro (show kin 8 (zK h 19) = true by rw [k19]; rfl) ?_
    exact R
end
