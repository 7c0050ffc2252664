/-! layWay -/
def LI (h : Hp) (M t ws : Nat) (F : Nat → Nat → Int32) : Prop := F 39 18 = nI M ∧ (∀ a, 51 ≤ a → a ≤ 56 → F a = zI h a) ∧ F 39 31 = nI ws ∧ F 39 32 = nI (Dw h M ws) ∧ ws < t ∧ Dw h M ws < 1000000 ∧ ∀ s, s < t → Dw h M s < 1000000 → bc s ≤ bc ws ∧ (bc s = bc ws → Dw h M ws ≤ Dw h M s ∧ (s < ws → Dw h M ws < Dw h M s))
theorem Dw_0 (h : Hp) (M : Nat) : Dw h M 0 = 0 := by
  unfold Dw
  rw [show wW 0 = 0 by decide]
  rfl
theorem Dw_far (h : Hp) (M s : Nat) : Dw h M s ≤ 1000000 := dpc_far _ _ _
section
variable {sc : Nat × (Nat → Int32)} {h : Hp} {G : Nat → Nat → Int64} {M : Nat}
theorem layWay_loop (hS : Shp h) (hM : M ≤ 12) (hP : ∀ p, p < M → PH h p) : ∀ (d t ws : Nat) (F : Nat → Nat → Int32) (o2 o3 : Option Value), t + d = 16 → LI h M t ws F → ∃ F' ws', Rn sc (mtk 202) 12 [some (.ref 39), some (.int (nI t)), o2, o3] [] (wIJ (nh h) F G) none (wIJ (nh h) F' G) ∧ mFr F' F ∧ LI h M 16 ws' F' := by
  intro d
  induction d with
  | zero =>
    intro t ws F o2 o3 ht I
    obtain rfl : t = 16 := by omega
    refine ⟨F, ws, ?_, fun _ _ _ _ _ => rfl, I⟩
    refine bk_sound (cuts := []) 20 _ _ _ _ ?_
    refine br_t (by decide) ?_
    exact ⟨trivial, rfl, rfl⟩
  | succ d ih =>
    intro t ws F o2 o3 ht I
    have I0 := I
    obtain ⟨e18, e5, e31, e32, wt, wf, all⟩ := I
    have b4 : bc t ≤ 4 := bc_4 ⟨t, by omega⟩
    have w4 : bc ws ≤ 4 := bc_4 ⟨ws, by omega⟩
    by_cases q1 : bc t < bc ws
    · obtain ⟨F', ws', R, k1, k2⟩ := ih (t + 1) ws F (some (.int 0)) o3 (by omega) ⟨e18, e5, e31, e32, by omega, wf, fun s s1 s2 => by
        by_cases e : s = t
        · rw [e]
          exact ⟨by omega, fun z => by omega⟩
        · exact all s (by omega) s2⟩
      refine ⟨F', ws', ?_, k1, k2⟩
      rw [← nI_1 t] at R
      refine bk_sound (cuts := [12]) 100 _ _ _ _ ?_
      refine br_f (show ¬ 16 ≤ nI t from nI_ge (a := t) (b := 16) (by omega) (by omega)) ?_
      refine And.intro rfl (And.intro rfl (Exists.intro _ (Exists.intro _ (And.intro (c_bits (by omega : t < 16)) ?_))))
      refine And.intro rfl ?_
      rw [show zI (wIJ (nh h) F G) 39 31 = nI ws from e31]
      refine And.intro rfl (And.intro rfl (Exists.intro _ (Exists.intro _ (And.intro (c_bits (by omega : ws < 16)) ?_))))
      refine br_t (show nI (bc t) ≤ nI (bc ws) from nI_le (by omega) (by omega)) ?_
      refine And.intro rfl (And.intro rfl (Exists.intro _ (Exists.intro _ (And.intro (c_bits (by omega : t < 16)) ?_))))
      refine And.intro rfl ?_
      rw [show zI (wIJ (nh h) F G) 39 31 = nI ws from e31]
      refine And.intro rfl (And.intro rfl (Exists.intro _ (Exists.intro _ (And.intro (c_bits (by omega : ws < 16)) ?_))))
      refine br_t (show nI (bc t) < nI (bc ws) from nI_lt q1 (by omega)) ?_
      exact R
    · obtain ⟨F1, C, f1, f2, f3⟩ := c_layCosts (sc := sc) (h := h) (F := F) (G := G) (M := M) (s := t) hS hM hP (by omega) e18 e5
      have p2 : 0 < 2 ^ M := Nat.pow_pos (by decide)
      have e59 : F1 59 0 = nI (Dw h M t) := f3 0 0 (Nat.zero_le _) p2
      have df := Dw_far h M t
      have fr : mFr F1 F := fun a j h1 h2 h3 => f1 a j (by omega) h2 h3
      have g31 : F1 39 31 = nI ws := by rw [f1 39 31 (by omega) (by decide) (by decide)]; exact e31
      have g32 : F1 39 32 = nI (Dw h M ws) := by rw [f1 39 32 (by omega) (by decide) (by decide)]; exact e32
      -- the set is taken
      have take : Dw h M t < 1000000 → (bc ws < bc t ∨ Dw h M t < Dw h M ws) → LI h M (t + 1) t (u2 (u2 F1 39 31 (nI t)) 39 32 (F1 59 0)) := fun z1 z2 => by
        refine ⟨?_, fun a a1 a2 => ?_, ?_, ?_, by omega, z1, fun s s1 s2 => ?_⟩
        · rw [u2_eq, if_neg (by omega), u2_eq, if_neg (by omega)]
          exact f2.1
        · rw [← f2.2.2.2 a a1 a2]
          funext j
          rw [u2_eq, if_neg (by omega), u2_eq, if_neg (by omega)]
        · rw [u2_eq, if_neg (by omega), u2_eq, if_pos ⟨rfl, rfl⟩]
        · rw [u2_eq, if_pos ⟨rfl, rfl⟩]
          exact e59
        · by_cases e : s = t
          · subst e
            exact ⟨Nat.le_refl _, fun _ => ⟨Nat.le_refl _, fun z => by omega⟩⟩
          · have k := all s (by omega) s2
            refine ⟨by omega, fun z => ?_⟩
            have k2 := k.2 (by omega)
            rcases z2 with z2 | z2
            · omega
            · exact ⟨by omega, fun _ => by omega⟩
      have tfr : mFr (u2 (u2 F1 39 31 (nI t)) 39 32 (F1 59 0)) F := fun a j h1 h2 h3 => by
        rw [u2_eq, if_neg (by omega), u2_eq, if_neg (by omega)]
        exact fr a j h1 h2 h3
      -- it isn't
      have skip : (Dw h M t < 1000000 → bc t = bc ws ∧ Dw h M ws ≤ Dw h M t) → LI h M (t + 1) ws F1 := fun z => by
        refine ⟨f2.1, f2.2.2.2, g31, g32, by omega, wf, fun s s1 s2 => ?_⟩
        by_cases e : s = t
        · subst e
          have := z s2
          exact ⟨by omega, fun _ => ⟨this.2, fun z => by omega⟩⟩
        · exact all s (by omega) s2
      by_cases q2 : bc ws < bc t
      · by_cases q3 : Dw h M t < 1000000
        · obtain ⟨F', ws', R, k1, k2⟩ := ih (t + 1) t _ (some (.int 1)) (some (.int 1)) (by omega) (take q3 (Or.inl q2))
          refine ⟨F', ws', ?_, fun a j h1 h2 h3 => (k1 a j h1 h2 h3).trans (tfr a j h1 h2 h3), k2⟩
          rw [← nI_1 t] at R
          refine bk_sound (cuts := [12]) 100 _ _ _ _ ?_
          refine br_f (show ¬ 16 ≤ nI t from nI_ge (a := t) (b := 16) (by omega) (by omega)) ?_
          refine And.intro rfl (And.intro rfl (Exists.intro _ (Exists.intro _ (And.intro (c_bits (by omega : t < 16)) ?_))))
          refine And.intro rfl ?_
          rw [show zI (wIJ (nh h) F G) 39 31 = nI ws from e31]
          refine And.intro rfl (And.intro rfl (Exists.intro _ (Exists.intro _ (And.intro (c_bits (by omega : ws < 16)) ?_))))
          refine br_f (show ¬ nI (bc t) ≤ nI (bc ws) from nI_ge (by omega) (by omega)) ?_
          refine And.intro rfl (And.intro rfl (Exists.intro _ (Exists.intro _ (And.intro (c_bits (by omega : t < 16)) ?_))))
          refine And.intro rfl ?_
          rw [show zI (wIJ (nh h) F G) 39 31 = nI ws from e31]
          refine And.intro rfl (And.intro rfl (Exists.intro _ (Exists.intro _ (And.intro (c_bits (by omega : ws < 16)) ?_))))
          refine br_f (show ¬ nI (bc t) < nI (bc ws) from nI_nlt (by omega) (by omega)) ?_
          refine And.intro ⟨rfl, rfl⟩ (And.intro rfl (Exists.intro _ (Exists.intro _ (And.intro (C) ?_))))
          refine And.intro rfl ?_
          refine And.intro (⟨rfl, show inB 0 53248 = true by decide⟩) ?_
          refine br_f (show ¬ 1000000 ≤ F1 59 (0 : Int32).toNatClampNeg by rw [show (0 : Int32).toNatClampNeg = 0 from rfl, e59]; exact nI_ge (a := Dw h M t) (b := 1000000) q3 (by decide)) ?_
          refine br_f (by decide) ?_
          refine br_t (by decide) ?_
          refine And.intro rfl ?_
          refine And.intro rfl ?_
          refine And.intro (⟨rfl, show inB 0 53248 = true by decide⟩) ?_
          refine And.intro rfl ?_
          exact R
        · obtain ⟨F', ws', R, k1, k2⟩ := ih (t + 1) ws F1 (some (.int 1)) (some (.int 0)) (by omega) (skip (fun z => absurd z q3))
          refine ⟨F', ws', ?_, fun a j h1 h2 h3 => (k1 a j h1 h2 h3).trans (fr a j h1 h2 h3), k2⟩
          rw [← nI_1 t] at R
          refine bk_sound (cuts := [12]) 100 _ _ _ _ ?_
          refine br_f (show ¬ 16 ≤ nI t from nI_ge (a := t) (b := 16) (by omega) (by omega)) ?_
          refine And.intro rfl (And.intro rfl (Exists.intro _ (Exists.intro _ (And.intro (c_bits (by omega : t < 16)) ?_))))
          refine And.intro rfl ?_
          rw [show zI (wIJ (nh h) F G) 39 31 = nI ws from e31]
          refine And.intro rfl (And.intro rfl (Exists.intro _ (Exists.intro _ (And.intro (c_bits (by omega : ws < 16)) ?_))))
          refine br_f (show ¬ nI (bc t) ≤ nI (bc ws) from nI_ge (by omega) (by omega)) ?_
          refine And.intro rfl (And.intro rfl (Exists.intro _ (Exists.intro _ (And.intro (c_bits (by omega : t < 16)) ?_))))
          refine And.intro rfl ?_
          rw [show zI (wIJ (nh h) F G) 39 31 = nI ws from e31]
          refine And.intro rfl (And.intro rfl (Exists.intro _ (Exists.intro _ (And.intro (c_bits (by omega : ws < 16)) ?_))))
          refine br_f (show ¬ nI (bc t) < nI (bc ws) from nI_nlt (by omega) (by omega)) ?_
          refine And.intro ⟨rfl, rfl⟩ (And.intro rfl (Exists.intro _ (Exists.intro _ (And.intro (C) ?_))))
          refine And.intro rfl ?_
          refine And.intro (⟨rfl, show inB 0 53248 = true by decide⟩) ?_
          refine br_t (show 1000000 ≤ F1 59 (0 : Int32).toNatClampNeg by rw [show (0 : Int32).toNatClampNeg = 0 from rfl, e59]; exact nI_le (a := 1000000) (b := Dw h M t) (by omega) (by omega)) ?_
          refine br_t (by rfl) ?_
          exact R
      · by_cases q3 : Dw h M t < 1000000
        · by_cases q4 : Dw h M t < Dw h M ws
          · obtain ⟨F', ws', R, k1, k2⟩ := ih (t + 1) t _ (some (.int 0)) (some (.int 1)) (by omega) (take q3 (Or.inr q4))
            refine ⟨F', ws', ?_, fun a j h1 h2 h3 => (k1 a j h1 h2 h3).trans (tfr a j h1 h2 h3), k2⟩
            rw [← nI_1 t] at R
            refine bk_sound (cuts := [12]) 100 _ _ _ _ ?_
            refine br_f (show ¬ 16 ≤ nI t from nI_ge (a := t) (b := 16) (by omega) (by omega)) ?_
            refine And.intro rfl (And.intro rfl (Exists.intro _ (Exists.intro _ (And.intro (c_bits (by omega : t < 16)) ?_))))
            refine And.intro rfl ?_
            rw [show zI (wIJ (nh h) F G) 39 31 = nI ws from e31]
            refine And.intro rfl (And.intro rfl (Exists.intro _ (Exists.intro _ (And.intro (c_bits (by omega : ws < 16)) ?_))))
            refine br_t (show nI (bc t) ≤ nI (bc ws) from nI_le (by omega) (by omega)) ?_
            refine And.intro rfl (And.intro rfl (Exists.intro _ (Exists.intro _ (And.intro (c_bits (by omega : t < 16)) ?_))))
            refine And.intro rfl ?_
            rw [show zI (wIJ (nh h) F G) 39 31 = nI ws from e31]
            refine And.intro rfl (And.intro rfl (Exists.intro _ (Exists.intro _ (And.intro (c_bits (by omega : ws < 16)) ?_))))
            refine br_f (show ¬ nI (bc t) < nI (bc ws) from nI_nlt (by omega) (by omega)) ?_
            refine And.intro ⟨rfl, rfl⟩ (And.intro rfl (Exists.intro _ (Exists.intro _ (And.intro (C) ?_))))
            refine And.intro rfl ?_
            refine And.intro (⟨rfl, show inB 0 53248 = true by decide⟩) ?_
            refine br_f (show ¬ 1000000 ≤ F1 59 (0 : Int32).toNatClampNeg by rw [show (0 : Int32).toNatClampNeg = 0 from rfl, e59]; exact nI_ge (a := Dw h M t) (b := 1000000) q3 (by decide)) ?_
            refine br_f (by decide) ?_
            refine br_f (by exact fun z => z rfl) ?_
            refine And.intro rfl ?_
            refine And.intro (⟨rfl, show inB 0 53248 = true by decide⟩) ?_
            refine And.intro rfl ?_
            refine br_f (show ¬ F1 39 32 ≤ F1 59 (0 : Int32).toNatClampNeg by rw [show (0 : Int32).toNatClampNeg = 0 from rfl, e59, g32]; exact nI_ge q4 (by omega)) ?_
            refine And.intro rfl ?_
            refine And.intro rfl ?_
            refine And.intro (⟨rfl, show inB 0 53248 = true by decide⟩) ?_
            refine And.intro rfl ?_
            exact R
          · obtain ⟨F', ws', R, k1, k2⟩ := ih (t + 1) ws F1 (some (.int 0)) (some (.int 1)) (by omega) (skip (fun z => ⟨by omega, by omega⟩))
            refine ⟨F', ws', ?_, fun a j h1 h2 h3 => (k1 a j h1 h2 h3).trans (fr a j h1 h2 h3), k2⟩
            rw [← nI_1 t] at R
            refine bk_sound (cuts := [12]) 100 _ _ _ _ ?_
            refine br_f (show ¬ 16 ≤ nI t from nI_ge (a := t) (b := 16) (by omega) (by omega)) ?_
            refine And.intro rfl (And.intro rfl (Exists.intro _ (Exists.intro _ (And.intro (c_bits (by omega : t < 16)) ?_))))
            refine And.intro rfl ?_
            rw [show zI (wIJ (nh h) F G) 39 31 = nI ws from e31]
            refine And.intro rfl (And.intro rfl (Exists.intro _ (Exists.intro _ (And.intro (c_bits (by omega : ws < 16)) ?_))))
            refine br_t (show nI (bc t) ≤ nI (bc ws) from nI_le (by omega) (by omega)) ?_
            refine And.intro rfl (And.intro rfl (Exists.intro _ (Exists.intro _ (And.intro (c_bits (by omega : t < 16)) ?_))))
            refine And.intro rfl ?_
            rw [show zI (wIJ (nh h) F G) 39 31 = nI ws from e31]
            refine And.intro rfl (And.intro rfl (Exists.intro _ (Exists.intro _ (And.intro (c_bits (by omega : ws < 16)) ?_))))
            refine br_f (show ¬ nI (bc t) < nI (bc ws) from nI_nlt (by omega) (by omega)) ?_
            refine And.intro ⟨rfl, rfl⟩ (And.intro rfl (Exists.intro _ (Exists.intro _ (And.intro (C) ?_))))
            refine And.intro rfl ?_
            refine And.intro (⟨rfl, show inB 0 53248 = true by decide⟩) ?_
            refine br_f (show ¬ 1000000 ≤ F1 59 (0 : Int32).toNatClampNeg by rw [show (0 : Int32).toNatClampNeg = 0 from rfl, e59]; exact nI_ge (a := Dw h M t) (b := 1000000) q3 (by decide)) ?_
            refine br_f (by decide) ?_
            refine br_f (by exact fun z => z rfl) ?_
            refine And.intro rfl ?_
            refine And.intro (⟨rfl, show inB 0 53248 = true by decide⟩) ?_
            refine And.intro rfl ?_
            refine br_t (show F1 39 32 ≤ F1 59 (0 : Int32).toNatClampNeg by rw [show (0 : Int32).toNatClampNeg = 0 from rfl, e59, g32]; exact nI_le (by omega) (by omega)) ?_
            exact R
        · obtain ⟨F', ws', R, k1, k2⟩ := ih (t + 1) ws F1 (some (.int 0)) (some (.int 0)) (by omega) (skip (fun z => absurd z q3))
          refine ⟨F', ws', ?_, fun a j h1 h2 h3 => (k1 a j h1 h2 h3).trans (fr a j h1 h2 h3), k2⟩
          rw [← nI_1 t] at R
          refine bk_sound (cuts := [12]) 100 _ _ _ _ ?_
          refine br_f (show ¬ 16 ≤ nI t from nI_ge (a := t) (b := 16) (by omega) (by omega)) ?_
          refine And.intro rfl (And.intro rfl (Exists.intro _ (Exists.intro _ (And.intro (c_bits (by omega : t < 16)) ?_))))
          refine And.intro rfl ?_
          rw [show zI (wIJ (nh h) F G) 39 31 = nI ws from e31]
          refine And.intro rfl (And.intro rfl (Exists.intro _ (Exists.intro _ (And.intro (c_bits (by omega : ws < 16)) ?_))))
          refine br_t (show nI (bc t) ≤ nI (bc ws) from nI_le (by omega) (by omega)) ?_
          refine And.intro rfl (And.intro rfl (Exists.intro _ (Exists.intro _ (And.intro (c_bits (by omega : t < 16)) ?_))))
          refine And.intro rfl ?_
          rw [show zI (wIJ (nh h) F G) 39 31 = nI ws from e31]
          refine And.intro rfl (And.intro rfl (Exists.intro _ (Exists.intro _ (And.intro (c_bits (by omega : ws < 16)) ?_))))
          refine br_f (show ¬ nI (bc t) < nI (bc ws) from nI_nlt (by omega) (by omega)) ?_
          refine And.intro ⟨rfl, rfl⟩ (And.intro rfl (Exists.intro _ (Exists.intro _ (And.intro (C) ?_))))
          refine And.intro rfl ?_
          refine And.intro (⟨rfl, show inB 0 53248 = true by decide⟩) ?_
          refine br_t (show 1000000 ≤ F1 59 (0 : Int32).toNatClampNeg by rw [show (0 : Int32).toNatClampNeg = 0 from rfl, e59]; exact nI_le (a := 1000000) (b := Dw h M t) (by omega) (by omega)) ?_
          refine br_t (by rfl) ?_
          exact R
theorem c_layWay {F : Nat → Nat → Int32} (hS : Shp h) (hM : M ≤ 12) (hP : ∀ p, p < M → PH h p) (e18 : F 39 18 = nI M) (e5 : ∀ a, 51 ≤ a → a ≤ 56 → F a = zI h a) : ∃ F' ws, Cc sc 202 [.ref 39] (wIJ (nh h) F G) none (wIJ (nh h) F' G) ∧ mFr F' F ∧ Sel h M ws ∧ Dw h M ws < 1000000 ∧ F' 39 31 = nI ws ∧ F' 39 32 = nI (Dw h M ws) := by
  have P9 : ∀ p, p < M → pHr h p ≤ 9 := fun p hp => (hP p hp).2.2.2.2.2.1
  have m4 := mlF_4 (Fm h) M 7
  have fo : mFr (u2 (u2 F 39 31 0) 39 32 0) F := fun a j h1 h2 h3 => by
    rw [u2_eq, if_neg (by omega), u2_eq, if_neg (by omega)]
  obtain ⟨F', ws, R, k1, k2⟩ := layWay_loop (sc := sc) (h := h) (G := G) hS hM hP 15 1 0 (u2 (u2 F 39 31 0) 39 32 0) none none rfl ⟨by rw [fo 39 18 (by omega) (by decide) (by decide)]; exact e18, fun a a1 a2 => by rw [← e5 a a1 a2]; funext j; exact fo a j (by omega) (by omega) (by omega), by rw [u2_eq, if_neg (by omega), u2_eq, if_pos ⟨rfl, rfl⟩]; rfl, by rw [u2_eq, if_pos ⟨rfl, rfl⟩, Dw_0]; rfl, by decide, by rw [Dw_0]; decide, fun s s1 _ => by
    obtain rfl : s = 0 := by omega
    exact ⟨Nat.le_refl _, fun _ => ⟨Nat.le_refl _, fun z => by omega⟩⟩⟩
  obtain ⟨l1, l2, l3, l4, l5, l6, l7⟩ := k2
  have bw : bc ws = mlF (Fm h) M 7 := by
    have a := (fe_iff P9 l5).mp l6
    obtain ⟨s, hs⟩ := bc_ex ⟨mlF (Fm h) M 7, by omega⟩
    have hs : bc s.val = mlF (Fm h) M 7 := hs
    have b := (l7 s.val s.isLt ((fe_iff P9 s.isLt).mpr (by omega))).1
    omega
  refine ⟨F', ws, ?_, fun a j h1 h2 h3 => (k1 a j h1 h2 h3).trans (fo a j h1 h2 h3), ⟨l5, bw, fun s s1 s2 => ?_⟩, l6, l3, l4⟩
  · refine cc_cut [12] 20 rfl rfl ?_
    refine And.intro rfl ?_
    refine And.intro rfl ?_
    exact R
  · exact (l7 s s1 ((fe_iff P9 s1).mpr (by omega))).2 (by omega)
end
