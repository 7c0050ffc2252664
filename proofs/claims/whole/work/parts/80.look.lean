/-! Outlook: setSizes, look. -/
def pzF (Z : Nat → Nat) : Nat → Nat → Nat
  | _, 0 => 1
  | i, d + 1 => pzF Z (i + 1) d * Z i
theorem pzF_b {Z : Nat → Nat} : ∀ d i, (∀ s, i ≤ s → s < i + d → 1 ≤ Z s ∧ Z s ≤ 6) → 1 ≤ pzF Z i d ∧ pzF Z i d ≤ 6 ^ d := by
  intro d
  induction d with
  | zero => exact fun i _ => ⟨Nat.le_refl _, Nat.le_refl _⟩
  | succ d ih =>
    intro i h
    obtain ⟨h1, h2⟩ := ih (i + 1) (fun s a b => h s (by omega) (by omega))
    obtain ⟨z1, z2⟩ := h i (by omega) (by omega)
    exact ⟨Nat.mul_pos h1 z1, by rw [Nat.pow_succ]; exact Nat.mul_le_mul h2 z2⟩
def zC (C : Cp) (sp s : Nat) : Nat := 1 + (if 0 < qP C ∧ 0 < qV C s 4 then 5 else min 5 (qV C s 0 + sp))
def tC (C : Cp) (sp s : Nat) : Nat := pzF (zC C sp) (s + 1) (qS C - 1 - s)
def nC (C : Cp) (sp : Nat) : Nat := pzF (zC C sp) 0 (qS C)
theorem zC_b (C : Cp) (sp s : Nat) : 1 ≤ zC C sp s ∧ zC C sp s ≤ 6 := by
  unfold zC
  split <;> omega
theorem tz_eq {C : Cp} {sp s : Nat} (hs : s < qS C) : tC C sp s * zC C sp s = pzF (zC C sp) s (qS C - s) := by
  unfold tC
  rw [show qS C - s = qS C - 1 - s + 1 by omega]
  rfl
theorem nC_mul {C : Cp} {sp : Nat} : ∀ s, s ≤ qS C → ∃ m, nC C sp = pzF (zC C sp) s (qS C - s) * m := by
  intro s
  induction s with
  | zero => exact fun _ => ⟨1, by rw [Nat.mul_one]; rfl⟩
  | succ s ih =>
    intro hs
    obtain ⟨m, hm⟩ := ih (by omega)
    refine ⟨zC C sp s * m, ?_⟩
    rw [hm, show qS C - s = qS C - (s + 1) + 1 by omega]
    show pzF (zC C sp) (s + 1) (qS C - (s + 1)) * zC C sp s * m = _
    rw [Nat.mul_assoc]
theorem NS_C {C : Cp} (S1 : 1 ≤ qS C) (S3 : qS C ≤ 3) (sp : Nat) : NS (qS C) (nC C sp) (tC C sp) (zC C sp) := by
  have e : nC C sp = tC C sp 0 * zC C sp 0 := by
    unfold nC tC
    rw [show qS C = qS C - 1 - 0 + 1 by omega]
    rfl
  rw [e]
  refine NS_c S1 S3 (fun s _ => (zC_b C sp s).1) ?_ (fun s hs => ?_)
  · unfold tC
    rw [show qS C - 1 - (qS C - 1) = 0 by omega]
    rfl
  · rw [tz_eq hs]
    unfold tC
    rw [show qS C - 1 - s = qS C - (s + 1) by omega]
theorem SZ_of {C : Cp} (S1 : 1 ≤ qS C) (S3 : qS C ≤ 3) {sp : Nat} {F : Nat → Nat → Int32} (h8 : ∀ s, s < qS C → F 8 s = nI (tC C sp s)) (h7 : ∀ s, s < qS C → F 7 s = nI (zC C sp s)) (h6 : F 6 5 = nI (nC C sp)) : SZ F (qS C) (nC C sp) (tC C sp) (zC C sp) := by
  have p6 : ∀ d, d ≤ 3 → 6 ^ d ≤ 216 := fun d hd => Nat.pow_le_pow_right (n := 6) (by decide) hd
  refine ⟨NS_C S1 S3 sp, ?_, fun s hs => ⟨(zC_b C sp s).2, ?_, h8 s hs, h7 s hs, ?_⟩, h6⟩
  · have := (pzF_b (Z := zC C sp) (qS C) 0 (fun s _ _ => zC_b C sp s)).2
    have := p6 (qS C) S3
    unfold nC
    omega
  · have := (pzF_b (Z := zC C sp) (qS C - 1 - s) (s + 1) (fun s _ _ => zC_b C sp s)).2
    have := p6 (qS C - 1 - s) (by omega)
    unfold tC
    omega
  · obtain ⟨m, hm⟩ := nC_mul (C := C) (sp := sp) s (by omega)
    exact ⟨m, by rw [tz_eq hs]; exact hm⟩
def ssF (C : Cp) (sp : Nat) (F : Nat → Nat → Int32) (n : Nat) : Nat → Nat → Int32 := fun a j => if a = 6 ∧ j = 5 then nI (pzF (zC C sp) n (qS C - n)) else if a = 8 ∧ n ≤ j ∧ j < qS C then nI (tC C sp j) else if a = 7 ∧ n ≤ j ∧ j < qS C then nI (zC C sp j) else F a j
theorem ssF_s {C : Cp} {sp : Nat} {F : Nat → Nat → Int32} {s : Nat} (hs : s < qS C) : u2 (u2 (u2 (ssF C sp F (s + 1)) 7 s (nI (zC C sp s))) 8 s (nI (tC C sp s))) 6 5 (nI (pzF (zC C sp) (s + 1) (qS C - (s + 1))) * nI (zC C sp s)) = ssF C sp F s := by
  funext a j
  rw [u2_eq, u2_eq, u2_eq]
  unfold ssF
  by_cases e1 : a = 6 ∧ j = 5
  · rw [if_pos e1, if_pos e1, pk_mul, show qS C - s = qS C - (s + 1) + 1 by omega]
    rfl
  · rw [if_neg e1, if_neg e1, if_neg e1]
    by_cases e2 : a = 8 ∧ j = s
    · rw [if_pos e2, if_pos (show a = 8 ∧ s ≤ j ∧ j < qS C by omega), e2.2]
    · rw [if_neg e2]
      by_cases e3 : a = 7 ∧ j = s
      · rw [if_pos e3, if_neg (show ¬ (a = 8 ∧ s ≤ j ∧ j < qS C) by omega), if_pos (show a = 7 ∧ s ≤ j ∧ j < qS C by omega), e3.2]
      · rw [if_neg e3]
        by_cases e4 : a = 8 ∧ s ≤ j ∧ j < qS C
        · rw [if_pos e4, if_pos (show a = 8 ∧ s + 1 ≤ j ∧ j < qS C by omega)]
        · rw [if_neg e4, if_neg (show ¬ (a = 8 ∧ s + 1 ≤ j ∧ j < qS C) by omega)]
          by_cases e5 : a = 7 ∧ s ≤ j ∧ j < qS C
          · rw [if_pos e5, if_pos (show a = 7 ∧ s + 1 ≤ j ∧ j < qS C by omega)]
          · rw [if_neg e5, if_neg (show ¬ (a = 7 ∧ s + 1 ≤ j ∧ j < qS C) by omega)]
theorem ssF_o {C : Cp} {sp n a j : Nat} {F : Nat → Nat → Int32} (h1 : ¬ (a = 6 ∧ j = 5)) (h2 : a ≠ 8) (h3 : a ≠ 7) : ssF C sp F n a j = F a j := by
  unfold ssF
  rw [if_neg h1, if_neg (fun z => h2 z.1), if_neg (fun z => h3 z.1)]
section
variable {sc : Nat × (Nat → Int32)} {h : Hp} {F : Nat → Nat → Int32} {G : Nat → Nat → Int64} {C : Cp} {c nb br sp : Nat}
theorem ss_loop (K : CK h C c nb br) (hF : Hi h F) (hA : zA h 6 0 = c) (e4 : F 6 4 = nI sp) (hsp : sp ≤ 5) : ∀ (n : Nat) (o : Option Value), n ≤ qS C → Rn sc (mtk 23) 15 [some (.ref 6), some (.int (nI n - 1)), o] [] (wIJ (nh h) (ssF C sp F n) G) none (wIJ (nh h) (ssF C sp F 0) G) := by
  intro n
  have b := K.b
  have hi : ∀ n, Hi h (ssF C sp F n) := fun n a ha => by
    rw [← hF a ha]
    funext j
    exact ssF_o (by omega) (by omega) (by omega)
  induction n with
  | zero =>
    intro o _
    refine bk_sound (cuts := []) 20 _ _ _ _ ?_
    refine br_t (by decide) ?_
    exact ⟨trivial, rfl, rfl⟩
  | succ s ih =>
    intro o hs
    have R := fun o => ih o (by omega)
    rw [← ssF_s (by omega), i_dec (nI s)] at R
    have a6 : zA (wIJ (nh h) (ssF C sp F (s + 1)) G) 6 0 = c := hA
    have kc := K.k
    have fc := K.f (hi (s + 1))
    have n4 := c_numF (sc := sc) (G := G) K (hi (s + 1)) (by omega : s < qS C) (by decide : 4 < 5)
    have n0 := c_numF (sc := sc) (G := G) K (hi (s + 1)) (by omega : s < qS C) (by decide : 0 < 5)
    have v4 := K.v12 (by omega : s < qS C) (by decide : 4 < 5)
    have v0 := K.v12 (by omega : s < qS C) (by decide : 0 < 5)
    have is : inB (nI s) 3 = true := inB_nI (by omega) (by decide)
    have es : (nI s).toNatClampNeg = s := nI_clamp (by omega)
    have e5 : ssF C sp F (s + 1) 6 5 = nI (pzF (zC C sp) (s + 1) (qS C - (s + 1))) := if_pos ⟨rfl, rfl⟩
    have et : tC C sp s = pzF (zC C sp) (s + 1) (qS C - (s + 1)) := by unfold tC; rw [show qS C - 1 - s = qS C - (s + 1) by omega]
    -- behind the size
    have S2 : ∀ o, Rn sc (mtk 23) 79 [some (.ref 6), some (.int (nI s)), o] [.int (nI (zC C sp s - 1)), .int 1, .int (nI s), .ref 7] (wIJ (nh h) (ssF C sp F (s + 1)) G) none (wIJ (nh h) (ssF C sp F 0) G) := fun o => by
      have R := R o
      have z1 : (1 : Int32) + nI (zC C sp s - 1) = nI (zC C sp s) := by
        rw [show (1 : Int32) = nI 1 from rfl, nI_add, show 1 + (zC C sp s - 1) = zC C sp s by have := (zC_b C sp s).1; omega]
      refine bk_sound (cuts := [15]) 60 _ _ _ _ ?_
      refine And.intro (⟨rfl, is⟩) ?_
      rw [es, z1]
      refine And.intro rfl ?_
      refine And.intro rfl ?_
      refine And.intro (⟨rfl, is⟩) ?_
      rw [es]
      refine And.intro rfl ?_
      refine And.intro rfl ?_
      refine And.intro (⟨rfl, is⟩) ?_
      refine And.intro rfl ?_
      refine rn_eq (show wIJ (nh h) (u2 (u2 (u2 (ssF C sp F (s + 1)) 7 s (nI (zC C sp s))) 8 s (u2 (ssF C sp F (s + 1)) 7 s (nI (zC C sp s)) 6 5)) 6 5 (u2 (u2 (ssF C sp F (s + 1)) 7 s (nI (zC C sp s))) 8 s (u2 (ssF C sp F (s + 1)) 7 s (nI (zC C sp s)) 6 5) 6 5 * u2 (u2 (ssF C sp F (s + 1)) 7 s (nI (zC C sp s))) 8 s (u2 (ssF C sp F (s + 1)) 7 s (nI (zC C sp s)) 6 5) 7 (nI s).toNatClampNeg)) G = _ from ?_) R
      have y1 : u2 (ssF C sp F (s + 1)) 7 s (nI (zC C sp s)) 6 5 = nI (pzF (zC C sp) (s + 1) (qS C - (s + 1))) := by
        rw [u2_eq, if_neg (by omega), e5]
      rw [y1, es, u2_eq _ _ _ _ 7, if_neg (by omega), u2_eq _ _ _ _ 7, if_pos ⟨rfl, rfl⟩, u2_eq _ _ _ _ 6 5, if_neg (by omega), y1, et]
    have S1 : ∀ b : Bool, (b = true ↔ 0 < qP C ∧ 0 < qV C s 4) → Rn sc (mtk 23) 46 [some (.ref 6), some (.int (nI s)), o] [.int (bI b)] (wIJ (nh h) (ssF C sp F (s + 1)) G) none (wIJ (nh h) (ssF C sp F 0) G) := fun bb hb => by
      cases bb with
      | true =>
        have S2 := S2 (some (.int (bI true)))
        rw [show zC C sp s - 1 = 5 by unfold zC; rw [if_pos (hb.mp rfl)]] at S2
        refine bk_sound (cuts := [79]) 30 _ _ _ _ ?_
        refine And.intro rfl ?_
        refine br_f (by decide) ?_
        exact S2
      | false =>
        have S2 := S2 (some (.int (bI false)))
        rw [show zC C sp s - 1 = min 5 (qV C s 0 + sp) by unfold zC; rw [if_neg (fun z => by have := hb.mpr z; cases this)]; omega] at S2
        rw [← min_nI (a := 5) (b := qV C s 0 + sp) (by omega) (by omega), ← nI_add] at S2
        refine bk_sound (cuts := [79]) 40 _ _ _ _ ?_
        refine And.intro rfl ?_
        refine br_t (by rfl) ?_
        refine And.intro rfl ?_
        rw [a6]
        refine And.intro ⟨rfl, kc⟩ (And.intro rfl (Exists.intro _ (Exists.intro _ (And.intro (n0) ?_))))
        refine And.intro rfl ?_
        rw [show zI (wIJ (nh h) (ssF C sp F (s + 1)) G) 6 4 = nI sp from (by show ssF C sp F (s + 1) 6 4 = nI sp; rw [ssF_o (by omega) (by decide) (by decide)]; exact e4)]
        refine And.intro rfl ?_
        exact S2
    rw [nI_pred]
    refine bk_sound (cuts := [46]) 40 _ _ _ _ ?_
    refine br_f (nI_pos (by omega)) ?_
    refine And.intro rfl ?_
    rw [a6]
    refine And.intro (show kin 0 (zK (nh h) c) = true by rw [kc]; rfl) ?_
    by_cases q : 0 < qP C
    · refine br_f (show ¬ ssF C sp F (s + 1) c 2 ≤ 0 by rw [fc.2.2]; exact nI_ge (a := 0) (b := qP C) (by omega) (by omega)) ?_
      refine And.intro rfl ?_
      rw [a6]
      refine And.intro ⟨rfl, kc⟩ (And.intro rfl (Exists.intro _ (Exists.intro _ (And.intro (n4) ?_))))
      by_cases w : 0 < qV C s 4
      · refine br_f (show ¬ nI (qV C s 4) ≤ 0 from nI_ge (a := 0) (b := qV C s 4) (by omega) (by omega)) ?_
        exact S1 true ⟨fun _ => ⟨q, w⟩, fun _ => rfl⟩
      · refine br_t (show nI (qV C s 4) ≤ 0 from nI_le (a := qV C s 4) (b := 0) (by omega) (by omega)) ?_
        exact S1 false ⟨fun z => (by cases z), fun z => absurd z.2 w⟩
    · refine br_t (show ssF C sp F (s + 1) c 2 ≤ 0 by rw [fc.2.2]; exact nI_le (a := qP C) (b := 0) (by omega) (by omega)) ?_
      exact S1 false ⟨fun z => (by cases z), fun z => absurd z.1 q⟩
theorem c_setSizes (K : CK h C c nb br) (hF : Hi h F) (hA : zA h 6 0 = c) (e4 : F 6 4 = nI sp) (hsp : sp ≤ 5) : ∃ F', Cc sc 23 [.ref 6] (wIJ (nh h) F G) none (wIJ (nh h) F' G) ∧ (∀ a j, ¬ (a = 6 ∧ j = 5) → a ≠ 7 → a ≠ 8 → F' a j = F a j) ∧ SZ F' (qS C) (nC C sp) (tC C sp) (zC C sp) := by
  have b := K.b
  refine ⟨ssF C sp F 0, ?_, fun a j h1 h2 h3 => ssF_o h1 h3 h2, SZ_of b.2.2.1 b.2.2.2.1 (fun s hs => ?_) (fun s hs => ?_) (if_pos ⟨rfl, rfl⟩)⟩
  · have a6 : zA (wIJ (nh h) F G) 6 0 = c := hA
    have fc := K.f hF
    refine cc_cut [15] 20 rfl rfl ?_
    refine And.intro rfl ?_
    refine And.intro rfl ?_
    rw [show zA (upI (wIJ (nh h) F G) 6 5 1) 6 0 = c from a6]
    refine And.intro (show kin 0 (zK (nh h) c) = true by rw [K.k]; rfl) ?_
    have c6 : ¬ (c = 6 ∧ 1 = 5) := by omega
    rw [show zI (upI (wIJ (nh h) F G) 6 5 1) c 1 = nI (qS C) by rw [zI_upI, if_neg (by have := K.1; omega)]; exact fc.2.1]
    refine rn_eq (show wIJ (nh h) (u2 F 6 5 1) G = wIJ (nh h) (ssF C sp F (qS C)) G from wIJ_eq _ ?_ rfl) (ss_loop K hF hA e4 hsp (qS C) none (Nat.le_refl _))
    funext a j
    rw [u2_eq]
    unfold ssF
    by_cases e : a = 6 ∧ j = 5
    · rw [if_pos e, if_pos e, Nat.sub_self]
      rfl
    · rw [if_neg e, if_neg e, if_neg (by omega), if_neg (by omega)]
  · unfold ssF
    rw [if_neg (by omega), if_pos ⟨rfl, by omega, hs⟩]
  · unfold ssF
    rw [if_neg (by omega), if_neg (by omega), if_pos ⟨rfl, by omega, hs⟩]
end
