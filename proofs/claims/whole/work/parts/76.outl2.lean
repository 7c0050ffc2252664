/-! Outlook: chances, means. -/
theorem chR_big {h : Nat} : ∀ k j, k < j → chR k h j = 0 := by
  intro k
  induction k with
  | zero => intro j hj; exact if_neg (by omega)
  | succ k ih =>
    intro j hj
    show chR k h j * (12 - h) + (if j = 0 then 0 else chR k h (j - 1) * h) = 0
    rw [ih j (by omega), if_neg (by omega), ih (j - 1) (by omega), Nat.zero_mul, Nat.zero_mul]
def cgG (G : Nat → Nat → Int64) (h l b : Nat) : Nat → Nat → Int64 := fun a j => if a = 14 ∧ j < 5 then lN (if b < j then chR (l + 1) h j else chR l h j) else G a j
theorem cgG_s {G : Nat → Nat → Int64} {h l b : Nat} (hb : b + 1 < 5) : u2L (cgG G h l (b + 1)) 14 (b + 1) (lN (chR l h (b + 1)) * lN (12 - h) + lN (chR l h b) * lN h) = cgG G h l b := by
  funext a j
  rw [u2L_eq]
  unfold cgG
  by_cases e : a = 14 ∧ j = b + 1
  · rw [if_pos e, if_pos ⟨e.1, by omega⟩, if_pos (by omega), e.2, lN_mul, lN_mul, lN_add]
    congr 1
  · rw [if_neg e]
    by_cases q : a = 14 ∧ j < 5
    · rw [if_pos q, if_pos q]
      by_cases w : b < j
      · rw [if_pos w, if_pos (by omega)]
      · rw [if_neg w, if_neg (by omega)]
    · rw [if_neg q, if_neg q]
theorem cgG_e {G : Nat → Nat → Int64} {h l : Nat} : u2L (cgG G h l 0) 14 0 (lN (chR l h 0) * lN (12 - h)) = cgG G h (l + 1) 5 := by
  funext a j
  rw [u2L_eq]
  unfold cgG
  by_cases e : a = 14 ∧ j = 0
  · rw [if_pos e, if_pos ⟨e.1, by omega⟩, if_neg (by omega), e.2, lN_mul]
    congr 1
  · rw [if_neg e]
    by_cases q : a = 14 ∧ j < 5
    · rw [if_pos q, if_pos q, if_pos (by omega), if_neg (by omega)]
    · rw [if_neg q, if_neg q]
theorem cgG_b {G : Nat → Nat → Int64} {h l b : Nat} (hb : l + 1 ≤ b) : cgG G h l b = cgG G h l 5 := by
  funext a j
  unfold cgG
  by_cases q : a = 14 ∧ j < 5
  · rw [if_pos q, if_pos q, if_neg (by omega : ¬ 5 < j)]
    by_cases w : b < j
    · rw [if_pos w, chR_big (l + 1) j (by omega), chR_big l j (by omega)]
    · rw [if_neg w]
  · rw [if_neg q, if_neg q]
section
variable {sc : Nat × (Nat → Int32)} {h : Hp} {F : Nat → Nat → Int32} {G : Nat → Nat → Int64}
theorem ch_in {k hh l : Nat} {r : Option Value} {h' : Hp} (hl : l < 4) (h12 : hh ≤ 12) (K : Rn sc (mtk 33) 70 [some (.ref 6), some (.int (nI k)), some (.int (nI hh)), some (.int (nI (l + 1))), some (.int (nI 0))] [] (wIJ (nh h) F (cgG G hh l 0)) r h') : ∀ b, b ≤ l + 1 → Rn sc (mtk 33) 25 [some (.ref 6), some (.int (nI k)), some (.int (nI hh)), some (.int (nI (l + 1))), some (.int (nI b))] [] (wIJ (nh h) F (cgG G hh l b)) r h' := by
  intro b
  induction b with
  | zero =>
    intro _
    refine bk_sound (cuts := [70]) 20 _ _ _ _ ?_
    refine br_t (by decide) ?_
    exact K
  | succ b ih =>
    intro hb
    have R := ih (by omega)
    rw [← cgG_s (by omega)] at R
    have ib : inB (nI (b + 1)) 5 = true := inB_nI (by omega) (by decide)
    have eb : (nI (b + 1)).toNatClampNeg = b + 1 := nI_clamp (by omega)
    have em : nI (b + 1) - 1 = nI b := nI_pred b
    have ibm : inB (nI (b + 1) - 1) 5 = true := by rw [em]; exact inB_nI (by omega) (by decide)
    have ebm : (nI (b + 1) - 1).toNatClampNeg = b := by rw [em]; exact nI_clamp (by omega)
    have e12 : (12 - nI hh : Int32).toInt64 = lN (12 - hh) := by rw [show (12 : Int32) = nI 12 from rfl, pk_sub h12, nI_l (by omega)]
    have g1 : cgG G hh l (b + 1) 14 (b + 1) = lN (chR l hh (b + 1)) := by
      unfold cgG
      rw [if_pos ⟨rfl, by omega⟩, if_neg (by omega)]
    have g0 : cgG G hh l (b + 1) 14 b = lN (chR l hh b) := by
      unfold cgG
      rw [if_pos ⟨rfl, by omega⟩, if_neg (by omega)]
    rw [show nI b = nI (b + 1) + Int32.ofInt (-1) by rw [← i_dec, em]] at R
    refine bk_sound (cuts := [25]) 60 _ _ _ _ ?_
    refine br_f (show ¬ nI (b + 1) < 1 from nI_nlt (a := b + 1) (b := 1) (by omega) (by omega)) ?_
    refine And.intro rfl ?_
    refine And.intro rfl ?_
    refine And.intro (⟨rfl, ib⟩) ?_
    refine And.intro rfl ?_
    refine And.intro (show _ ∧ inB (nI (b + 1) - 1) 5 = true from ⟨rfl, ibm⟩) ?_
    refine And.intro (⟨rfl, ib⟩) ?_
    refine rn_eq (show wIJ (nh h) F (u2L (cgG G hh l (b + 1)) 14 (nI (b + 1)).toNatClampNeg (cgG G hh l (b + 1) 14 (nI (b + 1)).toNatClampNeg * (12 - nI hh : Int32).toInt64 + cgG G hh l (b + 1) 14 (nI (b + 1) - 1).toNatClampNeg * (nI hh).toInt64)) = _ from ?_) R
    rw [eb, ebm, e12, nI_l (by omega), g1, g0]
theorem ch_out {k hh : Nat} (hk : k ≤ 4) (h12 : hh ≤ 12) : ∀ (d l : Nat) (o : Option Value), l + d = k → Rn sc (mtk 33) 17 [some (.ref 6), some (.int (nI k)), some (.int (nI hh)), some (.int (nI (l + 1))), o] [] (wIJ (nh h) F (cgG G hh l 5)) none (wIJ (nh h) F (cgG G hh k 5)) := by
  intro d
  induction d with
  | zero =>
    intro l o hl
    obtain rfl : l = k := by omega
    refine bk_sound (cuts := []) 20 _ _ _ _ ?_
    refine br_t (nI_lt (by omega) (by omega)) ?_
    exact ⟨trivial, rfl, rfl⟩
  | succ d ih =>
    intro l o hl
    have R := ih (l + 1) (some (.int (nI 0))) (by omega)
    have e12 : (12 - nI hh : Int32).toInt64 = lN (12 - hh) := by rw [show (12 : Int32) = nI 12 from rfl, pk_sub h12, nI_l (by omega)]
    have g0 : cgG G hh l 0 14 0 = lN (chR l hh 0) := by
      unfold cgG
      rw [if_pos ⟨rfl, by decide⟩, if_neg (by omega)]
    have K : Rn sc (mtk 33) 70 [some (.ref 6), some (.int (nI k)), some (.int (nI hh)), some (.int (nI (l + 1))), some (.int (nI 0))] [] (wIJ (nh h) F (cgG G hh l 0)) none (wIJ (nh h) F (cgG G hh k 5)) := by
      rw [← nI_1 (l + 1), ← cgG_e] at R
      refine bk_sound (cuts := [17]) 30 _ _ _ _ ?_
      refine And.intro rfl ?_
      refine And.intro (⟨rfl, show inB 0 5 = true by decide⟩) ?_
      refine And.intro (⟨rfl, show inB 0 5 = true by decide⟩) ?_
      refine rn_eq (show wIJ (nh h) F (u2L (cgG G hh l 0) 14 0 (cgG G hh l 0 14 0 * (12 - nI hh : Int32).toInt64)) = _ from ?_) R
      rw [e12, g0]
    have I := ch_in (sc := sc) (h := h) (F := F) (G := G) (k := k) (by omega) h12 K (l + 1) (Nat.le_refl _)
    rw [cgG_b (by omega)] at I
    refine bk_sound (cuts := [25]) 20 _ _ _ _ ?_
    refine br_f (nI_nlt (by omega) (by omega)) ?_
    exact I
theorem c_setChances {k hh : Nat} (hk : k ≤ 4) (h12 : hh ≤ 12) : ∃ G', Cc sc 33 [.ref 6, .int (nI k), .int (nI hh)] (wIJ (nh h) F G) none (wIJ (nh h) F G') ∧ (∀ a, a ≠ 14 → G' a = G a) ∧ ∀ j, j < 5 → G' 14 j = lN (chR k hh j) := by
  refine ⟨cgG G hh k 5, ?_, fun a ha => funext fun j => if_neg (fun z => ha z.1), fun j hj => by unfold cgG; rw [if_pos ⟨rfl, hj⟩, if_neg (by omega)]⟩
  refine cc_cut [17] 30 rfl rfl ?_
  refine And.intro rfl ?_
  refine And.intro rfl (And.intro rfl (Exists.intro _ (Exists.intro _ (And.intro (c_fillJ (a := 14) (v := 0) rfl (show 5 < 2 ^ 31 by decide)) ?_))))
  refine And.intro rfl ?_
  refine And.intro (⟨rfl, show inB 0 5 = true by decide⟩) ?_
  refine rn_eq (show wIJ (nh h) F (u2L (va_up G 14 (fun j => if j < 5 then (0 : Int64) else G 14 j)) 14 0 1) = wIJ (nh h) F (cgG G hh 0 5) from wIJ_eq _ rfl ?_) (ch_out hk h12 k 0 none (by omega))
  funext a j
  rw [u2L_eq]
  unfold cgG
  by_cases e : a = 14 ∧ j = 0
  · rw [if_pos e, if_pos ⟨e.1, by omega⟩, if_neg (by omega), e.2]
    rfl
  · rw [if_neg e]
    by_cases q : a = 14
    · subst q
      rw [va_up_self]
      by_cases w : j < 5
      · rw [if_pos w, if_pos ⟨rfl, w⟩, if_neg (by omega), show chR 0 hh j = 0 from if_neg (by omega)]
        rfl
      · rw [if_neg w, if_neg (fun z => w z.2)]
    · rw [va_up_ne _ _ q, if_neg (fun z => q z.1)]
theorem stJ_12 : ∀ k : Fin 5, stJ k.val = lN (12 ^ k.val) := by decide
theorem sumC_b {k hh : Nat} (hk : k ≤ 4) (h12 : hh ≤ 12) {f : Nat → Nat} {B : Nat} (hf : ∀ j, j ≤ k → f j ≤ B) : sumC k hh f (k + 1) ≤ 12 ^ k * B ∧ 12 ^ k ≤ 20736 := by
  have := sumC_le (k := k) (h := hh) (f := f) (B := B) (k + 1) (fun j hj => hf j (by omega))
  rw [chR_all ⟨k, by omega⟩ ⟨hh, by omega⟩] at this
  exact ⟨this, Nat.pow_le_pow_right (n := 12) (by decide) (show k ≤ 4 from hk)⟩
theorem mean_loop {i t k hh : Nat} {f : Nat → Nat} {r : Option Value} {h' : Hp} (hk : k ≤ 4) (hi : i < 216) (ht : k * t ≤ i) (h14 : ∀ j, j < 5 → G 14 j = lN (chR k hh j)) (h13 : ∀ j, j ≤ k → G 13 (i - j * t) = lN (f j)) (K : ∀ x : Int32, Rn sc (mtk 32) 47 [some (.ref 6), some (.int (nI i)), some (.int (nI t)), some (.int (nI k)), some (.long (lN (sumC k hh f (k + 1)))), none, some (.int x), some (.int (nI (k + 1))), none] [] (wIJ (nh h) F G) r h') : ∀ (d j : Nat) (x : Int32), j + d = k + 1 → (j ≤ k → x = nI (i - j * t)) → Rn sc (mtk 32) 9 [some (.ref 6), some (.int (nI i)), some (.int (nI t)), some (.int (nI k)), some (.long (lN (sumC k hh f j))), none, some (.int x), some (.int (nI j)), none] [] (wIJ (nh h) F G) r h' := by
  intro d
  induction d with
  | zero =>
    intro j x hj _
    obtain rfl : j = k + 1 := by omega
    refine bk_sound (cuts := [47]) 20 _ _ _ _ ?_
    refine br_t (nI_lt (by omega) (by omega)) ?_
    exact K x
  | succ d ih =>
    intro j x hj hx
    have hx := hx (by omega)
    subst hx
    have jt : j * t ≤ k * t := Nat.mul_le_mul_right _ (by omega)
    have R := ih (j + 1) (nI (i - j * t) - nI t) (by omega) (fun z => by
      have : (j + 1) * t ≤ k * t := Nat.mul_le_mul_right _ (by omega)
      rw [Nat.add_mul, Nat.one_mul] at this
      rw [pk_sub (by omega), Nat.add_mul, Nat.one_mul, Nat.sub_sub])
    rw [← nI_1, show sumC k hh f (j + 1) = sumC k hh f j + chR k hh j * f j from rfl, ← lN_add, ← lN_mul] at R
    have ij : inB (nI j) 5 = true := inB_nI (by omega) (by decide)
    have ej : (nI j).toNatClampNeg = j := nI_clamp (by omega)
    have ii : inB (nI (i - j * t)) 216 = true := inB_nI (by omega) (by decide)
    have ei : (nI (i - j * t)).toNatClampNeg = i - j * t := nI_clamp (by omega)
    refine bk_sound (cuts := [9]) 40 _ _ _ _ ?_
    refine br_f (nI_nlt (by omega) (by omega)) ?_
    refine And.intro rfl ?_
    refine And.intro (⟨rfl, ij⟩) ?_
    rw [ej, show zJ (wIJ (nh h) F G) (zA (wIJ (nh h) F G) 6 13) j = lN (chR k hh j) from h14 j (by omega)]
    refine And.intro rfl ?_
    refine And.intro (⟨rfl, ii⟩) ?_
    rw [ei, show zJ (wIJ (nh h) F G) (zA (wIJ (nh h) F G) 6 12) (i - j * t) = lN (f j) from h13 j (by omega)]
    exact R
theorem c_meanAt {i t k hh e B : Nat} {f : Nat → Nat} (hk : k ≤ 4) (h12 : hh ≤ 12) (hi : i < 216) (ht : k * t ≤ i) (he : e ≤ 1) (e3 : F 6 3 = nI e) (h14 : ∀ j, j < 5 → G 14 j = lN (chR k hh j)) (h13 : ∀ j, j ≤ k → G 13 (i - j * t) = lN (f j)) (hB : B ≤ 1000000000000) (hf : ∀ j, j ≤ k → f j ≤ B) : Cc sc 32 [.ref 6, .int (nI i), .int (nI t), .int (nI k)] (wIJ (nh h) F G) (some (.long (lN (mnE e (sumC k hh f (k + 1)) (12 ^ k))))) (wIJ (nh h) F G) := by
  obtain ⟨s1, s2⟩ := sumC_b hk h12 hf
  have p0 : 0 < 12 ^ k := Nat.pow_pos (by decide)
  have sb : 12 ^ k * B ≤ 20736 * 1000000000000 := Nat.mul_le_mul s2 hB
  have ik : inB (nI k) 5 = true := inB_nI (by omega) (by decide)
  have ek : (nI k).toNatClampNeg = k := nI_clamp (by omega)
  have ne : ¬ lN (12 ^ k) = 0 := fun z => by
    have := (pk_lEQ (a := 12 ^ k) (b := 0) (by omega) (by decide)).mp z
    omega
  refine cc_cut [9] 20 rfl rfl ?_
  refine mean_loop hk hi ht h14 h13 (fun x => ?_) (k + 1) 0 (nI i) (by omega) (fun _ => by rw [Nat.zero_mul, Nat.sub_zero])
  refine bk_sound (cuts := []) 40 _ _ _ _ ?_
  refine And.intro (ik) ?_
  rw [ek, show stJ k = lN (12 ^ k) from stJ_12 ⟨k, by omega⟩]
  refine And.intro rfl ?_
  by_cases q : e = 1
  · subst q
    refine br_f (show ¬ ¬ F 6 3 = 1 from fun z => z e3) ?_
    refine And.intro ne ?_
    refine ⟨trivial, ?_, rfl⟩
    show some (Value.long ((lN (sumC k hh f (k + 1)) + lN (12 ^ k) - 1) / lN (12 ^ k))) = _
    rw [lN_add, show (1 : Int64) = lN 1 from rfl, lN_sub (by omega), pk_lDiv (by omega) p0 (by omega), mnE_hi p0]
  · refine br_t (show ¬ F 6 3 = 1 by rw [e3]; exact fun z => q ((nI_eq (a := e) (b := 1) (by omega) (by omega)).mp z)) ?_
    refine And.intro ne ?_
    refine ⟨trivial, ?_, rfl⟩
    show some (Value.long (lN (sumC k hh f (k + 1)) / lN (12 ^ k))) = _
    rw [pk_lDiv (by omega) p0 (by omega)]
    unfold mnE
    rw [if_neg (fun z => q z.1)]
    rfl
end
/-- one sort's means, of k that run -/
def tmV (S : Nat) (T Z : Nat → Nat) (e k hh s : Nat) (val : Nat → Nat) (i : Nat) : Nat := if k ≤ dgN S T Z i s then mnE e (sumC k hh (fun j => val (i - j * T s)) (k + 1)) (12 ^ k) else val i
theorem tmV_le {S : Nat} {T Z : Nat → Nat} {e k hh s B : Nat} {val : Nat → Nat} (hk : k ≤ 4) (h12 : hh ≤ 12) (hv : ∀ i, val i ≤ B) (i : Nat) : tmV S T Z e k hh s val i ≤ B := by
  unfold tmV
  split
  · exact mnE_le (Nat.pow_pos (by decide)) (sumC_b hk h12 (fun j _ => hv _)).1
  · exact hv i
theorem sumC_0 {k : Nat} (hk : k ≤ 4) {f : Nat → Nat} : sumC k 0 f (k + 1) = 12 ^ k * f 0 := by
  have c : ∀ n, n ≤ k → sumC k 0 f (n + 1) = 12 ^ k * f 0 := by
    intro n
    induction n with
    | zero =>
      intro _
      show 0 + chR k 0 0 * f 0 = _
      rw [chR_0 ⟨k, by omega⟩ ⟨0, by decide⟩, if_pos rfl, Nat.zero_add]
    | succ n ih =>
      intro hn
      show sumC k 0 f (n + 1) + chR k 0 (n + 1) * f (n + 1) = _
      rw [ih (by omega), chR_0 ⟨k, by omega⟩ ⟨n + 1, by omega⟩, if_neg (by show ¬ n + 1 = 0; omega), Nat.zero_mul, Nat.add_zero]
  exact c k (Nat.le_refl _)
theorem tmV_id {S : Nat} {T Z : Nat → Nat} {e k hh s : Nat} {val : Nat → Nat} (hk : k ≤ 4) (h : k = 0 ∨ hh = 0) : tmV S T Z e k hh s val = val := by
  funext i
  unfold tmV
  by_cases q : k ≤ dgN S T Z i s
  · rw [if_pos q]
    rcases h with rfl | rfl
    · show mnE e (0 + chR 0 hh 0 * val (i - 0 * T s)) 1 = val i
      rw [Nat.zero_mul, Nat.sub_zero, show chR 0 hh 0 = 1 from rfl, Nat.zero_add]
      exact mnE_id (v := val i) (by decide)
    · rw [sumC_0 hk, Nat.zero_mul, Nat.sub_zero, mnE_id (Nat.pow_pos (by decide))]
  · rw [if_neg q]
