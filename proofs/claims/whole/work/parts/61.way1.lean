/-! The class's way: slacks, the nearest part, bids. Heaps of one shape, their numbers as functions. -/
def wIJ (h : Hp) (F : Nat → Nat → Int32) (G : Nat → Nat → Int64) : Hp := (h.1, zK h, zN h, F, G, zA h)
def u2 (F : Nat → Nat → Int32) (a j : Nat) (v : Int32) : Nat → Nat → Int32 := va_up F a (upd (F a) j v)
def u2L (G : Nat → Nat → Int64) (a j : Nat) (v : Int64) : Nat → Nat → Int64 := va_up G a (vp_updL (G a) j v)
theorem u2_eq (F : Nat → Nat → Int32) (a j : Nat) (v : Int32) (x i : Nat) : u2 F a j v x i = if x = a ∧ i = j then v else F x i := by
  unfold u2
  by_cases e : x = a
  · subst e
    rw [va_up_self]
    unfold upd
    by_cases e2 : i = j
    · rw [if_pos e2, if_pos ⟨rfl, e2⟩]
    · rw [if_neg e2, if_neg (fun z => e2 z.2)]
  · rw [va_up_ne _ _ e, if_neg (fun z => e z.1)]
theorem u2L_eq (G : Nat → Nat → Int64) (a j : Nat) (v : Int64) (x i : Nat) : u2L G a j v x i = if x = a ∧ i = j then v else G x i := by
  unfold u2L
  by_cases e : x = a
  · subst e
    rw [va_up_self]
    unfold vp_updL
    by_cases e2 : i = j
    · rw [if_pos e2, if_pos ⟨rfl, e2⟩]
    · rw [if_neg e2, if_neg (fun z => e2 z.2)]
  · rw [va_up_ne _ _ e, if_neg (fun z => e z.1)]
theorem rn_eq {sc : Nat × (Nat → Int32)} {mt : Mt} {pc : Nat} {ls : Ls} {st : List Value} {h1 h2 h' : Hp} {r : Option Value} (e : h1 = h2) (R : Rn sc mt pc ls st h2 r h') : Rn sc mt pc ls st h1 r h' := by
  rw [e]
  exact R
theorem wIJ_eq (h : Hp) {F F' : Nat → Nat → Int32} {G G' : Nat → Nat → Int64} (e1 : F = F') (e2 : G = G') : wIJ h F G = wIJ h F' G' := by rw [e1, e2]
section
variable (F : Nat → Nat → Int32) (G : Nat → Nat → Int64)
def sk (i j : Nat) : Int64 := G 22 ((i - 1) * 12 + j - 1) - G 23 i - G 24 j
def fsc (i n j : Nat) : Bool := decide (1 ≤ j ∧ j < n ∧ F 28 j = 0 ∧ (sk G i j).toInt < (G 25 j).toInt)
def fsF (i part n : Nat) : Nat → Nat → Int32 := fun a j => if a = 27 ∧ fsc F G i n j = true then nI part else F a j
def fsG (i n : Nat) : Nat → Nat → Int64 := fun a j => if a = 25 ∧ fsc F G i n j = true then sk G i j else G a j
def nr : Nat → Nat
  | 0 => 0
  | k + 1 => if F 28 (k + 1) = 0 ∧ (G 25 (k + 1)).toInt < (G 25 (nr k)).toInt then k + 1 else nr k
end
section
variable {F : Nat → Nat → Int32} {G : Nat → Nat → Int64}
theorem fsF_ne {i part n a j : Nat} (ha : a ≠ 27) : fsF F G i part n a j = F a j := if_neg (fun z => ha z.1)
theorem fsG_ne {i n a j : Nat} (ha : a ≠ 25) : fsG F G i n a j = G a j := if_neg (fun z => ha z.1)
theorem fsc_n {i n : Nat} : fsc F G i n n = false := decide_eq_false (by omega)
theorem fsc_s {i n j : Nat} (hj : j ≠ n) : fsc F G i (n + 1) j = fsc F G i n j := by
  unfold fsc
  congr 1
  exact propext ⟨fun z => ⟨z.1, by omega, z.2.2⟩, fun z => ⟨z.1, by omega, z.2.2⟩⟩
theorem fs_skip {i part n : Nat} (h : fsc F G i (n + 1) n = false) : fsF F G i part n = fsF F G i part (n + 1) ∧ fsG F G i n = fsG F G i (n + 1) := by
  have e : ∀ j, fsc F G i (n + 1) j = fsc F G i n j := fun j => by
    by_cases q : j = n
    · rw [q, h, fsc_n]
    · exact fsc_s q
  constructor
  · funext a j
    unfold fsF
    rw [e j]
  · funext a j
    unfold fsG
    rw [e j]
theorem fs_take {i part n : Nat} (h : fsc F G i (n + 1) n = true) : u2 (fsF F G i part n) 27 n (nI part) = fsF F G i part (n + 1) ∧ u2L (fsG F G i n) 25 n (sk G i n) = fsG F G i (n + 1) := by
  constructor
  · funext a j
    rw [u2_eq]
    unfold fsF
    by_cases q : j = n
    · subst q
      by_cases w : a = 27
      · rw [if_pos ⟨w, rfl⟩, if_pos ⟨w, h⟩]
      · rw [if_neg (fun z => w z.1), if_neg (fun z => w z.1), if_neg (fun z => w z.1)]
    · rw [if_neg (fun z => q z.2), fsc_s q]
  · funext a j
    rw [u2L_eq]
    unfold fsG
    by_cases q : j = n
    · subst q
      by_cases w : a = 25
      · rw [if_pos ⟨w, rfl⟩, if_pos ⟨w, h⟩]
      · rw [if_neg (fun z => w z.1), if_neg (fun z => w z.1), if_neg (fun z => w z.1)]
    · rw [if_neg (fun z => q z.2), fsc_s q]
theorem fs_0 {i part : Nat} : fsF F G i part 1 = F ∧ fsG F G i 1 = G := by
  have e : ∀ j, fsc F G i 1 j = false := fun j => decide_eq_false (by omega)
  constructor
  · funext a j
    exact if_neg (fun z => by rw [e j] at z; exact absurd z.2 (by decide))
  · funext a j
    exact if_neg (fun z => by rw [e j] at z; exact absurd z.2 (by decide))
end
section
variable {sc : Nat × (Nat → Int32)} {h : Hp} {F : Nat → Nat → Int32} {G : Nat → Nat → Int64} {M : Nat}
theorem ix_fs {i n : Nat} (i1 : 1 ≤ i) (n1 : 1 ≤ n) : (nI i - 1) * 12 + nI n - 1 = nI ((i - 1) * 12 + n - 1) := by
  rw [show (1 : Int32) = nI 1 from rfl, show (12 : Int32) = nI 12 from rfl, pk_sub i1, pk_mul, nI_add, pk_sub (by omega)]
theorem fs_loop {i part : Nat} (hM : M ≤ 12) (e6 : F 19 6 = nI M) (i1 : 1 ≤ i) (i2 : i ≤ 12) : ∀ (d n : Nat) (o : Option Value), n + d = M + 1 → 1 ≤ n → Rn sc (mtk 74) 9 [some (.ref 19), some (.int (nI part)), some (.int (nI i)), some (.int (nI n)), o, none] [] (wIJ (nh h) (fsF F G i part n) (fsG F G i n)) none (wIJ (nh h) (fsF F G i part (M + 1)) (fsG F G i (M + 1))) := by
  intro d
  induction d with
  | zero =>
    intro n o hn h1
    refine bk_sound (cuts := []) 20 _ _ _ _ ?_
    refine And.intro rfl ?_
    refine br_t (show fsF F G i part n 19 6 < nI n by rw [fsF_ne (by decide), e6]; exact nI_lt (by omega) (by omega)) ?_
    refine ⟨trivial, rfl, ?_⟩
    rw [show n = M + 1 by omega]
  | succ d ih =>
    intro n o hn h1
    have ib : inB (nI n) 13 = true := inB_nI (by omega) (by decide)
    have ec : (nI n).toNatClampNeg = n := nI_clamp (by omega)
    have ii : inB (nI i) 13 = true := inB_nI (by omega) (by decide)
    have ei : (nI i).toNatClampNeg = i := nI_clamp (by omega)
    have ex := ix_fs i1 h1
    have ix : inB ((nI i - 1) * 12 + nI n - 1) 144 = true := by rw [ex]; exact inB_nI (by omega) (by decide)
    have exc : ((nI i - 1) * 12 + nI n - 1).toNatClampNeg = (i - 1) * 12 + n - 1 := by rw [ex]; exact nI_clamp (by omega)
    have R := fun o => ih (n + 1) o (by omega) (by omega)
    rw [← nI_1] at R
    refine bk_sound (cuts := [9]) 60 _ _ _ _ ?_
    refine And.intro rfl ?_
    refine br_f (show ¬ fsF F G i part n 19 6 < nI n by rw [fsF_ne (by decide), e6]; exact nI_nlt (by omega) (by omega)) ?_
    refine And.intro rfl ?_
    refine And.intro (⟨rfl, ib⟩) ?_
    by_cases q : F 28 n = 0
    · refine br_t (show fsF F G i part n 28 (nI n).toNatClampNeg = 0 by rw [fsF_ne (by decide), ec]; exact q) ?_
      refine And.intro rfl ?_
      refine And.intro (⟨rfl, ix⟩) ?_
      refine And.intro rfl ?_
      refine And.intro (⟨rfl, ii⟩) ?_
      refine And.intro rfl ?_
      refine And.intro (⟨rfl, ib⟩) ?_
      refine And.intro rfl ?_
      refine And.intro (⟨rfl, ib⟩) ?_
      have es : fsG F G i n 22 ((nI i - 1) * 12 + nI n - 1).toNatClampNeg - fsG F G i n 23 (nI i).toNatClampNeg - fsG F G i n 24 (nI n).toNatClampNeg = sk G i n := by
        rw [fsG_ne (by decide), fsG_ne (by decide), fsG_ne (by decide), exc, ei, ec]
        rfl
      have e25 : fsG F G i n 25 (nI n).toNatClampNeg = G 25 n := by
        rw [ec]
        unfold fsG
        rw [fsc_n, if_neg (by decide)]
      refine br_c (fun w => ?_) (fun w => ?_)
      · have w : 0 ≤ lg_cmp (fsG F G i n 22 ((nI i - 1) * 12 + nI n - 1).toNatClampNeg - fsG F G i n 23 (nI i).toNatClampNeg - fsG F G i n 24 (nI n).toNatClampNeg) (fsG F G i n 25 (nI n).toNatClampNeg) := w
        rw [es, e25, cmp_ge0] at w
        have k := fs_skip (F := F) (G := G) (i := i) (part := part) (n := n) (decide_eq_false (by omega))
        exact rn_eq (wIJ_eq _ k.1 k.2) (R _)
      · have w : ¬ 0 ≤ lg_cmp (fsG F G i n 22 ((nI i - 1) * 12 + nI n - 1).toNatClampNeg - fsG F G i n 23 (nI i).toNatClampNeg - fsG F G i n 24 (nI n).toNatClampNeg) (fsG F G i n 25 (nI n).toNatClampNeg) := w
        rw [es, e25, cmp_ge0] at w
        refine And.intro rfl ?_
        refine And.intro (⟨rfl, ib⟩) ?_
        refine And.intro rfl ?_
        refine And.intro (⟨rfl, ib⟩) ?_
        have k := fs_take (F := F) (G := G) (i := i) (part := part) (n := n) (decide_eq_true ⟨h1, by omega, q, by omega⟩)
        refine rn_eq (show wIJ (nh h) (u2 (fsF F G i part n) 27 (nI n).toNatClampNeg (nI part)) (u2L (fsG F G i n) 25 (nI n).toNatClampNeg (fsG F G i n 22 ((nI i - 1) * 12 + nI n - 1).toNatClampNeg - fsG F G i n 23 (nI i).toNatClampNeg - fsG F G i n 24 (nI n).toNatClampNeg)) = _ from ?_) (R _)
        rw [es, ec]
        exact wIJ_eq _ k.1 k.2
    · refine br_f (show ¬ fsF F G i part n 28 (nI n).toNatClampNeg = 0 by rw [fsF_ne (by decide), ec]; exact q) ?_
      have k := fs_skip (F := F) (G := G) (i := i) (part := part) (n := n) (decide_eq_false (fun z => q z.2.2.1))
      exact rn_eq (wIJ_eq _ k.1 k.2) (R _)
theorem c_findSlacks {i part : Nat} (hM : M ≤ 12) (e6 : F 19 6 = nI M) (hp : part ≤ M) (i1 : 1 ≤ i) (i2 : i ≤ 12) (ei : F 26 part = nI i) : Cc sc 74 [.ref 19, .int (nI part)] (wIJ (nh h) F G) none (wIJ (nh h) (fsF F G i part (M + 1)) (fsG F G i (M + 1))) := by
  refine cc_cut [9] 20 rfl rfl ?_
  refine And.intro rfl ?_
  refine And.intro (⟨rfl, inB_nI (n := 13) (by omega) (by decide)⟩) ?_
  have R := fs_loop (sc := sc) (h := h) (F := F) (G := G) (part := part) hM e6 i1 i2 M 1 none (by omega) (Nat.le_refl _)
  rw [(fs_0 (F := F) (G := G) (i := i) (part := part)).1, (fs_0 (F := F) (G := G) (i := i) (part := part)).2, ← ei] at R
  rw [nI_clamp (by omega)]
  exact R
theorem nr_le (k : Nat) : nr F G k ≤ k := by
  induction k with
  | zero => exact Nat.le_refl _
  | succ k ih =>
    unfold nr
    split <;> omega
theorem nr_loop (hM : M ≤ 12) (e6 : F 19 6 = nI M) : ∀ (d k : Nat), k + d = M → Rn sc (mtk 75) 4 [some (.ref 19), some (.int (nI (nr F G k))), some (.int (nI (k + 1)))] [] (wIJ (nh h) F G) (some (.int (nI (nr F G M)))) (wIJ (nh h) F G) := by
  intro d
  induction d with
  | zero =>
    intro k hk
    refine bk_sound (cuts := []) 20 _ _ _ _ ?_
    refine And.intro rfl ?_
    refine br_t (show F 19 6 < nI (k + 1) by rw [e6]; exact nI_lt (by omega) (by omega)) ?_
    rw [show k = M by omega]
    exact ⟨Or.inl rfl, rfl, rfl⟩
  | succ d ih =>
    intro k hk
    have ib : inB (nI (k + 1)) 13 = true := inB_nI (by omega) (by decide)
    have ec : (nI (k + 1)).toNatClampNeg = k + 1 := nI_clamp (by omega)
    have le := nr_le (F := F) (G := G) k
    have ii : inB (nI (nr F G k)) 13 = true := inB_nI (by omega) (by decide)
    have ei : (nI (nr F G k)).toNatClampNeg = nr F G k := nI_clamp (by omega)
    have R := ih (k + 1) (by omega)
    rw [← nI_1 (k + 1)] at R
    refine bk_sound (cuts := [4]) 60 _ _ _ _ ?_
    refine And.intro rfl ?_
    refine br_f (show ¬ F 19 6 < nI (k + 1) by rw [e6]; exact nI_nlt (by omega) (by omega)) ?_
    refine And.intro rfl ?_
    refine And.intro (⟨rfl, ib⟩) ?_
    have en : nr F G (k + 1) = if F 28 (k + 1) = 0 ∧ (G 25 (k + 1)).toInt < (G 25 (nr F G k)).toInt then k + 1 else nr F G k := rfl
    by_cases q : F 28 (k + 1) = 0
    · refine br_f (show ¬ ¬ F 28 (nI (k + 1)).toNatClampNeg = 0 by rw [ec]; exact fun z => z q) ?_
      refine And.intro rfl ?_
      refine And.intro (⟨rfl, ib⟩) ?_
      refine And.intro rfl ?_
      refine And.intro (⟨rfl, ii⟩) ?_
      refine br_c (fun w => ?_) (fun w => ?_)
      · have w : 0 ≤ lg_cmp (G 25 (nI (k + 1)).toNatClampNeg) (G 25 (nI (nr F G k)).toNatClampNeg) := w
        rw [ec, ei, cmp_ge0] at w
        rw [en, if_neg (by omega)] at R
        exact R
      · have w : ¬ 0 ≤ lg_cmp (G 25 (nI (k + 1)).toNatClampNeg) (G 25 (nI (nr F G k)).toNatClampNeg) := w
        rw [ec, ei, cmp_ge0] at w
        rw [en, if_pos ⟨q, by omega⟩] at R
        exact R
    · refine br_t (show ¬ F 28 (nI (k + 1)).toNatClampNeg = 0 by rw [ec]; exact q) ?_
      rw [en, if_neg (fun z => q z.1)] at R
      exact R
theorem c_nearest (hM : M ≤ 12) (e6 : F 19 6 = nI M) : Cc sc 75 [.ref 19] (wIJ (nh h) F G) (some (.int (nI (nr F G M)))) (wIJ (nh h) F G) := by
  refine cc_cut [4] 20 rfl rfl ?_
  exact nr_loop hM e6 M 0 (by omega)
/-- the nearest: unseen, with the least slack, if one has less than nobody -/
theorem nr_spec : ∀ (k : Nat), (nr F G k ≠ 0 → F 28 (nr F G k) = 0) ∧ ∀ p, 1 ≤ p → p ≤ k → F 28 p = 0 → (G 25 (nr F G k)).toInt ≤ (G 25 p).toInt := by
  intro k
  induction k with
  | zero => exact ⟨fun z => absurd rfl z, fun p h1 h2 => by omega⟩
  | succ k ih =>
    have en : nr F G (k + 1) = if F 28 (k + 1) = 0 ∧ (G 25 (k + 1)).toInt < (G 25 (nr F G k)).toInt then k + 1 else nr F G k := rfl
    rw [en]
    by_cases q : F 28 (k + 1) = 0 ∧ (G 25 (k + 1)).toInt < (G 25 (nr F G k)).toInt
    · rw [if_pos q]
      refine ⟨fun _ => q.1, fun p h1 h2 h3 => ?_⟩
      by_cases e : p = k + 1
      · rw [e]
        exact Int.le_refl _
      · have := ih.2 p h1 (by omega) h3
        omega
    · rw [if_neg q]
      refine ⟨ih.1, fun p h1 h2 h3 => ?_⟩
      by_cases e : p = k + 1
      · subst e
        have : ¬ (G 25 (k + 1)).toInt < (G 25 (nr F G k)).toInt := fun z => q ⟨h3, z⟩
        omega
      · exact ih.2 p h1 (by omega) h3
end
section
variable (F : Nat → Nat → Int32) (hd : Nat → Nat) (dl : Int64) (G : Nat → Nat → Int64)
def lbG : Nat → Nat → Nat → Int64
  | 0 => G
  | n + 1 => if F 28 n = 0 then u2L (lbG n) 25 n (lbG n 25 n - dl) else u2L (u2L (lbG n) 23 (hd n) (lbG n 23 (hd n) + dl)) 24 n (lbG n 24 n - dl)
end
section
variable {sc : Nat × (Nat → Int32)} {h : Hp} {F : Nat → Nat → Int32} {G : Nat → Nat → Int64} {M : Nat} {hd : Nat → Nat} {dl : Int64}
theorem lb_loop (hM : M ≤ 12) (e6 : F 19 6 = nI M) (eh : ∀ p, p ≤ M → ¬ F 28 p = 0 → hd p ≤ 12 ∧ F 26 p = nI (hd p)) : ∀ (d n : Nat), n + d = M + 1 → Rn sc (mtk 76) 2 [some (.ref 19), some (.long dl), none, some (.int (nI n))] [] (wIJ (nh h) F (lbG F hd dl G n)) none (wIJ (nh h) F (lbG F hd dl G (M + 1))) := by
  intro d
  induction d with
  | zero =>
    intro n hn
    refine bk_sound (cuts := []) 20 _ _ _ _ ?_
    refine And.intro rfl ?_
    refine br_t (show F 19 6 < nI n by rw [e6]; exact nI_lt (by omega) (by omega)) ?_
    refine ⟨trivial, rfl, ?_⟩
    rw [show n = M + 1 by omega]
  | succ d ih =>
    intro n hn
    have ib : inB (nI n) 13 = true := inB_nI (by omega) (by decide)
    have ec : (nI n).toNatClampNeg = n := nI_clamp (by omega)
    have R := ih (n + 1) (by omega)
    rw [← nI_1] at R
    have en : lbG F hd dl G (n + 1) = if F 28 n = 0 then u2L (lbG F hd dl G n) 25 n (lbG F hd dl G n 25 n - dl) else u2L (u2L (lbG F hd dl G n) 23 (hd n) (lbG F hd dl G n 23 (hd n) + dl)) 24 n (lbG F hd dl G n 24 n - dl) := rfl
    refine bk_sound (cuts := [2]) 60 _ _ _ _ ?_
    refine And.intro rfl ?_
    refine br_f (show ¬ F 19 6 < nI n by rw [e6]; exact nI_nlt (by omega) (by omega)) ?_
    refine And.intro rfl ?_
    refine And.intro (⟨rfl, ib⟩) ?_
    by_cases q : F 28 n = 0
    · refine br_t (show F 28 (nI n).toNatClampNeg = 0 by rw [ec]; exact q) ?_
      refine And.intro rfl ?_
      refine And.intro (⟨rfl, ib⟩) ?_
      refine And.intro (⟨rfl, ib⟩) ?_
      rw [en, if_pos q] at R
      refine rn_eq (show wIJ (nh h) F (u2L (lbG F hd dl G n) 25 (nI n).toNatClampNeg (lbG F hd dl G n 25 (nI n).toNatClampNeg - dl)) = _ from ?_) R
      rw [ec]
    · obtain ⟨h12, eh1⟩ := eh n (by omega) q
      have ii : inB (nI (hd n)) 13 = true := inB_nI (by omega) (by decide)
      have ei : (nI (hd n)).toNatClampNeg = hd n := nI_clamp (by omega)
      refine br_f (show ¬ F 28 (nI n).toNatClampNeg = 0 by rw [ec]; exact q) ?_
      refine And.intro rfl ?_
      refine And.intro rfl ?_
      refine And.intro (⟨rfl, ib⟩) ?_
      refine And.intro (show _ ∧ inB (F 26 (nI n).toNatClampNeg) 13 = true from ⟨rfl, by rw [ec, eh1]; exact ii⟩) ?_
      refine And.intro (show _ ∧ inB (F 26 (nI n).toNatClampNeg) 13 = true from ⟨rfl, by rw [ec, eh1]; exact ii⟩) ?_
      refine And.intro rfl ?_
      refine And.intro (⟨rfl, ib⟩) ?_
      refine And.intro (⟨rfl, ib⟩) ?_
      rw [en, if_neg q] at R
      refine rn_eq (show wIJ (nh h) F (u2L (u2L (lbG F hd dl G n) 23 (F 26 (nI n).toNatClampNeg).toNatClampNeg (lbG F hd dl G n 23 (F 26 (nI n).toNatClampNeg).toNatClampNeg + dl)) 24 (nI n).toNatClampNeg (u2L (lbG F hd dl G n) 23 (F 26 (nI n).toNatClampNeg).toNatClampNeg (lbG F hd dl G n 23 (F 26 (nI n).toNatClampNeg).toNatClampNeg + dl) 24 (nI n).toNatClampNeg - dl)) = _ from ?_) R
      rw [ec, eh1, ei, u2L_eq _ _ _ _ 24, if_neg (by omega)]
theorem c_lowerBids (hM : M ≤ 12) (e6 : F 19 6 = nI M) (eh : ∀ p, p ≤ M → ¬ F 28 p = 0 → hd p ≤ 12 ∧ F 26 p = nI (hd p)) : Cc sc 76 [.ref 19, .long dl] (wIJ (nh h) F G) none (wIJ (nh h) F (lbG F hd dl G (M + 1))) := by
  refine cc_cut [2] 20 rfl rfl ?_
  exact lb_loop hM e6 eh (M + 1) 0 (by omega)
theorem lb_24 : ∀ (n p : Nat), lbG F hd dl G n 24 p = if p < n ∧ ¬ F 28 p = 0 then G 24 p - dl else G 24 p := by
  intro n
  induction n with
  | zero => intro p; rw [if_neg (by omega)]; rfl
  | succ n ih =>
    intro p
    unfold lbG
    by_cases q : F 28 n = 0
    · rw [if_pos q, u2L_eq, if_neg (by omega), ih]
      by_cases e : p = n
      · subst e
        rw [if_neg (by omega), if_neg (fun z => z.2 q)]
      · by_cases w : p < n ∧ ¬ F 28 p = 0
        · rw [if_pos w, if_pos ⟨by omega, w.2⟩]
        · rw [if_neg w, if_neg (fun z => w ⟨by omega, z.2⟩)]
    · rw [if_neg q, u2L_eq]
      by_cases e : p = n
      · subst e
        rw [if_pos ⟨rfl, rfl⟩, if_pos ⟨by omega, q⟩, ih, if_neg (by omega)]
      · rw [if_neg (by omega), u2L_eq, if_neg (by omega), ih]
        by_cases w : p < n ∧ ¬ F 28 p = 0
        · rw [if_pos w, if_pos ⟨by omega, w.2⟩]
        · rw [if_neg w, if_neg (fun z => w ⟨by omega, z.2⟩)]
theorem lb_25 : ∀ (n p : Nat), lbG F hd dl G n 25 p = if p < n ∧ F 28 p = 0 then G 25 p - dl else G 25 p := by
  intro n
  induction n with
  | zero => intro p; rw [if_neg (by omega)]; rfl
  | succ n ih =>
    intro p
    unfold lbG
    by_cases q : F 28 n = 0
    · rw [if_pos q, u2L_eq]
      by_cases e : p = n
      · subst e
        rw [if_pos ⟨rfl, rfl⟩, if_pos ⟨by omega, q⟩, ih, if_neg (by omega)]
      · rw [if_neg (by omega), ih]
        by_cases w : p < n ∧ F 28 p = 0
        · rw [if_pos w, if_pos ⟨by omega, w.2⟩]
        · rw [if_neg w, if_neg (fun z => w ⟨by omega, z.2⟩)]
    · rw [if_neg q, u2L_eq, if_neg (by omega), u2L_eq, if_neg (by omega), ih]
      by_cases e : p = n
      · subst e
        rw [if_neg (by omega), if_neg (fun z => q z.2)]
      · by_cases w : p < n ∧ F 28 p = 0
        · rw [if_pos w, if_pos ⟨by omega, w.2⟩]
        · rw [if_neg w, if_neg (fun z => w ⟨by omega, z.2⟩)]
theorem lb_o {a : Nat} (h1 : a ≠ 23) (h2 : a ≠ 24) (h3 : a ≠ 25) : ∀ n j, lbG F hd dl G n a j = G a j := by
  intro n
  induction n with
  | zero => intro j; rfl
  | succ n ih =>
    intro j
    unfold lbG
    by_cases q : F 28 n = 0
    · rw [if_pos q, u2L_eq, if_neg (fun z => h3 z.1), ih]
    · rw [if_neg q, u2L_eq, if_neg (fun z => h2 z.1), u2L_eq, if_neg (fun z => h1 z.1), ih]
theorem lb_23 : ∀ (n : Nat), (∀ p q, p < n → q < n → ¬ F 28 p = 0 → ¬ F 28 q = 0 → hd p = hd q → p = q) → (∀ p, p < n → ¬ F 28 p = 0 → lbG F hd dl G n 23 (hd p) = G 23 (hd p) + dl) ∧ ∀ i, (∀ p, p < n → ¬ F 28 p = 0 → hd p ≠ i) → lbG F hd dl G n 23 i = G 23 i := by
  intro n
  induction n with
  | zero => intro _; exact ⟨fun p h => by omega, fun i _ => rfl⟩
  | succ n ih =>
    intro hi
    obtain ⟨i1, i2⟩ := ih (fun p q hp hq => hi p q (by omega) (by omega))
    unfold lbG
    by_cases q : F 28 n = 0
    · rw [if_pos q]
      constructor
      · intro p hp hn
        rw [u2L_eq, if_neg (by omega)]
        exact i1 p (by have : p ≠ n := fun e => hn (by rw [e]; exact q); omega) hn
      · intro i hn
        rw [u2L_eq, if_neg (by omega)]
        exact i2 i (fun p hp => hn p (by omega))
    · rw [if_neg q]
      have nw : lbG F hd dl G n 23 (hd n) = G 23 (hd n) := i2 (hd n) (fun p hp hn e => by
        have := hi p n (by omega) (by omega) hn q e
        omega)
      constructor
      · intro p hp hn
        rw [u2L_eq, if_neg (by omega), u2L_eq]
        by_cases e : p = n
        · subst e
          rw [if_pos ⟨rfl, rfl⟩, nw]
        · rw [if_neg (fun z => e (hi p n hp (by omega) hn q z.2))]
          exact i1 p (by omega) hn
      · intro i hn
        rw [u2L_eq, if_neg (by omega), u2L_eq, if_neg (fun z => hn n (by omega) q z.2.symm)]
        exact i2 i (fun p hp => hn p (by omega))
end
