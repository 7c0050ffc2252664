/-! Outlook: takeMeans. -/
theorem dig_blk {T Z m r : Nat} (hT : 1 ≤ T) (hr : r < T * Z) : (T * Z * m + r) / T % Z = r / T := by
  rw [Nat.mul_assoc, Nat.mul_add_div (by omega), Nat.mul_add_mod, Nat.mod_eq_of_lt (Nat.div_lt_of_lt_mul hr)]
def tkG (G : Nat → Nat → Int64) (S N : Nat) (T Z : Nat → Nat) (e k hh s : Nat) (val : Nat → Nat) (p q : Nat) : Nat → Nat → Int64 := fun a i => if a = 13 ∧ i < N ∧ (i < p ∨ (q ≤ i ∧ i < p + T s * Z s)) ∧ k ≤ dgN S T Z i s then lN (tmV S T Z e k hh s val i) else G a i
section
variable {sc : Nat × (Nat → Int32)} {h : Hp} {F : Nat → Nat → Int32} {G : Nat → Nat → Int64} {S N : Nat} {T Z : Nat → Nat} {e k hh s B : Nat} {val : Nat → Nat}
theorem tk_in {r : Option Value} {h' : Hp} {p m : Nat} (Q : SZ F S N T Z) (hs : s < S) (hk : k ≤ 4) (k1 : 1 ≤ k) (h12 : hh ≤ 12) (he : e ≤ 1) (e3 : F 6 3 = nI e) (hB : B ≤ 1000000000000) (hv : ∀ i, val i ≤ B) (h14 : ∀ j, j < 5 → G 14 j = lN (chR k hh j)) (h13 : ∀ i, i < N → G 13 i = lN (val i)) (hp : p = T s * Z s * m) (hpN : p + T s * Z s ≤ N) (K : ∀ x : Int32, Rn sc (mtk 31) 89 [some (.ref 6), some (.int (nI k)), some (.int (nI s)), some (.int (nI hh)), some (.int (nI (T s))), some (.int (nI (T s * Z s))), some (.int (nI p)), some (.int x)] [] (wIJ (nh h) F (tkG G S N T Z e k hh s val (p + T s * Z s) (p + T s * Z s + T s * Z s))) r h') : ∀ (d u : Nat), u ≤ p + T s * Z s → p ≤ u → u = p + k * T s + d ∨ (u < p + k * T s ∧ d = 0) → Rn sc (mtk 31) 55 [some (.ref 6), some (.int (nI k)), some (.int (nI s)), some (.int (nI hh)), some (.int (nI (T s))), some (.int (nI (T s * Z s))), some (.int (nI p)), some (.int (nI u - 1))] [] (wIJ (nh h) F (tkG G S N T Z e k hh s val p u)) r h' := by
  intro d
  obtain ⟨q1, q2, q3, q4⟩ := Q
  obtain ⟨z1, z2, -⟩ := q3 s hs
  obtain ⟨z5, z6⟩ := q1.2.2 s hs
  have kt : k * T s ≤ 4 * 216 := Nat.mul_le_mul hk z2
  have kt1 : 1 ≤ k * T s := Nat.mul_pos k1 z6
  have dg : ∀ i, p ≤ i → i < p + T s * Z s → dgN S T Z i s = (i - p) / T s := fun i h1 h2 => by
    unfold dgN
    rw [if_pos hs]
    have := dig_blk (T := T s) (Z := Z s) (m := m) (r := i - p) z6 (by omega)
    rw [← hp, show p + (i - p) = i by omega] at this
    exact this
  have dk : ∀ i, p ≤ i → i < p + T s * Z s → (k ≤ dgN S T Z i s ↔ p + k * T s ≤ i) := fun i h1 h2 => by
    rw [dg i h1 h2, Nat.le_div_iff_mul_le z6]
    omega
  induction d with
  | zero =>
    intro u hu1 hu2 hu
    have hu' : u ≤ p + k * T s := by omega
    have K := K (nI u - 1)
    have e0 : tkG G S N T Z e k hh s val p u = tkG G S N T Z e k hh s val (p + T s * Z s) (p + T s * Z s + T s * Z s) := by
      funext a i
      unfold tkG
      by_cases q : a = 13 ∧ i < N ∧ (i < p ∨ (u ≤ i ∧ i < p + T s * Z s)) ∧ k ≤ dgN S T Z i s
      · rw [if_pos q, if_pos ⟨q.1, q.2.1, by omega, q.2.2.2⟩]
      · rw [if_neg q, if_neg (fun z => ?_)]
        obtain ⟨y1, y2, y3, y4⟩ := z
        refine q ⟨y1, y2, ?_, y4⟩
        by_cases w : i < p
        · exact Or.inl w
        · have := (dk i (by omega) (by omega)).mp y4
          exact Or.inr ⟨by omega, by omega⟩
    have lt : nI u - 1 < nI p + nI k * nI (T s) := by
      rw [pk_mul, nI_add, i_lt, nI_toInt (by omega), show (1 : Int32) = nI 1 from rfl, pk_sub_toInt (by omega) (by omega)]
      omega
    refine bk_sound (cuts := [89]) 20 _ _ _ _ ?_
    refine br_t lt ?_
    rw [e0]
    exact K
  | succ d ih =>
    intro u hu1 hu2 hu
    have hu : u = p + k * T s + d + 1 := by omega
    obtain ⟨i, rfl⟩ : ∃ i, u = i + 1 := ⟨p + k * T s + d, by omega⟩
    have hi : i = p + k * T s + d := by omega
    have R := ih i (by omega) (by omega) (Or.inl hi)
    have iN : i < 216 := by omega
    have ii : inB (nI i) 216 = true := inB_nI iN (by decide)
    have ei : (nI i).toNatClampNeg = i := nI_clamp (by omega)
    have dgi : k ≤ dgN S T Z i s := (dk i (by omega) (by omega)).mpr (by omega)
    have rd : ∀ j, j ≤ k → tkG G S N T Z e k hh s val p (i + 1) 13 (i - j * T s) = lN (val (i - j * T s)) := fun j hj => by
      have : j * T s ≤ k * T s := Nat.mul_le_mul_right _ hj
      unfold tkG
      rw [if_neg (by omega)]
      exact h13 _ (by omega)
    have cm := c_meanAt (sc := sc) (h := h) (F := F) (G := tkG G S N T Z e k hh s val p (i + 1)) (i := i) (t := T s) (k := k) (hh := hh) (e := e) (B := B) (f := fun j => val (i - j * T s)) hk h12 iN (by omega) he e3 (fun j hj => by unfold tkG; rw [if_neg (by omega)]; exact h14 j hj) rd hB (fun j _ => hv _)
    have st : u2L (tkG G S N T Z e k hh s val p (i + 1)) 13 i (lN (mnE e (sumC k hh (fun j => val (i - j * T s)) (k + 1)) (12 ^ k))) = tkG G S N T Z e k hh s val p i := by
      funext a j
      rw [u2L_eq]
      unfold tkG
      by_cases w : a = 13 ∧ j = i
      · obtain ⟨rfl, rfl⟩ := w
        rw [if_pos ⟨rfl, rfl⟩, if_pos ⟨rfl, by omega, by omega, dgi⟩]
        unfold tmV
        rw [if_pos dgi]
      · rw [if_neg w]
        by_cases q : a = 13 ∧ j < N ∧ (j < p ∨ (i + 1 ≤ j ∧ j < p + T s * Z s)) ∧ k ≤ dgN S T Z j s
        · rw [if_pos q, if_pos ⟨q.1, q.2.1, by omega, q.2.2.2⟩]
        · rw [if_neg q, if_neg (fun z => q ⟨z.1, z.2.1, by omega, z.2.2.2⟩)]
    rw [← st, i_dec (nI i)] at R
    rw [nI_pred]
    refine bk_sound (cuts := [55]) 40 _ _ _ _ ?_
    refine br_f (show ¬ nI i < nI p + nI k * nI (T s) by rw [pk_mul, nI_add]; exact nI_nlt (by omega) (by omega)) ?_
    refine And.intro rfl ?_
    refine And.intro ⟨rfl, rfl⟩ (And.intro rfl (Exists.intro _ (Exists.intro _ (And.intro (cm) ?_))))
    refine And.intro (⟨rfl, ii⟩) ?_
    refine rn_eq (show wIJ (nh h) F (u2L (tkG G S N T Z e k hh s val p (i + 1)) 13 (nI i).toNatClampNeg (lN (mnE e (sumC k hh (fun j => val (i - j * T s)) (k + 1)) (12 ^ k)))) = _ from ?_) R
    rw [ei]
theorem tk_out {M0 : Nat} (Q : SZ F S N T Z) (hs : s < S) (hk : k ≤ 4) (k1 : 1 ≤ k) (h12 : hh ≤ 12) (he : e ≤ 1) (e3 : F 6 3 = nI e) (hB : B ≤ 1000000000000) (hv : ∀ i, val i ≤ B) (h14 : ∀ j, j < 5 → G 14 j = lN (chR k hh j)) (h13 : ∀ i, i < N → G 13 i = lN (val i)) (hN : N = T s * Z s * M0) : ∀ (d m : Nat) (o : Option Value), m + d = M0 → Rn sc (mtk 31) 37 [some (.ref 6), some (.int (nI k)), some (.int (nI s)), some (.int (nI hh)), some (.int (nI (T s))), some (.int (nI (T s * Z s))), some (.int (nI (T s * Z s * m))), o] [] (wIJ (nh h) F (tkG G S N T Z e k hh s val (T s * Z s * m) (T s * Z s * m + T s * Z s))) none (wIJ (nh h) F (tkG G S N T Z e k hh s val N (N + T s * Z s))) := by
  intro d
  have e5 : F 6 5 = nI N := Q.2.2.2
  have N216 : N ≤ 216 := Q.2.1
  have zz : 1 ≤ T s * Z s := Nat.mul_pos (Q.1.2.2 s hs).2 (Q.1.2.2 s hs).1
  induction d with
  | zero =>
    intro m o hm
    obtain rfl : m = M0 := by omega
    rw [← hN]
    refine bk_sound (cuts := []) 20 _ _ _ _ ?_
    refine And.intro rfl ?_
    refine br_t (show F 6 5 ≤ nI N by rw [e5]; exact nI_le (Nat.le_refl _) (by omega)) ?_
    exact ⟨trivial, rfl, rfl⟩
  | succ d ih =>
    intro m o hm
    have R := fun o => ih (m + 1) o (by omega)
    have e1 : T s * Z s * (m + 1) = T s * Z s * m + T s * Z s := by rw [Nat.mul_add, Nat.mul_one]
    have le : T s * Z s * (m + 1) ≤ N := by rw [hN]; exact Nat.mul_le_mul_left _ (by omega)
    rw [e1] at R le
    generalize hp : T s * Z s * m = p at *
    have I := tk_in (sc := sc) (h := h) (F := F) (G := G) (p := p) (m := m) (r := none) (h' := wIJ (nh h) F (tkG G S N T Z e k hh s val N (N + T s * Z s))) Q hs hk k1 h12 he e3 hB hv h14 h13 hp.symm le (fun x => by
      refine bk_sound (cuts := [37]) 20 _ _ _ _ ?_
      have R := R (some (.int x))
      rw [← nI_add] at R
      exact R) (p + T s * Z s - (p + k * T s)) (p + T s * Z s) (Nat.le_refl _) (by omega) (by omega)
    rw [← nI_add] at I
    refine bk_sound (cuts := [55]) 40 _ _ _ _ ?_
    refine And.intro rfl ?_
    refine br_f (show ¬ F 6 5 ≤ nI p by rw [e5]; exact nI_ge (by omega) (by omega)) ?_
    exact I
theorem c_takeMeans (Q : SZ F S N T Z) (S3 : S ≤ 3) (hs : s < S) (hk : k ≤ 4) (h12 : hh ≤ 12) (he : e ≤ 1) (e3 : F 6 3 = nI e) (hB : B ≤ 1000000000000) (hv : ∀ i, val i ≤ B) (h13 : ∀ i, i < N → G 13 i = lN (val i)) : ∃ G', Cc sc 31 [.ref 6, .int (nI k), .int (nI s), .int (nI hh)] (wIJ (nh h) F G) none (wIJ (nh h) F G') ∧ (∀ a, a ≠ 13 → a ≠ 14 → G' a = G a) ∧ ∀ i, i < N → G' 13 i = lN (tmV S T Z e k hh s val i) := by
  by_cases k0 : k = 0
  · refine ⟨G, ?_, fun _ _ _ => rfl, fun i hi => by rw [tmV_id hk (Or.inl k0)]; exact h13 i hi⟩
    subst k0
    refine cc_of 20 rfl rfl ?_
    refine br_t (by rfl) ?_
    exact ⟨trivial, rfl, rfl⟩
  · have kn : ¬ nI k = 0 := fun z => k0 ((nI_eq (a := k) (b := 0) (by omega) (by omega)).mp z)
    by_cases h0 : hh = 0
    · refine ⟨G, ?_, fun _ _ _ => rfl, fun i hi => by rw [tmV_id hk (Or.inr h0)]; exact h13 i hi⟩
      subst h0
      refine cc_of 20 rfl rfl ?_
      refine br_f kn ?_
      refine br_f (by exact fun z => z rfl) ?_
      exact ⟨trivial, rfl, rfl⟩
    · have hn : ¬ nI hh = 0 := fun z => h0 ((nI_eq (a := hh) (b := 0) (by omega) (by omega)).mp z)
      obtain ⟨G1, C1, g1, g2⟩ := c_setChances (sc := sc) (h := h) (F := F) (G := G) hk h12
      obtain ⟨z1, z2, z3, z4, M0, hM⟩ := Q.2.2.1 s hs
      have h13' : ∀ i, i < N → G1 13 i = lN (val i) := fun i hi => by rw [g1 13 (by decide)]; exact h13 i hi
      have is : inB (nI s) 3 = true := inB_nI (by omega) (by decide)
      have es : (nI s).toNatClampNeg = s := nI_clamp (by omega)
      have O := tk_out (sc := sc) (h := h) (F := F) (G := G1) Q hs hk (by omega) h12 he e3 hB hv g2 h13' hM M0 0 none (by omega)
      have e0 : tkG G1 S N T Z e k hh s val 0 (0 + T s * Z s) = G1 := by
        funext a i
        unfold tkG
        rw [if_neg (by omega)]
      rw [Nat.mul_zero, e0, show nI (T s * Z s) = nI (T s) * nI (Z s) from (pk_mul _ _).symm] at O
      refine ⟨tkG G1 S N T Z e k hh s val N (N + T s * Z s), ?_, fun a h1 h2 => ?_, fun i hi => ?_⟩
      · refine cc_cut [37] 40 rfl rfl ?_
        refine br_f kn ?_
        refine br_t hn ?_
        refine And.intro ⟨rfl, rfl⟩ (And.intro rfl (Exists.intro _ (Exists.intro _ (And.intro (C1) ?_))))
        refine And.intro rfl ?_
        refine And.intro (⟨rfl, is⟩) ?_
        rw [es, show zI (wIJ (nh h) F G1) (zA (wIJ (nh h) F G1) 6 7) s = nI (T s) from z3]
        refine And.intro rfl ?_
        refine And.intro (⟨rfl, is⟩) ?_
        rw [es, show zI (wIJ (nh h) F G1) (zA (wIJ (nh h) F G1) 6 6) s = nI (Z s) from z4]
        exact O
      · funext i
        rw [← g1 a h2]
        exact if_neg (fun z => h1 z.1)
      · unfold tkG
        by_cases q : k ≤ dgN S T Z i s
        · rw [if_pos ⟨rfl, hi, by omega, q⟩]
        · rw [if_neg (fun z => q z.2.2.2), h13' i hi]
          unfold tmV
          rw [if_neg q]
end
