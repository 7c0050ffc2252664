/-! neverMoved. -/
section
variable {sc : Nat × (Nat → Int32)} {h : Hp} {F : Nat → Nat → Int32} {G : Nat → Nat → Int64} {C : Cp} {c nb br sp rule n e : Nat}
/-- one sort, k lorries down to 1: means[m] is new for m > k -/
theorem nv_k {x2 x3 x5 : Int32} {f1 s B : Nat} {f f' : Nat → Nat} (K : CK h C c nb br) (hF : Hi h F) (he : e ≤ 1) (e3 : F 6 3 = nI e) (hs : s < qS C) (hf1 : f1 ≤ 4) (hB : B ≤ 1000000000000) (hfB : ∀ m, m ≤ 4 → f m ≤ B) (hf' : ∀ m, m ≤ f1 → f' m = mnE e (sumC m (qV C s 1) (fun i => f (m - i)) (m + 1)) (12 ^ m)) (h0 : f' 0 = f 0) : ∀ (k : Nat) (G1 : Nat → Nat → Int64), k ≤ f1 → (∀ m, m ≤ f1 → G1 13 m = lN (if k < m then f' m else f m)) → ∃ G2 : Nat → Nat → Int64, (∀ a, a ≠ 13 → a ≠ 14 → G2 a = G1 a) ∧ (∀ m, m ≤ f1 → G2 13 m = lN (f' m)) ∧ ∀ r h', Rn sc (mtk 34) 90 [some (.ref 6), some (.ref c), some (.int x2), some (.int x3), some (.int (nI f1)), some (.int x5), some (.int (nI s)), some (.int (nI 0))] [] (wIJ (nh h) F G2) r h' → Rn sc (mtk 34) 49 [some (.ref 6), some (.ref c), some (.int x2), some (.int x3), some (.int (nI f1)), some (.int x5), some (.int (nI s)), some (.int (nI k))] [] (wIJ (nh h) F G1) r h' := by
  intro k
  have b := K.b
  induction k with
  | zero =>
    intro G1 _ g2
    refine ⟨G1, fun _ _ _ => rfl, fun m hm => ?_, fun r h' R => ?_⟩
    · rw [g2 m hm]
      by_cases q : 0 < m
      · rw [if_pos q]
      · rw [if_neg q, show m = 0 by omega, h0]
    · refine bk_sound (cuts := [90]) 20 _ _ _ _ ?_
      refine br_t (by decide) ?_
      exact R
  | succ k ih =>
    intro G1 hk g2
    have cn := c_numF (sc := sc) (G := G1) K hF hs (by decide : 1 < 5)
    have v12 := K.v12 hs (by decide : 1 < 5)
    obtain ⟨G2, C2, w1, w2⟩ := c_setChances (sc := sc) (h := h) (F := F) (G := G1) (k := k + 1) (hh := qV C s 1) (by omega) v12
    have cm := c_meanAt (sc := sc) (h := h) (F := F) (G := G2) (i := k + 1) (t := 1) (k := k + 1) (hh := qV C s 1) (e := e) (B := B) (f := fun i => f (k + 1 - i)) (by omega) v12 (by omega) (by omega) he e3 w2 (fun j hj => by rw [w1 13 (by decide), Nat.mul_one, g2 _ (by omega), if_neg (by omega)]) hB (fun j _ => hfB _ (by omega))
    obtain ⟨G3, t1, t2, t3⟩ := ih (u2L G2 13 (k + 1) (lN (mnE e (sumC (k + 1) (qV C s 1) (fun i => f (k + 1 - i)) (k + 1 + 1)) (12 ^ (k + 1))))) (by omega) (fun m hm => by
      rw [u2L_eq]
      by_cases q : m = k + 1
      · rw [if_pos ⟨rfl, q⟩, if_pos (by omega), q, hf' (k + 1) hk]
      · rw [if_neg (fun z => q z.2), w1 13 (by decide), g2 m hm]
        by_cases w : k + 1 < m
        · rw [if_pos w, if_pos (by omega)]
        · rw [if_neg w, if_neg (by omega)])
    refine ⟨G3, fun a h1 h2 => ?_, t2, fun r h' R0 => ?_⟩
    · rw [t1 a h1 h2, ← w1 a h2]
      funext j
      rw [u2L_eq, if_neg (fun z => h1 z.1)]
    · have R := t3 r h' R0
      rw [show nI k = nI (k + 1) + Int32.ofInt (-1) by rw [← i_dec, nI_pred]] at R
      refine bk_sound (cuts := [49]) 40 _ _ _ _ ?_
      refine br_f (show ¬ nI (k + 1) < 1 from nI_nlt (a := k + 1) (b := 1) (by omega) (by omega)) ?_
      refine And.intro ⟨rfl, K.k⟩ (And.intro rfl (Exists.intro _ (Exists.intro _ (And.intro (cn) ?_))))
      refine And.intro ⟨rfl, rfl⟩ (And.intro rfl (Exists.intro _ (Exists.intro _ (And.intro (C2) ?_))))
      refine And.intro rfl ?_
      refine And.intro ⟨rfl, rfl⟩ (And.intro rfl (Exists.intro _ (Exists.intro _ (And.intro (cm) ?_))))
      refine And.intro (⟨rfl, inB_nI (n := 216) (by omega) (by decide)⟩) ?_
      refine rn_eq (show wIJ (nh h) F (u2L G2 13 (nI (k + 1)).toNatClampNeg (lN (mnE e (sumC (k + 1) (qV C s 1) (fun i => f (k + 1 - i)) (k + 1 + 1)) (12 ^ (k + 1))))) = _ from ?_) R
      rw [nI_clamp (by omega)]
/-- all sorts of a day -/
theorem nv_s {x2 x3 x5 : Int32} {f1 B : Nat} {f : Nat → Nat} (K : CK h C c nb br) (hF : Hi h F) (he : e ≤ 1) (e3 : F 6 3 = nI e) (hf1 : f1 ≤ 4) (hB : B ≤ 1000000000000) (hfB : ∀ m, m ≤ 4 → f m ≤ B) : ∀ (s : Nat) (G1 : Nat → Nat → Int64) (o7 : Option Value), s ≤ qS C → (∀ m, m ≤ f1 → G1 13 m = lN (lzN C e f (qS C - s) m)) → ∃ (G2 : Nat → Nat → Int64) (o7' : Option Value), (∀ a, a ≠ 13 → a ≠ 14 → G2 a = G1 a) ∧ (∀ m, m ≤ f1 → G2 13 m = lN (lzN C e f (qS C) m)) ∧ ∀ r h', Rn sc (mtk 34) 96 [some (.ref 6), some (.ref c), some (.int x2), some (.int x3), some (.int (nI f1)), some (.int x5), some (.int (nI 0 - 1)), o7'] [] (wIJ (nh h) F G2) r h' → Rn sc (mtk 34) 40 [some (.ref 6), some (.ref c), some (.int x2), some (.int x3), some (.int (nI f1)), some (.int x5), some (.int (nI s - 1)), o7] [] (wIJ (nh h) F G1) r h' := by
  intro s
  have b := K.b
  induction s with
  | zero =>
    intro G1 o7 _ g2
    refine ⟨G1, o7, fun _ _ _ => rfl, g2, fun r h' R => ?_⟩
    refine bk_sound (cuts := [96]) 20 _ _ _ _ ?_
    refine br_t (by decide) ?_
    exact R
  | succ s ih =>
    intro G1 o7 hs g2
    have es : qS C - 1 - (qS C - (s + 1)) = s := by omega
    obtain ⟨G2, t1, t2, t3⟩ := nv_k (sc := sc) (h := h) (F := F) (x2 := x2) (x3 := x3) (x5 := x5) (f1 := f1) (s := s) (e := e) (B := B) (f := lzN C e f (qS C - (s + 1))) (f' := lzN C e f (qS C - s)) K hF he e3 (by omega) hf1 hB (fun m hm => lz_le (fun s hs => K.v12 hs (by decide)) hfB _ (by omega) m hm) (fun m _ => by
      rw [show qS C - s = qS C - (s + 1) + 1 by omega]
      show mnE e (sumC m (qV C (qS C - 1 - (qS C - (s + 1))) 1) _ (m + 1)) (12 ^ m) = _
      rw [es]) (by rw [lz_0, lz_0]) f1 G1 (Nat.le_refl _) (fun m hm => by rw [if_neg (by omega)]; exact g2 m hm)
    obtain ⟨G3, o7', y1, y2, y3⟩ := ih G2 (some (.int (nI 0))) (by omega) t2
    refine ⟨G3, o7', fun a h1 h2 => (y1 a h1 h2).trans (t1 a h1 h2), y2, fun r h' R0 => ?_⟩
    have R := y3 r h' R0
    rw [i_dec (nI s)] at R
    have L := t3 r h' (by
      refine bk_sound (cuts := [40]) 20 _ _ _ _ ?_
      exact R)
    rw [nI_pred]
    refine bk_sound (cuts := [49]) 20 _ _ _ _ ?_
    refine br_f (nI_pos (by omega)) ?_
    exact L
theorem nv_b {x2 x3 x5 : Int32} {f1 : Nat} {f : Nat → Nat} {o7 : Option Value} (K : CK h C c nb br) (hF : Hi h F) (hf1 : f1 ≤ qL C) : ∀ (d k : Nat) (G1 : Nat → Nat → Int64), k + d = f1 → (∀ m, m ≤ f1 → G1 13 m = lN (if m = 0 ∨ k < m then f m else f m + 3000000 * qB C m)) → ∃ (G2 : Nat → Nat → Int64), (∀ a, a ≠ 13 → a ≠ 14 → G2 a = G1 a) ∧ (∀ m, m ≤ f1 → G2 13 m = lN (if m = 0 then f 0 else f m + 3000000 * qB C m)) ∧ ∀ r h', Rn sc (mtk 34) 134 [some (.ref 6), some (.ref c), some (.int x2), some (.int x3), some (.int (nI f1)), some (.int x5), some (.int (nI (f1 + 1))), o7] [] (wIJ (nh h) F G2) r h' → Rn sc (mtk 34) 99 [some (.ref 6), some (.ref c), some (.int x2), some (.int x3), some (.int (nI f1)), some (.int x5), some (.int (nI (k + 1))), o7] [] (wIJ (nh h) F G1) r h' := by
  intro d
  have b := K.b
  obtain ⟨k1, k2, k3, k4', k5, k6, k7, k8, k9, k10, k11, k12, k13, k14, k15, k16⟩ := id K
  induction d with
  | zero =>
    intro k G1 hk g2
    obtain rfl : k = f1 := by omega
    refine ⟨G1, fun _ _ _ => rfl, fun m hm => ?_, fun r h' R => ?_⟩
    · rw [g2 m hm]
      by_cases q : m = 0
      · rw [if_pos (Or.inl q), if_pos q, q]
      · rw [if_neg (by omega), if_neg q]
    · refine bk_sound (cuts := [134]) 20 _ _ _ _ ?_
      refine br_t (nI_lt (by omega) (by omega)) ?_
      exact R
  | succ d ih =>
    intro k G1 hk g2
    have a4 : zA (nh h) c 4 = br := by rw [nh_A k1]; exact k6
    obtain ⟨b9, -, b3⟩ := k16 (k + 1) (by omega)
    have ik : inB (nI (k + 1)) 5 = true := inB_nI (by omega) (by decide)
    have i216 : inB (nI (k + 1)) 216 = true := inB_nI (by omega) (by decide)
    have ek : (nI (k + 1)).toNatClampNeg = k + 1 := nI_clamp (by omega)
    have g13 : G1 13 (k + 1) = lN (f (k + 1)) := by rw [g2 (k + 1) (by omega), if_pos (by omega)]
    obtain ⟨G3, t1, t2, t3⟩ := ih (k + 1) (u2L G1 13 (k + 1) (lN (f (k + 1)) + lN (3000000 * qB C (k + 1)))) (by omega) (fun m hm => by
      rw [u2L_eq]
      by_cases q : m = k + 1
      · rw [if_pos ⟨rfl, q⟩, if_neg (by omega), q, lN_add]
      · rw [if_neg (fun z => q z.2), g2 m hm]
        by_cases w : m = 0 ∨ k < m
        · rw [if_pos w, if_pos (by omega)]
        · rw [if_neg w, if_neg (by omega)])
    refine ⟨G3, fun a h1 h2 => ?_, t2, fun r h' R0 => ?_⟩
    · rw [t1 a h1 h2]
      funext j
      rw [u2L_eq, if_neg (fun z => h1 z.1)]
    · have R := t3 r h' R0
      rw [← nI_1 (k + 1)] at R
      refine bk_sound (cuts := [99]) 40 _ _ _ _ ?_
      refine br_f (nI_nlt (by omega) (by omega)) ?_
      refine And.intro rfl ?_
      refine And.intro (⟨rfl, i216⟩) ?_
      rw [ek, show zJ (wIJ (nh h) F G1) (zA (wIJ (nh h) F G1) 6 12) (k + 1) = lN (f (k + 1)) from g13]
      refine And.intro (show kin 0 (zK (nh h) c) = true by rw [K.k]; rfl) ?_
      rw [show zA (wIJ (nh h) F G1) c 4 = br from a4]
      refine And.intro (show zK (nh h) br = 12 ∧ inB (nI (k + 1)) (zN (nh h) br) = true from ⟨by rw [nh_K k3]; exact k9, by rw [nh_N k3, k10]; exact ik⟩) ?_
      rw [ek, show zI (wIJ (nh h) F G1) br (k + 1) = nI (qB C (k + 1)) from (by show F br (k + 1) = _; rw [hF br k3]; exact b3)]
      refine And.intro (show _ ∧ inB (nI (k + 1)) 216 = true from ⟨rfl, i216⟩) ?_
      refine rn_eq (show wIJ (nh h) F (u2L G1 13 (nI (k + 1)).toNatClampNeg (lN (f (k + 1)) + 3000000 * (nI (qB C (k + 1))).toInt64)) = _ from ?_) R
      rw [ek, nI_l (by omega), show (3000000 : Int64) = lN 3000000 from rfl, lN_mul]
theorem nv_d {x2 x3 : Int32} {f1 : Nat} (K : CK h C c nb br) (hF : Hi h F) (he : e ≤ 1) (e3 : F 6 3 = nI e) (hf1 : f1 ≤ qL C) (hn : n ≤ 12) : ∀ (d m : Nat) (G1 : Nat → Nat → Int64) (o6 o7 : Option Value), m + d = n → (∀ k, k ≤ f1 → G1 13 k = lN (Ln C e m k)) → ∃ G2, Rn sc (mtk 34) 26 [some (.ref 6), some (.ref c), some (.int x2), some (.int x3), some (.int (nI f1)), some (.int (nI d)), o6, o7] [] (wIJ (nh h) F G1) (some (.long (lN (Ln C e n f1)))) (wIJ (nh h) F G2) ∧ ∀ a, a ≠ 13 → a ≠ 14 → G2 a = G1 a := by
  intro d
  have b := K.b
  have hb : ∀ k, k ≤ qL C → qB C k ≤ 9 ∧ (k = 0 → qB C k = 0) := by
    obtain ⟨k1, k2, k3, k4', k5, k6, k7, k8, k9, k10, k11, k12, k13, k14, k15, k16⟩ := K
    exact fun k hk => ⟨(k16 k hk).1, (k16 k hk).2.1⟩
  induction d with
  | zero =>
    intro m G1 o6 o7 hm g2
    obtain rfl : m = n := by omega
    refine ⟨G1, ?_, fun _ _ _ => rfl⟩
    refine bk_sound (cuts := []) 20 _ _ _ _ ?_
    refine br_t (by decide) ?_
    refine And.intro rfl ?_
    refine And.intro (⟨rfl, inB_nI (n := 216) (by omega) (by decide)⟩) ?_
    rw [nI_clamp (by omega)]
    exact ⟨trivial, congrArg (fun v => some (Value.long v)) (g2 f1 (Nat.le_refl _)), rfl⟩
  | succ d ih =>
    intro m G1 o6 o7 hm g2
    have lb := Ln_le (C := C) (e := e) (fun s hs => K.v12 hs (by decide)) (fun k hk => (hb k hk).1) m
    have nx : ∀ k, k ≤ f1 → (if k = 0 then lzN C e (Ln C e m) (qS C) 0 else lzN C e (Ln C e m) (qS C) k + 3000000 * qB C k) = Ln C e (m + 1) k := fun k hk => by
      show _ = (if k ≤ qL C then 3000000 * qB C k else 0) + lzN C e (Ln C e m) (qS C) k
      rw [if_pos (by omega : k ≤ qL C)]
      by_cases q : k = 0
      · subst q
        rw [if_pos rfl, (hb 0 (by omega)).2 rfl]
        omega
      · rw [if_neg q]
        omega
    have fc := K.f hF
    obtain ⟨G2, o7', t1, t2, t3⟩ := nv_s (sc := sc) (h := h) (F := F) (x2 := x2) (x3 := x3) (x5 := nI (d + 1)) (f1 := f1) (e := e) (B := 27000000 * m) (f := Ln C e m) K hF he e3 (by omega) (by omega) lb (qS C) G1 o7 (Nat.le_refl _) (fun k hk => by rw [Nat.sub_self]; exact g2 k hk)
    obtain ⟨G3, y1, y2, y3⟩ := nv_b (sc := sc) (h := h) (F := F) (x2 := x2) (x3 := x3) (x5 := nI (d + 1)) (f1 := f1) (f := lzN C e (Ln C e m) (qS C)) (o7 := o7') K hF hf1 f1 0 G2 (by omega) (fun k hk => by rw [if_pos (by omega)]; exact t2 k hk)
    obtain ⟨G4, z1, z2⟩ := ih (m + 1) G3 (some (.int (nI (f1 + 1)))) o7' (by omega) (fun k hk => by rw [y2 k hk, nx k hk])
    refine ⟨G4, ?_, fun a h1 h2 => ((z2 a h1 h2).trans (y1 a h1 h2)).trans (t1 a h1 h2)⟩
    rw [show nI d = nI (d + 1) + Int32.ofInt (-1) by rw [← i_dec, nI_pred]] at z1
    have A := y3 (some (.long (lN (Ln C e n f1)))) (wIJ (nh h) F G4) (by
      refine bk_sound (cuts := [26]) 20 _ _ _ _ ?_
      exact z1)
    have B := t3 (some (.long (lN (Ln C e n f1)))) (wIJ (nh h) F G4) (by
      refine bk_sound (cuts := [99]) 20 _ _ _ _ ?_
      exact A)
    refine bk_sound (cuts := [40]) 20 _ _ _ _ ?_
    refine br_f (show ¬ nI (d + 1) < 1 from nI_nlt (a := d + 1) (b := 1) (by omega) (by omega)) ?_
    refine And.intro (show kin 0 (zK (nh h) c) = true by rw [K.k]; rfl) ?_
    rw [show zI (wIJ (nh h) F G1) c 1 = nI (qS C) from fc.2.1]
    exact B
theorem c_neverMoved (hs : Shp h) (K : CK h C c nb br) (hn : n ≤ 12) (he : e ≤ 1) : ∃ F G, Cc sc 34 [.ref 6, .ref c, .int (nI n), .int (nI e)] h (some (.long (lN (Ln C e n (mnF (qL C) (fun s => qV C s 0) (qS C)))))) (wIJ (upA h 6 0 0) F G) ∧ lFr h F G := by
  have b := K.b
  have hs1 := shp_6 hs 0
  have K1 := CK_6 K 0
  have hi : Hi (upA h 6 0 0) (u2 (zI h) 6 3 (nI e)) := fun a ha => funext fun j => by rw [u2_eq, if_neg (by omega)]; rfl
  have e3 : u2 (zI h) 6 3 (nI e) 6 3 = nI e := by rw [u2_eq, if_pos ⟨rfl, rfl⟩]
  have fl := mnF_le (qL C) (fun s => qV C s 0) (qS C)
  obtain ⟨G2, R, g2⟩ := nv_d (sc := sc) (h := upA h 6 0 0) (F := u2 (zI h) 6 3 (nI e)) (x2 := nI n) (x3 := nI e) (f1 := mnF (qL C) (fun s => qV C s 0) (qS C)) K1 hi he e3 fl hn n 0 (va_up (zJ h) 13 (fun j => if j < 216 then (0 : Int64) else zJ h 13 j)) none none (by omega) (fun k hk => by rw [va_up_self, if_pos (by omega)]; rfl)
  refine ⟨u2 (zI h) 6 3 (nI e), G2, ?_, fun a h1 _ _ _ _ => funext fun j => by rw [u2_eq, if_neg (fun z => h1 z.1)], fun a h1 h2 h3 h4 => by rw [g2 a h3 h4, va_up_ne _ _ h3]⟩
  have cc := c_canRunC (sc := sc) (h := upA h 6 0 0) (F := u2 (zI h) 6 3 (nI e)) (G := zJ h) K1 hi
  rw [nh_eq hs1] at R cc
  have k6 : zK h 6 = 3 := (hs.1 6 (by decide)).1
  have kc : zK h c = 0 := by
    obtain ⟨k1, k2, k3, k4, -⟩ := K
    exact k4
  have a13 : zA (upA h 6 0 0) 6 12 = 13 := hs1.2 (6, 12, 13) (by decide)
  have k13 : zK h 13 = 13 ∧ zN h 13 = 216 := hs.1 13 (by decide)
  refine cc_cut [26] 40 rfl rfl ?_
  refine And.intro ⟨rfl, k6⟩ (And.intro rfl (Exists.intro _ (Exists.intro _ (And.intro (c_forget k6) ?_))))
  refine And.intro (show kin 3 (zK h 6) = true by rw [k6]; rfl) ?_
  refine And.intro ⟨rfl, show zK h c = 0 from kc⟩ (And.intro rfl (Exists.intro _ (Exists.intro _ (And.intro cc ?_))))
  refine And.intro (show kin 3 (zK h 6) = true by rw [k6]; rfl) ?_
  rw [show zA (wIJ (upA h 6 0 0) (u2 (zI h) 6 3 (nI e)) (zJ h)) 6 12 = 13 from a13]
  have cfl := c_fillJ (sc := sc) (h := wIJ (upA h 6 0 0) (u2 (zI h) 6 3 (nI e)) (zJ h)) (a := 13) (v := 0) k13.1 (show zN h 13 < 2 ^ 31 by rw [k13.2]; decide)
  refine And.intro rfl (And.intro rfl (Exists.intro _ (Exists.intro _ (And.intro (cfl) ?_))))
  refine rn_eq (show wIJ (upA h 6 0 0) (u2 (zI h) 6 3 (nI e)) (va_up (zJ h) 13 (fun j => if j < zN h 13 then (0 : Int64) else zJ h 13 j)) = _ from ?_) R
  rw [k13.2]
end
