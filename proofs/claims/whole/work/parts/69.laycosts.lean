/-! The model's table of costs, as it is laid. -/
theorem or_nI (a b : Nat) : nI a ||| nI b = nI (a ||| b) := by
  apply Int32.toBitVec_inj.1
  show BitVec.ofNat 32 a ||| BitVec.ofNat 32 b = BitVec.ofNat 32 (a ||| b)
  apply BitVec.eq_of_getLsbD_eq
  intro i hi
  simp [hi]
theorem shl_1 : ∀ p : Fin 13, (1 : Int32) <<< (nI p.val &&& 31) = nI (2 ^ p.val) := by decide +kernel
theorem tb_dec (u k : Nat) : u.testBit k = decide (u / 2 ^ k % 2 = 1) := Nat.testBit_eq_decide_div_mod_eq
def Dx (h : Hp) (M s x u : Nat) : Nat := dpc M (cM h s) (wW s - x) x u
theorem Dx_W (h : Hp) (M s u : Nat) : Dx h M s (wW s) u = 0 := by
  unfold Dx
  rw [Nat.sub_self]
  rfl
def fX (h : Hp) (M s x u p : Nat) : Option Nat := opA (cM h s x p) u p (Dx h M s (x + 1) (u ||| 2 ^ p))
theorem Dx_s {h : Hp} {M s x u : Nat} (hx : x < wW s) : Dx h M s x u = dpL (fX h M s x u) M := by
  have e : wW s - x = wW s - (x + 1) + 1 := by omega
  unfold Dx
  rw [e]
  rfl
theorem Dx_far (h : Hp) (M s x u : Nat) : Dx h M s x u ≤ 1000000 := dpc_far _ _ _
def lcF (h : Hp) (M s : Nat) (F : Nat → Nat → Int32) (x u : Nat) : Nat → Nat → Int32 := fun a j => if a = 59 ∧ ((x < j / 4096 ∧ j / 4096 ≤ wW s ∧ j % 4096 < 2 ^ M) ∨ (j / 4096 = x ∧ j % 4096 < u)) then nI (Dx h M s (j / 4096) (j % 4096)) else F a j
theorem lcF_o {h : Hp} {M s x u a j : Nat} {F : Nat → Nat → Int32} (ha : a ≠ 59) : lcF h M s F x u a j = F a j := if_neg (fun z => ha z.1)
theorem lcF_s {h : Hp} {M s x u : Nat} {F : Nat → Nat → Int32} (hu : u < 4096) : u2 (lcF h M s F x u) 59 (4096 * x + u) (nI (Dx h M s x u)) = lcF h M s F x (u + 1) := by
  funext a j
  rw [u2_eq]
  unfold lcF
  by_cases e : a = 59 ∧ j = 4096 * x + u
  · rw [if_pos e, if_pos ⟨e.1, by omega⟩, e.2, show (4096 * x + u) / 4096 = x by omega, show (4096 * x + u) % 4096 = u by omega]
  · rw [if_neg e]
    by_cases q : a = 59 ∧ ((x < j / 4096 ∧ j / 4096 ≤ wW s ∧ j % 4096 < 2 ^ M) ∨ (j / 4096 = x ∧ j % 4096 < u))
    · rw [if_pos q, if_pos ⟨q.1, by omega⟩]
    · rw [if_neg q, if_neg (by omega)]
theorem lcF_r {h : Hp} {M s x : Nat} {F : Nat → Nat → Int32} (hx : x + 1 ≤ wW s) : lcF h M s F (x + 1) (2 ^ M) = lcF h M s F x 0 := by
  funext a j
  unfold lcF
  by_cases q : a = 59 ∧ ((x < j / 4096 ∧ j / 4096 ≤ wW s ∧ j % 4096 < 2 ^ M) ∨ (j / 4096 = x ∧ j % 4096 < 0))
  · rw [if_pos q, if_pos ⟨q.1, by omega⟩]
  · rw [if_neg q, if_neg (by omega)]
theorem wIJ_shp {h : Hp} (hs : Shp h) (F : Nat → Nat → Int32) (G : Nat → Nat → Int64) : Shp (wIJ (nh h) F G) := shp_nh hs
section
variable {sc : Nat × (Nat → Int32)} {h : Hp}
theorem c_costOf {g : Hp} (hs : Shp g) {p x kd st hr : Nat} {gd hd : Bool} {pl : Int32} (hp : p < 12) (hx : x < 12) (hkd : kd ≤ 2) (h0 : zI g 51 p = nI kd) (h1 : zI g 52 p = nI st) (h2 : zI g 53 p = nI hr) (h3 : zI g 54 p = bI gd) (h4 : zI g 55 p = bI hd) (h5 : zI g 56 p = pl) (hst : st ≤ 2) (hhr : hr ≤ 9) : Cc sc 199 [.ref 39, .int (nI p), .int (nI x)] g (some (.int (oI (cs1 1000 kd st hr (gd && !hd) pl x)))) g := by
  have ip : inB (nI p) 12 = true := inB_nI hp (by decide)
  have ep : (nI p).toNatClampNeg = p := nI_clamp (by omega)
  have em : nI x - nI x / 3 * 3 = nI (x % 3) := pk_rem (d := 3) (by omega) (by decide) (by decide)
  cases gd with
  | false =>
    rw [show cs1 1000 kd st hr (false && !hd) pl x = none from rfl]
    refine cc_nh (F := fun h => h) hs (cc_of 80 rfl rfl ?_)
    refine And.intro rfl ?_
    refine And.intro (⟨rfl, ip⟩) ?_
    refine br_t (show zI g 54 (nI p).toNatClampNeg = 0 by rw [ep, h3]; rfl) ?_
    exact ⟨Or.inl rfl, rfl, rfl⟩
  | true =>
    cases hd with
    | true =>
      rw [show cs1 1000 kd st hr (true && !true) pl x = none from rfl]
      refine cc_nh (F := fun h => h) hs (cc_of 80 rfl rfl ?_)
      refine And.intro rfl ?_
      refine And.intro (⟨rfl, ip⟩) ?_
      refine br_f (show ¬ zI g 54 (nI p).toNatClampNeg = 0 by rw [ep, h3]; decide) ?_
      refine And.intro rfl ?_
      refine And.intro (⟨rfl, ip⟩) ?_
      refine br_t (show ¬ zI g 55 (nI p).toNatClampNeg = 0 by rw [ep, h4]; decide) ?_
      exact ⟨Or.inl rfl, rfl, rfl⟩
    | false =>
      have hc := c_hoursFor_m (sc := sc) (h := nh g) (shp_nh hs) hp hkd h0 h1 h2 hst hhr (by omega : x % 3 ≤ 2)
      rw [hF_hN] at hc
      cases hh : hN kd st hr (x % 3) with
      | none =>
        rw [show cs1 1000 kd st hr (true && !false) pl x = none by unfold cs1; rw [hh]; rfl]
        rw [hh] at hc
        refine cc_nh (F := fun h => h) hs (cc_of 80 rfl rfl ?_)
        refine And.intro rfl ?_
        refine And.intro (⟨rfl, ip⟩) ?_
        refine br_f (show ¬ zI g 54 (nI p).toNatClampNeg = 0 by rw [ep, h3]; decide) ?_
        refine And.intro rfl ?_
        refine And.intro (⟨rfl, ip⟩) ?_
        refine br_f (show ¬ ¬ zI g 55 (nI p).toNatClampNeg = 0 from fun z => z (by rw [ep, h4]; rfl)) ?_
        refine And.intro (by decide) ?_
        rw [em]
        refine And.intro ⟨rfl, rfl⟩ (And.intro rfl (Exists.intro _ (Exists.intro _ (And.intro (hc) ?_))))
        refine br_f (show ¬ (0 : Int32) ≤ -9 by decide) ?_
        exact ⟨Or.inl rfl, rfl, rfl⟩
      | some n =>
        have hn := hN_le hh
        rw [hh] at hc
        have n0 : (0 : Int32) ≤ nI n := by
          rw [i_le, nI_toInt (by omega)]
          simp only [Int32.reduceToInt]
          omega
        rw [show cs1 1000 kd st hr (true && !false) pl x = some (if pl = nI x then 0 else 1000 + n) by unfold cs1; rw [hh]; rfl]
        by_cases q : pl = nI x
        · rw [if_pos q]
          refine cc_nh (F := fun h => h) hs (cc_of 80 rfl rfl ?_)
          refine And.intro rfl ?_
          refine And.intro (⟨rfl, ip⟩) ?_
          refine br_f (show ¬ zI g 54 (nI p).toNatClampNeg = 0 by rw [ep, h3]; decide) ?_
          refine And.intro rfl ?_
          refine And.intro (⟨rfl, ip⟩) ?_
          refine br_f (show ¬ ¬ zI g 55 (nI p).toNatClampNeg = 0 from fun z => z (by rw [ep, h4]; rfl)) ?_
          refine And.intro (by decide) ?_
          rw [em]
          refine And.intro ⟨rfl, rfl⟩ (And.intro rfl (Exists.intro _ (Exists.intro _ (And.intro (hc) ?_))))
          refine br_t n0 ?_
          refine And.intro rfl ?_
          refine And.intro (⟨rfl, ip⟩) ?_
          refine br_f (show ¬ ¬ zI g 56 (nI p).toNatClampNeg = nI x from fun z => z (by rw [ep, h5, q])) ?_
          exact ⟨Or.inl rfl, rfl, rfl⟩
        · rw [if_neg q]
          have e1 : oI (some (1000 + n)) = 1000 + nI n := by
            rw [show (1000 : Int32) = nI 1000 from rfl, nI_add]
            rfl
          rw [e1]
          refine cc_nh (F := fun h => h) hs (cc_of 80 rfl rfl ?_)
          refine And.intro rfl ?_
          refine And.intro (⟨rfl, ip⟩) ?_
          refine br_f (show ¬ zI g 54 (nI p).toNatClampNeg = 0 by rw [ep, h3]; decide) ?_
          refine And.intro rfl ?_
          refine And.intro (⟨rfl, ip⟩) ?_
          refine br_f (show ¬ ¬ zI g 55 (nI p).toNatClampNeg = 0 from fun z => z (by rw [ep, h4]; rfl)) ?_
          refine And.intro (by decide) ?_
          rw [em]
          refine And.intro ⟨rfl, rfl⟩ (And.intro rfl (Exists.intro _ (Exists.intro _ (And.intro (hc) ?_))))
          refine br_t n0 ?_
          refine And.intro rfl ?_
          refine And.intro (⟨rfl, ip⟩) ?_
          refine br_t (show ¬ zI g 56 (nI p).toNatClampNeg = nI x by rw [ep, h5]; exact q) ?_
          refine And.intro (by decide) ?_
          rw [em]
          refine And.intro ⟨rfl, rfl⟩ (And.intro rfl (Exists.intro _ (Exists.intro _ (And.intro (hc) ?_))))
          exact ⟨Or.inl rfl, rfl, rfl⟩
end
