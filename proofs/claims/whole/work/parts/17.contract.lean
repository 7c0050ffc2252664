/-! Calls: a callee's run gives the caller's step. -/
def arys : List Nat := [1, 2, 2, 2, 2, 3, 4, 1, 4, 1, 2, 2, 2, 4, 1, 2, 2, 1, 1, 6, 1, 1, 3, 1, 3, 1, 2, 2, 3, 3, 3, 4, 4, 3, 4, 3, 2, 2, 4, 1, 2, 1, 2, 2, 2, 1, 1, 3, 3, 3, 3, 1, 4, 1, 1, 2, 1, 1, 1, 2, 2, 4, 1, 1, 2, 1, 3, 1, 2, 2, 2, 2, 2, 2, 2, 1, 2, 3, 1, 4, 4, 3, 3, 3, 1, 2, 3, 1, 1, 1, 1, 5, 3, 4, 5, 5, 4, 4, 5, 5, 6, 4, 3, 3, 3, 5, 3, 3, 2, 3, 1, 2, 2, 5, 4, 2, 4, 4, 6, 2, 2, 3, 1, 1, 2, 2, 3, 2, 1, 1, 1, 1, 1, 2, 3, 5, 5, 3, 1, 3, 0, 2, 2, 2, 2, 2, 5, 2, 3, 4, 4, 6, 8, 3, 3, 3, 4, 3, 5, 4, 2, 3, 4, 5, 2, 3, 3, 1, 3, 7, 4, 5, 3, 5, 1, 5, 4, 5, 4, 5, 5, 5, 6, 2, 1, 4, 3, 1, 3, 3, 3, 5, 3, 3, 2, 3, 2, 1, 2, 3, 2, 1, 1, 2, 2, 5, 1, 4, 2, 3, 4, 4, 3, 6, 2, 2, 2, 3, 1, 1, 2]
def ary (k : Nat) : Nat := arys.getD k 0
theorem ary_ok : MLs.all (fun r => decide (r.2.2.1 = 2 → r.2.2.2.1 = ary r.2.2.2.2.1)) = true := by decide +kernel
/-- method k, with these arguments, runs to r and the heap is h' then -/
def Cc (sc : Nat × (Nat → Int32)) (k : Nat) (as : List Value) (h : Hp) (r : Option Value) (h' : Hp) : Prop := k < 221 ∧ cats as ≤ mL (mro k) ∧ Rn sc (mtk k) 0 (enL (mL (mro k)) as) [] h r h'
theorem enL_at {b : Nat} {cs : Nat → Nat} : ∀ (as : List Value) (n i0 i : Nat) (v : Value), (enL n as)[i]? = some (some v) → (i0 + i, cnv b cs v) ∈ lv_args i0 (as.map (cnv b cs)) := by
  intro as
  induction as with
  | nil =>
    intro n i0 i v h
    unfold enL at h
    rw [List.getElem?_replicate] at h
    split at h <;> cases h
  | cons a as ih =>
    intro n i0 i v h
    have two : ∀ (n1 : Nat), (enL n (a :: as) = some a :: none :: enL n1 as) → cat a = 2 → (i0 + i, cnv b cs v) ∈ lv_args i0 ((a :: as).map (cnv b cs)) := by
      intro n1 he hc
      rw [he] at h
      show _ ∈ (i0, cnv b cs a) :: lv_args (if (cnv b cs a).category = 2 then i0 + 2 else i0 + 1) (as.map (cnv b cs))
      rw [cnv_cat, if_pos hc]
      match i, h with
      | 0, h =>
        simp at h
        subst h
        exact List.mem_cons_self
      | 1, h => simp at h
      | i + 2, h =>
        have h2 : (enL n1 as)[i]? = some (some v) := by simpa using h
        have := ih n1 (i0 + 2) i v h2
        rw [show i0 + (i + 2) = i0 + 2 + i by omega]
        exact List.mem_cons_of_mem _ this
    have one : ∀ (n1 : Nat), (enL n (a :: as) = some a :: enL n1 as) → cat a = 1 → (i0 + i, cnv b cs v) ∈ lv_args i0 ((a :: as).map (cnv b cs)) := by
      intro n1 he hc
      rw [he] at h
      show _ ∈ (i0, cnv b cs a) :: lv_args (if (cnv b cs a).category = 2 then i0 + 2 else i0 + 1) (as.map (cnv b cs))
      rw [cnv_cat, if_neg (by omega)]
      match i, h with
      | 0, h =>
        simp at h
        subst h
        exact List.mem_cons_self
      | i + 1, h =>
        have h2 : (enL n1 as)[i]? = some (some v) := by simpa using h
        have := ih n1 (i0 + 1) i v h2
        rw [show i0 + (i + 1) = i0 + 1 + i by omega]
        exact List.mem_cons_of_mem _ this
    cases a with
    | long x => exact two (n - 2) (by rw [enL]) rfl
    | double x => exact two (n - 2) (by rw [enL]) rfl
    | int x => exact one (n - 1) (by simp [enL]) rfl
    | float x => exact one (n - 1) (by simp [enL]) rfl
    | null => exact one (n - 1) (by simp [enL]) rfl
    | ref x => exact one (n - 1) (by simp [enL]) rfl
    | retAddr x => exact one (n - 1) (by simp [enL]) rfl
theorem sl_len {b : Nat} {cs : Nat → Nat} (as : List Value) : (lg_sl (as.map (cnv b cs))).length = cats as := by
  induction as with
  | nil => rfl
  | cons a as ih =>
    have e1 : lg_sl ((a :: as).map (cnv b cs)) = (if (cnv b cs a).category = 2 then [Slot.val (cnv b cs a), .second] else [Slot.val (cnv b cs a)]) ++ lg_sl (as.map (cnv b cs)) := by
      unfold lg_sl
      simp
    have e2 : cats (a :: as) = cat a + cats as := by
      unfold cats
      simp
    rw [e1, e2, List.length_append, ih, cnv_cat]
    congr 1
    have : cat a = 1 ∨ cat a = 2 := by cases a <;> first | exact Or.inl rfl | exact Or.inr rfl
    rcases this with q | q
    · rw [if_neg (by omega), q]
      rfl
    · rw [if_pos q, q]
      rfl
theorem lvh_entry {b : Nat} {cs : Nat → Nat} {as : List Value} {n : Nat} (h : cats as ≤ n) : lv_has ((lg_sl (as.map (cnv b cs)) ++ List.replicate (n - (lg_sl (as.map (cnv b cs))).length) Slot.unset).toArray) n (lvl b cs (enL n as)) := by
  refine lvh_mono (lv_entry (as.map (cnv b cs)) (n := n) (by rw [sl_len]; exact h)) ?_
  rintro ⟨i, w⟩ hq
  obtain ⟨v, h1, rfl⟩ := mem_lvl.mp hq
  have := enL_at (b := b) (cs := cs) as n 0 i v h1
  rw [Nat.zero_add] at this
  exact this
def wsk (k : Nat) : List Cond := Cond.code (mY (mro k)) (mB (mro k)) (mL (mro k)) (mR (mro k)) :: gwl
def Pk (sc : Nat × (Nat → Int32)) (D : va_G) (b : Nat) (cy : Nat → ClassId) (cs : Nat → Nat) (as : List Value) (h : Hp) : Array Value → State → Prop := va_Pc (as.map (cnv b cs)) (fun U => HW D b cy h U.heap ∧ va_K D vwCl (tys cy) U ∧ NG U ∧ STA sc b cs U U.heap ∧ U.heap.size = b + zc h)
def Qk (D : va_G) (b : Nat) (cy : Nat → ClassId) (cs : Nat → Nat) (r : Option Value) (h' : Hp) : Array Value → State → Outcome → State → Prop := fun _ st oc t => oc = .returned (r.map (cnv b cs)) ∧ HW D b cy h' t.heap ∧ va_F (Ab b) st t
theorem met_of {sc : Nat × (Nat → Int32)} {k : Nat} {as : List Value} {h h' : Hp} {r : Option Value} (hc : Cc sc k as h r h') (l : Launch) (D : va_G) (b : Nat) (cy : Nat → ClassId) (cs : Nat → Nat) :
    Met l (mY (mro k)) (wsk k) ({ frames := mF (mro k), cells := zc h' - zc h, slots := zs h' - zs h, locals := mW (mro k) }) (Pk sc D b cy cs as h) (Qk D b cy cs r h') (zc h' - zc h) (zs h' - zs h) (Ab b) := by
  obtain ⟨hk, hcat, hz, hs, -, hR⟩ := hc
  obtain ⟨hM, hck⟩ := mtk_ok hk
  have hst : stok (mtk k) = true := List.all_eq_true.mp stok_all _ (mtk_in hk)
  obtain ⟨m1, m2, m3, m4, m5, m6, m7⟩ := hM
  refine Met.ofW (cc := mB (mro k)) (maxL := mL (mro k)) (ret := mR (mro k)) m4 rfl ?_
  intro p e s m args below meth c s₁ B hml hv
  obtain ⟨rfl, hW, hK, hNG, hsta, hsz⟩ := hv
  have hts : ∀ w ∈ gwl, w.before ((as.map (cnv b cs)).toArray) s = true := fun w hw => atoms_spec (ws := wsk k) B.pre w (List.mem_cons_of_mem _ hw)
  have C : Cx sc p ({ frames := mF (mro k), cells := zc h' - zc h, slots := zs h' - zs h, locals := mW (mro k) } : Room) s m ((as.map (cnv b cs)).toArray) meth c (mtk k) D b cy cs (zc h) := ⟨B.exec, B.bytes, B.returns, hml, by rw [m7]; exact findClass_of_methodNamed B.named, hts, B.notSynchronized, hNG, hK, fun q => by rw [(name_of_methodNamed B.named B.method).1]; exact q, Nat.le_refl _, Nat.le_refl _, hsz, hsta, hck, hst⟩
  have G := hR p l e _ s m _ below meth c D b cy cs (zc h) (zs h) (MQ below (Qk D b cy cs r h') ((as.map (cnv b cs)).toArray) s (zc h' - zc h) (zs h' - zs h) (Ab b)) C (by show zc h' ≤ zc h + (zc h' - zc h); omega) (by show zs h' ≤ zs h + (zs h' - zs h); omega) (Nat.le_refl _) (by
    intro pc' lsA H1 locs1 mc ms hret hmc hms hw1 hS1
    obtain rfl : mc = zc h' - zc h := by omega
    obtain rfl : ms = zs h' - zs h := by omega
    have hlocks := B.notSynchronized
    have fin : ∀ (t : State), t.heap = H1 → s.WarmedH t.vm → Qk D b cy cs r h' ((as.map (cnv b cs)).toArray) s (.returned (r.map (cnv b cs))) t := fun t ht _ => ⟨rfl, by rw [ht]; exact hw1, hS1.F ht⟩
    cases r with
    | none =>
      obtain ⟨d1, d2⟩ := hret
      exact W.vret B.exec B.bytes (by rw [B.returns]; exact d2) fin hS1.2.2 d1
    | some v =>
      cases v with
      | int x =>
        obtain ⟨d1, d2 | ⟨d2, d3⟩⟩ := hret
        · exact W.iret B.exec B.bytes (by rw [B.returns]; exact d2) fin hS1.2.2 d1
        · exact W.zret B.exec B.bytes (by rw [B.returns]; exact d2) (b01 d3).1 fin hS1.2.2 d1
      | long x =>
        obtain ⟨d1, d2⟩ := hret
        exact W.lret B.exec B.bytes (by rw [B.returns]; exact d2) fin hS1.2.2 d1
      | ref x =>
        obtain ⟨d1, t, d2, d3⟩ := hret
        refine W.aret B.exec B.bytes (by rw [B.returns]; exact d2) ?_ ?_ fin hS1.2.2 d1
        · cases t with
          | object n => exact Or.inl ⟨n, rfl⟩
          | array n => exact Or.inr ⟨n, rfl⟩
          | _ => cases d3
        · cases x with
          | zero => exact Or.inl rfl
          | succ x => exact Or.inr ⟨b + x, rfl⟩
      | _ => exact absurd hret id)
  rw [lg_entry_eq]
  exact G _ s.heap [] 0 0 rfl rfl hW va_S.rf (lvh_entry hcat)
theorem gwl_in {l0 : List Cond} (hl : ∀ w ∈ l0, w ∈ gwl) : GoodIn gwl l0 := fun w hw => ⟨hl w hw, good_of_word (List.mem_filter.mp (hl w hw)).2⟩
theorem wsk_in {k : Nat} (hk : k < 221) : ∀ w ∈ wsk k, w ∈ gwl := fun w hw => by
  rcases List.mem_cons.mp hw with rfl | h
  · exact (mtk_ok hk).1.1
  · exact h
section
variable {sc : Nat × (Nat → Int32)} {p : Program} {l : Launch} {e : Env} {R : Room} {s : State} {m : MethodId} {args : Array Value} {below : List Frame} {meth : Method} {c : Code} {mt : Mt} {D : va_G} {b : Nat} {cy : Nat → ClassId} {cs : Nat → Nat} {z0 y0 : Nat} {Q : State → Prop} {pc : Nat} {ls : Ls} {st r : List Value} {h : Hp}
theorem Pk_blind {as : List Value} {h1 : Hp} : FrameBlind (Pk sc D b cy cs as h1) := fun a U g mk q => by
  obtain ⟨q0, q1, q2, q3, q4, q5⟩ := q
  exact ⟨q0, q1, va_K.moved (u := U) (U := U.calling g mk a) (Vm.Alike.refl U.vm) q2, NG.warm (s := U) (U := U.calling g mk a) (State.WarmedH.refl U) q3, STA.on (s := U) (U := U.calling g mk a) (locs := []) (by omega) va_S.rf (Vm.Alike.refl U.vm) q4, q5⟩
/-- the callee's start, out of the caller's -/
theorem Pk_pre (C : Cx sc p R s m args meth c mt D b cy cs z0) {H : Heap} {locs : List Loc} {cells : Nat} (hz : z0 + cells = zc h) (hw : HW D b cy h H) (hS : va_S (Ab b) s.heap H locs) (hsize : H.size ≤ s.heap.size + cells) (as : List Value) : ∀ U : State, U.heap = H → s.WarmedH U.vm → Pk sc D b cy cs as h ((as.map (cnv b cs)).toArray) U := by
  intro U hU hW
  obtain ⟨hx, hb, hr, hml, hown, hts, hlocks, hNG, hK, hni, hfr, hlo, hsz, hsta, -⟩ := C
  have hlow : b + zc h ≤ H.size := by
    cases hn : zc h with
    | zero => have := hS.1; omega
    | succ n =>
      have := (hw.1 n _ (wl_at (by omega))).lt
      show b + (n + 1) ≤ H.size
      have e : (b + n, ceE b cy h (n + 1)).1 = b + n := rfl
      omega
  refine ⟨rfl, by rw [hU]; exact hw, va_K.moved hW.alike hK, NG.warm hW hNG, ?_, ?_⟩
  · rw [hU]
    exact STA.on (by omega) hS hW.alike hsta
  · rw [hU]
    omega
/-- behind a call -/
theorem call_go (C : Cx sc p R s m args meth c mt D b cy cs z0) {r1 : Option Value} {h1 : Hp} {H : Heap} {locs : List Loc} {cells slots : Nat} {lsA : Array Slot} {stk : List Value} {a : Array Value} (h2 : zc h ≤ zc h1) (h3 : zs h ≤ zs h1) (hz : z0 + cells = zc h) (hy : y0 + slots = zs h) (hS : va_S (Ab b) s.heap H locs) (hl : lv_has lsA (mL mt.1) (lvl b cs ls))
    (hr : va_Run p l e R s m args below meth c H locs cells slots (zc h1 - zc h) (zs h1 - zs h) (F0 m pc lsA stk) (r.map (cnv b cs)) (Qk D b cy cs r1 h1 a) (Ab b))
    (k : Go p l e R s m args below meth c mt D b cy cs z0 y0 Q (pc + 3) ls (r1.toList ++ r) h1) : W p l e R s m args below meth c H locs cells slots Q (F0 m pc lsA stk) := by
  intro T hT X
  obtain ⟨v, st₀, t, T', L, h0, X', hL, e1, e2, ⟨hv, hw', hF⟩, stp⟩ := hr T hT X
  have hv := Outcome.returned.inj hv
  subst hv
  have hS1 : va_S (Ab b) s.heap T'.heap (locs ++ L) := by
    obtain ⟨f1, f2⟩ := hF
    rw [h0] at f1 f2
    refine ⟨by rw [e1]; exact Nat.le_trans hS.1 f1, fun q g1 g2 => by rw [e1, f2 q (Nat.lt_of_lt_of_le g1 hS.1) g2]; exact hS.2.1 q g1 g2, fun q hq => ?_⟩
    rcases List.mem_append.mp hq with z | z
    · exact hS.2.2 q z
    · exact hL q z
  obtain ⟨t2, a1, b1⟩ := k lsA T'.heap (locs ++ L) (cells + (zc h1 - zc h)) (slots + (zs h1 - zs h)) (by omega) (by omega) (by rw [e1]; exact hw') hS1 hl T' rfl X'
  refine ⟨t2, stp t2 ?_, b1⟩
  have es : (r1.toList ++ r).map (cnv b cs) = (r1.map (cnv b cs)).toList ++ r.map (cnv b cs) := by
    cases r1 <;> simp
  rw [es] at a1
  exact a1
end
