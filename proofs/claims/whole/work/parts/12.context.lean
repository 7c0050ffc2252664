/-! What a method's walk stands on, and what 'it runs to' means. -/
def stok (q : Mt) : Bool := q.2.all (fun r => match r.2.2.1 with
  | .istore_n j => decide (j.val < mL q.1)
  | .istore j => decide (j < mL q.1)
  | .astore_n j => decide (j.val < mL q.1)
  | .astore j => decide (j < mL q.1)
  | .iinc j _ => decide (j < mL q.1)
  | .lstore_n j => decide (j.val + 1 < mL q.1)
  | .lstore j => decide (j + 1 < mL q.1)
  | .lreturn => (match mR q.1 with | some .long => true | _ => false)
  | .areturn => (match mR q.1 with | some t => tyRef t | none => false)
  | .return_ => (match mR q.1 with | some _ => false | none => true)
  | .putfield ix => pok (mC q.1) ix
  | _ => true)
theorem stok_all : Mts.all stok = true := by decide +kernel
theorem stok_law : stok lawM = true := by decide +kernel
def lvl (b : Nat) (cs : Nat → Nat) (ls : Ls) : List (Nat × Value) := ls.zipIdx.filterMap (fun q => q.1.map (fun v => (q.2, cnv b cs v)))
theorem mem_lvl {b : Nat} {cs : Nat → Nat} {ls : Ls} {i : Nat} {w : Value} : (i, w) ∈ lvl b cs ls ↔ ∃ v, ls[i]? = some (some v) ∧ w = cnv b cs v := by
  unfold lvl
  rw [List.mem_filterMap]
  constructor
  · rintro ⟨⟨o, j⟩, hm, hq⟩
    have h1 := List.mk_mem_zipIdx_iff_getElem?.mp hm
    cases o with
    | none => cases hq
    | some v =>
      simp only [Option.map_some, Option.some.injEq, Prod.mk.injEq] at hq
      obtain ⟨rfl, rfl⟩ := hq
      exact ⟨v, h1, rfl⟩
  · rintro ⟨v, h1, rfl⟩
    exact ⟨(some v, i), List.mk_mem_zipIdx_iff_getElem?.mpr h1, rfl⟩
theorem lvh_at {b : Nat} {cs : Nat → Nat} {ls : Ls} {lsA : Array Slot} {n i : Nat} {v : Value} (h : lv_has lsA n (lvl b cs ls)) (hv : ls[i]? = some (some v)) : lsA[i]? = some (.val (cnv b cs v)) := h.2.2 (i, cnv b cs v) (mem_lvl.mpr ⟨v, hv, rfl⟩)
theorem lvh_mono {lsA : Array Slot} {n : Nat} {l l' : List (Nat × Value)} (h : lv_has lsA n l) (hm : ∀ q ∈ l', q ∈ l) : lv_has lsA n l' := ⟨h.1, h.2.1, fun q hq => h.2.2 q (hm q hq)⟩
theorem clr_at {ls : Ls} {i j : Nat} {v : Value} (h : (clr ls i)[j]? = some (some v)) : ls[j]? = some (some v) ∧ ¬ (j + 1 = i ∧ cat v = 2) := by
  unfold clr at h
  cases i with
  | zero => exact ⟨h, fun q => absurd q.1 (by omega)⟩
  | succ k =>
    dsimp only at h
    split at h
    · by_cases e : j = k
      · subst e
        rw [List.getElem?_set] at h
        simp at h
      · rw [List.getElem?_set_ne (Ne.symm e)] at h
        exact ⟨h, fun q => e (by omega)⟩
    · by_cases e : j = k
      · subst e
        rw [List.getElem?_set] at h
        simp at h
      · rw [List.getElem?_set_ne (Ne.symm e)] at h
        exact ⟨h, fun q => e (by omega)⟩
    · rename_i n1 n2
      refine ⟨h, fun q => ?_⟩
      have e : j = k := by omega
      subst e
      cases v with
      | long x => exact n1 x h
      | double x => exact n2 x h
      | _ => exact absurd q.2 (show ¬ (1 : Nat) = 2 by decide)
theorem lvh_st1 {b : Nat} {cs : Nat → Nat} {ls : Ls} {i : Nat} {v : Value} : ∀ q ∈ lvl b cs (st1 ls i v), q ∈ (i, cnv b cs v) :: (lvl b cs ls).filter (fun q => !(q.1 == i) && !(q.1 + 1 == i && q.2.category == 2)) := by
  rintro ⟨j, w⟩ hq
  obtain ⟨u, h1, rfl⟩ := mem_lvl.mp hq
  unfold st1 at h1
  by_cases e : j = i
  · subst e
    rw [List.getElem?_set] at h1
    simp at h1
    obtain ⟨-, rfl⟩ := h1
    exact List.mem_cons_self
  · rw [List.getElem?_set_ne (Ne.symm e)] at h1
    obtain ⟨h2, h3⟩ := clr_at h1
    refine List.mem_cons_of_mem _ (List.mem_filter.mpr ⟨mem_lvl.mpr ⟨u, h2, rfl⟩, ?_⟩)
    have h4 : ¬ (j + 1 = i ∧ (cnv b cs u).category = 2) := by rw [cnv_cat]; exact h3
    simp only [Bool.and_eq_true, Bool.not_eq_true', beq_eq_false_iff_ne, ne_eq]
    refine ⟨e, ?_⟩
    rw [Bool.and_eq_false_iff]
    by_cases e2 : j + 1 = i
    · right
      simp only [beq_eq_false_iff_ne, ne_eq]
      exact fun z => h4 ⟨e2, z⟩
    · left
      simpa using e2
theorem lvh_st2 {b : Nat} {cs : Nat → Nat} {ls : Ls} {i : Nat} {v : Value} : ∀ q ∈ lvl b cs (st2 ls i v), q ∈ (i, cnv b cs v) :: (lvl b cs ls).filter (fun q => !(q.1 == i) && (!(q.1 == i + 1) && !(q.1 + 1 == i && q.2.category == 2))) := by
  rintro ⟨j, w⟩ hq
  obtain ⟨u, h1, rfl⟩ := mem_lvl.mp hq
  unfold st2 at h1
  by_cases e1 : j = i + 1
  · subst e1
    rw [List.getElem?_set] at h1
    simp at h1
  · rw [List.getElem?_set_ne (Ne.symm e1)] at h1
    by_cases e : j = i
    · subst e
      rw [List.getElem?_set] at h1
      simp at h1
      obtain ⟨-, rfl⟩ := h1
      exact List.mem_cons_self
    · rw [List.getElem?_set_ne (Ne.symm e)] at h1
      obtain ⟨h2, h3⟩ := clr_at h1
      refine List.mem_cons_of_mem _ (List.mem_filter.mpr ⟨mem_lvl.mpr ⟨u, h2, rfl⟩, ?_⟩)
      have h4 : ¬ (j + 1 = i ∧ (cnv b cs u).category = 2) := by rw [cnv_cat]; exact h3
      simp only [Bool.and_eq_true, Bool.not_eq_true', beq_eq_false_iff_ne, ne_eq]
      refine ⟨e, e1, ?_⟩
      rw [Bool.and_eq_false_iff]
      by_cases e2 : j + 1 = i
      · right
        simp only [beq_eq_false_iff_ne, ne_eq]
        exact fun z => h4 ⟨e2, z⟩
      · left
        simpa using e2
def NG (U : State) : Prop := (∀ w ∈ nwl, va_Nw w U) ∧ va_AO RX0 U ∧ va_AO RX4 U ∧ va_AO RX5 U ∧ va_Nc RX4 RX2 U ∧ va_Nc RX4 RX1 U ∧ va_Nc RX2 RX1 U
theorem NG.warm {s U : State} (hW : s.WarmedH U.vm) (h : NG s) : NG U := by
  obtain ⟨h1, h2, h3, h4, h5, h6, h7⟩ := h
  refine ⟨fun w hw => ?_, h2.moved hW.alike, h3.moved hW.alike, h4.moved hW.alike, h5.moved hW.alike, h6.moved hW.alike, h7.moved hW.alike⟩
  have hn := (List.mem_filter.mp hw).2
  have hz := h1 w hw
  cases w with
  | fieldLinkNest _ _ _ _ _ _ => exact va_Nw.warmF hW hz
  | methodLinkNest _ _ _ _ => exact va_Nw.warmM hW hz
  | castable _ _ => exact va_Nw.warmC hW hz
  | _ => cases hn
def stv (t j : Nat) : Value := if t = 4 then .long (stJ j) else .int (stI t j)
def stT (t : Nat) : FieldType := if t = 4 then .long else if t = 3 then .char else .int
def STA (sc : Nat × (Nat → Int32)) (b : Nat) (cs : Nat → Nat) (U : State) (H : Heap) : Prop := (∀ t, t < 5 → va_Z (stC t).1 (stC t).2.1 (stC t).2.2 (.ref (cs t)) (Ab b) U H ∧ va_T (stT t) (cs t) (stN t) (stv t) (Ab b) U H) ∧ va_X (cs 5) sc.1 sc.2 U H ∧ cs 5 < b
theorem STA.on {sc : Nat × (Nat → Int32)} {b : Nat} {cs : Nat → Nat} {s U : State} {H : Heap} {locs : List Loc} (hb : b ≤ s.heap.size) (hS : va_S (Ab b) s.heap H locs) (hvm : s.vm.Alike U.vm) (h : STA sc b cs s s.heap) : STA sc b cs U H := by
  refine ⟨fun t ht => ⟨((h.1 t ht).1.moved hvm).kept hS.2.1, ((h.1 t ht).2.moved hvm).kept hS.2.1⟩, (h.2.1.moved hvm).kept ?_, h.2.2⟩
  exact hS.2.1 _ (Nat.lt_of_lt_of_le h.2.2 hb) (fun z => absurd z (Nat.not_le.mpr h.2.2))
def RetAt (mt : Mt) (pc : Nat) (r : Option Value) : Prop := match r with
  | none => decode (mB mt.1) pc = .ok (.return_, 1) ∧ mR mt.1 = none
  | some (.int x) => decode (mB mt.1) pc = .ok (.ireturn, 1) ∧ (mR mt.1 = some .int ∨ (mR mt.1 = some .boolean ∧ (x = 0 ∨ x = 1)))
  | some (.long _) => decode (mB mt.1) pc = .ok (.lreturn, 1) ∧ mR mt.1 = some .long
  | some (.ref _) => decode (mB mt.1) pc = .ok (.areturn, 1) ∧ ∃ t, mR mt.1 = some t ∧ tyRef t = true
  | _ => False
def Cx (sc : Nat × (Nat → Int32)) (p : Program) (R : Room) (s : State) (m : MethodId) (args : Array Value) (meth : Method) (c : Code) (mt : Mt) (D : va_G) (b : Nat) (cy : Nat → ClassId) (cs : Nat → Nat) (z0 : Nat) : Prop :=
  p.tables.exec = Jvm.exec ∧ c.code = mB mt.1 ∧ meth.sig.returnType = mR mt.1 ∧ c.maxLocals = mL mt.1 ∧ s.vm.findClass (ownS (mC mt.1)) = some m.cls ∧ (∀ w ∈ gwl, w.before args s = true) ∧ meth.locks = false ∧ NG s ∧ va_K D vwCl (tys cy) s ∧ ((mY mt.1).name = "<init>" → meth.name = "<init>") ∧ mF mt.1 ≤ R.frames ∧ mW mt.1 ≤ R.locals ∧ s.heap.size = b + z0 ∧ STA sc b cs s s.heap ∧ CkP mt.1 mt.2 ∧ stok mt = true
def Go (p : Program) (l : Launch) (e : Env) (R : Room) (s : State) (m : MethodId) (args : Array Value) (below : List Frame) (meth : Method) (c : Code) (mt : Mt) (D : va_G) (b : Nat) (cy : Nat → ClassId) (cs : Nat → Nat) (z0 y0 : Nat) (Q : State → Prop) (pc : Nat) (ls : Ls) (st : List Value) (h : Hp) : Prop :=
  ∀ (lsA : Array Slot) (H : Heap) (locs : List Loc) (cells slots : Nat), z0 + cells = zc h → y0 + slots = zs h → HW D b cy h H → va_S (Ab b) s.heap H locs → lv_has lsA (mL mt.1) (lvl b cs ls) → W p l e R s m args below meth c H locs cells slots Q (F0 m pc lsA (st.map (cnv b cs)))
/-- from pc on, with these locals, this stack and this heap the method comes to its return with r, and the heap is h' then -/
def Rn (sc : Nat × (Nat → Int32)) (mt : Mt) (pc : Nat) (ls : Ls) (st : List Value) (h : Hp) (r : Option Value) (h' : Hp) : Prop :=
  zc h ≤ zc h' ∧ zs h ≤ zs h' ∧ (∀ a, a ≤ zc h → zK h' a = zK h a) ∧ ∀ (p : Program) (l : Launch) (e : Env) (R : Room) (s : State) (m : MethodId) (args : Array Value) (below : List Frame) (meth : Method) (c : Code) (D : va_G) (b : Nat) (cy : Nat → ClassId) (cs : Nat → Nat) (z0 y0 : Nat) (Q : State → Prop),
    Cx sc p R s m args meth c mt D b cy cs z0 → zc h' ≤ z0 + R.cells → zs h' ≤ y0 + R.slots → z0 ≤ zc h →
    (∀ (pc' : Nat) (lsA : Array Slot) (H1 : Heap) (locs1 : List Loc) (mc ms : Nat), RetAt mt pc' r → z0 + mc = zc h' → y0 + ms = zs h' → HW D b cy h' H1 → va_S (Ab b) s.heap H1 locs1 → W p l e R s m args below meth c H1 locs1 mc ms Q (F0 m pc' lsA ((r.map (cnv b cs)).toList))) →
    Go p l e R s m args below meth c mt D b cy cs z0 y0 Q pc ls st h
/-- what the checks say of the row at pc -/
theorem cAt_ok {mt : Mt} {pc : Nat} {r : Rw} (h : cAt mt.2 pc = some r) (hk : CkP mt.1 mt.2) (hs : stok mt = true) : r.1 = pc ∧ rowOK (mY mt.1) (mC mt.1) (mB mt.1) r = true ∧ r ∈ mt.2 := by
  unfold cAt at h
  have h1 := List.find?_some h
  have h2 := List.mem_of_find?_eq_some h
  exact ⟨by simpa using h1, List.all_eq_true.mp hk r h2, h2⟩
theorem W_sized {p : Program} {l : Launch} {e : Env} {R : Room} {s : State} {m : MethodId} {args : Array Value} {below : List Frame} {meth : Method} {c : Code} {H : Heap} {locs : List Loc} {cells slots : Nat} {Q : State → Prop} {g : JFrame} (k : H.size ≤ s.heap.size + cells → W p l e R s m args below meth c H locs cells slots Q g) : W p l e R s m args below meth c H locs cells slots Q g := by
  intro T hT X
  exact k (by rw [← hT]; exact X.heapSize) T hT X
