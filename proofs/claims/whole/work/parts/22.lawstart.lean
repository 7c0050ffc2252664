/-! THE CLAIM OUT OF ONE WALK OF THE LAW'S BODY. Your part is whole_start (and what it stands on); all else here is the same for every law, but numbers. -/
def R_law : String := "FourLorriesLaw"
def lw_P (b : Addr) (xs : List Int32) (args : Array Value) (s : State) : Prop := args = #[.ref b] ∧ s.IntsAt b xs ∧ xs.length ≤ 3072 ∧ (Jvm.Cond.and given_1 narrow_1).before args s = true
def lw_Q (_ : Array Value) (s : State) (o : Outcome) (t : State) : Prop := o = .returned (some (.int 1)) ∧ Framed s o t [] 600000 7302250
def lw_Z (below : List Frame) (a : Array Value) (s : State) : State → Prop := fun t => ∃ o, t.status = .running ∧ Ended t below o ∧ lw_Q a s o t
/-- the law's own end, with 1 on the stack, nothing written that was there before, its room as the claim has it -/
theorem lw_ret {p : Program} {l : Launch} {e : Env} {s : State} {m : MethodId} {below : List Frame} {meth : Method} {c : Code} {b : Nat} (hx : p.tables.exec = Jvm.exec) (hb : c.code = code) (hr : meth.sig.returnType = ret) (hlocks : meth.locks = false) {pc : Nat} {H : Heap} {ls : Array Slot} (hdg : decode code pc = .ok (.ireturn, 1)) : W p l e room_1 s m #[Value.ref b] below meth c H [] 600000 7302250 (lw_Z below #[Value.ref b] s) (F0 m pc ls [.int 1]) := by
  intro T hT X
  obtain ⟨fs, hret, hrun, hended, hW, hframe⟩ := X.leave (v := some (.int 1)) (hlocks := hlocks) (fun h => by rw [hr] at h; cases h)
  have hmeth' : T.vm.method? m = some meth := X.method'
  refine ⟨T.setFrames fs, ?_, .returned (some (.int 1)), hrun, hended, rfl, ⟨_, rfl⟩, hW, hframe⟩
  jvm_step X.here [X.here.top, hx, hb, hdg, hmeth', hr, ret, narrow_b1]
  (try refine ⟨rfl, ?_⟩); (try refine ⟨rfl, ?_⟩)
  first | (intro acts; rw [hret _ acts rfl rfl rfl]) | rw [hret _ _ rfl rfl rfl]
  exact Steps.refl _
/-- what holds at the law's entry: the machine, the code, the tables' words (any of lw_tbl by 'hts w (by decide +kernel)'), the script of L ints xs at the cell b, what the Statement gives of the start (any of its parts by flat_of_before) -/
def lw_At (p : Program) (s : State) (m : MethodId) (meth : Method) (c : Code) (b L : Nat) (xs : Nat → Int32) : Prop :=
  p.tables.exec = Jvm.exec ∧ c.code = code ∧ meth.sig.returnType = ret ∧ c.maxLocals = 4 ∧ s.vm.findClass R_law = some m.cls ∧ (∀ w ∈ lw_tbl, w.before #[Value.ref b] s = true) ∧ va_X b L xs s s.heap ∧ b < s.heap.size ∧ meth.locks = false ∧ (Jvm.Cond.and given_1 narrow_1).before #[Value.ref b] s = true
def hp0 : Hp := ((0, 0), fun _ => 99, fun _ => 0, fun _ _ => 0, fun _ _ => 0, fun _ _ => 0)
set_option maxRecDepth 20000 in
theorem st_0 {args : Array Value} {s : State} (hts : ∀ w ∈ lw_tbl, w.before args s = true) (hgv : (Jvm.Cond.and given_1 narrow_1).before args s = true) : ∃ t : Nat, va_Z (stC 0).1 (stC 0).2.1 (stC 0).2.2 (.ref t) (Ab s.heap.size) s s.heap ∧ va_T (stT 0) t (stN 0) (stv 0) (Ab s.heap.size) s s.heap := by
  have hf := flat_of_before _ hgv
  have hA : ∀ a : Nat, a < s.heap.size → ¬ Ab s.heap.size a := fun a h z => absurd z (Nat.not_le.mpr h)
  obtain ⟨t, h1, h2⟩ := va_Tof (args := args) (s := s) (tm := (.static "FourLorries" "LEAST" "[I")) (ty := .int) (N := 5) (f := stv 0) (A := Ab s.heap.size) (by decide) (hf (.arrayOf (.static "FourLorries" "LEAST" "[I") .int) (by decide +kernel)) (va_eqt (hf (.eq (.length (.static "FourLorries" "LEAST" "[I")) (.int 5)) (by decide +kernel))) (by
    intro j hj
    match j, hj with
    | 0, _ => exact va_eqt (hf (.eq (.elem (.static "FourLorries" "LEAST" "[I") (.int 0)) (.int 0)) (by decide +kernel))
    | 1, _ => exact va_eqt (hf (.eq (.elem (.static "FourLorries" "LEAST" "[I") (.int 1)) (.int 0)) (by decide +kernel))
    | 2, _ => exact va_eqt (hf (.eq (.elem (.static "FourLorries" "LEAST" "[I") (.int 2)) (.int 0)) (by decide +kernel))
    | 3, _ => exact va_eqt (hf (.eq (.elem (.static "FourLorries" "LEAST" "[I") (.int 3)) (.int 1)) (by decide +kernel))
    | 4, _ => exact va_eqt (hf (.eq (.elem (.static "FourLorries" "LEAST" "[I") (.int 4)) (.int 0)) (by decide +kernel))
    | n + 5, h => exact absurd h (by omega)) hA
  exact ⟨t, va_Zref (hts (.laysStatic "FourLorries" "LEAST" "[I") (List.mem_of_getElem? (i := 418) (by decide +kernel))) (hts (.initialized "FourLorries") (List.mem_of_getElem? (i := 73) (by decide +kernel))) h1 hA, h2⟩
set_option maxRecDepth 20000 in
theorem st_1 {args : Array Value} {s : State} (hts : ∀ w ∈ lw_tbl, w.before args s = true) (hgv : (Jvm.Cond.and given_1 narrow_1).before args s = true) : ∃ t : Nat, va_Z (stC 1).1 (stC 1).2.1 (stC 1).2.2 (.ref t) (Ab s.heap.size) s s.heap ∧ va_T (stT 1) t (stN 1) (stv 1) (Ab s.heap.size) s s.heap := by
  have hf := flat_of_before _ hgv
  have hA : ∀ a : Nat, a < s.heap.size → ¬ Ab s.heap.size a := fun a h z => absurd z (Nat.not_le.mpr h)
  obtain ⟨t, h1, h2⟩ := va_Tof (args := args) (s := s) (tm := (.static "FourLorries" "GREATEST" "[I")) (ty := .int) (N := 5) (f := stv 1) (A := Ab s.heap.size) (by decide) (hf (.arrayOf (.static "FourLorries" "GREATEST" "[I") .int) (by decide +kernel)) (va_eqt (hf (.eq (.length (.static "FourLorries" "GREATEST" "[I")) (.int 5)) (by decide +kernel))) (by
    intro j hj
    match j, hj with
    | 0, _ => exact va_eqt (hf (.eq (.elem (.static "FourLorries" "GREATEST" "[I") (.int 0)) (.int 5)) (by decide +kernel))
    | 1, _ => exact va_eqt (hf (.eq (.elem (.static "FourLorries" "GREATEST" "[I") (.int 1)) (.int 12)) (by decide +kernel))
    | 2, _ => exact va_eqt (hf (.eq (.elem (.static "FourLorries" "GREATEST" "[I") (.int 2)) (.int 12)) (by decide +kernel))
    | 3, _ => exact va_eqt (hf (.eq (.elem (.static "FourLorries" "GREATEST" "[I") (.int 3)) (.int 9)) (by decide +kernel))
    | 4, _ => exact va_eqt (hf (.eq (.elem (.static "FourLorries" "GREATEST" "[I") (.int 4)) (.int 2)) (by decide +kernel))
    | n + 5, h => exact absurd h (by omega)) hA
  exact ⟨t, va_Zref (hts (.laysStatic "FourLorries" "GREATEST" "[I") (List.mem_of_getElem? (i := 420) (by decide +kernel))) (hts (.initialized "FourLorries") (List.mem_of_getElem? (i := 73) (by decide +kernel))) h1 hA, h2⟩
set_option maxRecDepth 20000 in
theorem st_2 {args : Array Value} {s : State} (hts : ∀ w ∈ lw_tbl, w.before args s = true) (hgv : (Jvm.Cond.and given_1 narrow_1).before args s = true) : ∃ t : Nat, va_Z (stC 2).1 (stC 2).2.1 (stC 2).2.2 (.ref t) (Ab s.heap.size) s s.heap ∧ va_T (stT 2) t (stN 2) (stv 2) (Ab s.heap.size) s s.heap := by
  have hf := flat_of_before _ hgv
  have hA : ∀ a : Nat, a < s.heap.size → ¬ Ab s.heap.size a := fun a h z => absurd z (Nat.not_le.mpr h)
  obtain ⟨t, h1, h2⟩ := va_Tof (args := args) (s := s) (tm := (.static "FourLorries$TextReader" "DIGITS" "[I")) (ty := .int) (N := 4) (f := stv 2) (A := Ab s.heap.size) (by decide) (hf (.arrayOf (.static "FourLorries$TextReader" "DIGITS" "[I") .int) (by decide +kernel)) (va_eqt (hf (.eq (.length (.static "FourLorries$TextReader" "DIGITS" "[I")) (.int 4)) (by decide +kernel))) (by
    intro j hj
    match j, hj with
    | 0, _ => exact va_eqt (hf (.eq (.elem (.static "FourLorries$TextReader" "DIGITS" "[I") (.int 0)) (.int 1)) (by decide +kernel))
    | 1, _ => exact va_eqt (hf (.eq (.elem (.static "FourLorries$TextReader" "DIGITS" "[I") (.int 1)) (.int 2)) (by decide +kernel))
    | 2, _ => exact va_eqt (hf (.eq (.elem (.static "FourLorries$TextReader" "DIGITS" "[I") (.int 2)) (.int 2)) (by decide +kernel))
    | 3, _ => exact va_eqt (hf (.eq (.elem (.static "FourLorries$TextReader" "DIGITS" "[I") (.int 3)) (.int 1)) (by decide +kernel))
    | n + 4, h => exact absurd h (by omega)) hA
  exact ⟨t, va_Zref (hts (.laysStatic "FourLorries$TextReader" "DIGITS" "[I") (List.mem_of_getElem? (i := 416) (by decide +kernel))) (hts (.initialized "FourLorries$TextReader") (List.mem_of_getElem? (i := 74) (by decide +kernel))) h1 hA, h2⟩
set_option maxRecDepth 20000 in
theorem st_3 {args : Array Value} {s : State} (hts : ∀ w ∈ lw_tbl, w.before args s = true) (hgv : (Jvm.Cond.and given_1 narrow_1).before args s = true) : ∃ t : Nat, va_Z (stC 3).1 (stC 3).2.1 (stC 3).2.2 (.ref t) (Ab s.heap.size) s s.heap ∧ va_T (stT 3) t (stN 3) (stv 3) (Ab s.heap.size) s s.heap := by
  have hf := flat_of_before _ hgv
  have hA : ∀ a : Nat, a < s.heap.size → ¬ Ab s.heap.size a := fun a h z => absurd z (Nat.not_le.mpr h)
  obtain ⟨t, h1, h2⟩ := va_Tof (args := args) (s := s) (tm := (.static "FourLorries$TextReader" "LETTERS" "[C")) (ty := .char) (N := 4) (f := stv 3) (A := Ab s.heap.size) (by decide) (hf (.arrayOf (.static "FourLorries$TextReader" "LETTERS" "[C") .char) (by decide +kernel)) (va_eqt (hf (.eq (.length (.static "FourLorries$TextReader" "LETTERS" "[C")) (.int 4)) (by decide +kernel))) (by
    intro j hj
    match j, hj with
    | 0, _ => exact va_eqt (hf (.eq (.elem (.static "FourLorries$TextReader" "LETTERS" "[C") (.int 0)) (.int 115)) (by decide +kernel))
    | 1, _ => exact va_eqt (hf (.eq (.elem (.static "FourLorries$TextReader" "LETTERS" "[C") (.int 1)) (.int 104)) (by decide +kernel))
    | 2, _ => exact va_eqt (hf (.eq (.elem (.static "FourLorries$TextReader" "LETTERS" "[C") (.int 2)) (.int 101)) (by decide +kernel))
    | 3, _ => exact va_eqt (hf (.eq (.elem (.static "FourLorries$TextReader" "LETTERS" "[C") (.int 3)) (.int 119)) (by decide +kernel))
    | n + 4, h => exact absurd h (by omega)) hA
  exact ⟨t, va_Zref (hts (.laysStatic "FourLorries$TextReader" "LETTERS" "[C") (List.mem_of_getElem? (i := 414) (by decide +kernel))) (hts (.initialized "FourLorries$TextReader") (List.mem_of_getElem? (i := 74) (by decide +kernel))) h1 hA, h2⟩
set_option maxRecDepth 20000 in
theorem st_4 {args : Array Value} {s : State} (hts : ∀ w ∈ lw_tbl, w.before args s = true) (hgv : (Jvm.Cond.and given_1 narrow_1).before args s = true) : ∃ t : Nat, va_Z (stC 4).1 (stC 4).2.1 (stC 4).2.2 (.ref t) (Ab s.heap.size) s s.heap ∧ va_T (stT 4) t (stN 4) (stv 4) (Ab s.heap.size) s s.heap := by
  have hf := flat_of_before _ hgv
  have hA : ∀ a : Nat, a < s.heap.size → ¬ Ab s.heap.size a := fun a h z => absurd z (Nat.not_le.mpr h)
  obtain ⟨t, h1, h2⟩ := va_Tof (args := args) (s := s) (tm := (.static "FourLorries$Outlook" "TWELVES" "[J")) (ty := .long) (N := 5) (f := stv 4) (A := Ab s.heap.size) (by decide) (hf (.arrayOf (.static "FourLorries$Outlook" "TWELVES" "[J") .long) (by decide +kernel)) (va_eqt (hf (.eq (.length (.static "FourLorries$Outlook" "TWELVES" "[J")) (.int 5)) (by decide +kernel))) (by
    intro j hj
    match j, hj with
    | 0, _ => exact va_eqtl (hf (.eq (.elem (.static "FourLorries$Outlook" "TWELVES" "[J") (.int 0)) (.long 1)) (by decide +kernel))
    | 1, _ => exact va_eqtl (hf (.eq (.elem (.static "FourLorries$Outlook" "TWELVES" "[J") (.int 1)) (.long 12)) (by decide +kernel))
    | 2, _ => exact va_eqtl (hf (.eq (.elem (.static "FourLorries$Outlook" "TWELVES" "[J") (.int 2)) (.long 144)) (by decide +kernel))
    | 3, _ => exact va_eqtl (hf (.eq (.elem (.static "FourLorries$Outlook" "TWELVES" "[J") (.int 3)) (.long 1728)) (by decide +kernel))
    | 4, _ => exact va_eqtl (hf (.eq (.elem (.static "FourLorries$Outlook" "TWELVES" "[J") (.int 4)) (.long 20736)) (by decide +kernel))
    | n + 5, h => exact absurd h (by omega)) hA
  exact ⟨t, va_Zref (hts (.laysStatic "FourLorries$Outlook" "TWELVES" "[J") (List.mem_of_getElem? (i := 541) (by decide +kernel))) (hts (.initialized "FourLorries$Outlook") (List.mem_of_getElem? (i := 75) (by decide +kernel))) h1 hA, h2⟩
theorem ao_in {args : Array Value} {s : State} (hts : ∀ w ∈ lw_tbl, w.before args s = true) : va_AO RX0 s ∧ va_AO RX4 s ∧ va_AO RX5 s := ⟨va_AO.of (hts _ (List.mem_of_getElem? (i := 98) (by decide +kernel))), va_AO.of (hts _ (List.mem_of_getElem? (i := 199) (by decide +kernel))), va_AO.of (hts _ (List.mem_of_getElem? (i := 292) (by decide +kernel)))⟩
theorem nc_in {args : Array Value} {s : State} (hgv : (Jvm.Cond.and given_1 narrow_1).before args s = true) : va_Nc RX4 RX2 s ∧ va_Nc RX4 RX1 s ∧ va_Nc RX2 RX1 s := by
  have hf := flat_of_before _ hgv
  exact ⟨va_Nc.of (hf (.not (.castable RX4 RX2)) (by decide +kernel)), va_Nc.of (hf (.not (.castable RX4 RX1)) (by decide +kernel)), va_Nc.of (hf (.not (.castable RX2 RX1)) (by decide +kernel))⟩
theorem ng_in {args : Array Value} {s : State} (hts : ∀ w ∈ lw_tbl, w.before args s = true) (hgv : (Jvm.Cond.and given_1 narrow_1).before args s = true) : NG s := by
  obtain ⟨a1, a2, a3⟩ := ao_in hts
  obtain ⟨n1, n2, n3⟩ := nc_in hgv
  refine ⟨fun w hw => ?_, a1, a2, a3, n1, n2, n3⟩
  obtain ⟨h1, h2⟩ := List.mem_filter.mp hw
  have h3 := hts w h1
  cases w with
  | fieldLinkNest _ _ _ _ _ _ => exact va_Nw.of rfl h3
  | methodLinkNest _ _ _ _ => exact va_Nw.of rfl h3
  | castable _ _ => exact va_Nw.of rfl h3
  | _ => cases h2
theorem arr_prim {args : Array Value} {s : State} {ty : FieldType} (hp : ∀ n, ty ≠ .object n) (h : (Cond.arrayClass ty).before args s = true) : ∃ cA : ClassId, ArrOfT s cA ty ∧ va_RA s cA ty := by
  obtain ⟨cA, kA, comp, h1, h2, h3⟩ := Cond.arrayClass_spec h
  refine ⟨cA, fun n z => ⟨fun k h => (by cases h), kA, h2, comp, h3⟩, ?_⟩
  cases ty with
  | object n => exact absurd rfl (hp n)
  | _ => exact h1
theorem arr_obj {s : State} {C : String} (h : va_AO C s) : ∃ cA : ClassId, ArrOfT s cA (.object C) ∧ va_RA s cA (.object C) := by
  obtain ⟨comp, cA, kA, h1, h2, h3, h4, h5⟩ := Cond.arrayOver_spec h
  exact ⟨cA, fun n z => ⟨fun k h => (by cases h), kA, h3, comp, h4⟩, kA, comp, h3, h4, h1, h5⟩
theorem k_in {args : Array Value} {s : State} (hts : ∀ w ∈ gwl, w.before args s = true) (hao : va_AO RX0 s ∧ va_AO RX4 s ∧ va_AO RX5 s) : ∃ (D : va_G) (cy : Nat → ClassId), va_K D vwCl (tys cy) s := by
  have each : ∀ k, k < 12 → ∃ (c0 : ClassId) (i0 : Nat → Nat), ∀ q, vwCl[k]? = some q → u_Kn s q.1 q.2.1 q.2.2 c0 i0 := fun k hk => by
    obtain ⟨C0, T, ty, hv, hin, -, -, -, hinst, -⟩ := kds k hk
    obtain ⟨c0, i0, hh⟩ := u_known (C := C0) (T := T) (N := nf k) (n := nf k) hts hin (hts _ hinst)
    refine ⟨c0, i0, fun q hq => ?_⟩
    obtain rfl := Option.some.inj (hv.symm.trans hq)
    exact hh
  obtain ⟨cI, i1⟩ := arr_prim (ty := .int) (fun _ z => by cases z) (hts _ w_ar.1)
  obtain ⟨cJ, j1⟩ := arr_prim (ty := .long) (fun _ z => by cases z) (hts _ w_ar.2.1)
  obtain ⟨cZ, z1⟩ := arr_prim (ty := .boolean) (fun _ z => by cases z) (hts _ w_ar.2.2)
  obtain ⟨c5, o5⟩ := arr_obj hao.1
  obtain ⟨c6, o6⟩ := arr_obj hao.2.1
  obtain ⟨c7, o7⟩ := arr_obj hao.2.2
  refine ⟨(fun k => if h : k < 12 then Classical.choose (each k h) else cI, fun k => if h : k < 12 then Classical.choose (Classical.choose_spec (each k h)) else fun _ => 0), fun k => if k = 12 then cI else if k = 13 then cJ else if k = 14 then cZ else if k = 15 then c5 else if k = 16 then c6 else c7, ?_, ?_⟩
  · intro k q hq
    have hk : k < 12 := (List.getElem?_eq_some_iff.mp hq).1
    have := Classical.choose_spec (Classical.choose_spec (each k hk)) q hq
    dsimp only
    rw [dif_pos hk, dif_pos hk]
    exact this
  · intro k q hq
    match k, hq with
    | 0, hq => cases hq; exact i1
    | 1, hq => cases hq; exact j1
    | 2, hq => cases hq; exact z1
    | 3, hq => cases hq; exact o5
    | 4, hq => cases hq; exact o6
    | 5, hq => cases hq; exact o7
    | n + 6, hq => simp [tys] at hq
set_option maxHeartbeats 4000000 in
set_option maxRecDepth 100000 in
/-- the law, out of the little machine's run of it -/
theorem whole_open {p : Program} {e : Env} {s : State} {m : MethodId} {below : List Frame} {meth : Method} {c : Code} (l : Launch) {b L : Nat} {xs : Nat → Int32} (C0 : lw_At p s m meth c b L xs) (hrun : ∃ h', Rn (L, xs) lawM 0 (enL 4 [.retAddr 5]) [] hp0 (some (.int 1)) h' ∧ zc h' ≤ 600000 ∧ zs h' ≤ 7302250) : W p l e room_1 s m #[Value.ref b] below meth c s.heap [] 0 0 (lw_Z below #[Value.ref b] s) (entryFrame m ([Value.ref b] : List Value).toArray 4) := by
  obtain ⟨hx, hb, hr, hml, hown, hts, hX, hbl, hlocks, hgv⟩ := C0
  have hgw : ∀ w ∈ gwl, w.before #[Value.ref b] s = true := fun w hw => hts w (List.mem_filter.mp hw).1
  obtain ⟨D, cy, hK⟩ := k_in hgw (ao_in hts)
  obtain ⟨t0, a0⟩ := st_0 hts hgv
  obtain ⟨t1, a1⟩ := st_1 hts hgv
  obtain ⟨t2, a2⟩ := st_2 hts hgv
  obtain ⟨t3, a3⟩ := st_3 hts hgv
  obtain ⟨t4, a4⟩ := st_4 hts hgv
  obtain ⟨cs, hcs⟩ : ∃ cs : Nat → Nat, cs 0 = t0 ∧ cs 1 = t1 ∧ cs 2 = t2 ∧ cs 3 = t3 ∧ cs 4 = t4 ∧ cs 5 = b := ⟨fun t => if t = 0 then t0 else if t = 1 then t1 else if t = 2 then t2 else if t = 3 then t3 else if t = 4 then t4 else b, rfl, rfl, rfl, rfl, rfl, rfl⟩
  obtain ⟨e0, e1, e2, e3, e4, e5⟩ := hcs
  have hsta : STA (L, xs) s.heap.size cs s s.heap := by
    refine ⟨fun t ht => ?_, by rw [e5]; exact hX, by rw [e5]; exact hbl⟩
    match t, ht with
    | 0, _ => rw [e0]; exact a0
    | 1, _ => rw [e1]; exact a1
    | 2, _ => rw [e2]; exact a2
    | 3, _ => rw [e3]; exact a3
    | 4, _ => rw [e4]; exact a4
    | n + 5, h => exact absurd h (by omega)
  have C : Cx (L, xs) p room_1 s m #[Value.ref b] meth c lawM D s.heap.size cy cs 0 := ⟨hx, hb, hr, hml, hown, hgw, hlocks, ng_in hts hgv, hK, fun q => absurd q (by decide), by decide, by decide, rfl, hsta, ck221, stok_law⟩
  obtain ⟨h', ⟨-, -, -, R3⟩, hc, hsl⟩ := hrun
  have G := R3 p l e room_1 s m #[Value.ref b] below meth c D s.heap.size cy cs 0 0 (lw_Z below #[Value.ref b] s) C (by rw [Nat.zero_add]; exact hc) (by rw [Nat.zero_add]; exact hsl) (Nat.zero_le _) (by
    intro pc' lsA H1 locs1 mc ms hret hmc hms hw hS
    refine va_forget (fun q hq => hS.2.2 q hq) ?_
    refine W.widen (k := 600000) (n := 7302250) (by omega) (by omega) ?_
    exact lw_ret hx hb hr hlocks hret.1)
  have hn0 : wl s.heap.size cy hp0 = [] := rfl
  have hw0 : HW D s.heap.size cy hp0 s.heap := ⟨fun k q h => by rw [hn0] at h; simp at h, fun _ _ => rfl⟩
  rw [lg_entry_eq]
  have hl := lvh_entry (b := s.heap.size) (cs := cs) (as := [.retAddr 5]) (n := 4) (by decide)
  have ev : ([Value.retAddr 5].map (cnv s.heap.size cs)) = [Value.ref b] := by
    show [Value.ref (cs 5)] = _
    rw [e5]
  rw [ev] at hl
  exact G _ s.heap [] 0 0 rfl rfl hw0 va_S.rf hl
