/-! The JDK's own: Object(), min, arraycopy, clone, casts. -/
theorem okn_of {r : Mr} {rest : List Value} (h : okn r rest = true) : 1 ≤ mF r ∧ 48 ≤ mW r ∧ cats rest ≤ 8 := by
  unfold okn at h
  simp at h
  omega
theorem okc_of {r q : Mr} {rest : List Value} (h : okc r q rest = true) : mF q + 1 ≤ mF r ∧ 19 + mL q + mW q ≤ mW r ∧ cats rest ≤ 8 := by
  unfold okc at h
  simp at h
  omega
theorem mAt_ok {c ix cd n a b d z1 z2 : Nat} (h : mAt c ix = some (z1, z2, cd, n, a, b, d)) : MlP (c, ix, cd, n, a, b, d) := by
  unfold mAt at h
  have h1 := List.find?_some h
  have h2 := mls _ (List.mem_of_find?_eq_some h)
  simp only [Bool.and_eq_true, beq_iff_eq] at h1
  obtain ⟨rfl, rfl⟩ := h1
  exact h2
section
variable {sc : Nat × (Nat → Int32)} {p : Program} {l : Launch} {e : Env} {R : Room} {s : State} {m : MethodId} {args : Array Value} {below : List Frame} {meth : Method} {c : Code} {mt : Mt} {D : va_G} {b : Nat} {cy : Nat → ClassId} {cs : Nat → Nat} {z0 y0 : Nat} {Q : State → Prop} {pc : Nat} {ls : Ls} {st r : List Value} {h : Hp}
theorem so_oinit (C : Cx sc p R s m args meth c mt D b cy cs z0) {ix o z1 z2 n a b1 d : Nat} (hd : decode (mB mt.1) pc = .ok (.invokespecial ix, 3)) (hf : mAt (mC mt.1) ix = some (z1, z2, 7, n, a, b1, d)) (hk : okn mt.1 r = true ∧ ¬ o = 0) (k : Go p l e R s m args below meth c mt D b cy cs z0 y0 Q (pc + 3) ls r h) : Go p l e R s m args below meth c mt D b cy cs z0 y0 Q pc ls (.ref o :: r) h := by
  intro lsA H locs cells slots hz hy hw hS hl
  have k1 := k lsA H locs cells slots hz hy hw hS hl
  have hlk : Cond.methodLink (ownS (mC mt.1)) ix objectInit ∈ gwl := mAt_ok hf
  obtain ⟨hx, hb, hr, hml, hown, hts, hlocks, hNG, hK, hni, hfr, hlo, hsz, hsta, -⟩ := C
  obtain ⟨g1, g2, g3⟩ := okn_of hk.1
  cases o with
  | zero => exact absurd rfl hk.2
  | succ o =>
    refine W.objInit hx hb hown (hts _ hlk) (hts _ w_oi.1) (hts _ w_oi.2) (a := b + o) rfl (by rw [hml]; exact hl.1) rfl hd (by omega) ?_ k1
    have := lv_room (m := m) (pc := pc) (ls := lsA) (rest := (Value.ref (b + o) :: r.map (cnv b cs))) (st := r.map (cnv b cs)) (by rw [cnv_cats]; exact g3)
    show 2 * (F0 m pc lsA (Value.ref (b + o) :: r.map (cnv b cs))).monitorRoom + _ + 12 ≤ R.locals
    omega
theorem so_min (C : Cx sc p R s m args meth c mt D b cy cs z0) {ix z1 z2 n a b1 d : Nat} {x y : Int32} (hd : decode (mB mt.1) pc = .ok (.invokestatic ix, 3)) (hf : mAt (mC mt.1) ix = some (z1, z2, 10, n, a, b1, d)) (hk : okn mt.1 r = true) (hc : zc h ≤ z0 + R.cells) (hs : zs h ≤ y0 + R.slots) (k : Go p l e R s m args below meth c mt D b cy cs z0 y0 Q (pc + 3) ls (.int (if y < x then y else x) :: r) h) : Go p l e R s m args below meth c mt D b cy cs z0 y0 Q pc ls (.int y :: .int x :: r) h := by
  intro lsA H locs cells slots hz hy hw hS hl
  have k1 := k lsA H locs cells slots hz hy hw hS hl
  have hlk : Cond.methodLink (ownS (mC mt.1)) ix Lib.Math.min.name ∈ gwl := mAt_ok hf
  obtain ⟨hx, hb, hr, hml, hown, hts, hlocks, hNG, hK, hni, hfr, hlo, hsz, hsta, -⟩ := C
  obtain ⟨g1, g2, g3⟩ := okn_of hk
  exact va_mmin hx hb (by rw [hml]; exact hl.1.symm) hown (hts _ hlk) (hts _ w_mm.1) (hts _ w_mm.2.1) (hts _ w_mm.2.2) (by omega) (by rw [cnv_cats]; omega) (by omega) (by omega) hd k1
theorem so_copy (C : Cx sc p R s m args meth c mt D b cy cs z0) {ix z1 z2 n0 a b1 d0 : Nat} {n dp sp : Int32} {d s0 : Nat} (hd : decode (mB mt.1) pc = .ok (.invokestatic ix, 3)) (hf : mAt (mC mt.1) ix = some (z1, z2, 8, n0, a, b1, d0)) (hk : okn mt.1 r = true ∧ ¬ sp < 0 ∧ ¬ dp < 0 ∧ ¬ n < 0 ∧ sp.toNatClampNeg + n.toNatClampNeg ≤ zN h s0 ∧ dp.toNatClampNeg + n.toNatClampNeg ≤ zN h d ∧ ((zK h s0 = 12 ∧ zK h d = 12) ∨ (zK h s0 = 13 ∧ zK h d = 13)))
    (k : Go p l e R s m args below meth c mt D b cy cs z0 y0 Q (pc + 3) ls r (if zK h d = 13 then rwJ h d (va_cpy (zJ h s0) (zJ h d) sp.toNatClampNeg dp.toNatClampNeg n.toNatClampNeg) else rwI h d (va_cpy (zI h s0) (zI h d) sp.toNatClampNeg dp.toNatClampNeg n.toNatClampNeg))) : Go p l e R s m args below meth c mt D b cy cs z0 y0 Q pc ls (.int n :: .int dp :: .ref d :: .int sp :: .ref s0 :: r) h := by
  intro lsA H locs cells slots hz hy hw hS hl
  have hlk : Cond.methodLink (ownS (mC mt.1)) ix arraycopyName ∈ gwl := mAt_ok hf
  obtain ⟨hx, hb, hr, hml, hown, hts, hlocks, hNG, hK, hni, hfr, hlo, hsz, hsta, -⟩ := C
  obtain ⟨h0, h1, h2, h3, h4, h5, h6⟩ := hk
  obtain ⟨g1, g2, g3⟩ := okn_of h0
  have hw7 : nativeFrameWords "java/lang/System" "arraycopy" 5 = 7 := by decide +kernel
  rcases h6 with ⟨e1, e2⟩ | ⟨e1, e2⟩
  · rw [if_neg (by omega)] at k
    obtain ⟨q0, rfl, hq0, he0⟩ := hw.arI e1
    obtain ⟨q1, rfl, hq1, he1⟩ := hw.arI e2
    refine va_copyi hx hb (by rw [hml]; exact hl.1.symm) hown (hts _ hlk) (hts _ w_ac.1) (hts _ w_ac.2.1) (hts _ w_ac.2.2) hK hw.1 wl_D hS q0 q1 0 0 he0 he1 rfl rfl rfl h1 h2 h3 h4 h5 (fun _ _ => rfl) (by omega) (by rw [cnv_cats, hw7]; omega) hd (fun H1 locs1 hP1 _ hS1 => ?_)
    have e4 : ceE b cy (rwI h (q1 + 1) (va_cpy (zI h (q0 + 1)) (zI h (q1 + 1)) sp.toNatClampNeg dp.toNatClampNeg n.toNatClampNeg)) (q1 + 1) = .inl (cy 12, zN h (q1 + 1), .inl (va_cpy (zI h (q0 + 1)) (zI h (q1 + 1)) sp.toNatClampNeg dp.toNatClampNeg n.toNatClampNeg)) := by
      rw [ceE_I (h := rwI h (q1 + 1) (va_cpy (zI h (q0 + 1)) (zI h (q1 + 1)) sp.toNatClampNeg dp.toNatClampNeg n.toNatClampNeg)) e2]
      show (Sum.inl (cy 12, zN h (q1 + 1), .inl (va_up (zI h) (q1 + 1) (va_cpy (zI h (q0 + 1)) (zI h (q1 + 1)) sp.toNatClampNeg dp.toNatClampNeg n.toNatClampNeg) (q1 + 1))) : va_E) = _
      rw [va_up_self]
    exact k lsA H1 locs1 cells slots hz hy (hw.next rfl rfl hq1 e4 (fun k hk => ceE_rwI hk) hP1) hS1 hl
  · rw [if_pos e2] at k
    obtain ⟨q0, rfl, hq0, he0⟩ := hw.arJ e1
    obtain ⟨q1, rfl, hq1, he1⟩ := hw.arJ e2
    refine va_copyl hx hb (by rw [hml]; exact hl.1.symm) hown (hts _ hlk) (hts _ w_ac.1) (hts _ w_ac.2.1) (hts _ w_ac.2.2) hK hw.1 wl_D hS q0 q1 1 1 he0 he1 rfl rfl rfl h1 h2 h3 h4 h5 (fun _ _ => rfl) (by omega) (by rw [cnv_cats, hw7]; omega) hd (fun H1 locs1 hP1 _ hS1 => ?_)
    have e4 : ceE b cy (rwJ h (q1 + 1) (va_cpy (zJ h (q0 + 1)) (zJ h (q1 + 1)) sp.toNatClampNeg dp.toNatClampNeg n.toNatClampNeg)) (q1 + 1) = .inl (cy 13, zN h (q1 + 1), .inr (.inl (va_cpy (zJ h (q0 + 1)) (zJ h (q1 + 1)) sp.toNatClampNeg dp.toNatClampNeg n.toNatClampNeg))) := by
      rw [ceE_J (h := rwJ h (q1 + 1) (va_cpy (zJ h (q0 + 1)) (zJ h (q1 + 1)) sp.toNatClampNeg dp.toNatClampNeg n.toNatClampNeg)) e2]
      show (Sum.inl (cy 13, zN h (q1 + 1), .inr (.inl (va_up (zJ h) (q1 + 1) (va_cpy (zJ h (q0 + 1)) (zJ h (q1 + 1)) sp.toNatClampNeg dp.toNatClampNeg n.toNatClampNeg) (q1 + 1)))) : va_E) = _
      rw [va_up_self]
    exact k lsA H1 locs1 cells slots hz hy (hw.next rfl rfl hq1 e4 (fun k hk => ceE_rwJ hk) hP1) hS1 hl
theorem so_clone (C : Cx sc p R s m args meth c mt D b cy cs z0) {ix z1 z2 n0 a b1 d0 o : Nat} (hd : decode (mB mt.1) pc = .ok (.invokevirtual ix, 3)) (hf : mAt (mC mt.1) ix = some (z1, z2, 9, n0, a, b1, d0)) (hk : okn mt.1 r = true ∧ zK h o = 12) (hc : zc h + 1 ≤ z0 + R.cells) (hs : zs h + zN h o ≤ y0 + R.slots)
    (k : Go p l e R s m args below meth c mt D b cy cs z0 y0 Q (pc + 3) ls (.ref (zc h + 1) :: r) (nwI h (zN h o) (zI h o))) : Go p l e R s m args below meth c mt D b cy cs z0 y0 Q pc ls (.ref o :: r) h := by
  intro lsA H locs cells slots hz hy hw hS hl
  have C' := C
  have hlk : Cond.methodLink (ownS (mC mt.1)) ix ⟨"[I", "clone", "()Ljava/lang/Object;"⟩ ∈ gwl := mAt_ok hf
  obtain ⟨hx, hb, hr, hml, hown, hts, hlocks, hNG, hK, hni, hfr, hlo, hsz, hsta, -⟩ := C
  obtain ⟨g1, g2, g3⟩ := okn_of hk.1
  obtain ⟨q, rfl, hq, he⟩ := hw.arI hk.2
  refine va_clone (D := D) hx hb (by rw [hml]; exact hl.1.symm) hown (hts _ hlk) (hts _ w_cl.1) (hts _ w_cl.2.1) (hts _ w_cl.2.2.1) (hts _ w_cl.2.2.2.1) (hNG.1 _ w_cl.2.2.2.2.1) hK hw.1 wl_D hS (hA_of C') q 0 he rfl (va_nm_int (hK.2 0 (cy 12, .int) rfl).2) (fun i v hv => va_fit (fun _ _ => rfl) i v hv) (by omega) (by rw [cnv_cats]; omega) (by omega) (by show slots + zN h (q + 1) ≤ R.slots; omega) hd (fun q1 H1 _ hP1 hD1 hS1 => ?_)
  have e3 : zK (nwI h (zN h (q + 1)) (zI h (q + 1))) (zc h + 1) = 12 := va_up_self _ _ _
  refine made C' hw hz hy rfl rfl (fun a ha => va_up_ne _ _ ha) ?_ (fun k hk => ceE_nwI hk) hP1 hD1 hS1 hl k
  rw [ceE_I e3]
  show (Sum.inl (cy 12, va_up (zN h) (zc h + 1) (zN h (q + 1)) (zc h + 1), .inl (va_up (zI h) (zc h + 1) (zI h (q + 1)) (zc h + 1))) : va_E) = _
  rw [va_up_self, va_up_self]
theorem so_cast (C : Cx sc p R s m args meth c mt D b cy cs z0) {ix a : Nat} (hd : decode (mB mt.1) pc = .ok (.checkcast ix, 3)) (hf : mC mt.1 = 13 ∧ ix = 317) (hk : zK h a = 12) (k : Go p l e R s m args below meth c mt D b cy cs z0 y0 Q (pc + 3) ls (.ref a :: r) h) : Go p l e R s m args below meth c mt D b cy cs z0 y0 Q pc ls (.ref a :: r) h := by
  intro lsA H locs cells slots hz hy hw hS hl
  have k1 := k lsA H locs cells slots hz hy hw hS hl
  obtain ⟨hx, hb, hr, hml, hown, hts, hlocks, hNG, hK, hni, hfr, hlo, hsz, hsta, -⟩ := C
  obtain ⟨q, rfl, hq, he⟩ := hw.arI hk
  rw [hf.1] at hown
  obtain ⟨-, rfl⟩ := hf
  exact va_castA (D := D) (cl := vwCl) hx hb hown (hts _ w_cl.2.2.2.2.2) hw.1 q he (va_nm_int (hK.2 0 (cy 12, .int) rfl).2) hd k1
theorem so_inst (C : Cx sc p R s m args meth c mt D b cy cs z0) {ix kd z1 z2 a : Nat} (hd : decode (mB mt.1) pc = .ok (.instanceof ix, 3)) (hf : lAt (mC mt.1) ix = some (z1, z2, kd)) (h3 : kd = 1 ∨ kd = 2) (hk : kin 4 (zK h a) = true) (k : Go p l e R s m args below meth c mt D b cy cs z0 y0 Q (pc + 3) ls (.int (inst kd (zK h a)) :: r) h) : Go p l e R s m args below meth c mt D b cy cs z0 y0 Q pc ls (.ref a :: r) h := by
  intro lsA H locs cells slots hz hy hw hS hl
  have k1 := k lsA H locs cells slots hz hy hw hS hl
  obtain ⟨hx, hb, hr, hml, hown, hts, hlocks, hNG, hK, hni, hfr, hlo, hsz, hsta, -⟩ := C
  unfold lAt at hf
  have h1 := List.find?_some hf
  have h2 := lts _ (List.mem_of_find?_eq_some hf)
  simp only [Bool.and_eq_true, beq_iff_eq] at h1
  obtain ⟨rfl, rfl⟩ := h1
  obtain ⟨-, hlk⟩ := h2
  have h4 : zK h a = 4 ∨ zK h a = 2 ∨ zK h a = 1 := by
    unfold kin at hk
    simp at hk
    omega
  rcases h4 with h4 | h4 | h4
  · obtain ⟨q, rfl, hq, he⟩ := hw.obj h4 (by omega)
    have hrc := va_recv (q := (RX4, TX4, 6)) hK hw.1 rfl he
    rw [h4] at k1
    rcases h3 with rfl | rfl
    · exact va_instNo hx hb hown (hts _ hlk) hNG.2.2.2.2.2.1 hrc hd k1
    · exact va_instNo hx hb hown (hts _ hlk) hNG.2.2.2.2.1 hrc hd k1
  · obtain ⟨q, rfl, hq, he⟩ := hw.obj h4 (by omega)
    have hrc := va_recv (q := (RX2, TX2, 6)) hK hw.1 rfl he
    rw [h4] at k1
    rcases h3 with rfl | rfl
    · exact va_instNo hx hb hown (hts _ hlk) hNG.2.2.2.2.2.2 hrc hd k1
    · exact va_instS hx hb hown (hts _ hlk) (hK.1 2 _ rfl).2 hrc hd k1
  · obtain ⟨q, rfl, hq, he⟩ := hw.obj h4 (by omega)
    have hrc := va_recv (q := (RX1, TX1, 6)) hK hw.1 rfl he
    rw [h4] at k1
    rcases h3 with rfl | rfl
    · exact va_instS hx hb hown (hts _ hlk) (hK.1 1 _ rfl).2 hrc hd k1
    · exact va_instY hx hb hown (hts _ hlk) (hNG.1 _ w_ca.1) hrc hd k1
end
