/-! The rows that write arrays, make cells, and the JDK's own. -/
section
variable {sc : Nat × (Nat → Int32)} {p : Program} {l : Launch} {e : Env} {R : Room} {s : State} {m : MethodId} {args : Array Value} {below : List Frame} {meth : Method} {c : Code} {mt : Mt} {D : va_G} {b : Nat} {cy : Nat → ClassId} {cs : Nat → Nat} {z0 y0 : Nat} {Q : State → Prop} {pc : Nat} {ls : Ls} {st r : List Value} {h : Hp}
theorem HW.next {h1 : Hp} {H1 : Heap} {H : Heap} {q : Nat} {e0 : va_E} (hw : HW D b cy h H) (e1 : zc h1 = zc h) (e3 : zK h1 = zK h) (hq : q < zc h) (he : ceE b cy h1 (q + 1) = e0) (ho : ∀ k, k ≠ q + 1 → ceE b cy h1 k = ceE b cy h k) (hP : va_P D vwCl ((wl b cy h).set q (b + q, e0)) H1) : HW D b cy h1 H1 := by
  rw [wl_set e1 hq he ho] at hP
  exact ⟨hP, fun a ha => by rw [e3]; exact hw.2 a (by rw [← e1]; exact ha)⟩
theorem so_iastore (C : Cx sc p R s m args meth c mt D b cy cs z0) {a : Nat} {i v : Int32} (hd : decode (mB mt.1) pc = .ok (.iastore, 1)) (hk : zK h a = 12 ∧ inB i (zN h a) = true) (k : Go p l e R s m args below meth c mt D b cy cs z0 y0 Q (pc + 1) ls r (upI h a i.toNatClampNeg v)) : Go p l e R s m args below meth c mt D b cy cs z0 y0 Q pc ls (.int v :: .int i :: .ref a :: r) h := by
  intro lsA H locs cells slots hz hy hw hS hl
  obtain ⟨q, rfl, hq, he⟩ := hw.arI hk.1
  refine va_iast C.1 C.2.1 C.2.2.2.2.2.2.2.2.1 hw.1 wl_D hS q 0 he rfl (inB_iff.mp hk.2) hd (fun H1 locs1 hP1 _ hS1 => ?_)
  have e4 : ceE b cy (upI h (q + 1) i.toNatClampNeg v) (q + 1) = .inl (cy 12, zN h (q + 1), .inl (upd (zI h (q + 1)) i.toNatClampNeg v)) := by
    rw [ceE_I (h := upI h (q + 1) i.toNatClampNeg v) hk.1]
    show (Sum.inl (cy 12, zN h (q + 1), .inl (va_up (zI h) (q + 1) (upd (zI h (q + 1)) i.toNatClampNeg v) (q + 1))) : va_E) = _
    rw [va_up_self]
  exact k lsA H1 locs1 cells slots hz hy (hw.next rfl rfl hq e4 (fun k hk => ceE_upI hk) hP1) hS1 hl
theorem so_bastore (C : Cx sc p R s m args meth c mt D b cy cs z0) {a : Nat} {i v : Int32} (hd : decode (mB mt.1) pc = .ok (.bastore, 1)) (hk : zK h a = 14 ∧ inB i (zN h a) = true ∧ (v = 0 ∨ v = 1)) (k : Go p l e R s m args below meth c mt D b cy cs z0 y0 Q (pc + 1) ls r (upI h a i.toNatClampNeg v)) : Go p l e R s m args below meth c mt D b cy cs z0 y0 Q pc ls (.int v :: .int i :: .ref a :: r) h := by
  intro lsA H locs cells slots hz hy hw hS hl
  obtain ⟨q, rfl, hq, he⟩ := hw.arZ hk.1
  refine va_zast C.1 C.2.1 C.2.2.2.2.2.2.2.2.1 hw.1 wl_D hS q 2 he rfl (inB_iff.mp hk.2.1) hd (fun H1 locs1 hP1 _ hS1 => ?_)
  have ev : vp_nar .boolean v = v := by rcases hk.2.2 with z | z <;> rw [z] <;> rfl
  rw [ev] at hP1
  have e4 : ceE b cy (upI h (q + 1) i.toNatClampNeg v) (q + 1) = .inl (cy 14, zN h (q + 1), .inl (upd (zI h (q + 1)) i.toNatClampNeg v)) := by
    rw [ceE_Z (h := upI h (q + 1) i.toNatClampNeg v) hk.1]
    show (Sum.inl (cy 14, zN h (q + 1), .inl (va_up (zI h) (q + 1) (upd (zI h (q + 1)) i.toNatClampNeg v) (q + 1))) : va_E) = _
    rw [va_up_self]
  exact k lsA H1 locs1 cells slots hz hy (hw.next rfl rfl hq e4 (fun k hk => ceE_upI hk) hP1) hS1 hl
theorem so_lastore (C : Cx sc p R s m args meth c mt D b cy cs z0) {a : Nat} {i : Int32} {v : Int64} (hd : decode (mB mt.1) pc = .ok (.lastore, 1)) (hk : zK h a = 13 ∧ inB i (zN h a) = true) (k : Go p l e R s m args below meth c mt D b cy cs z0 y0 Q (pc + 1) ls r (upJ h a i.toNatClampNeg v)) : Go p l e R s m args below meth c mt D b cy cs z0 y0 Q pc ls (.long v :: .int i :: .ref a :: r) h := by
  intro lsA H locs cells slots hz hy hw hS hl
  obtain ⟨q, rfl, hq, he⟩ := hw.arJ hk.1
  refine va_last C.1 C.2.1 C.2.2.2.2.2.2.2.2.1 hw.1 wl_D hS q 1 he rfl (inB_iff.mp hk.2) hd (fun H1 locs1 hP1 _ hS1 => ?_)
  have e4 : ceE b cy (upJ h (q + 1) i.toNatClampNeg v) (q + 1) = .inl (cy 13, zN h (q + 1), .inr (.inl (vp_updL (zJ h (q + 1)) i.toNatClampNeg v))) := by
    rw [ceE_J (h := upJ h (q + 1) i.toNatClampNeg v) hk.1]
    show (Sum.inl (cy 13, zN h (q + 1), .inr (.inl (va_up (zJ h) (q + 1) (vp_updL (zJ h (q + 1)) i.toNatClampNeg v) (q + 1)))) : va_E) = _
    rw [va_up_self]
  exact k lsA H1 locs1 cells slots hz hy (hw.next rfl rfl hq e4 (fun k hk => ceE_upJ hk) hP1) hS1 hl
theorem aast_any (C : Cx sc p R s m args meth c mt D b cy cs z0) {a v t0 kd : Nat} {i : Int32} {E0 : String} (hd : decode (mB mt.1) pc = .ok (.aastore, 1)) (h1 : zK h a = kd) (h2 : 15 ≤ kd) (h3 : kd < 99) (hi : inB i (zN h a) = true) (ht : (tys cy)[t0]? = some (cy kd, .object E0)) {ci : Nat} {r0 : vw_C} (hv : zK h v = ci) (hci : ci < 12) (hc : vwCl[ci]? = some r0) (hE : r0.1 = E0 ∨ va_Nw (.castable r0.1 E0) s)
    (k : Go p l e R s m args below meth c mt D b cy cs z0 y0 Q (pc + 1) ls r (upA h a i.toNatClampNeg v)) : Go p l e R s m args below meth c mt D b cy cs z0 y0 Q pc ls (.ref v :: .int i :: .ref a :: r) h := by
  intro lsA H locs cells slots hz hy hw hS hl
  obtain ⟨q, rfl, hq, he⟩ := hw.arA h1 h2 h3
  obtain ⟨u, rfl, hu, heu⟩ := hw.obj hv hci
  have hfin : ∀ (H1 : Heap) (locs1 : List Loc), va_P D vwCl ((wl b cy h).set q (b + q, .inl (cy kd, zN h (q + 1), .inr (.inr (.inr (.inr (va_up (fun j => ad b (zA h (q + 1) j)) i.toNatClampNeg (some (b + u))))))))) H1 → va_D (Ab b) ((wl b cy h).set q (b + q, .inl (cy kd, zN h (q + 1), .inr (.inr (.inr (.inr (va_up (fun j => ad b (zA h (q + 1) j)) i.toNatClampNeg (some (b + u))))))))) → va_S (Ab b) s.heap H1 locs1 → W p l e R s m args below meth c H1 locs1 cells slots Q (F0 m (pc + 1) lsA (r.map (cnv b cs))) := by
    intro H1 locs1 hP1 _ hS1
    have e4 : ceE b cy (upA h (q + 1) i.toNatClampNeg (u + 1)) (q + 1) = .inl (cy kd, zN h (q + 1), .inr (.inr (.inr (.inr (va_up (fun j => ad b (zA h (q + 1) j)) i.toNatClampNeg (some (b + u))))))) := by
      rw [ceE_A (h := upA h (q + 1) i.toNatClampNeg (u + 1)) h1 h2]
      have : (fun j => ad b (zA (upA h (q + 1) i.toNatClampNeg (u + 1)) (q + 1) j)) = va_up (fun j => ad b (zA h (q + 1) j)) i.toNatClampNeg (some (b + u)) := by
        funext j
        rw [zA_upA, if_pos rfl]
        unfold va_up
        split <;> rfl
      rw [this]
      rfl
    exact k lsA H1 locs1 cells slots hz hy (hw.next rfl rfl hq e4 (fun k hk => ceE_upA hk) hP1) hS1 hl
  rcases hE with hE | hE
  · subst hE
    exact va_astq C.1 C.2.1 C.2.2.2.2.2.2.2.2.1 hw.1 wl_D hS q t0 u ci he ht heu hc (inB_iff.mp hi) hd hfin
  · exact va_astqO C.1 C.2.1 C.2.2.2.2.2.2.2.2.1 hw.1 wl_D hS q t0 u ci he ht hE heu hc (inB_iff.mp hi) hd hfin
theorem so_aastore (C : Cx sc p R s m args meth c mt D b cy cs z0) {a v : Nat} {i : Int32} (hd : decode (mB mt.1) pc = .ok (.aastore, 1)) (hk : inB i (zN h a) = true ∧ ((zK h a = 15 ∧ zK h v = 0) ∨ (zK h a = 16 ∧ kin 4 (zK h v) = true) ∨ (zK h a = 17 ∧ zK h v = 5)))
    (k : Go p l e R s m args below meth c mt D b cy cs z0 y0 Q (pc + 1) ls r (upA h a i.toNatClampNeg v)) : Go p l e R s m args below meth c mt D b cy cs z0 y0 Q pc ls (.ref v :: .int i :: .ref a :: r) h := by
  obtain ⟨hi, ⟨h1, h2⟩ | ⟨h1, h2⟩ | ⟨h1, h2⟩⟩ := hk
  · exact aast_any C (t0 := 3) hd h1 (by omega) (by omega) hi rfl h2 (by omega) (r0 := (RX0, TX0, 5)) rfl (Or.inl rfl) k
  · have h3 : zK h v = 4 ∨ zK h v = 2 ∨ zK h v = 1 := by
      unfold kin at h2
      simp at h2
      omega
    have hNG := C.2.2.2.2.2.2.2.1
    rcases h3 with h3 | h3 | h3
    · exact aast_any C (t0 := 4) hd h1 (by omega) (by omega) hi rfl h3 (by omega) (r0 := (RX4, TX4, 6)) rfl (Or.inl rfl) k
    · exact aast_any C (t0 := 4) hd h1 (by omega) (by omega) hi rfl h3 (by omega) (r0 := (RX2, TX2, 6)) rfl (Or.inr (hNG.1 _ w_ca.2.2)) k
    · exact aast_any C (t0 := 4) hd h1 (by omega) (by omega) hi rfl h3 (by omega) (r0 := (RX1, TX1, 6)) rfl (Or.inr (hNG.1 _ w_ca.2.1)) k
  · exact aast_any C (t0 := 5) hd h1 (by omega) (by omega) hi rfl h2 (by omega) (r0 := (RX5, TX5, 3)) rfl (Or.inl rfl) k
/-- where a new cell lies -/
theorem fresh_q {q : Nat} {e0 : va_E} (hD : va_D (Ab b) (wl b cy h ++ [(q, e0)])) (hq : q < b + zc h + 1) : q = b + zc h := by
  have hat : (wl b cy h ++ [(q, e0)])[zc h]? = some (q, e0) := by
    rw [List.getElem?_append_right (by rw [wl_len]; omega), wl_len]
    simp
  have hb : b ≤ q := hD.2 _ _ hat
  rcases Nat.lt_or_ge q (b + zc h) with z | z
  · have h1 : (wl b cy h ++ [(q, e0)])[q - b]? = some (b + (q - b), ceE b cy h (q - b + 1)) := by
      rw [List.getElem?_append_left (by rw [wl_len]; omega), wl_at (by omega)]
    have := hD.1 (q - b) (zc h) _ _ h1 hat (by show b + (q - b) = q; omega)
    omega
  · omega
theorem made {H1 : Heap} {locs : List Loc} {cells slots n : Nat} {q : Nat} {e0 : va_E} {h1 : Hp} {H : Heap} {lsA : Array Slot} {pc' : Nat} (C : Cx sc p R s m args meth c mt D b cy cs z0) (hw : HW D b cy h H) (hz : z0 + cells = zc h) (hy : y0 + slots = zs h) (e1 : zc h1 = zc h + 1) (e2 : zs h1 = zs h + n) (e3 : ∀ a, a ≠ zc h + 1 → zK h1 a = zK h a) (he : ceE b cy h1 (zc h + 1) = e0) (ho : ∀ k, k ≠ zc h + 1 → ceE b cy h1 k = ceE b cy h k)
    (hP : va_P D vwCl (wl b cy h ++ [(q, e0)]) H1) (hD : va_D (Ab b) (wl b cy h ++ [(q, e0)])) (hS : va_S (Ab b) s.heap H1 locs) (hl : lv_has lsA (mL mt.1) (lvl b cs ls))
    (k : Go p l e R s m args below meth c mt D b cy cs z0 y0 Q pc' ls (.ref (zc h + 1) :: r) h1) : W p l e R s m args below meth c H1 locs (cells + 1) (slots + n) Q (F0 m pc' lsA (.ref q :: r.map (cnv b cs))) := by
  refine W_sized (fun hsz => ?_)
  have hs0 : s.heap.size = b + z0 := C.2.2.2.2.2.2.2.2.2.2.2.2.1
  have hat : (wl b cy h ++ [(q, e0)])[zc h]? = some (q, e0) := by
    rw [List.getElem?_append_right (by rw [wl_len]; omega), wl_len]
    simp
  have hlt : q < H1.size := (hP _ _ hat).lt
  obtain rfl := fresh_q hD (by omega)
  rw [wl_push e1 he ho] at hP
  exact k lsA H1 locs (cells + 1) (slots + n) (by omega) (by omega) ⟨hP, fun a ha => by rw [e3 a (by omega)]; exact hw.2 a (by omega)⟩ hS hl
theorem hA_of (C : Cx sc p R s m args meth c mt D b cy cs z0) : ∀ q, s.heap.size ≤ q → Ab b q := fun q hq => by
  have hs0 : s.heap.size = b + z0 := C.2.2.2.2.2.2.2.2.2.2.2.2.1
  show b ≤ q
  omega
theorem so_new (C : Cx sc p R s m args meth c mt D b cy cs z0) {ix kd z1 z2 : Nat} (hd : decode (mB mt.1) pc = .ok (.new ix, 3)) (hf : lAt (mC mt.1) ix = some (z1, z2, kd)) (hc : zc h + 1 ≤ z0 + R.cells) (hs : zs h + nf kd ≤ y0 + R.slots)
    (k : Go p l e R s m args below meth c mt D b cy cs z0 y0 Q (pc + 3) ls (.ref (zc h + 1) :: st) (nwC h kd (nf kd))) : Go p l e R s m args below meth c mt D b cy cs z0 y0 Q pc ls st h := by
  intro lsA H locs cells slots hz hy hw hS hl
  unfold lAt at hf
  have h1 := List.find?_some hf
  have h2 := lts _ (List.mem_of_find?_eq_some hf)
  simp only [Bool.and_eq_true, beq_iff_eq] at h1
  obtain ⟨rfl, rfl⟩ := h1
  obtain ⟨hk, hlk⟩ := h2
  obtain ⟨C0, T, ty, hv, hin, hty, hnm, htp, hinst, hini, hown0⟩ := kds kd hk
  have hlk : Cond.classLink (ownS (mC mt.1)) z2 C0 ∈ gwl := by rw [← hown0]; exact hlk
  have hts := C.2.2.2.2.2.1
  have hfs : ∀ j, j < nf kd → defaultValue (ty j) = vp_V (fvs b (nwC h kd (nf kd)) (zc h + 1) kd) j := by
    intro j hj
    unfold vp_V
    rw [List.getD_eq_getElem?_getD, fvs_at hj]
    have eI : zI (nwC h kd (nf kd)) (zc h + 1) j = 0 := by show va_up (zI h) (zc h + 1) (fun _ => 0) (zc h + 1) j = 0; rw [va_up_self]
    have eA : zA (nwC h kd (nf kd)) (zc h + 1) j = 0 := by show va_up (zA h) (zc h + 1) (fun _ => 0) (zc h + 1) j = 0; rw [va_up_self]
    rw [eI, eA]
    rcases htp j hj with ⟨g1, g2⟩ | ⟨g1, g2⟩ | ⟨g1, g2⟩
    · rw [g2, g1]; rfl
    · rw [g2, g1]; rfl
    · rw [g1]
      cases hh : ty j with
      | object _ => rfl
      | array _ => rfl
      | _ => rw [hh] at g2; cases g2
  refine va_new (D := D) C.1 C.2.1 hts hin ty hty C.2.2.2.2.1 (hts _ hlk) (hts _ hinst) (hts _ hini) C.2.2.2.2.2.2.2.2.1 hw.1 wl_D hS (hA_of C) hv hfs (by omega) (by omega) hd (fun q H1 hP1 hD1 hS1 => ?_)
  have e3 : zK (nwC h kd (nf kd)) (zc h + 1) = kd := va_up_self _ _ _
  exact made C hw hz hy rfl rfl (fun a ha => va_up_ne _ _ ha) (ceE_obj e3 hk) (fun k hk => ceE_nwC hk) hP1 hD1 hS1 hl k
theorem arr_cls {ty : FieldType} {cA cB : ClassId} {t0 : Nat} {l0 : List (ClassId × FieldType)} (hp : ∀ C, ty ≠ .object C) (hK : va_K D vwCl l0 s) (hK1 : va_K D vwCl (l0 ++ [(cA, ty)]) s) (ht : l0[t0]? = some (cB, ty)) : cA = cB := by
  have h1 := (hK.2 t0 _ ht).2
  have h2 := (hK1.2 l0.length (cA, ty) (by rw [List.getElem?_append_right (Nat.le_refl _)]; simp)).2
  cases ty with
  | object C => exact absurd rfl (hp C)
  | _ => exact Option.some.inj (h2.symm.trans h1)
theorem so_newI (C : Cx sc p R s m args meth c mt D b cy cs z0) {n : Int32} (hd : decode (mB mt.1) pc = .ok (.newarray .int, 2)) (hn : ¬ n < 0 ∧ n.toNatClampNeg ≤ 100000) (hc : zc h + 1 ≤ z0 + R.cells) (hs : zs h + n.toNatClampNeg ≤ y0 + R.slots)
    (k : Go p l e R s m args below meth c mt D b cy cs z0 y0 Q (pc + 2) ls (.ref (zc h + 1) :: r) (nwC h 12 n.toNatClampNeg)) : Go p l e R s m args below meth c mt D b cy cs z0 y0 Q pc ls (.int n :: r) h := by
  intro lsA H locs cells slots hz hy hw hS hl
  have hts := C.2.2.2.2.2.1
  have hK := C.2.2.2.2.2.2.2.2.1
  refine va_newa (D := D) (atype := .int) (ty := .int) (a0 := (n.toNatClampNeg, .inl (fun _ => 0))) C.1 C.2.1 (hts _ w_ar.1) rfl hK hw.1 wl_D hS (hA_of C) (fun _ => rfl) hn.1 rfl (by show n.toNatClampNeg * 4 ≤ 536870912; omega) (by omega) (by omega) hd (fun q cA H1 hK1 hP1 hD1 hS1 => ?_)
  obtain rfl : cA = cy 12 := arr_cls (t0 := 0) (fun _ z => by cases z) hK hK1 rfl
  have e3 : zK (nwC h 12 n.toNatClampNeg) (zc h + 1) = 12 := va_up_self _ _ _
  refine made C hw hz hy rfl rfl (fun a ha => va_up_ne _ _ ha) ?_ (fun k hk => ceE_nwC hk) hP1 hD1 hS1 hl k
  rw [ceE_I e3]
  show (Sum.inl (cy 12, va_up (zN h) (zc h + 1) n.toNatClampNeg (zc h + 1), .inl (va_up (zI h) (zc h + 1) (fun _ => 0) (zc h + 1))) : va_E) = _
  rw [va_up_self, va_up_self]
theorem so_newJ (C : Cx sc p R s m args meth c mt D b cy cs z0) {n : Int32} (hd : decode (mB mt.1) pc = .ok (.newarray .long, 2)) (hn : ¬ n < 0 ∧ n.toNatClampNeg ≤ 100000) (hc : zc h + 1 ≤ z0 + R.cells) (hs : zs h + n.toNatClampNeg ≤ y0 + R.slots)
    (k : Go p l e R s m args below meth c mt D b cy cs z0 y0 Q (pc + 2) ls (.ref (zc h + 1) :: r) (nwC h 13 n.toNatClampNeg)) : Go p l e R s m args below meth c mt D b cy cs z0 y0 Q pc ls (.int n :: r) h := by
  intro lsA H locs cells slots hz hy hw hS hl
  have hts := C.2.2.2.2.2.1
  have hK := C.2.2.2.2.2.2.2.2.1
  refine va_newa (D := D) (atype := .long) (ty := .long) (a0 := (n.toNatClampNeg, .inr (.inl (fun _ => 0)))) C.1 C.2.1 (hts _ w_ar.2.1) rfl hK hw.1 wl_D hS (hA_of C) (fun _ => rfl) hn.1 rfl (by show n.toNatClampNeg * 8 ≤ 536870912; omega) (by omega) (by omega) hd (fun q cA H1 hK1 hP1 hD1 hS1 => ?_)
  obtain rfl : cA = cy 13 := arr_cls (t0 := 1) (fun _ z => by cases z) hK hK1 rfl
  have e3 : zK (nwC h 13 n.toNatClampNeg) (zc h + 1) = 13 := va_up_self _ _ _
  refine made C hw hz hy rfl rfl (fun a ha => va_up_ne _ _ ha) ?_ (fun k hk => ceE_nwC hk) hP1 hD1 hS1 hl k
  rw [ceE_J e3]
  show (Sum.inl (cy 13, va_up (zN h) (zc h + 1) n.toNatClampNeg (zc h + 1), .inr (.inl (va_up (zJ h) (zc h + 1) (fun _ => 0) (zc h + 1)))) : va_E) = _
  rw [va_up_self, va_up_self]
theorem so_newZ (C : Cx sc p R s m args meth c mt D b cy cs z0) {n : Int32} (hd : decode (mB mt.1) pc = .ok (.newarray .boolean, 2)) (hn : ¬ n < 0 ∧ n.toNatClampNeg ≤ 100000) (hc : zc h + 1 ≤ z0 + R.cells) (hs : zs h + n.toNatClampNeg ≤ y0 + R.slots)
    (k : Go p l e R s m args below meth c mt D b cy cs z0 y0 Q (pc + 2) ls (.ref (zc h + 1) :: r) (nwC h 14 n.toNatClampNeg)) : Go p l e R s m args below meth c mt D b cy cs z0 y0 Q pc ls (.int n :: r) h := by
  intro lsA H locs cells slots hz hy hw hS hl
  have hts := C.2.2.2.2.2.1
  have hK := C.2.2.2.2.2.2.2.2.1
  refine va_newa (D := D) (atype := .boolean) (ty := .boolean) (a0 := (n.toNatClampNeg, .inl (fun _ => 0))) C.1 C.2.1 (hts _ w_ar.2.2) rfl hK hw.1 wl_D hS (hA_of C) (fun _ => rfl) hn.1 rfl (by show n.toNatClampNeg * 1 ≤ 536870912; omega) (by omega) (by omega) hd (fun q cA H1 hK1 hP1 hD1 hS1 => ?_)
  obtain rfl : cA = cy 14 := arr_cls (t0 := 2) (fun _ z => by cases z) hK hK1 rfl
  have e3 : zK (nwC h 14 n.toNatClampNeg) (zc h + 1) = 14 := va_up_self _ _ _
  refine made C hw hz hy rfl rfl (fun a ha => va_up_ne _ _ ha) ?_ (fun k hk => ceE_nwC hk) hP1 hD1 hS1 hl k
  rw [ceE_Z e3]
  show (Sum.inl (cy 14, va_up (zN h) (zc h + 1) n.toNatClampNeg (zc h + 1), .inl (va_up (zI h) (zc h + 1) (fun _ => 0) (zc h + 1))) : va_E) = _
  rw [va_up_self, va_up_self]
theorem arr_clsO {C0 : String} {cA cB : ClassId} {t0 : Nat} {l0 : List (ClassId × FieldType)} (hK : va_K D vwCl l0 s) (hK1 : va_K D vwCl (l0 ++ [(cA, .object C0)]) s) (ht : l0[t0]? = some (cB, .object C0)) : cA = cB := by
  obtain ⟨_, _, -, -, -, h1⟩ := (hK.2 t0 _ ht).2
  obtain ⟨_, _, -, -, -, h2⟩ := (hK1.2 l0.length (cA, .object C0) (by rw [List.getElem?_append_right (Nat.le_refl _)]; simp)).2
  exact Option.some.inj (h2.symm.trans h1)
theorem newq_any (C : Cx sc p R s m args meth c mt D b cy cs z0) {ix kd t0 : Nat} {C0 : String} {n : Int32} (hd : decode (mB mt.1) pc = .ok (.anewarray ix, 3)) (hlk : Cond.classLink (ownS (mC mt.1)) ix C0 ∈ gwl) (hov : va_AO C0 s) (h2 : 15 ≤ kd) (h3 : kd < 99) (ht : (tys cy)[t0]? = some (cy kd, .object C0)) (hn : ¬ n < 0 ∧ n.toNatClampNeg ≤ 100000) (hc : zc h + 1 ≤ z0 + R.cells) (hs : zs h + n.toNatClampNeg ≤ y0 + R.slots)
    (k : Go p l e R s m args below meth c mt D b cy cs z0 y0 Q (pc + 3) ls (.ref (zc h + 1) :: r) (nwC h kd n.toNatClampNeg)) : Go p l e R s m args below meth c mt D b cy cs z0 y0 Q pc ls (.int n :: r) h := by
  intro lsA H locs cells slots hz hy hw hS hl
  have hts := C.2.2.2.2.2.1
  have hK := C.2.2.2.2.2.2.2.2.1
  refine va_newq (D := D) C.1 C.2.1 C.2.2.2.2.1 (hts _ hlk) hov hK hw.1 wl_D hS (hA_of C) hn.1 rfl (by omega) (by omega) (by omega) hd (fun q cA H1 hK1 hP1 hD1 hS1 => ?_)
  obtain rfl : cA = cy kd := arr_clsO hK hK1 ht
  have e3 : zK (nwC h kd n.toNatClampNeg) (zc h + 1) = kd := va_up_self _ _ _
  refine made C hw hz hy rfl rfl (fun a ha => va_up_ne _ _ ha) ?_ (fun k hk => ceE_nwC hk) hP1 hD1 hS1 hl k
  rw [ceE_A e3 h2]
  have eN : zN (nwC h kd n.toNatClampNeg) (zc h + 1) = n.toNatClampNeg := va_up_self _ _ _
  have eA : (fun j => ad b (zA (nwC h kd n.toNatClampNeg) (zc h + 1) j)) = fun _ => none := by
    funext j
    have : zA (nwC h kd n.toNatClampNeg) (zc h + 1) j = 0 := by show va_up (zA h) (zc h + 1) (fun _ => 0) (zc h + 1) j = 0; rw [va_up_self]
    rw [this]
    rfl
  rw [eN, eA]
theorem so_anew (C : Cx sc p R s m args meth c mt D b cy cs z0) {ix kd z1 z2 : Nat} {n : Int32} (hd : decode (mB mt.1) pc = .ok (.anewarray ix, 3)) (hf : lAt (mC mt.1) ix = some (z1, z2, kd)) (h3 : kd = 0 ∨ kd = 4 ∨ kd = 5) (hn : ¬ n < 0 ∧ n.toNatClampNeg ≤ 100000) (hc : zc h + 1 ≤ z0 + R.cells) (hs : zs h + n.toNatClampNeg ≤ y0 + R.slots)
    (k : Go p l e R s m args below meth c mt D b cy cs z0 y0 Q (pc + 3) ls (.ref (zc h + 1) :: r) (nwC h (kar kd) n.toNatClampNeg)) : Go p l e R s m args below meth c mt D b cy cs z0 y0 Q pc ls (.int n :: r) h := by
  unfold lAt at hf
  have h1 := List.find?_some hf
  have h2 := lts _ (List.mem_of_find?_eq_some hf)
  simp only [Bool.and_eq_true, beq_iff_eq] at h1
  obtain ⟨rfl, rfl⟩ := h1
  obtain ⟨hk, hlk⟩ := h2
  have hNG := C.2.2.2.2.2.2.2.1
  rcases h3 with rfl | rfl | rfl
  · exact newq_any C (kd := 15) (t0 := 3) (C0 := RX0) hd hlk hNG.2.1 (by omega) (by omega) rfl hn hc hs k
  · exact newq_any C (kd := 16) (t0 := 4) (C0 := RX4) hd hlk hNG.2.2.1 (by omega) (by omega) rfl hn hc hs k
  · exact newq_any C (kd := 17) (t0 := 5) (C0 := RX5) hd hlk hNG.2.2.2.1 (by omega) (by omega) rfl hn hc hs k
end
