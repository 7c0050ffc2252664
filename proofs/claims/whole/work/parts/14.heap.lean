/-! The rows that read and write the heap. -/
theorem ceE_congr {b : Nat} {cy : Nat → ClassId} {h h1 : Hp} {k : Nat} (e1 : zK h1 k = zK h k) (e2 : zN h1 k = zN h k) (e3 : zI h1 k = zI h k) (e4 : zJ h1 k = zJ h k) (e5 : zA h1 k = zA h k) : ceE b cy h1 k = ceE b cy h k := by
  unfold ceE fvs
  rw [e1, e2, e3, e4, e5]
theorem ceE_upI {b : Nat} {cy : Nat → ClassId} {h : Hp} {a j k : Nat} {v : Int32} (hk : k ≠ a) : ceE b cy (upI h a j v) k = ceE b cy h k := ceE_congr rfl rfl (va_up_ne _ _ hk) rfl rfl
theorem ceE_upJ {b : Nat} {cy : Nat → ClassId} {h : Hp} {a j k : Nat} {v : Int64} (hk : k ≠ a) : ceE b cy (upJ h a j v) k = ceE b cy h k := ceE_congr rfl rfl rfl (va_up_ne _ _ hk) rfl
theorem ceE_upA {b : Nat} {cy : Nat → ClassId} {h : Hp} {a j k v : Nat} (hk : k ≠ a) : ceE b cy (upA h a j v) k = ceE b cy h k := ceE_congr rfl rfl rfl rfl (va_up_ne _ _ hk)
theorem ceE_rwI {b : Nat} {cy : Nat → ClassId} {h : Hp} {a k : Nat} {f : Nat → Int32} (hk : k ≠ a) : ceE b cy (rwI h a f) k = ceE b cy h k := ceE_congr rfl rfl (va_up_ne _ _ hk) rfl rfl
theorem ceE_rwJ {b : Nat} {cy : Nat → ClassId} {h : Hp} {a k : Nat} {f : Nat → Int64} (hk : k ≠ a) : ceE b cy (rwJ h a f) k = ceE b cy h k := ceE_congr rfl rfl rfl (va_up_ne _ _ hk) rfl
theorem ceE_nwC {b : Nat} {cy : Nat → ClassId} {h : Hp} {kd n k : Nat} (hk : k ≠ zc h + 1) : ceE b cy (nwC h kd n) k = ceE b cy h k := ceE_congr (va_up_ne _ _ hk) (va_up_ne _ _ hk) (va_up_ne _ _ hk) (va_up_ne _ _ hk) (va_up_ne _ _ hk)
theorem ceE_nwI {b : Nat} {cy : Nat → ClassId} {h : Hp} {n k : Nat} {f : Nat → Int32} (hk : k ≠ zc h + 1) : ceE b cy (nwI h n f) k = ceE b cy h k := ceE_congr (va_up_ne _ _ hk) (va_up_ne _ _ hk) (va_up_ne _ _ hk) (va_up_ne _ _ hk) (va_up_ne _ _ hk)
theorem zI_upI (h : Hp) (a j : Nat) (v : Int32) (k i : Nat) : zI (upI h a j v) k i = if k = a then (if i = j then v else zI h a i) else zI h k i := by
  show va_up (zI h) a (upd (zI h a) j v) k i = _
  by_cases e : k = a
  · subst e
    rw [va_up_self, if_pos rfl]
    rfl
  · rw [va_up_ne _ _ e, if_neg e]
theorem zJ_upJ (h : Hp) (a j : Nat) (v : Int64) (k i : Nat) : zJ (upJ h a j v) k i = if k = a then (if i = j then v else zJ h a i) else zJ h k i := by
  show va_up (zJ h) a (vp_updL (zJ h a) j v) k i = _
  by_cases e : k = a
  · subst e
    rw [va_up_self, if_pos rfl]
    rfl
  · rw [va_up_ne _ _ e, if_neg e]
theorem zA_upA (h : Hp) (a j v k i : Nat) : zA (upA h a j v) k i = if k = a then (if i = j then v else zA h a i) else zA h k i := by
  show va_up (zA h) a (va_up (zA h a) j v) k i = _
  by_cases e : k = a
  · subst e
    rw [va_up_self, if_pos rfl]
    rfl
  · rw [va_up_ne _ _ e, if_neg e]
theorem fvs_setI {b : Nat} {h : Hp} {k c j : Nat} {x : Int32} (hj : ft c j ≠ 2) : (fvs b h k c).set j (.int x) = fvs b (upI h k j x) k c := by
  apply List.ext_getElem?
  intro i
  by_cases hi : i < nf c
  · rw [fvs_at (h := upI h k j x) hi]
    by_cases e : i = j
    · subst e
      rw [List.getElem?_set_self (by rw [fvs_len]; exact hi), if_neg hj]
      rw [zI_upI, if_pos rfl, if_pos rfl]
    · rw [List.getElem?_set_ne (Ne.symm e), fvs_at hi]
      rw [zI_upI, if_pos rfl, if_neg e]
      rfl
  · rw [List.getElem?_eq_none (by rw [List.length_set, fvs_len]; omega), List.getElem?_eq_none (by rw [fvs_len]; omega)]
theorem fvs_setA {b : Nat} {h : Hp} {k c j x : Nat} (hj : ft c j = 2) : (fvs b h k c).set j (va_rf (ad b x)) = fvs b (upA h k j x) k c := by
  apply List.ext_getElem?
  intro i
  by_cases hi : i < nf c
  · rw [fvs_at (h := upA h k j x) hi]
    by_cases e : i = j
    · subst e
      rw [List.getElem?_set_self (by rw [fvs_len]; exact hi), if_pos hj]
      rw [zA_upA, if_pos rfl, if_pos rfl]
    · rw [List.getElem?_set_ne (Ne.symm e), fvs_at hi]
      rw [zA_upA, if_pos rfl, if_neg e]
      rfl
  · rw [List.getElem?_eq_none (by rw [List.length_set, fvs_len]; omega), List.getElem?_eq_none (by rw [fvs_len]; omega)]
theorem kd_of {ci : Nat} {C : String} {T : u_T} (hv : vwCl[ci]? = some (C, T, nf ci)) : ci < 12 ∧ ∃ ty : Nat → FieldType, (∀ w ∈ u_ws C T (nf ci), w ∈ gwl) ∧ (∀ k, k < nf ci → parseFieldDescriptor (T k).2.2.1 = some (ty k)) ∧ (∀ a, a < nf ci → ∀ b, b < nf ci → a ≠ b → (T a).2.1 ≠ (T b).2.1) ∧ (∀ j, j < nf ci → (ft ci j = 0 ∧ ty j = .int) ∨ (ft ci j = 1 ∧ ty j = .boolean) ∨ (ft ci j = 2 ∧ tyRef (ty j) = true)) ∧ Cond.instantiable C (nf ci) ∈ gwl ∧ Cond.initialized C ∈ gwl ∧ ownS ci = C := by
  have hl : ci < 12 := (List.getElem?_eq_some_iff.mp hv).1
  obtain ⟨C', T', ty, h1, h2⟩ := kds ci hl
  have e := Option.some.inj (hv.symm.trans h1)
  simp only [Prod.mk.injEq] at e
  obtain ⟨rfl, rfl, -⟩ := e
  exact ⟨hl, ty, h2⟩
theorem fAt_ok {c ix j bb : Nat} {z1 z2 : Nat} (h : fAt c ix = some (z1, z2, j, bb)) : FtP (c, ix, j, bb) := by
  unfold fAt at h
  have h1 := List.find?_some h
  have h2 := fts _ (List.mem_of_find?_eq_some h)
  simp only [Bool.and_eq_true, beq_iff_eq] at h1
  obtain ⟨rfl, rfl⟩ := h1
  exact h2
theorem kin_lt {bb ci : Nat} (h : kin bb ci = true) (hb : bb < 12) : ci < 12 := by
  unfold kin at h
  simp at h
  omega
theorem tyRef_ok {t : FieldType} {x : Option Nat} (h : tyRef t = true) : narrow t (va_rf x) = va_rf x ∧ fits t (va_rf x) = true := by
  cases t <;> first | (cases h; done) | (cases x <;> exact ⟨rfl, rfl⟩)
theorem b01 {v : Int32} (h : v = 0 ∨ v = 1) : narrow .boolean (.int v) = .int v ∧ fits .boolean (.int v) = true := by
  rcases h with rfl | rfl <;> exact ⟨rfl, rfl⟩
section
variable {sc : Nat × (Nat → Int32)} {p : Program} {l : Launch} {e : Env} {R : Room} {s : State} {m : MethodId} {args : Array Value} {below : List Frame} {meth : Method} {c : Code} {mt : Mt} {D : va_G} {b : Nat} {cy : Nat → ClassId} {cs : Nat → Nat} {z0 y0 : Nat} {Q : State → Prop} {pc : Nat} {ls : Ls} {st r : List Value} {h : Hp}
theorem HW.obj {H : Heap} (hw : HW D b cy h H) {a ci : Nat} (hk : zK h a = ci) (hc : ci < 12) : ∃ q, a = q + 1 ∧ q < zc h ∧ (wl b cy h)[q]? = some (b + q, .inr (ci, fvs b h (q + 1) ci)) := by
  obtain ⟨q, rfl, hq⟩ := hw.live (a := a) (by rw [hk]; omega)
  exact ⟨q, rfl, hq, by rw [wl_at hq, ceE_obj hk hc]⟩
theorem so_getfield (C : Cx sc p R s m args meth c mt D b cy cs z0) {ix j bb a z1 z2 : Nat} (hd : decode (mB mt.1) pc = .ok (.getfield ix, 3)) (hf : fAt (mC mt.1) ix = some (z1, z2, j, bb)) (hk : kin bb (zK h a) = true) (k : Go p l e R s m args below meth c mt D b cy cs z0 y0 Q (pc + 3) ls ((if ft bb j = 2 then .ref (zA h a j) else .int (zI h a j)) :: r) h) : Go p l e R s m args below meth c mt D b cy cs z0 y0 Q pc ls (.ref a :: r) h := by
  intro lsA H locs cells slots hz hy hw hS hl
  have k1 := k lsA H locs cells slots hz hy hw hS hl
  obtain ⟨hx, hb, hr, hml, hown, hts, hlocks, hNG, hK, -⟩ := C
  obtain ⟨C0, T, hv, hj, hft, hfin, ref, hlk, hsm⟩ := fAt_ok hf _ hk
  obtain ⟨hci, ty, hin, -⟩ := kd_of hv
  obtain ⟨q, rfl, hq, he⟩ := hw.obj rfl hci
  have hval : (fvs b h (q + 1) (zK h (q + 1)))[j]? = some (cnv b cs (if ft bb j = 2 then .ref (zA h (q + 1) j) else .int (zI h (q + 1) j))) := by
    rw [fvs_at hj, hft]
    split <;> rfl
  have hsame : ∀ x, s.fieldFound? (T j).1 (T j).2.1 (T j).2.2.1 = some x → s.fieldFound? ref (T j).2.1 (T j).2.2.1 = some x := by
    intro x hx9
    rcases hsm with q1 | q1
    · rw [← q1]
      exact hx9
    · exact u_same (hts _ q1) x hx9
  rcases hlk with ⟨h1, -⟩ | ⟨host, h1, -⟩
  · exact va_get (D := D) hx hb hts hin hown hK hw.1 q he hv j hj (hts _ h1) hsame hval hd k1
  · exact va_getN (D := D) hx hb hts hin hown hK hw.1 q he hv j hj (va_Nw.use rfl (hNG.1 _ h1)) hsame hval hd k1
theorem put_any (C : Cx sc p R s m args meth c mt D b cy cs z0) {ix j bb q z1 z2 : Nat} {v : Value} {h1 : Hp} (hd : decode (mB mt.1) pc = .ok (.putfield ix, 3)) (hf : fAt (mC mt.1) ix = some (z1, z2, j, bb)) (hp : pok (mC mt.1) ix = true) (hn : fin (mC mt.1) ix = true → (mY mt.1).name = "<init>") (hk : kin bb (zK h (q + 1)) = true)
    (hok : ∀ t : FieldType, (ft bb j = 0 ∧ t = .int) ∨ (ft bb j = 1 ∧ t = .boolean) ∨ (ft bb j = 2 ∧ tyRef t = true) → narrow t (cnv b cs v) = cnv b cs v ∧ fits t (cnv b cs v) = true)
    (hset : ∀ ci, ft ci j = ft bb j → (fvs b h (q + 1) ci).set j (cnv b cs v) = fvs b h1 (q + 1) ci) (e1 : zc h1 = zc h) (e2 : zs h1 = zs h) (e3 : zK h1 = zK h) (ho : ∀ k, k ≠ q + 1 → ceE b cy h1 k = ceE b cy h k)
    (k : Go p l e R s m args below meth c mt D b cy cs z0 y0 Q (pc + 3) ls r h1) : Go p l e R s m args below meth c mt D b cy cs z0 y0 Q pc ls (v :: .ref (q + 1) :: r) h := by
  intro lsA H locs cells slots hz hy hw hS hl
  obtain ⟨hx, hb, hr, hml, hown, hts, hlocks, hNG, hK, hni, -⟩ := C
  obtain ⟨C0, T, hv, hj, hft, hfin, ref, hlk, hsm⟩ := fAt_ok hf _ hk
  obtain ⟨hci, ty, hin, hty, hnm, htp, -⟩ := kd_of hv
  obtain ⟨q', hq', hq, he⟩ := hw.obj rfl hci
  obtain rfl : q = q' := by omega
  have hsame : ∀ x, s.fieldFound? (T j).1 (T j).2.1 (T j).2.2.1 = some x → s.fieldFound? ref (T j).2.1 (T j).2.2.1 = some x := by
    intro x hx9
    rcases hsm with q1 | q1
    · rw [← q1]
      exact hx9
    · exact u_same (hts _ q1) x hx9
  have hh := hok (ty j) (by have := htp j hj; rw [hft] at this; exact this)
  have hkk : ∀ (H1 : Heap) (locs1 : List Loc), va_P D vwCl ((wl b cy h).set q (b + q, .inr (zK h (q + 1), (fvs b h (q + 1) (zK h (q + 1))).set j (cnv b cs v)))) H1 → va_D (Ab b) ((wl b cy h).set q (b + q, .inr (zK h (q + 1), (fvs b h (q + 1) (zK h (q + 1))).set j (cnv b cs v)))) → va_S (Ab b) s.heap H1 locs1 → W p l e R s m args below meth c H1 locs1 cells slots Q (F0 m (pc + 3) lsA (r.map (cnv b cs))) := by
    intro H1 locs1 hP1 hD1 hS1
    rw [hset _ hft] at hP1
    have e4 : ceE b cy h1 (q + 1) = .inr (zK h (q + 1), fvs b h1 (q + 1) (zK h (q + 1))) := ceE_obj (by rw [e3]) hci
    rw [wl_set e1 hq e4 ho] at hP1
    exact k lsA H1 locs1 cells slots (by rw [e1]; exact hz) (by rw [e2]; exact hy) ⟨hP1, fun a ha => by rw [e3]; exact hw.2 a (by rw [← e1]; exact ha)⟩ hS1 hl
  have hlen : j < (fvs b h (q + 1) (zK h (q + 1))).length := by rw [fvs_len]; exact hj
  rcases hlk with ⟨h2, h3⟩ | ⟨host, h2, h3⟩
  · cases hfi : (T j).2.2.2 with
    | false => exact va_put (D := D) hx hb hts hin ty hty hnm hown hK hw.1 wl_D hS q he hv j hj (hts _ h2) hsame hfi (hty j hj) hh.1 hh.2 hlen hd hkk
    | true => exact va_putF (D := D) hx hb hts hin ty hty hnm hown hK hw.1 wl_D hS q he hv j hj (hts _ h2) hsame hfi (hni (hn (by rw [← hfin]; exact hfi))) (h3 hp hfi) (hty j hj) hh.1 hh.2 hlen hd hkk
  · exact va_putN (D := D) hx hb hts hin ty hty hnm hown hK hw.1 wl_D hS q he hv j hj (va_Nw.use rfl (hNG.1 _ h2)) hsame (h3 hp) (hty j hj) hh.1 hh.2 hlen hd hkk
theorem so_putI (C : Cx sc p R s m args meth c mt D b cy cs z0) {ix j bb a z1 z2 : Nat} {v : Int32} (hd : decode (mB mt.1) pc = .ok (.putfield ix, 3)) (hf : fAt (mC mt.1) ix = some (z1, z2, j, bb)) (hp : pok (mC mt.1) ix = true) (hn : fin (mC mt.1) ix = true → (mY mt.1).name = "<init>") (hk : kin bb (zK h a) = true) (ht : ft bb j = 0 ∨ (ft bb j = 1 ∧ (v = 0 ∨ v = 1)))
    (k : Go p l e R s m args below meth c mt D b cy cs z0 y0 Q (pc + 3) ls r (upI h a j v)) : Go p l e R s m args below meth c mt D b cy cs z0 y0 Q pc ls (.int v :: .ref a :: r) h := by
  intro lsA H locs cells slots hz hy hw hS hl
  obtain ⟨C0, T, hv, -⟩ := fAt_ok hf _ hk
  obtain ⟨q, rfl, hq⟩ := hw.live (a := a) (by have := (kd_of hv).1; omega)
  have h2 : ft bb j ≠ 2 := by rcases ht with q | q <;> omega
  refine put_any (v := .int v) C hd hf hp hn hk ?_ (fun ci hci => fvs_setI (by rw [hci]; exact h2)) rfl rfl rfl (fun k hk => ceE_upI hk) k lsA H locs cells slots hz hy hw hS hl
  intro t htt
  show narrow t (.int v) = .int v ∧ fits t (.int v) = true
  rcases htt with ⟨q1, rfl⟩ | ⟨q1, rfl⟩ | ⟨q1, q2⟩
  · exact ⟨rfl, rfl⟩
  · rcases ht with z | z
    · omega
    · exact b01 z.2
  · exact absurd q1 h2
theorem so_putA (C : Cx sc p R s m args meth c mt D b cy cs z0) {ix j bb a z1 z2 v : Nat} (hd : decode (mB mt.1) pc = .ok (.putfield ix, 3)) (hf : fAt (mC mt.1) ix = some (z1, z2, j, bb)) (hp : pok (mC mt.1) ix = true) (hn : fin (mC mt.1) ix = true → (mY mt.1).name = "<init>") (hk : kin bb (zK h a) = true) (ht : ft bb j = 2)
    (k : Go p l e R s m args below meth c mt D b cy cs z0 y0 Q (pc + 3) ls r (upA h a j v)) : Go p l e R s m args below meth c mt D b cy cs z0 y0 Q pc ls (.ref v :: .ref a :: r) h := by
  intro lsA H locs cells slots hz hy hw hS hl
  obtain ⟨C0, T, hv, -⟩ := fAt_ok hf _ hk
  obtain ⟨q, rfl, hq⟩ := hw.live (a := a) (by have := (kd_of hv).1; omega)
  refine put_any (v := .ref v) C hd hf hp hn hk ?_ (fun ci hci => fvs_setA (by rw [hci]; exact ht)) rfl rfl rfl (fun k hk => ceE_upA hk) k lsA H locs cells slots hz hy hw hS hl
  intro t htt
  rcases htt with ⟨q1, rfl⟩ | ⟨q1, rfl⟩ | ⟨q1, q2⟩
  · omega
  · omega
  · exact tyRef_ok q2
theorem so_getstatic (C : Cx sc p R s m args meth c mt D b cy cs z0) {ix t z1 z2 : Nat} (hd : decode (mB mt.1) pc = .ok (.getstatic ix, 3)) (hf : sAt (mC mt.1) ix = some (z1, z2, t)) (k : Go p l e R s m args below meth c mt D b cy cs z0 y0 Q (pc + 3) ls (.retAddr t :: st) h) : Go p l e R s m args below meth c mt D b cy cs z0 y0 Q pc ls st h := by
  intro lsA H locs cells slots hz hy hw hS hl
  have k1 := k lsA H locs cells slots hz hy hw hS hl
  obtain ⟨hx, hb, hr, hml, hown, hts, hlocks, hNG, hK, hni, hfr, hlo, hsz, hsta, -⟩ := C
  unfold sAt at hf
  have h1 := List.find?_some hf
  have h2 := sts _ (List.mem_of_find?_eq_some hf)
  simp only [Bool.and_eq_true, beq_iff_eq] at h1
  obtain ⟨rfl, rfl⟩ := h1
  obtain ⟨ht, h3⟩ := h2
  have hZ := (hsta.1 t ht).1
  rcases h3 with h3 | ⟨host, h3⟩
  · exact va_gets hx hb hZ hS hown (hts _ h3) (fun _ z => z) hd k1
  · exact va_getsN hx hb hZ hS hown (va_Nw.use rfl (hNG.1 _ h3)) (fun _ z => z) hd k1
theorem HW.arI {H : Heap} (hw : HW D b cy h H) {a : Nat} (hk : zK h a = 12) : ∃ q, a = q + 1 ∧ q < zc h ∧ (wl b cy h)[q]? = some (b + q, .inl (cy 12, zN h a, .inl (zI h a))) := by
  obtain ⟨q, rfl, hq⟩ := hw.live (a := a) (by omega)
  exact ⟨q, rfl, hq, by rw [wl_at hq, ceE_I hk]⟩
theorem HW.arJ {H : Heap} (hw : HW D b cy h H) {a : Nat} (hk : zK h a = 13) : ∃ q, a = q + 1 ∧ q < zc h ∧ (wl b cy h)[q]? = some (b + q, .inl (cy 13, zN h a, .inr (.inl (zJ h a)))) := by
  obtain ⟨q, rfl, hq⟩ := hw.live (a := a) (by omega)
  exact ⟨q, rfl, hq, by rw [wl_at hq, ceE_J hk]⟩
theorem HW.arZ {H : Heap} (hw : HW D b cy h H) {a : Nat} (hk : zK h a = 14) : ∃ q, a = q + 1 ∧ q < zc h ∧ (wl b cy h)[q]? = some (b + q, .inl (cy 14, zN h a, .inl (zI h a))) := by
  obtain ⟨q, rfl, hq⟩ := hw.live (a := a) (by omega)
  exact ⟨q, rfl, hq, by rw [wl_at hq, ceE_Z hk]⟩
theorem HW.arA {H : Heap} (hw : HW D b cy h H) {a kd : Nat} (hk : zK h a = kd) (h1 : 15 ≤ kd) (h2 : kd < 99) : ∃ q, a = q + 1 ∧ q < zc h ∧ (wl b cy h)[q]? = some (b + q, .inl (cy kd, zN h a, .inr (.inr (.inr (.inr (fun j => ad b (zA h a j))))))) := by
  obtain ⟨q, rfl, hq⟩ := hw.live (a := a) (by omega)
  exact ⟨q, rfl, hq, by rw [wl_at hq, ceE_A hk h1]⟩
theorem so_iaload (C : Cx sc p R s m args meth c mt D b cy cs z0) {a : Nat} {i : Int32} (hd : decode (mB mt.1) pc = .ok (.iaload, 1)) (hk : zK h a = 12 ∧ inB i (zN h a) = true) (k : Go p l e R s m args below meth c mt D b cy cs z0 y0 Q (pc + 1) ls (.int (zI h a i.toNatClampNeg) :: r) h) : Go p l e R s m args below meth c mt D b cy cs z0 y0 Q pc ls (.int i :: .ref a :: r) h := by
  intro lsA H locs cells slots hz hy hw hS hl
  obtain ⟨q, rfl, hq, he⟩ := hw.arI hk.1
  exact va_iald C.1 C.2.1 C.2.2.2.2.2.2.2.2.1 hw.1 q 0 he rfl (inB_iff.mp hk.2) hd (k lsA H locs cells slots hz hy hw hS hl)
theorem so_baload (C : Cx sc p R s m args meth c mt D b cy cs z0) {a : Nat} {i : Int32} (hd : decode (mB mt.1) pc = .ok (.baload, 1)) (hk : zK h a = 14 ∧ inB i (zN h a) = true) (k : Go p l e R s m args below meth c mt D b cy cs z0 y0 Q (pc + 1) ls (.int (zI h a i.toNatClampNeg) :: r) h) : Go p l e R s m args below meth c mt D b cy cs z0 y0 Q pc ls (.int i :: .ref a :: r) h := by
  intro lsA H locs cells slots hz hy hw hS hl
  obtain ⟨q, rfl, hq, he⟩ := hw.arZ hk.1
  exact va_zald C.1 C.2.1 C.2.2.2.2.2.2.2.2.1 hw.1 q 2 he rfl (inB_iff.mp hk.2) hd (k lsA H locs cells slots hz hy hw hS hl)
theorem so_laload (C : Cx sc p R s m args meth c mt D b cy cs z0) {a : Nat} {i : Int32} (hd : decode (mB mt.1) pc = .ok (.laload, 1)) (hk : zK h a = 13 ∧ inB i (zN h a) = true) (k : Go p l e R s m args below meth c mt D b cy cs z0 y0 Q (pc + 1) ls (.long (zJ h a i.toNatClampNeg) :: r) h) : Go p l e R s m args below meth c mt D b cy cs z0 y0 Q pc ls (.int i :: .ref a :: r) h := by
  intro lsA H locs cells slots hz hy hw hS hl
  obtain ⟨q, rfl, hq, he⟩ := hw.arJ hk.1
  exact va_lald C.1 C.2.1 C.2.2.2.2.2.2.2.2.1 hw.1 q 1 he rfl (inB_iff.mp hk.2) hd (k lsA H locs cells slots hz hy hw hS hl)
theorem so_aaload (C : Cx sc p R s m args meth c mt D b cy cs z0) {a : Nat} {i : Int32} (hd : decode (mB mt.1) pc = .ok (.aaload, 1)) (hk : aar (zK h a) = true ∧ inB i (zN h a) = true) (k : Go p l e R s m args below meth c mt D b cy cs z0 y0 Q (pc + 1) ls (.ref (zA h a i.toNatClampNeg) :: r) h) : Go p l e R s m args below meth c mt D b cy cs z0 y0 Q pc ls (.int i :: .ref a :: r) h := by
  intro lsA H locs cells slots hz hy hw hS hl
  have h3 : zK h a = 15 ∨ zK h a = 16 ∨ zK h a = 17 := by
    have := hk.1
    unfold aar at this
    simp at this
    omega
  have k1 := k lsA H locs cells slots hz hy hw hS hl
  rcases h3 with h3 | h3 | h3
  · obtain ⟨q, rfl, hq, he⟩ := hw.arA h3 (by omega) (by omega)
    exact va_aldq C.1 C.2.1 C.2.2.2.2.2.2.2.2.1 hw.1 q 3 he rfl (inB_iff.mp hk.2) hd k1
  · obtain ⟨q, rfl, hq, he⟩ := hw.arA h3 (by omega) (by omega)
    exact va_aldq C.1 C.2.1 C.2.2.2.2.2.2.2.2.1 hw.1 q 4 he rfl (inB_iff.mp hk.2) hd k1
  · obtain ⟨q, rfl, hq, he⟩ := hw.arA h3 (by omega) (by omega)
    exact va_aldq C.1 C.2.1 C.2.2.2.2.2.2.2.2.1 hw.1 q 5 he rfl (inB_iff.mp hk.2) hd k1
theorem so_alen (C : Cx sc p R s m args meth c mt D b cy cs z0) {a : Nat} (hd : decode (mB mt.1) pc = .ok (.arraylength, 1)) (hk : zK h a = 12 ∨ zK h a = 13) (k : Go p l e R s m args below meth c mt D b cy cs z0 y0 Q (pc + 1) ls (.int (Int32.ofNat (zN h a)) :: r) h) : Go p l e R s m args below meth c mt D b cy cs z0 y0 Q pc ls (.ref a :: r) h := by
  intro lsA H locs cells slots hz hy hw hS hl
  have k1 := k lsA H locs cells slots hz hy hw hS hl
  rcases hk with hk | hk
  · obtain ⟨q, rfl, hq, he⟩ := hw.arI hk
    exact va_alen C.1 C.2.1 C.2.2.2.2.2.2.2.2.1 hw.1 q 0 he rfl rfl hd k1
  · obtain ⟨q, rfl, hq, he⟩ := hw.arJ hk
    exact va_alen C.1 C.2.1 C.2.2.2.2.2.2.2.2.1 hw.1 q 1 he rfl rfl hd k1
theorem so_slen (C : Cx sc p R s m args meth c mt D b cy cs z0) (hd : decode (mB mt.1) pc = .ok (.arraylength, 1)) (k : Go p l e R s m args below meth c mt D b cy cs z0 y0 Q (pc + 1) ls (.int (Int32.ofNat sc.1) :: r) h) : Go p l e R s m args below meth c mt D b cy cs z0 y0 Q pc ls (.retAddr 5 :: r) h := by
  intro lsA H locs cells slots hz hy hw hS hl
  have k1 := k lsA H locs cells slots hz hy hw hS hl
  obtain ⟨hx, hb, hr, hml, hown, hts, hlocks, hNG, hK, hni, hfr, hlo, hsz, hsta, -⟩ := C
  exact va_slen hx hb hsta.2.1 (by have := hsta.2.2; omega) (fun z => absurd z (Nat.not_le.mpr hsta.2.2)) hS hd k1
theorem so_sload (C : Cx sc p R s m args meth c mt D b cy cs z0) {i : Int32} (hd : decode (mB mt.1) pc = .ok (.iaload, 1)) (hk : inB i sc.1 = true) (k : Go p l e R s m args below meth c mt D b cy cs z0 y0 Q (pc + 1) ls (.int (sc.2 i.toNatClampNeg) :: r) h) : Go p l e R s m args below meth c mt D b cy cs z0 y0 Q pc ls (.int i :: .retAddr 5 :: r) h := by
  intro lsA H locs cells slots hz hy hw hS hl
  have k1 := k lsA H locs cells slots hz hy hw hS hl
  obtain ⟨hx, hb, hr, hml, hown, hts, hlocks, hNG, hK, hni, hfr, hlo, hsz, hsta, -⟩ := C
  exact va_sld hx hb hsta.2.1 (by have := hsta.2.2; omega) (fun z => absurd z (Nat.not_le.mpr hsta.2.2)) hS (inB_iff.mp hk) hd k1
theorem so_tload (C : Cx sc p R s m args meth c mt D b cy cs z0) {i : Int32} {t : Nat} (hd : decode (mB mt.1) pc = .ok (.iaload, 1)) (ht : t < 3) (hk : inB i (stN t) = true) (k : Go p l e R s m args below meth c mt D b cy cs z0 y0 Q (pc + 1) ls (.int (stI t i.toNatClampNeg) :: r) h) : Go p l e R s m args below meth c mt D b cy cs z0 y0 Q pc ls (.int i :: .retAddr t :: r) h := by
  intro lsA H locs cells slots hz hy hw hS hl
  have k1 := k lsA H locs cells slots hz hy hw hS hl
  obtain ⟨hx, hb, hr, hml, hown, hts, hlocks, hNG, hK, hni, hfr, hlo, hsz, hsta, -⟩ := C
  have hT := (hsta.1 t (by omega)).2
  rw [show stT t = .int by unfold stT; rw [if_neg (by omega), if_neg (by omega)]] at hT
  exact va_ti hx hb hT hS (inB_iff.mp hk) (v := .int (stI t i.toNatClampNeg)) (by unfold stv; rw [if_neg (by omega)]) hd k1
theorem so_caload (C : Cx sc p R s m args meth c mt D b cy cs z0) {i : Int32} (hd : decode (mB mt.1) pc = .ok (.caload, 1)) (hk : inB i 4 = true) (k : Go p l e R s m args below meth c mt D b cy cs z0 y0 Q (pc + 1) ls (.int (stI 3 i.toNatClampNeg) :: r) h) : Go p l e R s m args below meth c mt D b cy cs z0 y0 Q pc ls (.int i :: .retAddr 3 :: r) h := by
  intro lsA H locs cells slots hz hy hw hS hl
  have k1 := k lsA H locs cells slots hz hy hw hS hl
  obtain ⟨hx, hb, hr, hml, hown, hts, hlocks, hNG, hK, hni, hfr, hlo, hsz, hsta, -⟩ := C
  exact va_tc hx hb (hsta.1 3 (by omega)).2 hS (inB_iff.mp hk) (v := .int (stI 3 i.toNatClampNeg)) rfl hd k1
theorem so_tlload (C : Cx sc p R s m args meth c mt D b cy cs z0) {i : Int32} (hd : decode (mB mt.1) pc = .ok (.laload, 1)) (hk : inB i 5 = true) (k : Go p l e R s m args below meth c mt D b cy cs z0 y0 Q (pc + 1) ls (.long (stJ i.toNatClampNeg) :: r) h) : Go p l e R s m args below meth c mt D b cy cs z0 y0 Q pc ls (.int i :: .retAddr 4 :: r) h := by
  intro lsA H locs cells slots hz hy hw hS hl
  have k1 := k lsA H locs cells slots hz hy hw hS hl
  obtain ⟨hx, hb, hr, hml, hown, hts, hlocks, hNG, hK, hni, hfr, hlo, hsz, hsta, -⟩ := C
  exact va_tl hx hb (hsta.1 4 (by omega)).2 hS (inB_iff.mp hk) (v := .long (stJ i.toNatClampNeg)) rfl hd k1
end
