/-! The rows of calls. -/
theorem take_len {st r : List Value} {n : Nat} {v : Value} (h : st.drop n = v :: r) : (st.take n).length = n := by
  rw [List.length_take]
  have : st.length - n = r.length + 1 := by rw [← List.length_drop, h]; rfl
  omega
theorem take_st {st r : List Value} {n : Nat} {v : Value} (h : st.drop n = v :: r) (f : Value → Value) : st.map f = (((st.take n).reverse).map f).reverse ++ f v :: r.map f := by
  have e : st = st.take n ++ v :: r := by
    rw [← h]
    exact (List.take_append_drop n st).symm
  conv => lhs; rw [e]
  rw [List.map_append, List.map_reverse, List.reverse_reverse]
  rfl
section
variable {sc : Nat × (Nat → Int32)} {p : Program} {l : Launch} {e : Env} {R : Room} {s : State} {m : MethodId} {args : Array Value} {below : List Frame} {meth : Method} {c : Code} {mt : Mt} {D : va_G} {b : Nat} {cy : Nat → ClassId} {cs : Nat → Nat} {z0 y0 : Nat} {Q : State → Prop} {pc : Nat} {ls : Ls} {st r : List Value} {h : Hp}
theorem so_callV (C : Cx sc p R s m args meth c mt D b cy cs z0) {ix z1 z2 n a b1 d o : Nat} (hd : decode (mB mt.1) pc = .ok (.invokevirtual ix, 3)) (hf : mAt (mC mt.1) ix = some (z1, z2, 0, n, a, b1, d)) (hdrop : st.drop n = .ref o :: r) (hk : okc mt.1 (mro a) r = true ∧ zK h o = mC (mro a)) {r1 : Option Value} {h1 : Hp} (hcc : Cc sc a (.ref o :: (st.take n).reverse) h r1 h1) (hc1 : zc h1 ≤ z0 + R.cells) (hs1 : zs h1 ≤ y0 + R.slots)
    (k : Go p l e R s m args below meth c mt D b cy cs z0 y0 Q (pc + 3) ls (r1.toList ++ r) h1) : Go p l e R s m args below meth c mt D b cy cs z0 y0 Q pc ls st h := by
  intro lsA H locs cells slots hz hy hw hS hl
  refine W_sized (fun hsize => ?_)
  have C' := C
  obtain ⟨hx, hb, hr, hml, hown, hts, hlocks, hNG, hK, hni, hfr, hlo, hsz, hsta, -⟩ := C
  obtain ⟨ha, w1, w2, w3, hp, hci⟩ := mAt_ok hf
  obtain ⟨g1, g2, g3⟩ := okc_of hk.1
  obtain ⟨m1, m2, m3, m4, m5, m6, m7⟩ := (mtk_ok ha).1
  obtain ⟨C0, T, ty, hv, hin, hty, hnm, htp, hinst, hini, hown0⟩ := kds _ hci
  obtain ⟨q, rfl, hq, he⟩ := hw.obj hk.2 hci
  have hC0 : (mY (mro a)).cls = C0 := m7.symm.trans hown0
  have h2 := hcc.2.2.1
  have h3 := hcc.2.2.2.1
  rw [take_st hdrop]
  refine call_go C' h2 h3 hz hy hS hl (va_runV (C := (mY (mro a)).cls) (b := b + q) (As := ((st.take n).reverse).map (cnv b cs)) ⟨hx, hb, hml, hown, hts⟩ (met_of hcc l D b cy cs) (cwV n hts (gwl_in ?_) rfl rfl rfl ⟨rfl, m5, m6, hp⟩ ⟨?_, ?_⟩) ⟨Pk_blind, ?_, Pk_pre C' hz hw hS hsize _⟩ rfl ?_ hl.1 rfl ?_ hd ⟨?_, ?_⟩) k
  · intro w hw1
    rcases List.mem_append.mp hw1 with z | z
    · simp only [List.mem_cons, List.not_mem_nil, or_false] at z
      rcases z with rfl | rfl | rfl | rfl
      · exact w1
      · exact w2
      · exact w3
      · exact m2
    · exact wsk_in ha w z
  · show mF (mro a) + 1 ≤ R.frames
    omega
  · show 8 + (mL (mro a) + 11) + mW (mro a) ≤ R.locals
    omega
  · have := va_recv hK hw.1 hv he
    rw [hC0]
    exact this
  · rw [List.length_map, List.length_reverse, take_len hdrop]
  · exact lv_room (by rw [cnv_cats]; exact g3)
  · omega
  · omega
theorem so_callS (C : Cx sc p R s m args meth c mt D b cy cs z0) {ix z1 z2 n a b1 d : Nat} (hd : decode (mB mt.1) pc = .ok (.invokestatic ix, 3)) (hf : mAt (mC mt.1) ix = some (z1, z2, 2, n, a, b1, d)) (hk : okc mt.1 (mro a) (st.drop n) = true) (hlen : ((st.take n).reverse).length = ary a) {r1 : Option Value} {h1 : Hp} (hcc : Cc sc a ((st.take n).reverse) h r1 h1) (hc1 : zc h1 ≤ z0 + R.cells) (hs1 : zs h1 ≤ y0 + R.slots)
    (k : Go p l e R s m args below meth c mt D b cy cs z0 y0 Q (pc + 3) ls (r1.toList ++ st.drop n) h1) : Go p l e R s m args below meth c mt D b cy cs z0 y0 Q pc ls st h := by
  intro lsA H locs cells slots hz hy hw hS hl
  refine W_sized (fun hsize => ?_)
  have C' := C
  obtain ⟨hx, hb, hr, hml, hown, hts, hlocks, hNG, hK, hni, hfr, hlo, hsz, hsta, -⟩ := C
  obtain ⟨ha, w1, w2, hp⟩ := mAt_ok hf
  obtain ⟨g1, g2, g3⟩ := okc_of hk
  obtain ⟨m1, m2, m3, m4, m5, m6, m7⟩ := (mtk_ok ha).1
  have hn : n = ary a := by
    have := List.all_eq_true.mp ary_ok _ (List.mem_of_find?_eq_some hf)
    simpa using this
  have h2 := hcc.2.2.1
  have h3 := hcc.2.2.2.1
  have e : st.map (cnv b cs) = (((st.take n).reverse).map (cnv b cs)).reverse ++ (st.drop n).map (cnv b cs) := by
    rw [List.map_reverse, List.reverse_reverse, ← List.map_append, List.take_append_drop]
  rw [e]
  refine call_go C' h2 h3 hz hy hS hl (va_runS (As := ((st.take n).reverse).map (cnv b cs)) ⟨hx, hb, hml, hown, hts⟩ (met_of hcc l D b cy cs) (va_cwS n hts (gwl_in ?_) rfl rfl rfl ⟨m5, m6, hp⟩ ⟨?_, ?_⟩) ⟨Pk_blind, Pk_pre C' hz hw hS hsize _⟩ rfl ?_ hl.1 rfl ?_ hd ⟨?_, ?_⟩) k
  · intro w hw1
    rcases List.mem_append.mp hw1 with z | z
    · simp only [List.mem_cons, List.not_mem_nil, or_false] at z
      rcases z with rfl | rfl | rfl
      · exact w1
      · exact w2
      · exact m2
    · exact wsk_in ha w z
  · show mF (mro a) + 1 ≤ R.frames
    omega
  · show 8 + (mL (mro a) + 11) + mW (mro a) ≤ R.locals
    omega
  · rw [List.length_map, hlen, hn]
  · exact lv_room (by rw [cnv_cats]; exact g3)
  · omega
  · omega
theorem so_callI (C : Cx sc p R s m args meth c mt D b cy cs z0) {ix z1 z2 n a b1 d o : Nat} (hd : decode (mB mt.1) pc = .ok (.invokespecial ix, 3)) (hf : mAt (mC mt.1) ix = some (z1, z2, 3, n, a, b1, d)) (hdrop : st.drop n = .ref o :: r) (hk : okc mt.1 (mro a) r = true ∧ ¬ o = 0) {r1 : Option Value} {h1 : Hp} (hcc : Cc sc a (.ref o :: (st.take n).reverse) h r1 h1) (hc1 : zc h1 ≤ z0 + R.cells) (hs1 : zs h1 ≤ y0 + R.slots)
    (k : Go p l e R s m args below meth c mt D b cy cs z0 y0 Q (pc + 3) ls (r1.toList ++ r) h1) : Go p l e R s m args below meth c mt D b cy cs z0 y0 Q pc ls st h := by
  intro lsA H locs cells slots hz hy hw hS hl
  refine W_sized (fun hsize => ?_)
  have C' := C
  obtain ⟨hx, hb, hr, hml, hown, hts, hlocks, hNG, hK, hni, hfr, hlo, hsz, hsta, -⟩ := C
  obtain ⟨ha, w1, w2, hname, hp, hret⟩ := mAt_ok hf
  obtain ⟨g1, g2, g3⟩ := okc_of hk.1
  obtain ⟨m1, m2, m3, m4, m5, m6, m7⟩ := (mtk_ok ha).1
  obtain ⟨q, rfl⟩ : ∃ q, o = q + 1 := ⟨o - 1, by omega⟩
  have h2 := hcc.2.2.1
  have h3 := hcc.2.2.2.1
  have hwk : wsk a = Cond.code (mY (mro a)) (mB (mro a)) (mL (mro a)) none :: gwl := by
    unfold wsk
    rw [hret]
  rw [take_st hdrop]
  refine call_go C' h2 h3 hz hy hS hl (va_runI (b := b + q) (As := ((st.take n).reverse).map (cnv b cs)) ⟨hx, hb, hml, hown, hts⟩ (met_of hcc l D b cy cs) (cwI n hts (gwl_in (wsk_in ha)) hwk rfl rfl (hts _ m2) (hts _ w1) (hts _ w2) hname ⟨m5, m6, hp⟩ ⟨?_, ?_⟩) ⟨Pk_blind, Pk_pre C' hz hw hS hsize (.ref (q + 1) :: (st.take n).reverse)⟩ rfl ?_ hl.1 rfl ?_ hd ⟨?_, ?_⟩) k
  · show mF (mro a) + 1 ≤ R.frames
    omega
  · show 8 + (mL (mro a) + 11) + mW (mro a) ≤ R.locals
    omega
  · rw [List.length_map, List.length_reverse, take_len hdrop]
  · exact lv_room (by rw [cnv_cats]; exact g3)
  · omega
  · omega
theorem so_callIN (C : Cx sc p R s m args meth c mt D b cy cs z0) {ix z1 z2 n a b1 d o : Nat} (hd : decode (mB mt.1) pc = .ok (.invokespecial ix, 3)) (hf : mAt (mC mt.1) ix = some (z1, z2, 4, n, a, b1, d)) (hdrop : st.drop n = .ref o :: r) (hk : okc mt.1 (mro a) r = true ∧ ¬ o = 0) {r1 : Option Value} {h1 : Hp} (hcc : Cc sc a (.ref o :: (st.take n).reverse) h r1 h1) (hc1 : zc h1 ≤ z0 + R.cells) (hs1 : zs h1 ≤ y0 + R.slots)
    (k : Go p l e R s m args below meth c mt D b cy cs z0 y0 Q (pc + 3) ls (r1.toList ++ r) h1) : Go p l e R s m args below meth c mt D b cy cs z0 y0 Q pc ls st h := by
  intro lsA H locs cells slots hz hy hw hS hl
  refine W_sized (fun hsize => ?_)
  have C' := C
  obtain ⟨hx, hb, hr, hml, hown, hts, hlocks, hNG, hK, hni, hfr, hlo, hsz, hsta, -⟩ := C
  obtain ⟨ha, ⟨host, w1⟩, w2, hname, hp, hret⟩ := mAt_ok hf
  obtain ⟨g1, g2, g3⟩ := okc_of hk.1
  obtain ⟨m1, m2, m3, m4, m5, m6, m7⟩ := (mtk_ok ha).1
  obtain ⟨q, rfl⟩ : ∃ q, o = q + 1 := ⟨o - 1, by omega⟩
  have h2 := hcc.2.2.1
  have h3 := hcc.2.2.2.1
  have hwk : wsk a = Cond.code (mY (mro a)) (mB (mro a)) (mL (mro a)) none :: gwl := by
    unfold wsk
    rw [hret]
  rw [take_st hdrop]
  refine call_go C' h2 h3 hz hy hS hl (va_runIN (b := b + q) (As := ((st.take n).reverse).map (cnv b cs)) ⟨hx, hb, hml, hown, hts⟩ (met_of hcc l D b cy cs) ⟨va_cnB n hts (gwl_in (wsk_in ha)) hwk rfl rfl (hNG.1 _ w1) (hts _ m2) ⟨m5, m6, hp⟩ ⟨?_, ?_⟩, hname, hts _ w2⟩ ⟨Pk_blind, Pk_pre C' hz hw hS hsize (.ref (q + 1) :: (st.take n).reverse)⟩ rfl ?_ hl.1 rfl ?_ hd ⟨?_, ?_⟩) k
  · show mF (mro a) + 1 ≤ R.frames
    omega
  · show 8 + (mL (mro a) + 11) + mW (mro a) ≤ R.locals
    omega
  · rw [List.length_map, List.length_reverse, take_len hdrop]
  · exact lv_room (by rw [cnv_cats]; exact g3)
  · omega
  · omega
theorem callD_any (C : Cx sc p R s m args meth c mt D b cy cs z0) {ix n ci kk o : Nat} (hd : decode (mB mt.1) pc = .ok (.invokevirtual ix, 3)) (hds : DsP (mC mt.1) ix n ci kk) (h9 : kk < 999) (hci : ci < 12) (hdrop : st.drop n = .ref o :: r) (hk : okc mt.1 (mro kk) r = true) (hz0 : zK h o = ci) {r1 : Option Value} {h1 : Hp} (hcc : Cc sc kk (.ref o :: (st.take n).reverse) h r1 h1) (hc1 : zc h1 ≤ z0 + R.cells) (hs1 : zs h1 ≤ y0 + R.slots)
    (k : Go p l e R s m args below meth c mt D b cy cs z0 y0 Q (pc + 3) ls (r1.toList ++ r) h1) : Go p l e R s m args below meth c mt D b cy cs z0 y0 Q pc ls st h := by
  intro lsA H locs cells slots hz hy hw hS hl
  refine W_sized (fun hsize => ?_)
  have C' := C
  obtain ⟨hx, hb, hr, hml, hown, hts, hlocks, hNG, hK, hni, hfr, hlo, hsz, hsta, -⟩ := C
  obtain ⟨ha, x, w1, w2, w3, w4, w5, ⟨bb, mm, rr, w6⟩, hp⟩ := hds h9
  obtain ⟨g1, g2, g3⟩ := okc_of hk
  obtain ⟨m1, m2, m3, m4, m5, m6, m7⟩ := (mtk_ok ha).1
  obtain ⟨C0, T, ty, hv, hin, hty, hnm, htp, hinst, hini, hown0⟩ := kds _ hci
  obtain ⟨q, rfl, hq, he⟩ := hw.obj hz0 hci
  have h2 := hcc.2.2.1
  have h3 := hcc.2.2.2.1
  rw [take_st hdrop]
  refine call_go C' h2 h3 hz hy hS hl (va_runU (C := C0) (owner := RX4) (x := x) (b := b + q) (As := ((st.take n).reverse).map (cnv b cs)) (n := n) ⟨hx, hb, hml, hown, hts⟩ (met_of hcc l D b cy cs) ⟨⟨rfl, rfl, ?_, ?_, pay_in hts (gwl_in (wsk_in ha)), List.mem_cons_self⟩, hts _ m1, hts _ m2, ⟨by decide, by decide⟩, ?_, hts _ w1, hts _ w2, va_Decl.of (hts _ w5) (hts _ w6), ?_, hts _ w4⟩ ⟨Pk_blind, ?_, Pk_pre C' hz hw hS hsize (.ref (q + 1) :: (st.take n).reverse)⟩ rfl ?_ hl.1 rfl ?_ hd ⟨?_, ?_⟩) k
  · show mF (mro kk) + 1 ≤ R.frames
    omega
  · show 8 + (mL (mro kk) + 11) + mW (mro kk) ≤ R.locals
    omega
  · intro sig hsg
    unfold prm at hp
    rw [hsg] at hp
    exact (Option.some.inj hp).symm
  · have := hts _ w3
    rw [hown0] at this
    exact this
  · exact va_recv hK hw.1 hv he
  · rw [List.length_map, List.length_reverse, take_len hdrop]
  · exact lv_room (by rw [cnv_cats]; exact g3)
  · omega
  · omega
theorem so_callD (C : Cx sc p R s m args meth c mt D b cy cs z0) {ix z1 z2 n a b1 d o : Nat} (hd : decode (mB mt.1) pc = .ok (.invokevirtual ix, 3)) (hf : mAt (mC mt.1) ix = some (z1, z2, 5, n, a, b1, d)) (hdrop : st.drop n = .ref o :: r) (hk : okc mt.1 (mro (pck (zK h o) a b1 d)) r = true ∧ kin 4 (zK h o) = true ∧ pck (zK h o) a b1 d < 999) {r1 : Option Value} {h1 : Hp} (hcc : Cc sc (pck (zK h o) a b1 d) (.ref o :: (st.take n).reverse) h r1 h1) (hc1 : zc h1 ≤ z0 + R.cells) (hs1 : zs h1 ≤ y0 + R.slots)
    (k : Go p l e R s m args below meth c mt D b cy cs z0 y0 Q (pc + 3) ls (r1.toList ++ r) h1) : Go p l e R s m args below meth c mt D b cy cs z0 y0 Q pc ls st h := by
  obtain ⟨d1, d2, d3⟩ := mAt_ok hf
  obtain ⟨k1, k2, k3⟩ := hk
  have h4 : zK h o = 4 ∨ zK h o = 2 ∨ zK h o = 1 := by
    unfold kin at k2
    simp at k2
    omega
  rcases h4 with h4 | h4 | h4
  · rw [h4] at k1 k3 hcc
    exact callD_any C hd d1 k3 (by omega) hdrop k1 h4 hcc hc1 hs1 k
  · rw [h4] at k1 k3 hcc
    exact callD_any C hd d2 k3 (by omega) hdrop k1 h4 hcc hc1 hs1 k
  · rw [h4] at k1 k3 hcc
    exact callD_any C hd d3 k3 (by omega) hdrop k1 h4 hcc hc1 hs1 k
theorem so_callP (C : Cx sc p R s m args meth c mt D b cy cs z0) {ix z1 z2 n a b1 d o : Nat} (hd : decode (mB mt.1) pc = .ok (.invokespecial ix, 3)) (hf : mAt (mC mt.1) ix = some (z1, z2, 6, n, a, b1, d)) (hdrop : st.drop n = .ref o :: r) (hk : okc mt.1 (mro a) r = true ∧ kin 4 (zK h o) = true) {r1 : Option Value} {h1 : Hp} (hcc : Cc sc a (.ref o :: (st.take n).reverse) h r1 h1) (hc1 : zc h1 ≤ z0 + R.cells) (hs1 : zs h1 ≤ y0 + R.slots)
    (k : Go p l e R s m args below meth c mt D b cy cs z0 y0 Q (pc + 3) ls (r1.toList ++ r) h1) : Go p l e R s m args below meth c mt D b cy cs z0 y0 Q pc ls st h := by
  intro lsA H locs cells slots hz hy hw hS hl
  refine W_sized (fun hsize => ?_)
  have C' := C
  obtain ⟨hx, hb, hr, hml, hown, hts, hlocks, hNG, hK, hni, hfr, hlo, hsz, hsta, -⟩ := C
  obtain ⟨ha, w1, w2, w3, w4, hname, hp⟩ := mAt_ok hf
  obtain ⟨g1, g2, g3⟩ := okc_of hk.1
  obtain ⟨m1, m2, m3, m4, m5, m6, m7⟩ := (mtk_ok ha).1
  have hci : zK h o < 12 := kin_lt hk.2 (by omega)
  obtain ⟨C0, T, ty, hv, hin, hty, hnm, htp, hinst, hini, hown0⟩ := kds _ hci
  obtain ⟨q, rfl, hq, he⟩ := hw.obj rfl hci
  have h2 := hcc.2.2.1
  have h3 := hcc.2.2.2.1
  rw [take_st hdrop]
  refine call_go C' h2 h3 hz hy hS hl (va_runSU (C := C0) (b := b + q) (As := ((st.take n).reverse).map (cnv b cs)) (hK.1 _ _ hv).2 ⟨hx, hb, hml, hown, hts⟩ (met_of hcc l D b cy cs) (va_cwSU n hts (gwl_in ?_) rfl rfl rfl ⟨hname, hp⟩ ⟨?_, ?_⟩) ⟨Pk_blind, va_recv hK hw.1 hv he, Pk_pre C' hz hw hS hsize (.ref (q + 1) :: (st.take n).reverse)⟩ rfl ?_ hl.1 rfl ?_ hd ⟨?_, ?_⟩) k
  · intro w hw1
    rcases List.mem_append.mp hw1 with z | z
    · simp only [List.mem_cons, List.not_mem_nil, or_false] at z
      rcases z with rfl | rfl | rfl | rfl | rfl
      · exact w1
      · exact w2
      · exact w3
      · exact w4
      · exact m2
    · exact wsk_in ha w z
  · show mF (mro a) + 1 ≤ R.frames
    omega
  · show 8 + (mL (mro a) + 11) + mW (mro a) ≤ R.locals
    omega
  · rw [List.length_map, List.length_reverse, take_len hdrop]
  · exact lv_room (by rw [cnv_cats]; exact g3)
  · omega
  · omega
end
