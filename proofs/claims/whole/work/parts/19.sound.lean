section
variable {sc : Nat × (Nat → Int32)} {p : Program} {l : Launch} {e : Env} {R : Room} {s : State} {m : MethodId} {args : Array Value} {below : List Frame} {meth : Method} {c : Code} {mt : Mt} {D : va_G} {b : Nat} {cy : Nat → ClassId} {cs : Nat → Nat} {z0 y0 : Nat} {Q : State → Prop} {pc : Nat} {ls : Ls} {st r : List Value} {h : Hp}
set_option maxHeartbeats 4000000 in
theorem sound_go (C : Cx sc p R s m args meth c mt D b cy cs z0) {P : Prop} {pc' : Nat} {ls' : Ls} {st' : List Value} {h1 : Hp} (hs : stp sc mt pc ls st h = some (.inl (P, pc', ls', st', h1))) (hP : P) (hc1 : zc h1 ≤ z0 + R.cells) (hs1 : zs h1 ≤ y0 + R.slots) (k : Go p l e R s m args below meth c mt D b cy cs z0 y0 Q pc' ls' st' h1) : Go p l e R s m args below meth c mt D b cy cs z0 y0 Q pc ls st h := by
  have hck : CkP mt.1 mt.2 := C.2.2.2.2.2.2.2.2.2.2.2.2.2.2.1
  have hstk : stok mt = true := C.2.2.2.2.2.2.2.2.2.2.2.2.2.2.2
  unfold stp at hs
  cases hr : cAt mt.2 pc with
  | none =>
    rw [hr] at hs
    cases hs
  | some row =>
    rw [hr] at hs
    obtain ⟨e0, hok, hmem⟩ := cAt_ok hr hck hstk
    have hst1 := List.all_eq_true.mp hstk _ hmem
    obtain ⟨q0, nx, i, tg, cv⟩ := row
    dsimp only at e0 hs hst1
    subst e0
    unfold rowOK at hok
    simp only [Bool.and_eq_true, decide_eq_true_eq] at hok
    obtain ⟨⟨hdec, hlen⟩, hxx⟩ := hok
    cases i with
    | iconst n =>
      (try dsimp only at hs); (try dsimp only at hst1); (try dsimp only at hxx)
      simp only [decide_eq_true_eq] at hlen
      subst hlen
      have hd : decode (mB mt.1) q0 = .ok (.iconst n, 1) := by simpa [ilen] using hdec
      simp only [go, Option.some.injEq, Sum.inl.injEq, Prod.mk.injEq] at hs
      obtain ⟨rfl, rfl, rfl, rfl, rfl⟩ := hs
      simp only [decide_eq_true_eq] at hxx
      subst hxx
      exact so_iconst C hd rfl k
    | bipush n =>
      (try dsimp only at hs); (try dsimp only at hst1); (try dsimp only at hxx)
      simp only [decide_eq_true_eq] at hlen
      subst hlen
      have hd : decode (mB mt.1) q0 = .ok (.bipush n, 2) := by simpa [ilen] using hdec
      simp only [go, Option.some.injEq, Sum.inl.injEq, Prod.mk.injEq] at hs
      obtain ⟨rfl, rfl, rfl, rfl, rfl⟩ := hs
      simp only [decide_eq_true_eq] at hxx
      subst hxx
      exact so_bipush C hd rfl k
    | sipush n =>
      (try dsimp only at hs); (try dsimp only at hst1); (try dsimp only at hxx)
      simp only [decide_eq_true_eq] at hlen
      subst hlen
      have hd : decode (mB mt.1) q0 = .ok (.sipush n, 3) := by simpa [ilen] using hdec
      simp only [go, Option.some.injEq, Sum.inl.injEq, Prod.mk.injEq] at hs
      obtain ⟨rfl, rfl, rfl, rfl, rfl⟩ := hs
      simp only [decide_eq_true_eq] at hxx
      subst hxx
      exact so_sipush C hd rfl k
    | lconst n =>
      (try dsimp only at hs); (try dsimp only at hst1); (try dsimp only at hxx)
      simp only [decide_eq_true_eq] at hlen
      subst hlen
      have hd : decode (mB mt.1) q0 = .ok (.lconst n, 1) := by simpa [ilen] using hdec
      simp only [go, Option.some.injEq, Sum.inl.injEq, Prod.mk.injEq] at hs
      obtain ⟨rfl, rfl, rfl, rfl, rfl⟩ := hs
      simp only [decide_eq_true_eq] at hxx
      subst hxx
      exact so_lconst C hd rfl k
    | ldc ix =>
      (try dsimp only at hs); (try dsimp only at hst1); (try dsimp only at hxx)
      simp only [decide_eq_true_eq] at hlen
      subst hlen
      have hd : decode (mB mt.1) q0 = .ok (.ldc ix, 2) := by simpa [ilen] using hdec
      simp only [go, Option.some.injEq, Sum.inl.injEq, Prod.mk.injEq] at hs
      obtain ⟨rfl, rfl, rfl, rfl, rfl⟩ := hs
      simp only [Bool.and_eq_true, List.contains_iff_mem] at hxx
      obtain ⟨hx1, hx2⟩ := hxx
      have hkt := kts _ hx1
      cases cv with
      | int v => exact so_ldc C hd hkt k
      | _ => cases hx2
    | ldc_w ix =>
      (try dsimp only at hs); (try dsimp only at hst1); (try dsimp only at hxx)
      simp only [decide_eq_true_eq] at hlen
      subst hlen
      have hd : decode (mB mt.1) q0 = .ok (.ldc_w ix, 3) := by simpa [ilen] using hdec
      simp only [go, Option.some.injEq, Sum.inl.injEq, Prod.mk.injEq] at hs
      obtain ⟨rfl, rfl, rfl, rfl, rfl⟩ := hs
      simp only [Bool.and_eq_true, List.contains_iff_mem] at hxx
      obtain ⟨hx1, hx2⟩ := hxx
      have hkt := kts _ hx1
      cases cv with
      | int v => exact so_ldc_w C hd hkt k
      | _ => cases hx2
    | ldc2_w ix =>
      (try dsimp only at hs); (try dsimp only at hst1); (try dsimp only at hxx)
      simp only [decide_eq_true_eq] at hlen
      subst hlen
      have hd : decode (mB mt.1) q0 = .ok (.ldc2_w ix, 3) := by simpa [ilen] using hdec
      simp only [go, Option.some.injEq, Sum.inl.injEq, Prod.mk.injEq] at hs
      obtain ⟨rfl, rfl, rfl, rfl, rfl⟩ := hs
      simp only [Bool.and_eq_true, List.contains_iff_mem] at hxx
      obtain ⟨hx1, hx2⟩ := hxx
      have hkt := kts _ hx1
      cases cv with
      | long v => exact so_ldc2_w C hd hkt k
      | _ => cases hx2
    | aconst_null =>
      (try dsimp only at hs); (try dsimp only at hst1); (try dsimp only at hxx)
      simp only [decide_eq_true_eq] at hlen
      subst hlen
      have hd : decode (mB mt.1) q0 = .ok (.aconst_null, 1) := by simpa [ilen] using hdec
      simp only [go, Option.some.injEq, Sum.inl.injEq, Prod.mk.injEq] at hs
      obtain ⟨rfl, rfl, rfl, rfl, rfl⟩ := hs
      exact so_null C hd k
    | iload_n j =>
      (try dsimp only at hs); (try dsimp only at hst1); (try dsimp only at hxx)
      simp only [decide_eq_true_eq] at hlen
      subst hlen
      have hd : decode (mB mt.1) q0 = .ok (.iload_n j, 1) := by simpa [ilen] using hdec
      split at hs
      · rename_i x hv
        simp only [go, Option.some.injEq, Sum.inl.injEq, Prod.mk.injEq] at hs
        obtain ⟨rfl, rfl, rfl, rfl, rfl⟩ := hs
        exact so_iload_n C hd hv k
      · cases hs
    | iload j =>
      (try dsimp only at hs); (try dsimp only at hst1); (try dsimp only at hxx)
      simp only [decide_eq_true_eq] at hlen
      subst hlen
      have hd : decode (mB mt.1) q0 = .ok (.iload j, 2) := by simpa [ilen] using hdec
      split at hs
      · rename_i x hv
        simp only [go, Option.some.injEq, Sum.inl.injEq, Prod.mk.injEq] at hs
        obtain ⟨rfl, rfl, rfl, rfl, rfl⟩ := hs
        exact so_iload C hd hv k
      · cases hs
    | lload_n j =>
      (try dsimp only at hs); (try dsimp only at hst1); (try dsimp only at hxx)
      simp only [decide_eq_true_eq] at hlen
      subst hlen
      have hd : decode (mB mt.1) q0 = .ok (.lload_n j, 1) := by simpa [ilen] using hdec
      split at hs
      · rename_i x hv
        simp only [go, Option.some.injEq, Sum.inl.injEq, Prod.mk.injEq] at hs
        obtain ⟨rfl, rfl, rfl, rfl, rfl⟩ := hs
        exact so_lload_n C hd hv k
      · cases hs
    | lload j =>
      (try dsimp only at hs); (try dsimp only at hst1); (try dsimp only at hxx)
      simp only [decide_eq_true_eq] at hlen
      subst hlen
      have hd : decode (mB mt.1) q0 = .ok (.lload j, 2) := by simpa [ilen] using hdec
      split at hs
      · rename_i x hv
        simp only [go, Option.some.injEq, Sum.inl.injEq, Prod.mk.injEq] at hs
        obtain ⟨rfl, rfl, rfl, rfl, rfl⟩ := hs
        exact so_lload C hd hv k
      · cases hs
    | aload_n j =>
      (try dsimp only at hs); (try dsimp only at hst1); (try dsimp only at hxx)
      simp only [decide_eq_true_eq] at hlen
      subst hlen
      have hd : decode (mB mt.1) q0 = .ok (.aload_n j, 1) := by simpa [ilen] using hdec
      split at hs
      · rename_i x hv
        simp only [go, Option.some.injEq, Sum.inl.injEq, Prod.mk.injEq] at hs
        obtain ⟨rfl, rfl, rfl, rfl, rfl⟩ := hs
        exact so_aload_n C hd hv k
      · rename_i x hv
        simp only [go, Option.some.injEq, Sum.inl.injEq, Prod.mk.injEq] at hs
        obtain ⟨rfl, rfl, rfl, rfl, rfl⟩ := hs
        exact so_aload_r C hd hv k
      · cases hs
    | aload j =>
      (try dsimp only at hs); (try dsimp only at hst1); (try dsimp only at hxx)
      simp only [decide_eq_true_eq] at hlen
      subst hlen
      have hd : decode (mB mt.1) q0 = .ok (.aload j, 2) := by simpa [ilen] using hdec
      split at hs
      · rename_i x hv
        simp only [go, Option.some.injEq, Sum.inl.injEq, Prod.mk.injEq] at hs
        obtain ⟨rfl, rfl, rfl, rfl, rfl⟩ := hs
        exact so_aload C hd hv k
      · cases hs
    | istore_n j =>
      (try dsimp only at hs); (try dsimp only at hst1); (try dsimp only at hxx)
      simp only [decide_eq_true_eq] at hlen
      subst hlen
      have hd : decode (mB mt.1) q0 = .ok (.istore_n j, 1) := by simpa [ilen] using hdec
      split at hs
      · simp only [go, Option.some.injEq, Sum.inl.injEq, Prod.mk.injEq] at hs
        obtain ⟨rfl, rfl, rfl, rfl, rfl⟩ := hs
        exact so_istore_n C hd (by simpa using hst1) k
      · cases hs
    | istore j =>
      (try dsimp only at hs); (try dsimp only at hst1); (try dsimp only at hxx)
      simp only [decide_eq_true_eq] at hlen
      subst hlen
      have hd : decode (mB mt.1) q0 = .ok (.istore j, 2) := by simpa [ilen] using hdec
      split at hs
      · simp only [go, Option.some.injEq, Sum.inl.injEq, Prod.mk.injEq] at hs
        obtain ⟨rfl, rfl, rfl, rfl, rfl⟩ := hs
        exact so_istore C hd (by simpa using hst1) k
      · cases hs
    | lstore_n j =>
      (try dsimp only at hs); (try dsimp only at hst1); (try dsimp only at hxx)
      simp only [decide_eq_true_eq] at hlen
      subst hlen
      have hd : decode (mB mt.1) q0 = .ok (.lstore_n j, 1) := by simpa [ilen] using hdec
      split at hs
      · simp only [go, Option.some.injEq, Sum.inl.injEq, Prod.mk.injEq] at hs
        obtain ⟨rfl, rfl, rfl, rfl, rfl⟩ := hs
        exact so_lstore_n C hd (by simpa using hst1) k
      · cases hs
    | lstore j =>
      (try dsimp only at hs); (try dsimp only at hst1); (try dsimp only at hxx)
      simp only [decide_eq_true_eq] at hlen
      subst hlen
      have hd : decode (mB mt.1) q0 = .ok (.lstore j, 2) := by simpa [ilen] using hdec
      split at hs
      · simp only [go, Option.some.injEq, Sum.inl.injEq, Prod.mk.injEq] at hs
        obtain ⟨rfl, rfl, rfl, rfl, rfl⟩ := hs
        exact so_lstore C hd (by simpa using hst1) k
      · cases hs
    | astore_n j =>
      (try dsimp only at hs); (try dsimp only at hst1); (try dsimp only at hxx)
      simp only [decide_eq_true_eq] at hlen
      subst hlen
      have hd : decode (mB mt.1) q0 = .ok (.astore_n j, 1) := by simpa [ilen] using hdec
      split at hs
      · simp only [go, Option.some.injEq, Sum.inl.injEq, Prod.mk.injEq] at hs
        obtain ⟨rfl, rfl, rfl, rfl, rfl⟩ := hs
        exact so_astore_n C hd (by simpa using hst1) k
      · cases hs
    | astore j =>
      (try dsimp only at hs); (try dsimp only at hst1); (try dsimp only at hxx)
      simp only [decide_eq_true_eq] at hlen
      subst hlen
      have hd : decode (mB mt.1) q0 = .ok (.astore j, 2) := by simpa [ilen] using hdec
      split at hs
      · simp only [go, Option.some.injEq, Sum.inl.injEq, Prod.mk.injEq] at hs
        obtain ⟨rfl, rfl, rfl, rfl, rfl⟩ := hs
        exact so_astore C hd (by simpa using hst1) k
      · cases hs
    | iinc j n =>
      (try dsimp only at hs); (try dsimp only at hst1); (try dsimp only at hxx)
      simp only [decide_eq_true_eq] at hlen
      subst hlen
      have hd : decode (mB mt.1) q0 = .ok (.iinc j n, 3) := by simpa [ilen] using hdec
      split at hs
      · rename_i x hv
        simp only [go, Option.some.injEq, Sum.inl.injEq, Prod.mk.injEq] at hs
        obtain ⟨rfl, rfl, rfl, rfl, rfl⟩ := hs
        exact so_iinc C hd (by simpa using hst1) hv k
      · cases hs
    | iadd =>
      (try dsimp only at hs); (try dsimp only at hst1); (try dsimp only at hxx)
      simp only [decide_eq_true_eq] at hlen
      subst hlen
      have hd : decode (mB mt.1) q0 = .ok (.iadd, 1) := by simpa [ilen] using hdec
      split at hs
      · simp only [go, Option.some.injEq, Sum.inl.injEq, Prod.mk.injEq] at hs
        obtain ⟨rfl, rfl, rfl, rfl, rfl⟩ := hs
        exact so_iadd C hd k
      · cases hs
    | isub =>
      (try dsimp only at hs); (try dsimp only at hst1); (try dsimp only at hxx)
      simp only [decide_eq_true_eq] at hlen
      subst hlen
      have hd : decode (mB mt.1) q0 = .ok (.isub, 1) := by simpa [ilen] using hdec
      split at hs
      · simp only [go, Option.some.injEq, Sum.inl.injEq, Prod.mk.injEq] at hs
        obtain ⟨rfl, rfl, rfl, rfl, rfl⟩ := hs
        exact so_isub C hd k
      · cases hs
    | imul =>
      (try dsimp only at hs); (try dsimp only at hst1); (try dsimp only at hxx)
      simp only [decide_eq_true_eq] at hlen
      subst hlen
      have hd : decode (mB mt.1) q0 = .ok (.imul, 1) := by simpa [ilen] using hdec
      split at hs
      · simp only [go, Option.some.injEq, Sum.inl.injEq, Prod.mk.injEq] at hs
        obtain ⟨rfl, rfl, rfl, rfl, rfl⟩ := hs
        exact so_imul C hd k
      · cases hs
    | iand =>
      (try dsimp only at hs); (try dsimp only at hst1); (try dsimp only at hxx)
      simp only [decide_eq_true_eq] at hlen
      subst hlen
      have hd : decode (mB mt.1) q0 = .ok (.iand, 1) := by simpa [ilen] using hdec
      split at hs
      · simp only [go, Option.some.injEq, Sum.inl.injEq, Prod.mk.injEq] at hs
        obtain ⟨rfl, rfl, rfl, rfl, rfl⟩ := hs
        exact so_iand C hd k
      · cases hs
    | ior =>
      (try dsimp only at hs); (try dsimp only at hst1); (try dsimp only at hxx)
      simp only [decide_eq_true_eq] at hlen
      subst hlen
      have hd : decode (mB mt.1) q0 = .ok (.ior, 1) := by simpa [ilen] using hdec
      split at hs
      · simp only [go, Option.some.injEq, Sum.inl.injEq, Prod.mk.injEq] at hs
        obtain ⟨rfl, rfl, rfl, rfl, rfl⟩ := hs
        exact so_ior C hd k
      · cases hs
    | ishl =>
      (try dsimp only at hs); (try dsimp only at hst1); (try dsimp only at hxx)
      simp only [decide_eq_true_eq] at hlen
      subst hlen
      have hd : decode (mB mt.1) q0 = .ok (.ishl, 1) := by simpa [ilen] using hdec
      split at hs
      · simp only [go, Option.some.injEq, Sum.inl.injEq, Prod.mk.injEq] at hs
        obtain ⟨rfl, rfl, rfl, rfl, rfl⟩ := hs
        exact so_ishl C hd k
      · cases hs
    | ishr =>
      (try dsimp only at hs); (try dsimp only at hst1); (try dsimp only at hxx)
      simp only [decide_eq_true_eq] at hlen
      subst hlen
      have hd : decode (mB mt.1) q0 = .ok (.ishr, 1) := by simpa [ilen] using hdec
      split at hs
      · simp only [go, Option.some.injEq, Sum.inl.injEq, Prod.mk.injEq] at hs
        obtain ⟨rfl, rfl, rfl, rfl, rfl⟩ := hs
        exact so_ishr C hd k
      · cases hs
    | iushr =>
      (try dsimp only at hs); (try dsimp only at hst1); (try dsimp only at hxx)
      simp only [decide_eq_true_eq] at hlen
      subst hlen
      have hd : decode (mB mt.1) q0 = .ok (.iushr, 1) := by simpa [ilen] using hdec
      split at hs
      · simp only [go, Option.some.injEq, Sum.inl.injEq, Prod.mk.injEq] at hs
        obtain ⟨rfl, rfl, rfl, rfl, rfl⟩ := hs
        exact so_iushr C hd k
      · cases hs
    | ladd =>
      (try dsimp only at hs); (try dsimp only at hst1); (try dsimp only at hxx)
      simp only [decide_eq_true_eq] at hlen
      subst hlen
      have hd : decode (mB mt.1) q0 = .ok (.ladd, 1) := by simpa [ilen] using hdec
      split at hs
      · simp only [go, Option.some.injEq, Sum.inl.injEq, Prod.mk.injEq] at hs
        obtain ⟨rfl, rfl, rfl, rfl, rfl⟩ := hs
        exact so_ladd C hd k
      · cases hs
    | lsub =>
      (try dsimp only at hs); (try dsimp only at hst1); (try dsimp only at hxx)
      simp only [decide_eq_true_eq] at hlen
      subst hlen
      have hd : decode (mB mt.1) q0 = .ok (.lsub, 1) := by simpa [ilen] using hdec
      split at hs
      · simp only [go, Option.some.injEq, Sum.inl.injEq, Prod.mk.injEq] at hs
        obtain ⟨rfl, rfl, rfl, rfl, rfl⟩ := hs
        exact so_lsub C hd k
      · cases hs
    | lmul =>
      (try dsimp only at hs); (try dsimp only at hst1); (try dsimp only at hxx)
      simp only [decide_eq_true_eq] at hlen
      subst hlen
      have hd : decode (mB mt.1) q0 = .ok (.lmul, 1) := by simpa [ilen] using hdec
      split at hs
      · simp only [go, Option.some.injEq, Sum.inl.injEq, Prod.mk.injEq] at hs
        obtain ⟨rfl, rfl, rfl, rfl, rfl⟩ := hs
        exact so_lmul C hd k
      · cases hs
    | lcmp =>
      (try dsimp only at hs); (try dsimp only at hst1); (try dsimp only at hxx)
      simp only [decide_eq_true_eq] at hlen
      subst hlen
      have hd : decode (mB mt.1) q0 = .ok (.lcmp, 1) := by simpa [ilen] using hdec
      split at hs
      · simp only [go, Option.some.injEq, Sum.inl.injEq, Prod.mk.injEq] at hs
        obtain ⟨rfl, rfl, rfl, rfl, rfl⟩ := hs
        exact so_lcmp C hd k
      · cases hs
    | i2l =>
      (try dsimp only at hs); (try dsimp only at hst1); (try dsimp only at hxx)
      simp only [decide_eq_true_eq] at hlen
      subst hlen
      have hd : decode (mB mt.1) q0 = .ok (.i2l, 1) := by simpa [ilen] using hdec
      split at hs
      · simp only [go, Option.some.injEq, Sum.inl.injEq, Prod.mk.injEq] at hs
        obtain ⟨rfl, rfl, rfl, rfl, rfl⟩ := hs
        exact so_i2l C hd k
      · cases hs
    | l2i =>
      (try dsimp only at hs); (try dsimp only at hst1); (try dsimp only at hxx)
      simp only [decide_eq_true_eq] at hlen
      subst hlen
      have hd : decode (mB mt.1) q0 = .ok (.l2i, 1) := by simpa [ilen] using hdec
      split at hs
      · simp only [go, Option.some.injEq, Sum.inl.injEq, Prod.mk.injEq] at hs
        obtain ⟨rfl, rfl, rfl, rfl, rfl⟩ := hs
        exact so_l2i C hd k
      · cases hs
    | i2b =>
      (try dsimp only at hs); (try dsimp only at hst1); (try dsimp only at hxx)
      simp only [decide_eq_true_eq] at hlen
      subst hlen
      have hd : decode (mB mt.1) q0 = .ok (.i2b, 1) := by simpa [ilen] using hdec
      split at hs
      · simp only [go, Option.some.injEq, Sum.inl.injEq, Prod.mk.injEq] at hs
        obtain ⟨rfl, rfl, rfl, rfl, rfl⟩ := hs
        exact so_i2b C hd k
      · cases hs
    | i2s =>
      (try dsimp only at hs); (try dsimp only at hst1); (try dsimp only at hxx)
      simp only [decide_eq_true_eq] at hlen
      subst hlen
      have hd : decode (mB mt.1) q0 = .ok (.i2s, 1) := by simpa [ilen] using hdec
      split at hs
      · simp only [go, Option.some.injEq, Sum.inl.injEq, Prod.mk.injEq] at hs
        obtain ⟨rfl, rfl, rfl, rfl, rfl⟩ := hs
        exact so_i2s C hd k
      · cases hs
    | idiv =>
      (try dsimp only at hs); (try dsimp only at hst1); (try dsimp only at hxx)
      simp only [decide_eq_true_eq] at hlen
      subst hlen
      have hd : decode (mB mt.1) q0 = .ok (.idiv, 1) := by simpa [ilen] using hdec
      split at hs
      · simp only [go, Option.some.injEq, Sum.inl.injEq, Prod.mk.injEq] at hs
        obtain ⟨rfl, rfl, rfl, rfl, rfl⟩ := hs
        exact so_idiv C hd hP k
      · cases hs
    | irem =>
      (try dsimp only at hs); (try dsimp only at hst1); (try dsimp only at hxx)
      simp only [decide_eq_true_eq] at hlen
      subst hlen
      have hd : decode (mB mt.1) q0 = .ok (.irem, 1) := by simpa [ilen] using hdec
      split at hs
      · simp only [go, Option.some.injEq, Sum.inl.injEq, Prod.mk.injEq] at hs
        obtain ⟨rfl, rfl, rfl, rfl, rfl⟩ := hs
        exact so_irem C hd hP k
      · cases hs
    | ldiv =>
      (try dsimp only at hs); (try dsimp only at hst1); (try dsimp only at hxx)
      simp only [decide_eq_true_eq] at hlen
      subst hlen
      have hd : decode (mB mt.1) q0 = .ok (.ldiv, 1) := by simpa [ilen] using hdec
      split at hs
      · simp only [go, Option.some.injEq, Sum.inl.injEq, Prod.mk.injEq] at hs
        obtain ⟨rfl, rfl, rfl, rfl, rfl⟩ := hs
        exact so_ldiv C hd hP k
      · cases hs
    | lrem =>
      (try dsimp only at hs); (try dsimp only at hst1); (try dsimp only at hxx)
      simp only [decide_eq_true_eq] at hlen
      subst hlen
      have hd : decode (mB mt.1) q0 = .ok (.lrem, 1) := by simpa [ilen] using hdec
      split at hs
      · simp only [go, Option.some.injEq, Sum.inl.injEq, Prod.mk.injEq] at hs
        obtain ⟨rfl, rfl, rfl, rfl, rfl⟩ := hs
        exact so_lrem C hd hP k
      · cases hs
    | dup =>
      (try dsimp only at hs); (try dsimp only at hst1); (try dsimp only at hxx)
      simp only [decide_eq_true_eq] at hlen
      subst hlen
      have hd : decode (mB mt.1) q0 = .ok (.dup, 1) := by simpa [ilen] using hdec
      split at hs
      · simp only [go, Option.some.injEq, Sum.inl.injEq, Prod.mk.injEq] at hs
        obtain ⟨rfl, rfl, rfl, rfl, rfl⟩ := hs
        exact so_dup C hd rfl k
      · simp only [go, Option.some.injEq, Sum.inl.injEq, Prod.mk.injEq] at hs
        obtain ⟨rfl, rfl, rfl, rfl, rfl⟩ := hs
        exact so_dup C hd rfl k
      · cases hs
    | dup2 =>
      (try dsimp only at hs); (try dsimp only at hst1); (try dsimp only at hxx)
      simp only [decide_eq_true_eq] at hlen
      subst hlen
      have hd : decode (mB mt.1) q0 = .ok (.dup2, 1) := by simpa [ilen] using hdec
      split at hs
      · simp only [go, Option.some.injEq, Sum.inl.injEq, Prod.mk.injEq] at hs
        obtain ⟨rfl, rfl, rfl, rfl, rfl⟩ := hs
        exact so_dup2 C hd rfl rfl k
      · cases hs
    | pop =>
      (try dsimp only at hs); (try dsimp only at hst1); (try dsimp only at hxx)
      simp only [decide_eq_true_eq] at hlen
      subst hlen
      have hd : decode (mB mt.1) q0 = .ok (.pop, 1) := by simpa [ilen] using hdec
      split at hs
      · simp only [go, Option.some.injEq, Sum.inl.injEq, Prod.mk.injEq] at hs
        obtain ⟨rfl, rfl, rfl, rfl, rfl⟩ := hs
        exact so_pop C hd rfl k
      · simp only [go, Option.some.injEq, Sum.inl.injEq, Prod.mk.injEq] at hs
        obtain ⟨rfl, rfl, rfl, rfl, rfl⟩ := hs
        exact so_pop C hd rfl k
      · cases hs
    | goto z =>
      (try dsimp only at hs); (try dsimp only at hst1); (try dsimp only at hxx)
      simp only [decide_eq_true_eq] at hlen
      subst hlen
      have hd : decode (mB mt.1) q0 = .ok (.goto z, 3) := by simpa [ilen] using hdec
      simp only [go, Option.some.injEq, Sum.inl.injEq, Prod.mk.injEq] at hs
      obtain ⟨rfl, rfl, rfl, rfl, rfl⟩ := hs
      exact so_goto C hd (by simpa using hxx) k
    | tableswitch d lo hi offs =>
      (try dsimp only at hs); (try dsimp only at hst1); (try dsimp only at hxx)
      simp only [Bool.and_eq_true, decide_eq_true_eq, List.all_eq_true] at hlen
      obtain ⟨⟨t1, t2⟩, t3⟩ := hlen
      split at hs
      · simp only [go, Option.some.injEq, Sum.inl.injEq, Prod.mk.injEq] at hs
        obtain ⟨rfl, rfl, rfl, rfl, rfl⟩ := hs
        exact so_tsw C hdec t1 t2 t3 k
      · cases hs
    | getfield ix =>
      (try dsimp only at hs); (try dsimp only at hst1); (try dsimp only at hxx)
      simp only [decide_eq_true_eq] at hlen
      subst hlen
      have hd : decode (mB mt.1) q0 = .ok (.getfield ix, 3) := by simpa [ilen] using hdec
      split at hs
      · rename_i z1 z2 j bb hf
        split at hs
        · simp only [go, Option.some.injEq, Sum.inl.injEq, Prod.mk.injEq] at hs
          obtain ⟨rfl, rfl, rfl, rfl, rfl⟩ := hs
          exact so_getfield C hd hf hP k
        · cases hs
      · cases hs
    | putfield ix =>
      (try dsimp only at hs); (try dsimp only at hst1); (try dsimp only at hxx)
      simp only [decide_eq_true_eq] at hlen
      subst hlen
      have hd : decode (mB mt.1) q0 = .ok (.putfield ix, 3) := by simpa [ilen] using hdec
      have hn : fin (mC mt.1) ix = true → (mY mt.1).name = "<init>" := by
        intro hq
        simp [hq] at hxx
        exact hxx
      split at hs
      · rename_i z1 z2 j bb hf
        split at hs
        · split at hs
          · rename_i g1
            simp only [go, Option.some.injEq, Sum.inl.injEq, Prod.mk.injEq] at hs
            obtain ⟨rfl, rfl, rfl, rfl, rfl⟩ := hs
            exact so_putI C hd hf hst1 hn hP (Or.inl g1) k
          · split at hs
            · rename_i g1
              simp only [go, Option.some.injEq, Sum.inl.injEq, Prod.mk.injEq] at hs
              obtain ⟨rfl, rfl, rfl, rfl, rfl⟩ := hs
              exact so_putI C hd hf hst1 hn hP.1 (Or.inr ⟨g1, hP.2⟩) k
            · cases hs
        · split at hs
          · rename_i g1
            simp only [go, Option.some.injEq, Sum.inl.injEq, Prod.mk.injEq] at hs
            obtain ⟨rfl, rfl, rfl, rfl, rfl⟩ := hs
            exact so_putA C hd hf hst1 hn hP g1 k
          · cases hs
        · cases hs
      · cases hs
    | getstatic ix =>
      (try dsimp only at hs); (try dsimp only at hst1); (try dsimp only at hxx)
      simp only [decide_eq_true_eq] at hlen
      subst hlen
      have hd : decode (mB mt.1) q0 = .ok (.getstatic ix, 3) := by simpa [ilen] using hdec
      split at hs
      · rename_i z1 z2 t hf
        simp only [go, Option.some.injEq, Sum.inl.injEq, Prod.mk.injEq] at hs
        obtain ⟨rfl, rfl, rfl, rfl, rfl⟩ := hs
        exact so_getstatic C hd hf k
      · cases hs
    | new ix =>
      (try dsimp only at hs); (try dsimp only at hst1); (try dsimp only at hxx)
      simp only [decide_eq_true_eq] at hlen
      subst hlen
      have hd : decode (mB mt.1) q0 = .ok (.new ix, 3) := by simpa [ilen] using hdec
      split at hs
      · rename_i z1 z2 kd hf
        simp only [go, Option.some.injEq, Sum.inl.injEq, Prod.mk.injEq] at hs
        obtain ⟨rfl, rfl, rfl, rfl, rfl⟩ := hs
        exact so_new C hd hf hc1 hs1 k
      · cases hs
    | newarray ty =>
      simp only [decide_eq_true_eq] at hlen
      subst hlen
      cases ty with
      | int =>
        have hd : decode (mB mt.1) q0 = .ok (.newarray .int, 2) := by simpa [ilen] using hdec
        dsimp only at hs
        split at hs
        · simp only [go, Option.some.injEq, Sum.inl.injEq, Prod.mk.injEq] at hs
          obtain ⟨rfl, rfl, rfl, rfl, rfl⟩ := hs
          exact so_newI C hd hP hc1 hs1 k
        · cases hs
      | long =>
        have hd : decode (mB mt.1) q0 = .ok (.newarray .long, 2) := by simpa [ilen] using hdec
        dsimp only at hs
        split at hs
        · simp only [go, Option.some.injEq, Sum.inl.injEq, Prod.mk.injEq] at hs
          obtain ⟨rfl, rfl, rfl, rfl, rfl⟩ := hs
          exact so_newJ C hd hP hc1 hs1 k
        · cases hs
      | boolean =>
        have hd : decode (mB mt.1) q0 = .ok (.newarray .boolean, 2) := by simpa [ilen] using hdec
        dsimp only at hs
        split at hs
        · simp only [go, Option.some.injEq, Sum.inl.injEq, Prod.mk.injEq] at hs
          obtain ⟨rfl, rfl, rfl, rfl, rfl⟩ := hs
          exact so_newZ C hd hP hc1 hs1 k
        · cases hs
      | _ => cases hs
    | anewarray ix =>
      (try dsimp only at hs); (try dsimp only at hst1); (try dsimp only at hxx)
      simp only [decide_eq_true_eq] at hlen
      subst hlen
      have hd : decode (mB mt.1) q0 = .ok (.anewarray ix, 3) := by simpa [ilen] using hdec
      split at hs
      · rename_i z1 z2 kd hf
        split at hs
        · split at hs
          · rename_i g1
            simp only [go, Option.some.injEq, Sum.inl.injEq, Prod.mk.injEq] at hs
            obtain ⟨rfl, rfl, rfl, rfl, rfl⟩ := hs
            exact so_anew C hd hf g1 hP hc1 hs1 k
          · cases hs
        · cases hs
      · cases hs
    | arraylength =>
      (try dsimp only at hs); (try dsimp only at hst1); (try dsimp only at hxx)
      simp only [decide_eq_true_eq] at hlen
      subst hlen
      have hd : decode (mB mt.1) q0 = .ok (.arraylength, 1) := by simpa [ilen] using hdec
      split at hs
      · simp only [go, Option.some.injEq, Sum.inl.injEq, Prod.mk.injEq] at hs
        obtain ⟨rfl, rfl, rfl, rfl, rfl⟩ := hs
        exact so_alen C hd hP k
      · split at hs
        · rename_i g1
          subst g1
          simp only [go, Option.some.injEq, Sum.inl.injEq, Prod.mk.injEq] at hs
          obtain ⟨rfl, rfl, rfl, rfl, rfl⟩ := hs
          exact so_slen C hd k
        · cases hs
      · cases hs
    | iaload =>
      (try dsimp only at hs); (try dsimp only at hst1); (try dsimp only at hxx)
      simp only [decide_eq_true_eq] at hlen
      subst hlen
      have hd : decode (mB mt.1) q0 = .ok (.iaload, 1) := by simpa [ilen] using hdec
      split at hs
      · simp only [go, Option.some.injEq, Sum.inl.injEq, Prod.mk.injEq] at hs
        obtain ⟨rfl, rfl, rfl, rfl, rfl⟩ := hs
        exact so_iaload C hd hP k
      · split at hs
        · rename_i g1
          subst g1
          simp only [go, Option.some.injEq, Sum.inl.injEq, Prod.mk.injEq] at hs
          obtain ⟨rfl, rfl, rfl, rfl, rfl⟩ := hs
          exact so_sload C hd hP k
        · split at hs
          · rename_i g1
            simp only [go, Option.some.injEq, Sum.inl.injEq, Prod.mk.injEq] at hs
            obtain ⟨rfl, rfl, rfl, rfl, rfl⟩ := hs
            exact so_tload C hd g1 hP k
          · cases hs
      · cases hs
    | caload =>
      (try dsimp only at hs); (try dsimp only at hst1); (try dsimp only at hxx)
      simp only [decide_eq_true_eq] at hlen
      subst hlen
      have hd : decode (mB mt.1) q0 = .ok (.caload, 1) := by simpa [ilen] using hdec
      split at hs
      · split at hs
        · rename_i g1
          subst g1
          simp only [go, Option.some.injEq, Sum.inl.injEq, Prod.mk.injEq] at hs
          obtain ⟨rfl, rfl, rfl, rfl, rfl⟩ := hs
          exact so_caload C hd hP k
        · cases hs
      · cases hs
    | laload =>
      (try dsimp only at hs); (try dsimp only at hst1); (try dsimp only at hxx)
      simp only [decide_eq_true_eq] at hlen
      subst hlen
      have hd : decode (mB mt.1) q0 = .ok (.laload, 1) := by simpa [ilen] using hdec
      split at hs
      · simp only [go, Option.some.injEq, Sum.inl.injEq, Prod.mk.injEq] at hs
        obtain ⟨rfl, rfl, rfl, rfl, rfl⟩ := hs
        exact so_laload C hd hP k
      · split at hs
        · rename_i g1
          subst g1
          simp only [go, Option.some.injEq, Sum.inl.injEq, Prod.mk.injEq] at hs
          obtain ⟨rfl, rfl, rfl, rfl, rfl⟩ := hs
          exact so_tlload C hd hP k
        · cases hs
      · cases hs
    | baload =>
      (try dsimp only at hs); (try dsimp only at hst1); (try dsimp only at hxx)
      simp only [decide_eq_true_eq] at hlen
      subst hlen
      have hd : decode (mB mt.1) q0 = .ok (.baload, 1) := by simpa [ilen] using hdec
      split at hs
      · simp only [go, Option.some.injEq, Sum.inl.injEq, Prod.mk.injEq] at hs
        obtain ⟨rfl, rfl, rfl, rfl, rfl⟩ := hs
        exact so_baload C hd hP k
      · cases hs
    | aaload =>
      (try dsimp only at hs); (try dsimp only at hst1); (try dsimp only at hxx)
      simp only [decide_eq_true_eq] at hlen
      subst hlen
      have hd : decode (mB mt.1) q0 = .ok (.aaload, 1) := by simpa [ilen] using hdec
      split at hs
      · simp only [go, Option.some.injEq, Sum.inl.injEq, Prod.mk.injEq] at hs
        obtain ⟨rfl, rfl, rfl, rfl, rfl⟩ := hs
        exact so_aaload C hd hP k
      · cases hs
    | iastore =>
      (try dsimp only at hs); (try dsimp only at hst1); (try dsimp only at hxx)
      simp only [decide_eq_true_eq] at hlen
      subst hlen
      have hd : decode (mB mt.1) q0 = .ok (.iastore, 1) := by simpa [ilen] using hdec
      split at hs
      · simp only [go, Option.some.injEq, Sum.inl.injEq, Prod.mk.injEq] at hs
        obtain ⟨rfl, rfl, rfl, rfl, rfl⟩ := hs
        exact so_iastore C hd hP k
      · cases hs
    | lastore =>
      (try dsimp only at hs); (try dsimp only at hst1); (try dsimp only at hxx)
      simp only [decide_eq_true_eq] at hlen
      subst hlen
      have hd : decode (mB mt.1) q0 = .ok (.lastore, 1) := by simpa [ilen] using hdec
      split at hs
      · simp only [go, Option.some.injEq, Sum.inl.injEq, Prod.mk.injEq] at hs
        obtain ⟨rfl, rfl, rfl, rfl, rfl⟩ := hs
        exact so_lastore C hd hP k
      · cases hs
    | bastore =>
      (try dsimp only at hs); (try dsimp only at hst1); (try dsimp only at hxx)
      simp only [decide_eq_true_eq] at hlen
      subst hlen
      have hd : decode (mB mt.1) q0 = .ok (.bastore, 1) := by simpa [ilen] using hdec
      split at hs
      · simp only [go, Option.some.injEq, Sum.inl.injEq, Prod.mk.injEq] at hs
        obtain ⟨rfl, rfl, rfl, rfl, rfl⟩ := hs
        exact so_bastore C hd hP k
      · cases hs
    | aastore =>
      (try dsimp only at hs); (try dsimp only at hst1); (try dsimp only at hxx)
      simp only [decide_eq_true_eq] at hlen
      subst hlen
      have hd : decode (mB mt.1) q0 = .ok (.aastore, 1) := by simpa [ilen] using hdec
      split at hs
      · simp only [go, Option.some.injEq, Sum.inl.injEq, Prod.mk.injEq] at hs
        obtain ⟨rfl, rfl, rfl, rfl, rfl⟩ := hs
        exact so_aastore C hd hP k
      · cases hs
    | instanceof ix =>
      (try dsimp only at hs); (try dsimp only at hst1); (try dsimp only at hxx)
      simp only [decide_eq_true_eq] at hlen
      subst hlen
      have hd : decode (mB mt.1) q0 = .ok (.instanceof ix, 3) := by simpa [ilen] using hdec
      split at hs
      · rename_i z1 z2 kd hf
        split at hs
        · split at hs
          · rename_i g1
            simp only [go, Option.some.injEq, Sum.inl.injEq, Prod.mk.injEq] at hs
            obtain ⟨rfl, rfl, rfl, rfl, rfl⟩ := hs
            exact so_inst C hd hf g1 hP k
          · cases hs
        · cases hs
      · cases hs
    | checkcast ix =>
      (try dsimp only at hs); (try dsimp only at hst1); (try dsimp only at hxx)
      simp only [decide_eq_true_eq] at hlen
      subst hlen
      have hd : decode (mB mt.1) q0 = .ok (.checkcast ix, 3) := by simpa [ilen] using hdec
      split at hs
      · split at hs
        · rename_i g1
          simp only [go, Option.some.injEq, Sum.inl.injEq, Prod.mk.injEq] at hs
          obtain ⟨rfl, rfl, rfl, rfl, rfl⟩ := hs
          exact so_cast C hd g1 hP k
        · cases hs
      · cases hs
    | invokevirtual ix =>
      (try dsimp only at hs); (try dsimp only at hst1); (try dsimp only at hxx)
      simp only [decide_eq_true_eq] at hlen
      subst hlen
      have hd : decode (mB mt.1) q0 = .ok (.invokevirtual ix, 3) := by simpa [ilen] using hdec
      split at hs
      · split at hs <;> cases hs
      · split at hs <;> cases hs
      · rename_i hf
        split at hs
        · simp only [go, Option.some.injEq, Sum.inl.injEq, Prod.mk.injEq] at hs
          obtain ⟨rfl, rfl, rfl, rfl, rfl⟩ := hs
          exact so_clone C hd hf hP hc1 hs1 k
        · cases hs
      · cases hs
    | invokespecial ix =>
      (try dsimp only at hs); (try dsimp only at hst1); (try dsimp only at hxx)
      simp only [decide_eq_true_eq] at hlen
      subst hlen
      have hd : decode (mB mt.1) q0 = .ok (.invokespecial ix, 3) := by simpa [ilen] using hdec
      split at hs
      · split at hs <;> cases hs
      · split at hs <;> cases hs
      · split at hs <;> cases hs
      · rename_i hf
        split at hs
        · simp only [go, Option.some.injEq, Sum.inl.injEq, Prod.mk.injEq] at hs
          obtain ⟨rfl, rfl, rfl, rfl, rfl⟩ := hs
          exact so_oinit C hd hf hP k
        · cases hs
      · cases hs
    | invokestatic ix =>
      (try dsimp only at hs); (try dsimp only at hst1); (try dsimp only at hxx)
      simp only [decide_eq_true_eq] at hlen
      subst hlen
      have hd : decode (mB mt.1) q0 = .ok (.invokestatic ix, 3) := by simpa [ilen] using hdec
      split at hs
      · cases hs
      · rename_i hf
        split at hs
        · simp only [go, Option.some.injEq, Sum.inl.injEq, Prod.mk.injEq] at hs
          obtain ⟨rfl, rfl, rfl, rfl, rfl⟩ := hs
          exact so_min C hd hf hP hc1 hs1 k
        · cases hs
      · rename_i hf
        split at hs
        · simp only [go, Option.some.injEq, Sum.inl.injEq, Prod.mk.injEq] at hs
          obtain ⟨rfl, rfl, rfl, rfl, rfl⟩ := hs
          exact so_copy C hd hf hP k
        · cases hs
      · cases hs
    | ifCond cc z => cases cc <;> (dsimp only at hs; split at hs <;> cases hs)
    | if_icmp cc z => cases cc <;> (dsimp only at hs; split at hs <;> cases hs)
    | if_acmp cc z => cases cc <;> (dsimp only at hs; first | (cases hs; done) | (split at hs <;> cases hs))
    | ireturn => (dsimp only at hs; split at hs <;> cases hs)
    | lreturn => (dsimp only at hs; split at hs <;> cases hs)
    | areturn => (dsimp only at hs; split at hs <;> cases hs)
    | return_ => (dsimp only at hs; split at hs <;> cases hs)
    | _ => cases hs
end
