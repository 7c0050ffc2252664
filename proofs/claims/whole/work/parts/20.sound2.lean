section
variable {sc : Nat × (Nat → Int32)} {p : Program} {l : Launch} {e : Env} {R : Room} {s : State} {m : MethodId} {args : Array Value} {below : List Frame} {meth : Method} {c : Code} {mt : Mt} {D : va_G} {b : Nat} {cy : Nat → ClassId} {cs : Nat → Nat} {z0 y0 : Nat} {Q : State → Prop} {pc : Nat} {ls : Ls} {st r : List Value} {h : Hp}
set_option maxHeartbeats 4000000 in
theorem sound_br (C : Cx sc p R s m args meth c mt D b cy cs z0) {P : Prop} {tg1 nx1 : Nat} {ls1 : Ls} {st1 : List Value} (hs : stp sc mt pc ls st h = some (.inr (.inl (P, tg1, nx1, ls1, st1)))) (kt : P → Go p l e R s m args below meth c mt D b cy cs z0 y0 Q tg1 ls1 st1 h) (kf : ¬ P → Go p l e R s m args below meth c mt D b cy cs z0 y0 Q nx1 ls1 st1 h) : Go p l e R s m args below meth c mt D b cy cs z0 y0 Q pc ls st h := by
  have hck : CkP mt.1 mt.2 := C.2.2.2.2.2.2.2.2.2.2.2.2.2.2.1
  have hstk : stok mt = true := C.2.2.2.2.2.2.2.2.2.2.2.2.2.2.2
  unfold stp at hs
  cases hr : cAt mt.2 pc with
  | none =>
    rw [hr] at hs
    cases hs
  | some row =>
    rw [hr] at hs
    obtain ⟨e0, hok, hmem⟩ := cAt_ok hr hck hstk
    have hst1 := List.all_eq_true.mp hstk _ hmem
    obtain ⟨q0, nx, i, tg, cv⟩ := row
    dsimp only at e0 hs hst1
    subst e0
    unfold rowOK at hok
    simp only [Bool.and_eq_true, decide_eq_true_eq] at hok
    obtain ⟨⟨hdec, hlen⟩, hxx⟩ := hok
    cases i with
    | ifCond cc z =>
      cases cc with
      | eq =>
        (try dsimp only at hs); (try dsimp only at hxx)
        simp only [decide_eq_true_eq] at hlen
        subst hlen
        have hd : decode (mB mt.1) q0 = .ok (.ifCond .eq z, 3) := by simpa [ilen] using hdec
        split at hs
        · simp only [br, Option.some.injEq, Sum.inr.injEq, Sum.inl.injEq, Prod.mk.injEq] at hs
          obtain ⟨rfl, rfl, rfl, rfl, rfl⟩ := hs
          exact so_if_eq C hd (by simpa using hxx) kt kf
        · cases hs
      | ne =>
        (try dsimp only at hs); (try dsimp only at hxx)
        simp only [decide_eq_true_eq] at hlen
        subst hlen
        have hd : decode (mB mt.1) q0 = .ok (.ifCond .ne z, 3) := by simpa [ilen] using hdec
        split at hs
        · simp only [br, Option.some.injEq, Sum.inr.injEq, Sum.inl.injEq, Prod.mk.injEq] at hs
          obtain ⟨rfl, rfl, rfl, rfl, rfl⟩ := hs
          exact so_if_ne C hd (by simpa using hxx) kt kf
        · cases hs
      | lt =>
        (try dsimp only at hs); (try dsimp only at hxx)
        simp only [decide_eq_true_eq] at hlen
        subst hlen
        have hd : decode (mB mt.1) q0 = .ok (.ifCond .lt z, 3) := by simpa [ilen] using hdec
        split at hs
        · simp only [br, Option.some.injEq, Sum.inr.injEq, Sum.inl.injEq, Prod.mk.injEq] at hs
          obtain ⟨rfl, rfl, rfl, rfl, rfl⟩ := hs
          exact so_if_lt C hd (by simpa using hxx) kt kf
        · cases hs
      | ge =>
        (try dsimp only at hs); (try dsimp only at hxx)
        simp only [decide_eq_true_eq] at hlen
        subst hlen
        have hd : decode (mB mt.1) q0 = .ok (.ifCond .ge z, 3) := by simpa [ilen] using hdec
        split at hs
        · simp only [br, Option.some.injEq, Sum.inr.injEq, Sum.inl.injEq, Prod.mk.injEq] at hs
          obtain ⟨rfl, rfl, rfl, rfl, rfl⟩ := hs
          exact so_if_ge C hd (by simpa using hxx) kt kf
        · cases hs
      | gt =>
        (try dsimp only at hs); (try dsimp only at hxx)
        simp only [decide_eq_true_eq] at hlen
        subst hlen
        have hd : decode (mB mt.1) q0 = .ok (.ifCond .gt z, 3) := by simpa [ilen] using hdec
        split at hs
        · simp only [br, Option.some.injEq, Sum.inr.injEq, Sum.inl.injEq, Prod.mk.injEq] at hs
          obtain ⟨rfl, rfl, rfl, rfl, rfl⟩ := hs
          exact so_if_gt C hd (by simpa using hxx) kt kf
        · cases hs
      | le =>
        (try dsimp only at hs); (try dsimp only at hxx)
        simp only [decide_eq_true_eq] at hlen
        subst hlen
        have hd : decode (mB mt.1) q0 = .ok (.ifCond .le z, 3) := by simpa [ilen] using hdec
        split at hs
        · simp only [br, Option.some.injEq, Sum.inr.injEq, Sum.inl.injEq, Prod.mk.injEq] at hs
          obtain ⟨rfl, rfl, rfl, rfl, rfl⟩ := hs
          exact so_if_le C hd (by simpa using hxx) kt kf
        · cases hs
    | if_icmp cc z =>
      cases cc with
      | eq =>
        (try dsimp only at hs); (try dsimp only at hxx)
        simp only [decide_eq_true_eq] at hlen
        subst hlen
        have hd : decode (mB mt.1) q0 = .ok (.if_icmp .eq z, 3) := by simpa [ilen] using hdec
        split at hs
        · simp only [br, Option.some.injEq, Sum.inr.injEq, Sum.inl.injEq, Prod.mk.injEq] at hs
          obtain ⟨rfl, rfl, rfl, rfl, rfl⟩ := hs
          exact so_icmp_eq C hd (by simpa using hxx) kt kf
        · cases hs
      | ne =>
        (try dsimp only at hs); (try dsimp only at hxx)
        simp only [decide_eq_true_eq] at hlen
        subst hlen
        have hd : decode (mB mt.1) q0 = .ok (.if_icmp .ne z, 3) := by simpa [ilen] using hdec
        split at hs
        · simp only [br, Option.some.injEq, Sum.inr.injEq, Sum.inl.injEq, Prod.mk.injEq] at hs
          obtain ⟨rfl, rfl, rfl, rfl, rfl⟩ := hs
          exact so_icmp_ne C hd (by simpa using hxx) kt kf
        · cases hs
      | lt =>
        (try dsimp only at hs); (try dsimp only at hxx)
        simp only [decide_eq_true_eq] at hlen
        subst hlen
        have hd : decode (mB mt.1) q0 = .ok (.if_icmp .lt z, 3) := by simpa [ilen] using hdec
        split at hs
        · simp only [br, Option.some.injEq, Sum.inr.injEq, Sum.inl.injEq, Prod.mk.injEq] at hs
          obtain ⟨rfl, rfl, rfl, rfl, rfl⟩ := hs
          exact so_icmp_lt C hd (by simpa using hxx) kt kf
        · cases hs
      | ge =>
        (try dsimp only at hs); (try dsimp only at hxx)
        simp only [decide_eq_true_eq] at hlen
        subst hlen
        have hd : decode (mB mt.1) q0 = .ok (.if_icmp .ge z, 3) := by simpa [ilen] using hdec
        split at hs
        · simp only [br, Option.some.injEq, Sum.inr.injEq, Sum.inl.injEq, Prod.mk.injEq] at hs
          obtain ⟨rfl, rfl, rfl, rfl, rfl⟩ := hs
          exact so_icmp_ge C hd (by simpa using hxx) kt kf
        · cases hs
      | gt =>
        (try dsimp only at hs); (try dsimp only at hxx)
        simp only [decide_eq_true_eq] at hlen
        subst hlen
        have hd : decode (mB mt.1) q0 = .ok (.if_icmp .gt z, 3) := by simpa [ilen] using hdec
        split at hs
        · simp only [br, Option.some.injEq, Sum.inr.injEq, Sum.inl.injEq, Prod.mk.injEq] at hs
          obtain ⟨rfl, rfl, rfl, rfl, rfl⟩ := hs
          exact so_icmp_gt C hd (by simpa using hxx) kt kf
        · cases hs
      | le =>
        (try dsimp only at hs); (try dsimp only at hxx)
        simp only [decide_eq_true_eq] at hlen
        subst hlen
        have hd : decode (mB mt.1) q0 = .ok (.if_icmp .le z, 3) := by simpa [ilen] using hdec
        split at hs
        · simp only [br, Option.some.injEq, Sum.inr.injEq, Sum.inl.injEq, Prod.mk.injEq] at hs
          obtain ⟨rfl, rfl, rfl, rfl, rfl⟩ := hs
          exact so_icmp_le C hd (by simpa using hxx) kt kf
        · cases hs
    | if_acmp cc z =>
      cases cc with
      | ne =>
        (try dsimp only at hs); (try dsimp only at hxx)
        simp only [decide_eq_true_eq] at hlen
        subst hlen
        have hd : decode (mB mt.1) q0 = .ok (.if_acmp .ne z, 3) := by simpa [ilen] using hdec
        split at hs
        · simp only [br, Option.some.injEq, Sum.inr.injEq, Sum.inl.injEq, Prod.mk.injEq] at hs
          obtain ⟨rfl, rfl, rfl, rfl, rfl⟩ := hs
          exact so_acmp_ne C hd (by simpa using hxx) kt kf
        · cases hs
      | _ => cases hs
    | newarray ty => cases ty <;> first | (cases hs; done) | (dsimp only at hs; split at hs <;> cases hs)
    | _ => (try dsimp only at hs); (first | (cases hs; done) | (repeat' split at hs) <;> (cases hs; done) | ((repeat' split at hs) <;> cases hs))
set_option maxHeartbeats 4000000 in
theorem sound_cl (C : Cx sc p R s m args meth c mt D b cy cs z0) {P : Prop} {kk : Nat} {as rest : List Value} (hs : stp sc mt pc ls st h = some (.inr (.inr (.inr (P, kk, as, rest))))) (hP : P) (hlen0 : as.length = ary kk) {r1 : Option Value} {h1 : Hp} (hcc : Cc sc kk as h r1 h1) (hc1 : zc h1 ≤ z0 + R.cells) (hs1 : zs h1 ≤ y0 + R.slots) (k : Go p l e R s m args below meth c mt D b cy cs z0 y0 Q (pc + 3) ls (r1.toList ++ rest) h1) : Go p l e R s m args below meth c mt D b cy cs z0 y0 Q pc ls st h := by
  have hck : CkP mt.1 mt.2 := C.2.2.2.2.2.2.2.2.2.2.2.2.2.2.1
  have hstk : stok mt = true := C.2.2.2.2.2.2.2.2.2.2.2.2.2.2.2
  unfold stp at hs
  cases hr : cAt mt.2 pc with
  | none =>
    rw [hr] at hs
    cases hs
  | some row =>
    rw [hr] at hs
    obtain ⟨e0, hok, hmem⟩ := cAt_ok hr hck hstk
    have hst1 := List.all_eq_true.mp hstk _ hmem
    obtain ⟨q0, nx, i, tg, cv⟩ := row
    dsimp only at e0 hs hst1
    subst e0
    unfold rowOK at hok
    simp only [Bool.and_eq_true, decide_eq_true_eq] at hok
    obtain ⟨⟨hdec, hlen⟩, hxx⟩ := hok
    cases i with
    | invokevirtual ix =>
      (try dsimp only at hs); (try dsimp only at hst1); (try dsimp only at hxx)
      simp only [decide_eq_true_eq] at hlen
      subst hlen
      have hd : decode (mB mt.1) q0 = .ok (.invokevirtual ix, 3) := by simpa [ilen] using hdec
      split at hs
      · rename_i hf
        split at hs
        · rename_i hdrop
          simp only [cl, Option.some.injEq, Sum.inr.injEq, Prod.mk.injEq] at hs
          obtain ⟨rfl, rfl, rfl, rfl⟩ := hs
          exact so_callV C hd hf hdrop hP hcc hc1 hs1 k
        · cases hs
      · rename_i hf
        split at hs
        · rename_i hdrop
          simp only [cl, Option.some.injEq, Sum.inr.injEq, Prod.mk.injEq] at hs
          obtain ⟨rfl, rfl, rfl, rfl⟩ := hs
          exact so_callD C hd hf hdrop hP hcc hc1 hs1 k
        · cases hs
      · split at hs <;> cases hs
      · cases hs
    | invokespecial ix =>
      (try dsimp only at hs); (try dsimp only at hst1); (try dsimp only at hxx)
      simp only [decide_eq_true_eq] at hlen
      subst hlen
      have hd : decode (mB mt.1) q0 = .ok (.invokespecial ix, 3) := by simpa [ilen] using hdec
      split at hs
      · rename_i hf
        split at hs
        · rename_i hdrop
          simp only [cl, Option.some.injEq, Sum.inr.injEq, Prod.mk.injEq] at hs
          obtain ⟨rfl, rfl, rfl, rfl⟩ := hs
          exact so_callI C hd hf hdrop hP hcc hc1 hs1 k
        · cases hs
      · rename_i hf
        split at hs
        · rename_i hdrop
          simp only [cl, Option.some.injEq, Sum.inr.injEq, Prod.mk.injEq] at hs
          obtain ⟨rfl, rfl, rfl, rfl⟩ := hs
          exact so_callIN C hd hf hdrop hP hcc hc1 hs1 k
        · cases hs
      · rename_i hf
        split at hs
        · rename_i hdrop
          simp only [cl, Option.some.injEq, Sum.inr.injEq, Prod.mk.injEq] at hs
          obtain ⟨rfl, rfl, rfl, rfl⟩ := hs
          exact so_callP C hd hf hdrop hP hcc hc1 hs1 k
        · cases hs
      · split at hs <;> cases hs
      · cases hs
    | invokestatic ix =>
      (try dsimp only at hs); (try dsimp only at hst1); (try dsimp only at hxx)
      simp only [decide_eq_true_eq] at hlen
      subst hlen
      have hd : decode (mB mt.1) q0 = .ok (.invokestatic ix, 3) := by simpa [ilen] using hdec
      split at hs
      · rename_i hf
        simp only [cl, Option.some.injEq, Sum.inr.injEq, Prod.mk.injEq] at hs
        obtain ⟨rfl, rfl, rfl, rfl⟩ := hs
        exact so_callS C hd hf hP hlen0 hcc hc1 hs1 k
      · split at hs <;> cases hs
      · split at hs <;> cases hs
      · cases hs
    | ifCond cc z => cases cc <;> (dsimp only at hs; split at hs <;> cases hs)
    | if_icmp cc z => cases cc <;> (dsimp only at hs; split at hs <;> cases hs)
    | if_acmp cc z => cases cc <;> (dsimp only at hs; first | (cases hs; done) | (split at hs <;> cases hs))
    | newarray ty => cases ty <;> first | (cases hs; done) | (dsimp only at hs; split at hs <;> cases hs)
    | _ => (try dsimp only at hs); (first | (cases hs; done) | (repeat' split at hs) <;> (cases hs; done) | ((repeat' split at hs) <;> cases hs))
set_option maxHeartbeats 4000000 in
theorem sound_rt (C : Cx sc p R s m args meth c mt D b cy cs z0) {P : Prop} {v : Option Value} (hs : stp sc mt pc ls st h = some (.inr (.inr (.inl (P, v))))) (hP : P) : RetAt mt pc v ∧ st = v.toList := by
  have hck : CkP mt.1 mt.2 := C.2.2.2.2.2.2.2.2.2.2.2.2.2.2.1
  have hstk : stok mt = true := C.2.2.2.2.2.2.2.2.2.2.2.2.2.2.2
  unfold stp at hs
  cases hr : cAt mt.2 pc with
  | none =>
    rw [hr] at hs
    cases hs
  | some row =>
    rw [hr] at hs
    obtain ⟨e0, hok, hmem⟩ := cAt_ok hr hck hstk
    have hst1 := List.all_eq_true.mp hstk _ hmem
    obtain ⟨q0, nx, i, tg, cv⟩ := row
    dsimp only at e0 hs hst1
    subst e0
    unfold rowOK at hok
    simp only [Bool.and_eq_true, decide_eq_true_eq] at hok
    obtain ⟨⟨hdec, hlen⟩, hxx⟩ := hok
    cases i with
    | ireturn =>
      (try dsimp only at hs); (try dsimp only at hst1); (try dsimp only at hxx)
      simp only [decide_eq_true_eq] at hlen
      subst hlen
      have hd : decode (mB mt.1) q0 = .ok (.ireturn, 1) := by simpa [ilen] using hdec
      split at hs
      · simp only [rt, Option.some.injEq, Sum.inr.injEq, Sum.inl.injEq, Prod.mk.injEq] at hs
        obtain ⟨rfl, rfl⟩ := hs
        exact ⟨⟨hd, hP⟩, rfl⟩
      · cases hs
    | lreturn =>
      (try dsimp only at hs); (try dsimp only at hst1); (try dsimp only at hxx)
      simp only [decide_eq_true_eq] at hlen
      subst hlen
      have hd : decode (mB mt.1) q0 = .ok (.lreturn, 1) := by simpa [ilen] using hdec
      split at hs
      · simp only [rt, Option.some.injEq, Sum.inr.injEq, Sum.inl.injEq, Prod.mk.injEq] at hs
        obtain ⟨rfl, rfl⟩ := hs
        exact ⟨⟨hd, (by revert hst1; cases mR mt.1 with | none => (intro z; cases z) | some t => (cases t <;> intro z <;> first | rfl | (cases z)))⟩, rfl⟩
      · cases hs
    | areturn =>
      (try dsimp only at hs); (try dsimp only at hst1); (try dsimp only at hxx)
      simp only [decide_eq_true_eq] at hlen
      subst hlen
      have hd : decode (mB mt.1) q0 = .ok (.areturn, 1) := by simpa [ilen] using hdec
      split at hs
      · simp only [rt, Option.some.injEq, Sum.inr.injEq, Sum.inl.injEq, Prod.mk.injEq] at hs
        obtain ⟨rfl, rfl⟩ := hs
        exact ⟨⟨hd, (by revert hst1; cases mR mt.1 with | none => (intro z; cases z) | some t => exact fun z => ⟨t, rfl, z⟩)⟩, rfl⟩
      · cases hs
    | return_ =>
      (try dsimp only at hs); (try dsimp only at hst1); (try dsimp only at hxx)
      simp only [decide_eq_true_eq] at hlen
      subst hlen
      have hd : decode (mB mt.1) q0 = .ok (.return_, 1) := by simpa [ilen] using hdec
      split at hs
      · simp only [rt, Option.some.injEq, Sum.inr.injEq, Sum.inl.injEq, Prod.mk.injEq] at hs
        obtain ⟨rfl, rfl⟩ := hs
        exact ⟨⟨hd, (by revert hst1; cases mR mt.1 with | none => (intro _; rfl) | some t => (intro z; cases z))⟩, rfl⟩
      · cases hs
    | ifCond cc z => cases cc <;> (dsimp only at hs; split at hs <;> cases hs)
    | if_icmp cc z => cases cc <;> (dsimp only at hs; split at hs <;> cases hs)
    | if_acmp cc z => cases cc <;> (dsimp only at hs; first | (cases hs; done) | (split at hs <;> cases hs))
    | newarray ty => cases ty <;> first | (cases hs; done) | (dsimp only at hs; split at hs <;> cases hs)
    | _ => (try dsimp only at hs); (first | (cases hs; done) | (repeat' split at hs) <;> (cases hs; done) | ((repeat' split at hs) <;> cases hs))
end
