/-! A little machine over a plain picture of the heap. A reference is a number: 0 is null, k+1 is the k-th cell made since the law began. -/
abbrev Hp : Type := (Nat × Nat) × (Nat → Nat) × (Nat → Nat) × (Nat → Nat → Int32) × (Nat → Nat → Int64) × (Nat → Nat → Nat)
abbrev zc (h : Hp) : Nat := h.1.1
abbrev zs (h : Hp) : Nat := h.1.2
abbrev zK (h : Hp) : Nat → Nat := h.2.1
abbrev zN (h : Hp) : Nat → Nat := h.2.2.1
abbrev zI (h : Hp) : Nat → Nat → Int32 := h.2.2.2.1
abbrev zJ (h : Hp) : Nat → Nat → Int64 := h.2.2.2.2.1
abbrev zA (h : Hp) : Nat → Nat → Nat := h.2.2.2.2.2
def upI (h : Hp) (a j : Nat) (v : Int32) : Hp := (h.1, zK h, zN h, va_up (zI h) a (upd (zI h a) j v), zJ h, zA h)
def upJ (h : Hp) (a j : Nat) (v : Int64) : Hp := (h.1, zK h, zN h, zI h, va_up (zJ h) a (vp_updL (zJ h a) j v), zA h)
def upA (h : Hp) (a j : Nat) (v : Nat) : Hp := (h.1, zK h, zN h, zI h, zJ h, va_up (zA h) a (va_up (zA h a) j v))
def rwI (h : Hp) (a : Nat) (f : Nat → Int32) : Hp := (h.1, zK h, zN h, va_up (zI h) a f, zJ h, zA h)
def rwJ (h : Hp) (a : Nat) (f : Nat → Int64) : Hp := (h.1, zK h, zN h, zI h, va_up (zJ h) a f, zA h)
/-- a new cell of a kind, of so many slots: all are 0 -/
def nwC (h : Hp) (kd n : Nat) : Hp := ((zc h + 1, zs h + n), va_up (zK h) (zc h + 1) kd, va_up (zN h) (zc h + 1) n, va_up (zI h) (zc h + 1) (fun _ => 0), va_up (zJ h) (zc h + 1) (fun _ => 0), va_up (zA h) (zc h + 1) (fun _ => 0))
/-- a new int array that holds f -/
def nwI (h : Hp) (n : Nat) (f : Nat → Int32) : Hp := ((zc h + 1, zs h + n), va_up (zK h) (zc h + 1) 12, va_up (zN h) (zc h + 1) n, va_up (zI h) (zc h + 1) f, va_up (zJ h) (zc h + 1) (fun _ => 0), va_up (zA h) (zc h + 1) (fun _ => 0))
abbrev Ls : Type := List (Option Value)
def mkM (r : Mr) (c : List Rw) : Mt := (r, c)
def ownS (c : Nat) : String := owns.getD c ""
def ft (c j : Nat) : Nat := (fTs.getD c []).getD j 0
def nf (c : Nat) : Nat := nFs.getD c 0
/-- the kinds of objects that a reference of a kind may have -/
def kin (b c : Nat) : Bool := b == c || (b == 4 && (c == 2 || c == 1)) || (b == 2 && c == 1)
def inB (i : Int32) (n : Nat) : Bool := !(decide (i < 0) || decide (n ≤ i.toNatClampNeg))
theorem inB_iff {i : Int32} {n : Nat} : inB i n = true ↔ vp_in i n := by
  unfold inB vp_in
  simp
def cAt (c : List Rw) (pc : Nat) : Option Rw := c.find? (fun r => r.1 == pc)
def fAt (c i : Nat) : Option (Nat × Nat × Nat × Nat) := FTs.find? (fun r => r.1 == c && r.2.1 == i)
def sAt (c i : Nat) : Option (Nat × Nat × Nat) := STs.find? (fun r => r.1 == c && r.2.1 == i)
def lAt (c i : Nat) : Option (Nat × Nat × Nat) := LTs.find? (fun r => r.1 == c && r.2.1 == i)
def mAt (c i : Nat) : Option (Nat × Nat × Nat × Nat × Nat × Nat × Nat) := MLs.find? (fun r => r.1 == c && r.2.1 == i)
/-- the static arrays: 0 LEAST, 1 GREATEST, 2 DIGITS, 3 LETTERS, 4 TWELVES -/
def stN (t : Nat) : Nat := [5, 5, 4, 4, 5].getD t 0
def stI (t j : Nat) : Int32 := (([[0, 0, 0, 1, 0], [5, 12, 12, 9, 2], [1, 2, 2, 1], [115, 104, 101, 119]] : List (List Int32)).getD t []).getD j 0
def stJ (j : Nat) : Int64 := ([1, 12, 144, 1728, 20736] : List Int64).getD j 0
/-- locals: a value of two words takes the next place too -/
def clr (ls : Ls) (i : Nat) : Ls := match i with
  | 0 => ls
  | j + 1 => match ls[j]? with
    | some (some (.long _)) => ls.set j none
    | some (some (.double _)) => ls.set j none
    | _ => ls
def st1 (ls : Ls) (i : Nat) (v : Value) : Ls := (clr ls i).set i (some v)
def st2 (ls : Ls) (i : Nat) (v : Value) : Ls := ((clr ls i).set i (some v)).set (i + 1) none
def enL (n : Nat) (as : List Value) : Ls := match as, n with
  | [], n => List.replicate n none
  | .long x :: r, n => some (.long x) :: none :: enL (n - 2) r
  | .double x :: r, n => some (.double x) :: none :: enL (n - 2) r
  | v :: r, n => some v :: enL (n - 1) r
/-- what an instruction does: what it asks and where it goes on; or a choice; or a return; or a call -/
abbrev Nx : Type := Nat × Ls × List Value × Hp
abbrev Sx : Type := (Prop × Nx) ⊕ ((Prop × Nat × Nat × Ls × List Value) ⊕ ((Prop × Option Value) ⊕ (Prop × Nat × List Value × List Value)))
def go (p : Prop) (pc : Nat) (ls : Ls) (st : List Value) (h : Hp) : Option Sx := some (.inl (p, pc, ls, st, h))
def br (c : Prop) (tg nx : Nat) (ls : Ls) (st : List Value) : Option Sx := some (.inr (.inl (c, tg, nx, ls, st)))
def rt (p : Prop) (v : Option Value) : Option Sx := some (.inr (.inr (.inl (p, v))))
def cl (p : Prop) (k : Nat) (as rest : List Value) : Option Sx := some (.inr (.inr (.inr (p, k, as, rest))))
def tsw (pc : Nat) (d lo hi : Int) (offs : Array Int) (x : Int32) : Nat := ((pc : Int) + (if x.toInt < lo ∨ hi < x.toInt then d else offs.getD (x.toInt - lo).toNat 0)).toNat
def cat (v : Value) : Nat := match v with
  | .long _ => 2
  | .double _ => 2
  | _ => 1
def cats (st : List Value) : Nat := (st.map cat).sum
def mtk (k : Nat) : Mt := Mts.getD k lawM
def mro (k : Nat) : Mr := (mtk k).1
abbrev mY (r : Mr) : MethodName := r.1
abbrev mB (r : Mr) : ByteArray := r.2.1
abbrev mL (r : Mr) : Nat := r.2.2.1
abbrev mR (r : Mr) : Option FieldType := r.2.2.2.1
abbrev mC (r : Mr) : Nat := r.2.2.2.2.1
abbrev mF (r : Mr) : Nat := r.2.2.2.2.2.1
abbrev mW (r : Mr) : Nat := r.2.2.2.2.2.2
def okc (r q : Mr) (rest : List Value) : Bool := decide (mF q + 1 ≤ mF r) && decide (19 + mL q + mW q ≤ mW r) && decide (cats rest ≤ 8)
def okn (r : Mr) (rest : List Value) : Bool := decide (1 ≤ mF r) && decide (48 ≤ mW r) && decide (cats rest ≤ 8)
/-- the callee's place among the methods, by the kind of the object -/
def pck (kd a b d : Nat) : Nat := if kd = 4 then a else if kd = 2 then b else d
def aar (kd : Nat) : Bool := kd == 15 || kd == 16 || kd == 17
/-- the kind of array for objects of a kind -/
def kar (c : Nat) : Nat := if c = 0 then 15 else if c = 4 then 16 else 17
def inst (c kd : Nat) : Int32 := if kin c kd = true then 1 else 0
def stp (sc : Nat × (Nat → Int32)) (mt : Mt) (pc : Nat) (ls : Ls) (st : List Value) (h : Hp) : Option Sx :=
  match cAt mt.2 pc with
  | none => none
  | some (_, nx, i, tg, cv) =>
    match i with
    | .iconst _ => go True nx ls (cv :: st) h
    | .bipush _ => go True nx ls (cv :: st) h
    | .sipush _ => go True nx ls (cv :: st) h
    | .lconst _ => go True nx ls (cv :: st) h
    | .ldc _ => go True nx ls (cv :: st) h
    | .ldc_w _ => go True nx ls (cv :: st) h
    | .ldc2_w _ => go True nx ls (cv :: st) h
    | .aconst_null => go True nx ls (.ref 0 :: st) h
    | .iload_n j => (match ls[j.val]? with
      | some (some (.int x)) => go True nx ls (.int x :: st) h
      | _ => none)
    | .iload j => (match ls[j]? with
      | some (some (.int x)) => go True nx ls (.int x :: st) h
      | _ => none)
    | .lload_n j => (match ls[j.val]? with
      | some (some (.long x)) => go True nx ls (.long x :: st) h
      | _ => none)
    | .lload j => (match ls[j]? with
      | some (some (.long x)) => go True nx ls (.long x :: st) h
      | _ => none)
    | .aload_n j => (match ls[j.val]? with
      | some (some (.ref x)) => go True nx ls (.ref x :: st) h
      | some (some (.retAddr x)) => go True nx ls (.retAddr x :: st) h
      | _ => none)
    | .aload j => (match ls[j]? with
      | some (some (.ref x)) => go True nx ls (.ref x :: st) h
      | _ => none)
    | .istore_n j => (match st with
      | .int x :: r => go True nx (st1 ls j.val (.int x)) r h
      | _ => none)
    | .istore j => (match st with
      | .int x :: r => go True nx (st1 ls j (.int x)) r h
      | _ => none)
    | .lstore_n j => (match st with
      | .long x :: r => go True nx (st2 ls j.val (.long x)) r h
      | _ => none)
    | .lstore j => (match st with
      | .long x :: r => go True nx (st2 ls j (.long x)) r h
      | _ => none)
    | .astore_n j => (match st with
      | .ref x :: r => go True nx (st1 ls j.val (.ref x)) r h
      | _ => none)
    | .astore j => (match st with
      | .ref x :: r => go True nx (st1 ls j (.ref x)) r h
      | _ => none)
    | .iinc j n => (match ls[j]? with
      | some (some (.int x)) => go True nx (st1 ls j (.int (x + Int32.ofInt n))) st h
      | _ => none)
    | .iadd => (match st with
      | .int y :: .int x :: r => go True nx ls (.int (x + y) :: r) h
      | _ => none)
    | .isub => (match st with
      | .int y :: .int x :: r => go True nx ls (.int (x - y) :: r) h
      | _ => none)
    | .imul => (match st with
      | .int y :: .int x :: r => go True nx ls (.int (x * y) :: r) h
      | _ => none)
    | .iand => (match st with
      | .int y :: .int x :: r => go True nx ls (.int (x &&& y) :: r) h
      | _ => none)
    | .ior => (match st with
      | .int y :: .int x :: r => go True nx ls (.int (x ||| y) :: r) h
      | _ => none)
    | .ishl => (match st with
      | .int y :: .int x :: r => go True nx ls (.int (x <<< (y &&& 31)) :: r) h
      | _ => none)
    | .ishr => (match st with
      | .int y :: .int x :: r => go True nx ls (.int (x >>> (y &&& 31)) :: r) h
      | _ => none)
    | .iushr => (match st with
      | .int y :: .int x :: r => go True nx ls (.int (x.toUInt32 >>> (y.toUInt32 &&& Int32.toUInt32 31)).toInt32 :: r) h
      | _ => none)
    | .idiv => (match st with
      | .int y :: .int x :: r => go (¬ y = 0) nx ls (.int (x / y) :: r) h
      | _ => none)
    | .irem => (match st with
      | .int y :: .int x :: r => go (¬ y = 0) nx ls (.int (x - x / y * y) :: r) h
      | _ => none)
    | .ladd => (match st with
      | .long y :: .long x :: r => go True nx ls (.long (x + y) :: r) h
      | _ => none)
    | .lsub => (match st with
      | .long y :: .long x :: r => go True nx ls (.long (x - y) :: r) h
      | _ => none)
    | .lmul => (match st with
      | .long y :: .long x :: r => go True nx ls (.long (x * y) :: r) h
      | _ => none)
    | .ldiv => (match st with
      | .long y :: .long x :: r => go (¬ y = 0) nx ls (.long (x / y) :: r) h
      | _ => none)
    | .lrem => (match st with
      | .long y :: .long x :: r => go (¬ y = 0) nx ls (.long (x - x / y * y) :: r) h
      | _ => none)
    | .lcmp => (match st with
      | .long y :: .long x :: r => go True nx ls (.int (lg_cmp x y) :: r) h
      | _ => none)
    | .i2l => (match st with
      | .int x :: r => go True nx ls (.long x.toInt64 :: r) h
      | _ => none)
    | .l2i => (match st with
      | .long x :: r => go True nx ls (.int x.toInt32 :: r) h
      | _ => none)
    | .i2b => (match st with
      | .int x :: r => go True nx ls (.int x.toInt8.toInt32 :: r) h
      | _ => none)
    | .i2s => (match st with
      | .int x :: r => go True nx ls (.int x.toInt16.toInt32 :: r) h
      | _ => none)
    | .dup => (match st with
      | .int x :: r => go True nx ls (.int x :: .int x :: r) h
      | .ref x :: r => go True nx ls (.ref x :: .ref x :: r) h
      | _ => none)
    | .dup2 => (match st with
      | .int x :: .ref y :: r => go True nx ls (.int x :: .ref y :: .int x :: .ref y :: r) h
      | _ => none)
    | .pop => (match st with
      | .int _ :: r => go True nx ls r h
      | .ref _ :: r => go True nx ls r h
      | _ => none)
    | .goto _ => go True tg ls st h
    | .ifCond .eq _ => (match st with
      | .int x :: r => br (x = 0) tg nx ls r
      | _ => none)
    | .ifCond .ne _ => (match st with
      | .int x :: r => br (¬ x = 0) tg nx ls r
      | _ => none)
    | .ifCond .lt _ => (match st with
      | .int x :: r => br (x < 0) tg nx ls r
      | _ => none)
    | .ifCond .ge _ => (match st with
      | .int x :: r => br (0 ≤ x) tg nx ls r
      | _ => none)
    | .ifCond .gt _ => (match st with
      | .int x :: r => br (0 < x) tg nx ls r
      | _ => none)
    | .ifCond .le _ => (match st with
      | .int x :: r => br (x ≤ 0) tg nx ls r
      | _ => none)
    | .if_icmp .eq _ => (match st with
      | .int y :: .int x :: r => br (x = y) tg nx ls r
      | _ => none)
    | .if_icmp .ne _ => (match st with
      | .int y :: .int x :: r => br (¬ x = y) tg nx ls r
      | _ => none)
    | .if_icmp .lt _ => (match st with
      | .int y :: .int x :: r => br (x < y) tg nx ls r
      | _ => none)
    | .if_icmp .ge _ => (match st with
      | .int y :: .int x :: r => br (y ≤ x) tg nx ls r
      | _ => none)
    | .if_icmp .gt _ => (match st with
      | .int y :: .int x :: r => br (y < x) tg nx ls r
      | _ => none)
    | .if_icmp .le _ => (match st with
      | .int y :: .int x :: r => br (x ≤ y) tg nx ls r
      | _ => none)
    | .if_acmp .ne _ => (match st with
      | .ref y :: .ref x :: r => br (¬ x = y) tg nx ls r
      | _ => none)
    | .tableswitch d lo hi offs => (match st with
      | .int x :: r => go True (tsw pc d lo hi offs x) ls r h
      | _ => none)
    | .getfield ix => (match fAt (mC mt.1) ix with
      | some (_, _, j, b) => (match st with
        | .ref a :: r => go (kin b (zK h a) = true) nx ls ((if ft b j = 2 then .ref (zA h a j) else .int (zI h a j)) :: r) h
        | _ => none)
      | none => none)
    | .putfield ix => (match fAt (mC mt.1) ix with
      | some (_, _, j, b) => (match st with
        | .int v :: .ref a :: r => if ft b j = 0 then go (kin b (zK h a) = true) nx ls r (upI h a j v) else if ft b j = 1 then go (kin b (zK h a) = true ∧ (v = 0 ∨ v = 1)) nx ls r (upI h a j v) else none
        | .ref v :: .ref a :: r => if ft b j = 2 then go (kin b (zK h a) = true) nx ls r (upA h a j v) else none
        | _ => none)
      | none => none)
    | .getstatic ix => (match sAt (mC mt.1) ix with
      | some (_, _, t) => go True nx ls (.retAddr t :: st) h
      | none => none)
    | .new ix => (match lAt (mC mt.1) ix with
      | some (_, _, c) => go True nx ls (.ref (zc h + 1) :: st) (nwC h c (nf c))
      | none => none)
    | .newarray .int => (match st with
      | .int n :: r => go (¬ n < 0 ∧ n.toNatClampNeg ≤ 100000) nx ls (.ref (zc h + 1) :: r) (nwC h 12 n.toNatClampNeg)
      | _ => none)
    | .newarray .long => (match st with
      | .int n :: r => go (¬ n < 0 ∧ n.toNatClampNeg ≤ 100000) nx ls (.ref (zc h + 1) :: r) (nwC h 13 n.toNatClampNeg)
      | _ => none)
    | .newarray .boolean => (match st with
      | .int n :: r => go (¬ n < 0 ∧ n.toNatClampNeg ≤ 100000) nx ls (.ref (zc h + 1) :: r) (nwC h 14 n.toNatClampNeg)
      | _ => none)
    | .anewarray ix => (match lAt (mC mt.1) ix with
      | some (_, _, c) => (match st with
        | .int n :: r => if c = 0 ∨ c = 4 ∨ c = 5 then go (¬ n < 0 ∧ n.toNatClampNeg ≤ 100000) nx ls (.ref (zc h + 1) :: r) (nwC h (kar c) n.toNatClampNeg) else none
        | _ => none)
      | none => none)
    | .arraylength => (match st with
      | .ref a :: r => go (zK h a = 12 ∨ zK h a = 13) nx ls (.int (Int32.ofNat (zN h a)) :: r) h
      | .retAddr t :: r => if t = 5 then go True nx ls (.int (Int32.ofNat sc.1) :: r) h else none
      | _ => none)
    | .iaload => (match st with
      | .int i :: .ref a :: r => go (zK h a = 12 ∧ inB i (zN h a) = true) nx ls (.int (zI h a i.toNatClampNeg) :: r) h
      | .int i :: .retAddr t :: r => if t = 5 then go (inB i sc.1 = true) nx ls (.int (sc.2 i.toNatClampNeg) :: r) h else if t < 3 then go (inB i (stN t) = true) nx ls (.int (stI t i.toNatClampNeg) :: r) h else none
      | _ => none)
    | .caload => (match st with
      | .int i :: .retAddr t :: r => if t = 3 then go (inB i 4 = true) nx ls (.int (stI 3 i.toNatClampNeg) :: r) h else none
      | _ => none)
    | .laload => (match st with
      | .int i :: .ref a :: r => go (zK h a = 13 ∧ inB i (zN h a) = true) nx ls (.long (zJ h a i.toNatClampNeg) :: r) h
      | .int i :: .retAddr t :: r => if t = 4 then go (inB i 5 = true) nx ls (.long (stJ i.toNatClampNeg) :: r) h else none
      | _ => none)
    | .baload => (match st with
      | .int i :: .ref a :: r => go (zK h a = 14 ∧ inB i (zN h a) = true) nx ls (.int (zI h a i.toNatClampNeg) :: r) h
      | _ => none)
    | .aaload => (match st with
      | .int i :: .ref a :: r => go (aar (zK h a) = true ∧ inB i (zN h a) = true) nx ls (.ref (zA h a i.toNatClampNeg) :: r) h
      | _ => none)
    | .iastore => (match st with
      | .int v :: .int i :: .ref a :: r => go (zK h a = 12 ∧ inB i (zN h a) = true) nx ls r (upI h a i.toNatClampNeg v)
      | _ => none)
    | .lastore => (match st with
      | .long v :: .int i :: .ref a :: r => go (zK h a = 13 ∧ inB i (zN h a) = true) nx ls r (upJ h a i.toNatClampNeg v)
      | _ => none)
    | .bastore => (match st with
      | .int v :: .int i :: .ref a :: r => go (zK h a = 14 ∧ inB i (zN h a) = true ∧ (v = 0 ∨ v = 1)) nx ls r (upI h a i.toNatClampNeg v)
      | _ => none)
    | .aastore => (match st with
      | .ref v :: .int i :: .ref a :: r => go (inB i (zN h a) = true ∧ ((zK h a = 15 ∧ zK h v = 0) ∨ (zK h a = 16 ∧ kin 4 (zK h v) = true) ∨ (zK h a = 17 ∧ zK h v = 5))) nx ls r (upA h a i.toNatClampNeg v)
      | _ => none)
    | .instanceof ix => (match lAt (mC mt.1) ix with
      | some (_, _, c) => (match st with
        | .ref a :: r => if c = 1 ∨ c = 2 then go (kin 4 (zK h a) = true) nx ls (.int (inst c (zK h a)) :: r) h else none
        | _ => none)
      | none => none)
    | .checkcast ix => (match st with
      | .ref a :: r => if mC mt.1 = 13 ∧ ix = 317 then go (zK h a = 12) nx ls (.ref a :: r) h else none
      | _ => none)
    | .invokevirtual ix => (match mAt (mC mt.1) ix with
      | some (_, _, 0, n, a, _, _) => (match st.drop n with
        | .ref o :: r => cl (okc mt.1 (mro a) r = true ∧ zK h o = mC (mro a)) a (.ref o :: (st.take n).reverse) r
        | _ => none)
      | some (_, _, 5, n, a, b, d) => (match st.drop n with
        | .ref o :: r => cl (okc mt.1 (mro (pck (zK h o) a b d)) r = true ∧ kin 4 (zK h o) = true ∧ pck (zK h o) a b d < 999) (pck (zK h o) a b d) (.ref o :: (st.take n).reverse) r
        | _ => none)
      | some (_, _, 9, _, _, _, _) => (match st with
        | .ref o :: r => go (okn mt.1 r = true ∧ zK h o = 12) nx ls (.ref (zc h + 1) :: r) (nwI h (zN h o) (zI h o))
        | _ => none)
      | _ => none)
    | .invokespecial ix => (match mAt (mC mt.1) ix with
      | some (_, _, 3, n, a, _, _) => (match st.drop n with
        | .ref o :: r => cl (okc mt.1 (mro a) r = true ∧ ¬ o = 0) a (.ref o :: (st.take n).reverse) r
        | _ => none)
      | some (_, _, 4, n, a, _, _) => (match st.drop n with
        | .ref o :: r => cl (okc mt.1 (mro a) r = true ∧ ¬ o = 0) a (.ref o :: (st.take n).reverse) r
        | _ => none)
      | some (_, _, 6, n, a, _, _) => (match st.drop n with
        | .ref o :: r => cl (okc mt.1 (mro a) r = true ∧ kin 4 (zK h o) = true) a (.ref o :: (st.take n).reverse) r
        | _ => none)
      | some (_, _, 7, _, _, _, _) => (match st with
        | .ref o :: r => go (okn mt.1 r = true ∧ ¬ o = 0) nx ls r h
        | _ => none)
      | _ => none)
    | .invokestatic ix => (match mAt (mC mt.1) ix with
      | some (_, _, 2, n, a, _, _) => cl (okc mt.1 (mro a) (st.drop n) = true) a ((st.take n).reverse) (st.drop n)
      | some (_, _, 10, _, _, _, _) => (match st with
        | .int y :: .int x :: r => go (okn mt.1 r = true) nx ls (.int (if y < x then y else x) :: r) h
        | _ => none)
      | some (_, _, 8, _, _, _, _) => (match st with
        | .int n :: .int dp :: .ref d :: .int sp :: .ref s :: r => go (okn mt.1 r = true ∧ ¬ sp < 0 ∧ ¬ dp < 0 ∧ ¬ n < 0 ∧ sp.toNatClampNeg + n.toNatClampNeg ≤ zN h s ∧ dp.toNatClampNeg + n.toNatClampNeg ≤ zN h d ∧ ((zK h s = 12 ∧ zK h d = 12) ∨ (zK h s = 13 ∧ zK h d = 13))) nx ls r
            (if zK h d = 13 then rwJ h d (va_cpy (zJ h s) (zJ h d) sp.toNatClampNeg dp.toNatClampNeg n.toNatClampNeg) else rwI h d (va_cpy (zI h s) (zI h d) sp.toNatClampNeg dp.toNatClampNeg n.toNatClampNeg))
        | _ => none)
      | _ => none)
    | .ireturn => (match st with
      | .int x :: [] => rt (mR mt.1 = some .int ∨ (mR mt.1 = some .boolean ∧ (x = 0 ∨ x = 1))) (some (.int x))
      | _ => none)
    | .lreturn => (match st with
      | .long x :: [] => rt True (some (.long x))
      | _ => none)
    | .areturn => (match st with
      | .ref x :: [] => rt True (some (.ref x))
      | _ => none)
    | .return_ => (match st with
      | [] => rt True none
      | _ => none)
    | _ => none
