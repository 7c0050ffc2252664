def gwl : List Cond := lw_tbl.filter goodWord
theorem gm {w : Cond} (i : Nat) (h : lw_tbl[i]? = some w) (hg : goodWord w = true) : w ∈ gwl := List.mem_filter.mpr ⟨List.mem_of_getElem? h, hg⟩
def isNest (w : Cond) : Bool := match w with
  | .fieldLinkNest _ _ _ _ _ _ => true
  | .methodLinkNest _ _ _ _ => true
  | .castable _ _ => true
  | _ => false
def nwl : List Cond := lw_tbl.filter isNest
theorem nm {w : Cond} (i : Nat) (h : lw_tbl[i]? = some w) (hg : isNest w = true) : w ∈ nwl := List.mem_filter.mpr ⟨List.mem_of_getElem? h, hg⟩
theorem gm_ps {ws : List Cond} (ps : List Nat) (hp : ws = ps.filterMap (fun i => lw_tbl[i]?)) (hg : ws.all goodWord = true) : ∀ w ∈ ws, w ∈ gwl := by
  intro w hw
  have h1 := List.all_eq_true.mp hg w hw
  rw [hp] at hw
  obtain ⟨i, -, hi⟩ := List.mem_filterMap.mp hw
  exact gm i hi h1
def ilen (i : Instr) : Nat := match i with
  | .bipush _ => 2
  | .sipush _ => 3
  | .ldc _ => 2
  | .ldc_w _ => 3
  | .ldc2_w _ => 3
  | .iload _ => 2
  | .lload _ => 2
  | .aload _ => 2
  | .istore _ => 2
  | .lstore _ => 2
  | .astore _ => 2
  | .iinc _ _ => 3
  | .goto _ => 3
  | .ifCond _ _ => 3
  | .if_icmp _ _ => 3
  | .if_acmp _ _ => 3
  | .getfield _ => 3
  | .putfield _ => 3
  | .getstatic _ => 3
  | .new _ => 3
  | .newarray _ => 2
  | .anewarray _ => 3
  | .instanceof _ => 3
  | .checkcast _ => 3
  | .invokevirtual _ => 3
  | .invokespecial _ => 3
  | .invokestatic _ => 3
  | _ => 1
def KTs : List (Nat × Nat × Value) := [(3, 98, .long (-1)), (3, 123, .long 1000000), (3, 144, .long 3000000), (8, 68, .long 4611686018427387904), (8, 80, .long 8916100448256), (8, 128, .long 12), (8, 130, .long 144115188075855872), (8, 145, .long 256), (10, 115, .long (-9223372036854775808)), (11, 69, .int 53248), (11, 92, .long (-9223372036854775808)), (11, 109, .long 2), (11, 131, .long 48), (11, 133, .long 57), (11, 193, .long 10), (11, 198, .long 4), (11, 200, .long 3), (11, 220, .long (-1)), (11, 226, .long 3000000), (11, 228, .long 2000000), (11, 241, .long 12), (11, 253, .long 30), (11, 265, .long 9), (11, 276, .long 11), (11, 291, .int 1000000), (15, 265, .int 1431655765), (15, 266, .int 858993459), (15, 267, .int 252645135)]
def fin (c ix : Nat) : Bool := match fAt c ix with
  | some (_, _, j, b) => (fFs.getD b []).getD j false
  | none => false
/-- what a program decides of a row of code -/
def rowOK (y : MethodName) (c : Nat) (b : ByteArray) (r : Rw) : Bool :=
  decide (decode b r.1 = .ok (r.2.2.1, r.2.1 - r.1)) && (match r.2.2.1 with
    | .tableswitch d lo hi offs => decide (0 ≤ (r.1 : Int) + d) && offs.toList.all (fun z => decide (0 ≤ (r.1 : Int) + z)) && decide ((offs.size : Int) = hi - lo + 1)
    | i => decide (r.2.1 = r.1 + ilen i)) && (match r.2.2.1 with
    | .goto z => decide ((r.1 : Int) + z = (r.2.2.2.1 : Int))
    | .ifCond _ z => decide ((r.1 : Int) + z = (r.2.2.2.1 : Int))
    | .if_icmp _ z => decide ((r.1 : Int) + z = (r.2.2.2.1 : Int))
    | .if_acmp _ z => decide ((r.1 : Int) + z = (r.2.2.2.1 : Int))
    | .iconst n => decide (r.2.2.2.2 = .int (Int32.ofInt n))
    | .bipush n => decide (r.2.2.2.2 = .int (Int8.ofInt n).toInt32)
    | .sipush n => decide (r.2.2.2.2 = .int (Int16.ofInt n).toInt32)
    | .lconst n => decide (r.2.2.2.2 = .long (Int64.ofNat (n : Nat)))
    | .ldc ix => KTs.contains (c, ix, r.2.2.2.2) && (match r.2.2.2.2 with | .int _ => true | _ => false)
    | .ldc_w ix => KTs.contains (c, ix, r.2.2.2.2) && (match r.2.2.2.2 with | .int _ => true | _ => false)
    | .ldc2_w ix => KTs.contains (c, ix, r.2.2.2.2) && (match r.2.2.2.2 with | .long _ => true | _ => false)
    | .putfield ix => !(fin c ix) || y.name == "<init>"
    | _ => true)
/-- a method: its words -/
def MrP (r : Mr) : Prop := Cond.code (mY r) (mB r) (mL r) (mR r) ∈ gwl ∧ Cond.initialized (mY r).cls ∈ gwl ∧ (Cond.instanceMethod (mY r) ∈ gwl ∨ Cond.static (mY r) ∈ gwl) ∧ plainName (mY r).cls = true ∧ (mY r).cls ≠ "java/lang/invoke/MethodHandle" ∧ (mY r).cls ≠ "java/lang/invoke/VarHandle" ∧ ownS (mC r) = (mY r).cls
abbrev CkP (r : Mr) (c : List Rw) : Prop := c.all (rowOK (mY r) (mC r) (mB r)) = true
