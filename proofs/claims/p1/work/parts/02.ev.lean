/-! EV: a small evaluator of bytecode over an abstract heap (a list of cells; a reference is a place in it). Its steps are shown to be the machine's (part 04 on); what it computes can be computed by the kernel, or reasoned of without the machine. -/
abbrev E_O : Type := (Nat × vp_A) ⊕ (Nat × List Value)
abbrev E_H : Type := List E_O
abbrev E_L : Type := List (Nat × Value)
abbrev E_F : Type := Nat × E_L × List Value
/-- a row of code: pc, instruction, its length, two numbers that its operand stands for -/
abbrev E_C : Type := Nat × Instr × Nat × Nat × Nat
/-- a method: its class, name, bytes, locals, answer, static or not, how many arguments, code -/
abbrev E_MI : Type := Nat × MethodName × ByteArray × Nat × Option FieldType × Bool × Nat × List E_C
/-- the arrays' component types -/
def E_ATY : List FieldType := [.int, .byte, .boolean, .long, .object "GramFinder$Row", .object "GramFinder$Part", .object "GramFinder$Entry", .array .byte]
def E_lk (L : E_L) (i : Nat) : Option Value := match L with
  | [] => none
  | q :: t => if q.1 = i then some q.2 else E_lk t i
def E_s1 (L : E_L) (i : Nat) (v : Value) : E_L := (i, v) :: L.filter (fun q => !(q.1 == i) && !(q.1 + 1 == i && q.2.category == 2))
def E_s2 (L : E_L) (i : Nat) (v : Value) : E_L := (i, v) :: L.filter (fun q => !(q.1 == i) && (!(q.1 == i + 1) && !(q.1 + 1 == i && q.2.category == 2)))
def E_tg (pc : Nat) (off : Int) : Nat := ((pc : Int) + off).toNat
def E_tok (pc : Nat) (off : Int) : Bool := decide (0 ≤ (pc : Int) + off)
def E_bin (len : Nat) (f : E_F) (g : Int32 → Int32 → Int32) : Option E_F := match f with
  | (pc, L, .int y :: .int x :: st) => if len = 1 then some (pc + 1, L, .int (g x y) :: st) else none
  | _ => none
def E_binN (len : Nat) (f : E_F) (g : Int32 → Int32 → Int32) : Option E_F := match f with
  | (pc, L, .int y :: .int x :: st) => if len = 1 ∧ ¬ y = 0 then some (pc + 1, L, .int (g x y) :: st) else none
  | _ => none
def E_binL (len : Nat) (f : E_F) (g : Int64 → Int64 → Int64) : Option E_F := match f with
  | (pc, L, .long y :: .long x :: st) => if len = 1 then some (pc + 1, L, .long (g x y) :: st) else none
  | _ => none
def E_shL (len : Nat) (f : E_F) (g : Int64 → Int32 → Int64) : Option E_F := match f with
  | (pc, L, .int y :: .long x :: st) => if len = 1 then some (pc + 1, L, .long (g x y) :: st) else none
  | _ => none
def E_push (n len : Nat) (f : E_F) (v : Value) : Option E_F := if len = n then some (f.1 + n, f.2.1, v :: f.2.2) else none
def E_ildk (i n len : Nat) (f : E_F) : Option E_F := match E_lk f.2.1 i with
  | some (.int x) => if len = n then some (f.1 + n, f.2.1, .int x :: f.2.2) else none
  | _ => none
def E_lldk (i n len : Nat) (f : E_F) : Option E_F := match E_lk f.2.1 i with
  | some (.long x) => if len = n then some (f.1 + n, f.2.1, .long x :: f.2.2) else none
  | _ => none
def E_aldk (i n len : Nat) (f : E_F) : Option E_F := match E_lk f.2.1 i with
  | some (.ref x) => if len = n then some (f.1 + n, f.2.1, .ref x :: f.2.2) else none
  | some .null => if len = n then some (f.1 + n, f.2.1, .null :: f.2.2) else none
  | _ => none
def E_istk (mx i n len : Nat) (f : E_F) : Option E_F := match f with
  | (pc, L, .int x :: st) => if len = n ∧ i < mx then some (pc + n, E_s1 L i (.int x), st) else none
  | _ => none
def E_lstk (mx i n len : Nat) (f : E_F) : Option E_F := match f with
  | (pc, L, .long x :: st) => if len = n ∧ i + 1 < mx then some (pc + n, E_s2 L i (.long x), st) else none
  | _ => none
def E_astk (mx i n len : Nat) (f : E_F) : Option E_F := match f with
  | (pc, L, .ref x :: st) => if len = n ∧ i < mx then some (pc + n, E_s1 L i (.ref x), st) else none
  | (pc, L, .null :: st) => if len = n ∧ i < mx then some (pc + n, E_s1 L i .null, st) else none
  | _ => none
def E_iinck (mx i : Nat) (n : Int) (len : Nat) (f : E_F) : Option E_F := match E_lk f.2.1 i with
  | some (.int x) => if len = 3 ∧ i < mx then some (f.1 + 3, E_s1 f.2.1 i (.int (x + Int32.ofInt n)), f.2.2) else none
  | _ => none
def E_un (len : Nat) (f : E_F) (g : Int32 → Value) : Option E_F := match f with
  | (pc, L, .int x :: st) => if len = 1 then some (pc + 1, L, g x :: st) else none
  | _ => none
def E_unL (len : Nat) (f : E_F) (g : Int64 → Value) : Option E_F := match f with
  | (pc, L, .long x :: st) => if len = 1 then some (pc + 1, L, g x :: st) else none
  | _ => none
def E_if (len : Nat) (off : Int) (f : E_F) (g : Int32 → Bool) : Option E_F := match f with
  | (pc, L, .int x :: st) => if len = 3 ∧ E_tok pc off = true then (bif g x then some (E_tg pc off, L, st) else some (pc + 3, L, st)) else none
  | _ => none
def E_icmp (len : Nat) (off : Int) (f : E_F) (g : Int32 → Int32 → Bool) : Option E_F := match f with
  | (pc, L, .int y :: .int x :: st) => if len = 3 ∧ E_tok pc off = true then (bif g x y then some (E_tg pc off, L, st) else some (pc + 3, L, st)) else none
  | _ => none
def E_goto (len : Nat) (off : Int) (f : E_F) : Option E_F := if len = 3 ∧ E_tok f.1 off = true then some (E_tg f.1 off, f.2.1, f.2.2) else none
def E_dup (len : Nat) (f : E_F) : Option E_F := match f with
  | (pc, L, v :: st) => if len = 1 ∧ v.category = 1 then some (pc + 1, L, v :: v :: st) else none
  | _ => none
def E_dup2 (len : Nat) (f : E_F) : Option E_F := match f with
  | (pc, L, v :: w :: st) => if len = 1 ∧ v.category = 1 ∧ w.category = 1 then some (pc + 1, L, v :: w :: v :: w :: st) else none
  | _ => none
def E_pop (len : Nat) (f : E_F) : Option E_F := match f with
  | (pc, L, v :: st) => if len = 1 ∧ v.category = 1 then some (pc + 1, L, st) else none
  | _ => none
def E_nul (len : Nat) (off : Int) (f : E_F) (onNull : Bool) : Option E_F := match f with
  | (pc, L, .ref _ :: st) => if len = 3 ∧ E_tok pc off = true then (bif onNull then some (pc + 3, L, st) else some (E_tg pc off, L, st)) else none
  | (pc, L, .null :: st) => if len = 3 ∧ E_tok pc off = true then (bif onNull then some (E_tg pc off, L, st) else some (pc + 3, L, st)) else none
  | _ => none
def E_tsw (dflt lo hi : Int) (offs : Array Int) (f : E_F) : Option E_F := match f with
  | (pc, L, .int x :: st) => bif decide (x.toInt < lo) || decide (hi < x.toInt) then (if E_tok pc dflt = true then some (E_tg pc dflt, L, st) else none) else
    match offs[(x.toInt - lo).toNat]? with
    | some off => if E_tok pc off = true then some (E_tg pc off, L, st) else none
    | none => none
  | _ => none
def E_lsw (dflt : Int) (ps : Array (Int × Int)) (f : E_F) : Option E_F := match f with
  | (pc, L, .int x :: st) => if (ps.toList.zip (ps.toList.drop 1)).all (fun (a, next) => a.1 < next.1) = true ∧ E_tok pc (Op.lookupswitch.offset ps.toList dflt x.toInt) = true then some (E_tg pc (Op.lookupswitch.offset ps.toList dflt x.toInt), L, st) else none
  | _ => none
/-- instructions that neither see the heap nor the tables -/
def E_pure (mx : Nat) (ins : Instr) (len : Nat) (f : E_F) : Option E_F := match ins with
  | .iconst n => E_push 1 len f (.int (Int32.ofInt n))
  | .bipush n => E_push 2 len f (.int (Int8.ofInt n).toInt32)
  | .sipush n => E_push 3 len f (.int (Int16.ofInt n).toInt32)
  | .lconst n => E_push 1 len f (.long (Int64.ofNat (n : Nat)))
  | .aconst_null => E_push 1 len f .null
  | .iload_n k => E_ildk k 1 len f
  | .iload i => E_ildk i 2 len f
  | .lload_n k => E_lldk k 1 len f
  | .lload i => E_lldk i 2 len f
  | .aload_n k => E_aldk k 1 len f
  | .aload i => E_aldk i 2 len f
  | .istore_n k => E_istk mx k 1 len f
  | .istore i => E_istk mx i 2 len f
  | .lstore_n k => E_lstk mx k 1 len f
  | .lstore i => E_lstk mx i 2 len f
  | .astore_n k => E_astk mx k 1 len f
  | .astore i => E_astk mx i 2 len f
  | .iinc i n => E_iinck mx i n len f
  | .iadd => E_bin len f (fun x y => x + y)
  | .isub => E_bin len f (fun x y => x - y)
  | .imul => E_bin len f (fun x y => x * y)
  | .iand => E_bin len f (fun x y => x &&& y)
  | .ior => E_bin len f (fun x y => x ||| y)
  | .ixor => E_bin len f (fun x y => x ^^^ y)
  | .ishl => E_bin len f (fun x y => x <<< (y &&& 31))
  | .ishr => E_bin len f (fun x y => x >>> (y &&& 31))
  | .iushr => E_bin len f (fun x y => (x.toUInt32 >>> (y.toUInt32 &&& Int32.toUInt32 31)).toInt32)
  | .idiv => E_binN len f (fun x y => x / y)
  | .irem => E_binN len f (fun x y => x - x / y * y)
  | .ladd => E_binL len f (fun x y => x + y)
  | .lsub => E_binL len f (fun x y => x - y)
  | .lmul => E_binL len f (fun x y => x * y)
  | .land => E_binL len f (fun x y => x &&& y)
  | .lor => E_binL len f (fun x y => x ||| y)
  | .lxor => E_binL len f (fun x y => x ^^^ y)
  | .lushr => E_shL len f (fun x y => (x.toUInt64 >>> (y.toInt64.toUInt64 &&& Int64.toUInt64 63)).toInt64)
  | .lshl => E_shL len f (fun x y => x <<< (y.toInt64 &&& 63))
  | .lcmp => match f with
    | (pc, L, .long y :: .long x :: st) => if len = 1 then some (pc + 1, L, .int (lg_cmp x y) :: st) else none
    | _ => none
  | .i2l => E_un len f (fun x => .long x.toInt64)
  | .i2b => E_un len f (fun x => .int x.toInt8.toInt32)
  | .l2i => E_unL len f (fun x => .int x.toInt32)
  | .ifCond .eq off => E_if len off f (fun x => decide (x = 0))
  | .ifCond .ne off => E_if len off f (fun x => decide (x ≠ 0))
  | .ifCond .lt off => E_if len off f (fun x => decide (x < 0))
  | .ifCond .ge off => E_if len off f (fun x => decide (0 ≤ x))
  | .ifCond .gt off => E_if len off f (fun x => decide (0 < x))
  | .ifCond .le off => E_if len off f (fun x => decide (x ≤ 0))
  | .if_icmp .eq off => E_icmp len off f (fun x y => decide (x = y))
  | .if_icmp .ne off => E_icmp len off f (fun x y => decide (x ≠ y))
  | .if_icmp .lt off => E_icmp len off f (fun x y => decide (x < y))
  | .if_icmp .ge off => E_icmp len off f (fun x y => decide (y ≤ x))
  | .if_icmp .gt off => E_icmp len off f (fun x y => decide (y < x))
  | .if_icmp .le off => E_icmp len off f (fun x y => decide (x ≤ y))
  | .goto off => E_goto len off f
  | .dup => E_dup len f
  | .dup2 => E_dup2 len f
  | .pop => E_pop len f
  | .ifnull off => E_nul len off f true
  | .ifnonnull off => E_nul len off f false
  | .tableswitch d lo hi offs => E_tsw d lo hi offs f
  | .lookupswitch d ps => E_lsw d ps f
  | _ => none
