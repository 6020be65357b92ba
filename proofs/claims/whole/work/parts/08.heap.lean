/-! instructions that see the heap: getfield, putfield, arrays, new -/
def E_cty (ci k : Nat) : FieldType := match E_TY[ci]? with
  | some t => t k
  | none => .int
def E_fin (ci k : Nat) : Bool := match E_CL[ci]? with
  | some (_, T, _) => (T k).2.2.2
  | none => false
def E_N (ci : Nat) : Nat := match E_CL[ci]? with
  | some (_, _, N) => N
  | none => 0
def E_inb (i : Int32) (n : Nat) : Bool := decide (¬ (i < 0 ∨ n ≤ i.toNatClampNeg))
def E_getf (len a b : Nat) (f : E_F) (h : E_H) : Option E_F := match f with
  | (pc, L, .ref o :: st) => match h[o]? with
    | some (.inr (ci, fs)) => match fs[b]? with
      | some v => if len = 3 ∧ ci = a ∧ b < E_N a then some (pc + 3, L, v :: st) else none
      | none => none
    | _ => none
  | _ => none
def E_putf (isI : Bool) (oc len a b : Nat) (f : E_F) (h : E_H) : Option (E_F × E_H) := match f with
  | (pc, L, v :: .ref o :: st) => match h[o]? with
    | some (.inr (ci, fs)) => if len = 3 ∧ ci = a ∧ b < E_N a ∧ b < fs.length ∧ (E_fin a b = false ∨ (isI = true ∧ oc = a)) ∧ narrow (E_cty a b) v = v ∧ fits (E_cty a b) v = true then some ((pc + 3, L, st), h.set o (.inr (ci, fs.set b v))) else none
    | _ => none
  | _ => none
def E_ald (len : Nat) (tok : Nat → Bool) (f : E_F) (h : E_H) : Option E_F := match f with
  | (pc, L, .int i :: .ref o :: st) => match h[o]? with
    | some (.inl (t, n, .inl g)) => if len = 1 ∧ tok t = true ∧ E_inb i n = true then some (pc + 1, L, .int (g i.toNatClampNeg) :: st) else none
    | _ => none
  | _ => none
def E_lald (len : Nat) (f : E_F) (h : E_H) : Option E_F := match f with
  | (pc, L, .int i :: .ref o :: st) => match h[o]? with
    | some (.inl (t, n, .inr (.inl g))) => if len = 1 ∧ t = 3 ∧ E_inb i n = true then some (pc + 1, L, .long (g i.toNatClampNeg) :: st) else none
    | _ => none
  | _ => none
def E_aald (len : Nat) (f : E_F) (h : E_H) : Option E_F := match f with
  | (pc, L, .int i :: .ref o :: st) => match h[o]? with
    | some (.inl (t, n, .inr (.inr (.inr (.inr g))))) => if len = 1 ∧ 4 ≤ t ∧ t < 8 ∧ E_inb i n = true then some (pc + 1, L, va_rf (g i.toNatClampNeg) :: st) else none
    | _ => none
  | _ => none
def E_ast (len : Nat) (f : E_F) (h : E_H) : Option (E_F × E_H) := match f with
  | (pc, L, .int x :: .int i :: .ref o :: st) => match h[o]? with
    | some (.inl (t, n, .inl g)) => if len = 1 ∧ t = 0 ∧ E_inb i n = true then some ((pc + 1, L, st), h.set o (.inl (t, n, .inl (upd g i.toNatClampNeg x)))) else none
    | _ => none
  | _ => none
def E_bst (len : Nat) (f : E_F) (h : E_H) : Option (E_F × E_H) := match f with
  | (pc, L, .int x :: .int i :: .ref o :: st) => match h[o]? with
    | some (.inl (t, n, .inl g)) => if len = 1 ∧ E_inb i n = true then
        (if t = 1 then some ((pc + 1, L, st), h.set o (.inl (t, n, .inl (upd g i.toNatClampNeg (vp_nar .byte x)))))
         else if t = 2 then some ((pc + 1, L, st), h.set o (.inl (t, n, .inl (upd g i.toNatClampNeg (vp_nar .boolean x)))))
         else none) else none
    | _ => none
  | _ => none
def E_lst (len : Nat) (f : E_F) (h : E_H) : Option (E_F × E_H) := match f with
  | (pc, L, .long x :: .int i :: .ref o :: st) => match h[o]? with
    | some (.inl (t, n, .inr (.inl g))) => if len = 1 ∧ t = 3 ∧ E_inb i n = true then some ((pc + 1, L, st), h.set o (.inl (t, n, .inr (.inl (vp_updL g i.toNatClampNeg x))))) else none
    | _ => none
  | _ => none
def E_aast (len : Nat) (f : E_F) (h : E_H) : Option (E_F × E_H) := match f with
  | (pc, L, .ref v :: .int i :: .ref o :: st) => match h[o]?, h[v]? with
    | some (.inl (t, n, .inr (.inr (.inr (.inr g))))), some (.inr (ci, _)) => match E_CL[ci]? with
      | some (C, _, _) => if len = 1 ∧ E_ATY[t]? = some (.object C) ∧ E_inb i n = true then some ((pc + 1, L, st), h.set o (.inl (t, n, .inr (.inr (.inr (.inr (va_up g i.toNatClampNeg (some v)))))))) else none
      | none => none
    | _, _ => none
  | (pc, L, .null :: .int i :: .ref o :: st) => match h[o]? with
    | some (.inl (t, n, .inr (.inr (.inr (.inr g))))) => if len = 1 ∧ 4 ≤ t ∧ t < 7 ∧ E_inb i n = true then some ((pc + 1, L, st), h.set o (.inl (t, n, .inr (.inr (.inr (.inr (va_up g i.toNatClampNeg none))))))) else none
    | _ => none
  | _ => none
/-- a row of bytes into a row of such rows -/
def E_aasb (len : Nat) (f : E_F) (h : E_H) : Option (E_F × E_H) := match f with
  | (pc, L, .ref v :: .int i :: .ref o :: st) => match h[o]?, h[v]? with
    | some (.inl (t, n, .inr (.inr (.inr (.inr g))))), some (.inl (tv, _)) => if len = 1 ∧ t = 7 ∧ tv = 1 ∧ E_inb i n = true then some ((pc + 1, L, st), h.set o (.inl (t, n, .inr (.inr (.inr (.inr (va_up g i.toNatClampNeg (some v)))))))) else none
    | _, _ => none
  | _ => none
def E_aas (len : Nat) (f : E_F) (h : E_H) : Option (E_F × E_H) := match E_aasb len f h with
  | some q => some q
  | none => E_aast len f h
/-- a cast of a row of bytes, in java.util.Arrays -/
def E_cst (oc i len : Nat) (f : E_F) (h : E_H) : Option E_F := match f with
  | (pc, L, .ref o :: st) => match h[o]? with
    | some (.inl (t, _)) => if len = 3 ∧ oc = 16 ∧ i = 311 ∧ t = 1 then some (pc + 3, L, .ref o :: st) else none
    | _ => none
  | _ => none
/-- the clone of a row of bytes, in java.util.Arrays -/
def E_cln (oc i len a : Nat) (f : E_F) (h : E_H) : Option (E_F × E_H × Nat) := match f with
  | (pc, L, .ref o :: st) => match h[o]? with
    | some (.inl (t, n, .inl g)) => if len = 3 ∧ oc = 16 ∧ i = 310 ∧ a = 997 ∧ t = 1 ∧ (st.map (fun v => v.category)).sum ≤ 8 ∧ (List.range n).all (fun i => fits .byte (.int (g i))) = true then some ((pc + 3, L, .ref h.length :: st), h ++ [.inl (t, n, .inl g)], n) else none
    | _ => none
  | _ => none
def E_alen (len : Nat) (f : E_F) (h : E_H) : Option E_F := match f with
  | (pc, L, .ref o :: st) => match h[o]? with
    | some (.inl (t, a)) => if len = 1 ∧ t < 8 then some (pc + 1, L, .int (Int32.ofNat a.1) :: st) else none
    | _ => none
  | _ => none
def E_dfl (ci : Nat) : List Value := (List.range (E_N ci)).map (fun k => defaultValue (E_cty ci k))
def E_new (len a : Nat) (f : E_F) (h : E_H) : Option (E_F × E_H) := if len = 3 ∧ a < 13 then some ((f.1 + 3, f.2.1, .ref h.length :: f.2.2), h ++ [.inr (a, E_dfl a)]) else none
def E_zer (a n : Nat) : vp_A := if a = 3 then (n, .inr (.inl (fun _ => 0))) else (n, .inl (fun _ => 0))
def E_newa (len a : Nat) (f : E_F) (h : E_H) : Option (E_F × E_H × Nat) := match f with
  | (pc, L, .int n :: st) => if len = 2 ∧ a < 4 ∧ ¬ n < 0 ∧ n.toNatClampNeg * 8 ≤ 536870912 then some ((pc + 2, L, .ref h.length :: st), h ++ [.inl (a, E_zer a n.toNatClampNeg)], n.toNatClampNeg) else none
  | _ => none
def E_newq (len a : Nat) (f : E_F) (h : E_H) : Option (E_F × E_H × Nat) := match f with
  | (pc, L, .int n :: st) => if len = 3 ∧ 4 ≤ a ∧ a < 7 ∧ ¬ n < 0 ∧ n.toNatClampNeg * 8 ≤ 536870912 then some ((pc + 3, L, .ref h.length :: st), h ++ [.inl (a, (n.toNatClampNeg, .inr (.inr (.inr (.inr (fun _ => none))))))], n.toNatClampNeg) else none
  | _ => none
def E_mna (len : Nat) (f : E_F) (h : E_H) : Option (E_F × E_H × Nat) := match f with
  | (pc, L, .int k :: .int n :: st) => if len = 4 ∧ ¬ n < 0 ∧ ¬ k < 0 ∧ n.toNatClampNeg * 8 ≤ 536870912 ∧ k.toNatClampNeg * 8 ≤ 536870912 then
      some ((pc + 4, L, .ref h.length :: st), h ++ (.inl (7, (n.toNatClampNeg, .inr (.inr (.inr (.inr (fun i => if i < n.toNatClampNeg then some (h.length + 1 + i) else none)))))) :: List.replicate n.toNatClampNeg (.inl (1, (k.toNatClampNeg, .inl (fun _ => 0))))), n.toNatClampNeg + n.toNatClampNeg * k.toNatClampNeg) else none
  | _ => none
def E_kI (oc i : Nat) : Option Int32 := (E_KI.find? (fun q => q.1 == oc && q.2.1 == i)).map (fun q => q.2.2)
def E_kL (oc i : Nat) : Option Int64 := (E_KL.find? (fun q => q.1 == oc && q.2.1 == i)).map (fun q => q.2.2)
def E_ldc (n oc i len : Nat) (f : E_F) : Option E_F := match E_kI oc i with
  | some v => if len = n then some (f.1 + n, f.2.1, .int v :: f.2.2) else none
  | none => none
def E_ldc2 (oc i len : Nat) (f : E_F) : Option E_F := match E_kL oc i with
  | some v => if len = 3 then some (f.1 + 3, f.2.1, .long v :: f.2.2) else none
  | none => none
/-- System.arraycopy over int or byte arrays -/
def E_copy (len : Nat) (f : E_F) (h : E_H) : Option (E_F × E_H) := match f with
  | (pc, L, .int n :: .int dp :: .ref d :: .int sp :: .ref o :: st) => match h[o]?, h[d]? with
    | some (.inl (t0, n0, .inl g0)), some (.inl (t1, n1, .inl g1)) =>
      if len = 3 ∧ t0 = t1 ∧ t0 < 2 ∧ ¬ sp < 0 ∧ ¬ dp < 0 ∧ ¬ n < 0 ∧ sp.toNatClampNeg + n.toNatClampNeg ≤ n0 ∧ dp.toNatClampNeg + n.toNatClampNeg ≤ n1 ∧ (t0 = 0 ∨ (List.range n.toNatClampNeg).all (fun i => fits .byte (.int (g0 (sp.toNatClampNeg + i)))) = true) then
        some ((pc + 3, L, st), h.set d (.inl (t1, n1, .inl (va_cpy g0 g1 sp.toNatClampNeg dp.toNatClampNeg n.toNatClampNeg)))) else none
    | _, _ => none
  | _ => none
def E_f1 (x : Option E_F) (h : E_H) : Option (E_F × E_H × Nat) := match x with
  | some f => some (f, h, 0)
  | none => none
def E_f2 (x : Option (E_F × E_H)) (n : Nat) : Option (E_F × E_H × Nat) := match x with
  | some (f, h) => some (f, h, n)
  | none => none
/-- all instructions but calls and returns -/
def E_heap (mx oc : Nat) (isI : Bool) (ins : Instr) (len a b : Nat) (f : E_F) (h : E_H) : Option (E_F × E_H × Nat) := match ins with
  | .getfield _ => E_f1 (E_getf len a b f h) h
  | .putfield _ => E_f2 (E_putf isI oc len a b f h) 0
  | .iaload => E_f1 (E_ald len (fun t => t == 0) f h) h
  | .baload => E_f1 (E_ald len (fun t => t == 1 || t == 2) f h) h
  | .laload => E_f1 (E_lald len f h) h
  | .aaload => E_f1 (E_aald len f h) h
  | .iastore => E_f2 (E_ast len f h) 0
  | .bastore => E_f2 (E_bst len f h) 0
  | .lastore => E_f2 (E_lst len f h) 0
  | .aastore => E_f2 (E_aas len f h) 0
  | .checkcast i => E_f1 (E_cst oc i len f h) h
  | .arraylength => E_f1 (E_alen len f h) h
  | .new _ => E_f2 (E_new len a f h) (E_N a)
  | .newarray _ => E_newa len a f h
  | .anewarray _ => E_newq len a f h
  | .multianewarray _ d => if d = 2 then E_mna len f h else none
  | .ldc i => E_f1 (E_ldc 2 oc i len f) h
  | .ldc_w i => E_f1 (E_ldc 3 oc i len f) h
  | .ldc2_w i => E_f1 (E_ldc2 oc i len f) h
  | ins => E_f1 (E_pure mx ins len f) h
