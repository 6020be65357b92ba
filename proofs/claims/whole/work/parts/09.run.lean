/-! the evaluator: calls by an oracle, depth by depth -/
abbrev E_R : Type := Option Value × E_H × Nat
def E_find : List E_C → Nat → Option (Instr × Nat × Nat × Nat)
  | [], _ => none
  | r :: t, pc => if r.1 = pc then some r.2 else E_find t pc
def E_isI (M : E_MI) : Bool := decide (M.2.1.name = "<init>")
/-- a call: which method, its arguments (the receiver first), what stays on the stack -/
def E_pop2 (inst : Bool) (na : Nat) (st : List Value) : Option (List Value × List Value) := bif inst then (match st.drop na with
    | .ref o :: rest => if na ≤ st.length then some (.ref o :: (st.take na).reverse, rest) else none
    | _ => none) else (if na ≤ st.length then some ((st.take na).reverse, st.drop na) else none)
def E_catS (st : List Value) : Nat := (st.map (fun v => v.category)).sum
def E_rcv (M : E_MI) (vs : List Value) (h : E_H) : Bool := match vs with
  | .ref o :: _ => match h[o]? with
    | some (.inr (ci, _)) => ci == M.1 && decide (ci < 13)
    | _ => false
  | _ => false
def E_kok (kind : Nat) (M : E_MI) (vs : List Value) (h : E_H) : Bool := match kind with
  | 0 => M.2.2.2.2.2.1
  | 1 => !M.2.2.2.2.2.1 && !E_isI M && E_rcv M vs h
  | 2 => !M.2.2.2.2.2.1 && E_isI M && decide (M.2.2.2.2.1 = none)
  | _ => false
def E_inv (orc : Nat → List Value → E_H → Option E_R) (kind : Nat) (a : Nat) (f : E_F) (h : E_H) (sl : Nat) : Option (E_F × E_H × Nat) := match E_mi a with
  | none => none
  | some M => match E_pop2 (!M.2.2.2.2.2.1) M.2.2.2.2.2.2.1 f.2.2 with
    | none => none
    | some (vs, rest) =>
      if E_kok kind M vs h = true then
        (if E_catS rest ≤ 8 then (match orc a vs h with
        | none => none
        | some (r, h2, s2) => some ((f.1 + 3, f.2.1, r.toList ++ rest), h2, sl + s2)) else none) else none
/-- Math.max (288), Math.min -/
def E_mm (a : Nat) (f : E_F) : Option E_F := match f with
  | (pc, L, .int y :: .int x :: st) => some (pc + 3, L, .int (if a = 288 then (if x < y then y else x) else (if y < x then y else x)) :: st)
  | _ => none
def E_step (orc : Nat → List Value → E_H → Option E_R) (M : E_MI) (f : E_F) (h : E_H) (sl : Nat) : Option ((E_F × E_H × Nat) ⊕ E_R) := match E_find M.2.2.2.2.2.2.2 f.1 with
  | none => none
  | some (ins, len, a, b) => match ins with
    | .ireturn => match f.2.2, M.2.2.2.2.1 with
      | [.int v], some ty => if len = 1 ∧ narrow ty (.int v) = .int v then some (.inr (some (.int v), h, sl)) else none
      | _, _ => none
    | .lreturn => match f.2.2, M.2.2.2.2.1 with
      | [.long v], some .long => if len = 1 then some (.inr (some (.long v), h, sl)) else none
      | _, _ => none
    | .areturn => match f.2.2, M.2.2.2.2.1 with
      | [.ref v], some (.object _) => if len = 1 then some (.inr (some (.ref v), h, sl)) else none
      | [.ref v], some (.array _) => if len = 1 then some (.inr (some (.ref v), h, sl)) else none
      | [.null], some (.object _) => if len = 1 then some (.inr (some .null, h, sl)) else none
      | _, _ => none
    | .return_ => match f.2.2, M.2.2.2.2.1 with
      | [], none => if len = 1 then some (.inr (none, h, sl)) else none
      | _, _ => none
    | .invokestatic _ => if len = 3 ∧ a ≠ 900 then (if a = 998 then (if E_catS f.2.2 ≤ 16 then (match E_copy len f h with
        | some (f2, h2) => some (.inl (f2, h2, sl))
        | none => none) else none) else (if a = 288 ∨ a = 289 then (if b = 0 ∧ E_catS f.2.2 ≤ 16 then (match E_mm a f with
        | some f2 => some (.inl (f2, h, sl))
        | none => none) else none) else (match E_inv orc 0 a f h sl with
        | some q => some (.inl q)
        | none => none))) else none
    | .invokevirtual i => if len = 3 ∧ a < 900 then (match E_inv orc 1 a f h sl with
        | some q => some (.inl q)
        | none => none) else (match E_cln M.1 i len a f h with
        | some (f2, h2, n) => some (.inl (f2, h2, sl + n))
        | none => none)
    | .invokespecial _ => if len = 3 ∧ a ≠ 900 then (if a = 999 then (match f with
        | (pc, L, .ref _ :: st) => if E_catS st ≤ 8 then some (.inl ((pc + 3, L, st), h, sl)) else none
        | _ => none) else (match E_inv orc 2 a f h sl with
        | some q => some (.inl q)
        | none => none)) else none
    | ins => match E_heap M.2.2.2.1 M.1 (E_isI M) ins len a b f h with
      | some (f2, h2, n) => some (.inl (f2, h2, sl + n))
      | none => none
def E_run (orc : Nat → List Value → E_H → Option E_R) (M : E_MI) : Nat → E_F → E_H → Nat → Option E_R
  | 0, _, _, _ => none
  | n + 1, f, h, sl => match E_step orc M f h sl with
    | none => none
    | some (.inr r) => some r
    | some (.inl (f2, h2, s2)) => E_run orc M n f2 h2 s2
def E_call (fuel : Nat) : Nat → Nat → List Value → E_H → Option E_R
  | 0, _, _, _ => none
  | d + 1, a, vs, h => match E_mi a with
    | none => none
    | some M => if (lg_sl vs).length ≤ M.2.2.2.1 then E_run (E_call fuel d) M fuel (0, lv_args 0 vs, []) h 0 else none
