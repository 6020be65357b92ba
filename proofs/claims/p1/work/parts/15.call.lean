/-! calls: what one method computes is its contract -/
def E_w (M : E_MI) : List Cond := .code M.2.1 M.2.2.1 M.2.2.2.1 M.2.2.2.2.1 :: E_GT
def E_rm (d k n : Nat) : Room := { frames := d, cells := k, slots := n, locals := 48 * d }
def E_Pc (D : va_G) (TY : List (ClassId × FieldType)) (sz : Nat) (vs : List Value) (h : E_H) : Array Value → State → Prop :=
  va_Pc (vs.map (E_v sz)) (fun U => U.heap.size = sz + h.length ∧ va_P D E_CL (E_ws TY sz h) U.heap ∧ va_K D E_CL TY U ∧ E_NW U)
def E_Qc (D : va_G) (TY : List (ClassId × FieldType)) (sz : Nat) (r : Option Value) (h : E_H) : Array Value → State → Outcome → State → Prop := fun _ st oc t =>
  (oc = .returned (r.map (E_v sz)) ∧ va_P D E_CL (E_ws TY sz h) t.heap) ∧ va_F (fun q => sz ≤ q) st t
def E_Met (l : Launch) (D : va_G) (TY : List (ClassId × FieldType)) (sz d : Nat) (M : E_MI) (vs : List Value) (h : E_H) (r : E_R) : Prop :=
  Met l M.2.1 (E_w M) (E_rm d (r.2.1.length - h.length) r.2.2) (E_Pc D TY sz vs h) (E_Qc D TY sz r.1 r.2.1) (r.2.1.length - h.length) r.2.2 (fun q => sz ≤ q)
theorem E_pop2_i {inst : Bool} {na : Nat} {st vs rest : List Value} (h : E_pop2 inst na st = some (vs, rest)) : (inst = false ∧ vs.length = na ∧ st = vs.reverse ++ rest) ∨ (inst = true ∧ ∃ o As, vs = .ref o :: As ∧ As.length = na ∧ st = As.reverse ++ .ref o :: rest) := by
  unfold E_pop2 at h
  cases inst
  · left
    dsimp only [cond_false] at h
    split at h
    · rename_i hn
      cases h
      refine ⟨rfl, ?_, ?_⟩
      · rw [List.length_reverse, List.length_take]; omega
      · rw [List.reverse_reverse, List.take_append_drop]
    · cases h
  · right
    dsimp only [cond_true] at h
    split at h
    · rename_i o rst hd
      split at h
      · rename_i hn
        cases h
        refine ⟨rfl, o, _, rfl, ?_, ?_⟩
        · rw [List.length_reverse, List.length_take]; omega
        · rw [List.reverse_reverse, ← hd, List.take_append_drop]
      · cases h
    · cases h
theorem E_lg_sl (sz : Nat) (vs : List Value) : (lg_sl (vs.map (E_v sz))).length = (lg_sl vs).length := by
  induction vs with
  | nil => rfl
  | cons v t ih => cases v <;> simp_all [lg_sl, E_v, Value.category]
theorem E_args_map (sz : Nat) (vs : List Value) : ∀ i, lv_args i (vs.map (E_v sz)) = (lv_args i vs).map (E_q sz) := by
  induction vs with
  | nil => intro i; rfl
  | cons v t ih =>
    intro i
    rw [List.map_cons]
    unfold lv_args
    rw [E_v_cat, ih, List.map_cons]
    rfl
