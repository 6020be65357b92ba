/-! the first heap: arrays of arrays -/
def P_q8 (n : Nat) : E_O := .inl (7, 8, .inr (.inr (.inr (.inr (fun i => if i < 8 then some (n + 1 + i) else none)))))
set_option maxRecDepth 100000 in
theorem P_s0_q : ([38, 51] : List Nat).map (fun j => P_h[j]?) = ([38, 51] : List Nat).map (fun j => some (P_q8 j)) := by eq_refl
