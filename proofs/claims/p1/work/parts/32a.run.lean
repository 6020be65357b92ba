/-! one call on a fresh object: the evaluator at work -/
def P_m (x : Option E_R) (f : E_H → Nat → Bool) : Bool := match x with
  | some (none, h, s) => f h s
  | _ => false
def P_m3 (x : Option E_R) (o : Nat) (f : E_H → Nat → Bool) : Bool := match x with
  | some (some (.ref k), h, s) => k == o && f h s
  | _ => false
def P_le (a b : Nat) : Bool := decide (a ≤ b)
theorem P_le_ok {a b : Nat} (h : P_le a b = true) : a ≤ b := of_decide_eq_true h
theorem P_opt {x : Option E_R} {f : E_H → Nat → Bool} (h : P_m x f = true) : ∃ hh s, x = some (none, hh, s) ∧ f hh s = true := by
  unfold P_m at h
  split at h
  · exact ⟨_, _, rfl, h⟩
  · cases h
def P_gh (x : Option E_R) : E_H := match x with
  | some r => r.2.1
  | none => []
def P_gs (x : Option E_R) : Nat := match x with
  | some r => r.2.2
  | none => 0
theorem P_opt2 {x : Option E_R} {f : E_H → Nat → Bool} (h : P_m x f = true) : x = some (none, P_gh x, P_gs x) ∧ f (P_gh x) (P_gs x) = true := by
  obtain ⟨hh, s, e, k⟩ := P_opt h
  subst e
  exact ⟨rfl, k⟩
theorem P_opt3 {x : Option E_R} {o : Nat} {f : E_H → Nat → Bool} (h : P_m3 x o f = true) : x = some (some (.ref o), P_gh x, P_gs x) ∧ f (P_gh x) (P_gs x) = true := by
  unfold P_m3 at h
  split at h
  · rename_i k hh s
    rw [Bool.and_eq_true, beq_iff_eq] at h
    obtain ⟨rfl, h2⟩ := h
    exact ⟨rfl, h2⟩
  · cases h
def E_isO (x : Option E_O) (ci : Nat) (fs : List Value) : Bool := match x with
  | some (.inr (c, f)) => decide (c = ci) && decide (f = fs)
  | _ => false
theorem E_isO_ok {x : Option E_O} {ci : Nat} {fs : List Value} (h : E_isO x ci fs = true) : x = some (.inr (ci, fs)) := by
  unfold E_isO at h
  split at h
  · rw [Bool.and_eq_true] at h
    rw [of_decide_eq_true h.1, of_decide_eq_true h.2]
  · cases h
def P_r1 : Option E_R := E_call 4000 60 144 [.ref 0] [.inr (11, E_dfl 11)]
def P_f1 (h : E_H) (s : Nat) : Bool := h.length == 83
theorem P_k1 : P_m P_r1 P_f1 = true := by decide +kernel
def P_r2 : Option E_R := E_call 4000 60 174 [.ref 83] (P_gh P_r1 ++ [.inr (12, E_dfl 12)])
def P_f2 (h : E_H) (s : Nat) : Bool := P_le h.length 1000 && P_le (0 + 7 + P_gs P_r1 + 74 + s) 2000000 && E_isO h[0]? 11 [.ref 1, .int 0, .ref 2, .ref 8, .ref 21, .ref 68, .ref 78] && E_isO h[2]? 8 [.ref 3, .ref 4, .ref 6, .int 0, .int 0, .int 0] && E_isO h[21]? 5 [.ref 9, .ref 22, .ref 23, .ref 26, .ref 29, .ref 31, .ref 33, .ref 35, .ref 37, .ref 48, .ref 49] && E_isO h[78]? 6 [.ref 79, .ref 81, .int 0, .int 0, .int 0, .int 0, .int 0] && E_isO h[79]? 7 [.ref 80, .int 0] && E_isO h[83]? 12 [.ref 84, .int 0, .ref 85, .int 0, .ref 86, .ref 87, .ref 88, .int 0, .int 0, .ref 89, .ref 90, .ref 91, .ref 92, .int 0, .ref 93, .int 0, .int 0, .int 0, .int 0, .int 0, .int 0, .int (-1), .int 0, .ref 94, .ref 95, .long 0, .ref 96, .ref 97, .ref 98, .ref 99, .ref 100, .ref 101, .ref 102, .ref 103, .ref 104, .ref 105, .ref 106, .int 0, .ref 107, .ref 108, .ref 109, .int 0, .ref 110, .int 0, .ref 111, .ref 112, .ref 113, .ref 114, .int 0, .ref 115, .ref 116, .ref 117, .ref 118, .ref 119, .ref 120, .ref 121, .int 0, .ref 122, .ref 123, .int 0, .ref 124, .ref 125, .ref 126, .int 0, .ref 127, .ref 128, .ref 129, .ref 130, .int 0, .ref 131, .int 0, .int 0, .int 0, .long 0]
set_option maxRecDepth 100000 in
theorem P_k2 : P_m P_r2 P_f2 = true := by decide +kernel
def P_h : E_H := P_gh P_r2
def P_sl : Nat := 0 + 7 + P_gs P_r1 + 74 + P_gs P_r2
def P_r3 : Option E_R := E_call 4000 59 55 [.ref 21] P_h
def P_f3 (h : E_H) (s : Nat) : Bool := P_le h.length 1000 && P_le s 2000000 && E_isO h[0]? 11 [.ref 1, .int 0, .ref 2, .ref 8, .ref 21, .ref 68, .ref 78] && E_isO h[78]? 6 [.ref 79, .ref 81, .int 0, .int 0, .int 0, .int 0, .int 0] && E_isO h[83]? 12 [.ref 84, .int 0, .ref 85, .int 0, .ref 86, .ref 87, .ref 88, .int 0, .int 0, .ref 89, .ref 90, .ref 91, .ref 92, .int 0, .ref 93, .int 0, .int 0, .int 0, .int 0, .int 0, .int 0, .int (-1), .int 0, .ref 94, .ref 95, .long 0, .ref 96, .ref 97, .ref 98, .ref 99, .ref 100, .ref 101, .ref 102, .ref 103, .ref 104, .ref 105, .ref 106, .int 0, .ref 107, .ref 108, .ref 109, .int 0, .ref 110, .int 0, .ref 111, .ref 112, .ref 113, .ref 114, .int 0, .ref 115, .ref 116, .ref 117, .ref 118, .ref 119, .ref 120, .ref 121, .int 0, .ref 122, .ref 123, .int 0, .ref 124, .ref 125, .ref 126, .int 0, .ref 127, .ref 128, .ref 129, .ref 130, .int 0, .ref 131, .int 0, .int 0, .int 0, .long 0] && E_isO h[132]? 4 [.int 0, .int 0, .ref 133, .ref 144, .ref 146, .ref 148]
set_option maxRecDepth 100000 in
theorem P_k3 : P_m3 P_r3 132 P_f3 = true := by decide +kernel
def P_w : E_H := P_gh P_r3
