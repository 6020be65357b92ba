theorem P_fa : P_h[0]? = some (.inr (11, [.ref 1, .int 0, .ref 2, .ref 8, .ref 21, .ref 68, .ref 78])) ∧ P_h[2]? = some (.inr (8, [.ref 3, .ref 4, .ref 6, .int 0, .int 0, .int 0])) ∧ P_h[21]? = some (.inr (5, [.ref 9, .ref 22, .ref 23, .ref 26, .ref 29, .ref 31, .ref 33, .ref 35, .ref 37, .ref 48, .ref 49])) ∧ P_h[78]? = some (.inr (6, [.ref 79, .ref 81, .int 0, .int 0, .int 0, .int 0, .int 0])) ∧ P_h[79]? = some (.inr (7, [.ref 80, .int 0])) ∧ P_h[83]? = some (.inr (12, [.ref 84, .int 0, .ref 85, .int 0, .ref 86, .ref 87, .ref 88, .int 0, .int 0, .ref 89, .ref 90, .ref 91, .ref 92, .int 0, .ref 93, .int 0, .int 0, .int 0, .int 0, .int 0, .int 0, .int (-1), .int 0, .ref 94, .ref 95, .long 0, .ref 96, .ref 97, .ref 98, .ref 99, .ref 100, .ref 101, .ref 102, .ref 103, .ref 104, .ref 105, .ref 106, .int 0, .ref 107, .ref 108, .ref 109, .int 0, .ref 110, .int 0, .ref 111, .ref 112, .ref 113, .ref 114, .int 0, .ref 115, .ref 116, .ref 117, .ref 118, .ref 119, .ref 120, .ref 121, .int 0, .ref 122, .ref 123, .int 0, .ref 124, .ref 125, .ref 126, .int 0, .ref 127, .ref 128, .ref 129, .ref 130, .int 0, .ref 131, .int 0, .int 0, .int 0, .long 0])) ∧ P_h.length ≤ 1000 ∧ P_sl ≤ 2000000 := by
  have h := (P_opt2 P_k2).2
  unfold P_f2 at h
  simp only [Bool.and_eq_true] at h
  obtain ⟨⟨⟨⟨⟨⟨⟨h1, h2⟩, o0⟩, o2⟩, o21⟩, o78⟩, o79⟩, o83⟩ := h
  unfold P_h P_sl
  exact ⟨E_isO_ok o0, E_isO_ok o2, E_isO_ok o21, E_isO_ok o78, E_isO_ok o79, E_isO_ok o83, P_le_ok h1, P_le_ok h2⟩
theorem P_fw : P_w[0]? = some (.inr (11, [.ref 1, .int 0, .ref 2, .ref 8, .ref 21, .ref 68, .ref 78])) ∧ P_w[78]? = some (.inr (6, [.ref 79, .ref 81, .int 0, .int 0, .int 0, .int 0, .int 0])) ∧ P_w[83]? = some (.inr (12, [.ref 84, .int 0, .ref 85, .int 0, .ref 86, .ref 87, .ref 88, .int 0, .int 0, .ref 89, .ref 90, .ref 91, .ref 92, .int 0, .ref 93, .int 0, .int 0, .int 0, .int 0, .int 0, .int 0, .int (-1), .int 0, .ref 94, .ref 95, .long 0, .ref 96, .ref 97, .ref 98, .ref 99, .ref 100, .ref 101, .ref 102, .ref 103, .ref 104, .ref 105, .ref 106, .int 0, .ref 107, .ref 108, .ref 109, .int 0, .ref 110, .int 0, .ref 111, .ref 112, .ref 113, .ref 114, .int 0, .ref 115, .ref 116, .ref 117, .ref 118, .ref 119, .ref 120, .ref 121, .int 0, .ref 122, .ref 123, .int 0, .ref 124, .ref 125, .ref 126, .int 0, .ref 127, .ref 128, .ref 129, .ref 130, .int 0, .ref 131, .int 0, .int 0, .int 0, .long 0])) ∧ P_w[132]? = some (.inr (4, [.int 0, .int 0, .ref 133, .ref 144, .ref 146, .ref 148])) ∧ P_w.length ≤ 1000 ∧ P_gs P_r3 ≤ 2000000 := by
  have h := (P_opt3 P_k3).2
  unfold P_f3 at h
  simp only [Bool.and_eq_true] at h
  obtain ⟨⟨⟨⟨⟨h1, h2⟩, o0⟩, o78⟩, o83⟩, ow⟩ := h
  unfold P_w
  exact ⟨E_isO_ok o0, E_isO_ok o78, E_isO_ok o83, E_isO_ok ow, P_le_ok h1, P_le_ok h2⟩
/-- what holds behind t turns: at most one is made -/
def P_J (t : Nat) (h : E_H) (sl : Nat) : Prop := (t = 0 → h = P_h ∧ sl = P_sl) ∧ h.length ≤ room_1.cells ∧ sl ≤ room_1.slots
theorem P_two {x y : Nat} {as : List Int32} {v : Int32} (q1 : E_call 4000 60 x (.ref 0 :: as.map Value.int) P_h = some (some (.int v), P_h, 0)) (q2 : E_call 4000 60 y (.ref 83 :: as.map Value.int) P_h = some (some (.int v), P_h, 0)) : L_two 4000 60 x y room_1.cells room_1.slots as P_h P_sl (P_J 1) := by
  obtain ⟨o0, -, -, -, -, o83, l1, l2⟩ := P_fa
  have r1 : P_h.length ≤ room_1.cells := Nat.le_trans l1 (Nat.le_of_ble_eq_true rfl)
  have r9 : 2000000 ≤ room_1.slots := Nat.le_of_ble_eq_true rfl
  have r2 : P_sl + 0 + 0 ≤ room_1.slots := by omega
  exact ⟨v, P_h, 0, P_h, 0, _, _, q1, q2, o0, o83, r1, r1, r2, fun h => absurd h (by decide), r1, r2⟩
/-- closed turns, by computing -/
def P_is12 (x : Option E_O) : Bool := match x with
  | some (.inr (ci, _)) => ci == 12
  | _ => false
theorem P_is12_ok {x : Option E_O} (h : P_is12 x = true) : ∃ gs, x = some (.inr (12, gs)) := by
  unfold P_is12 at h
  split at h
  · rw [beq_iff_eq] at h
    rw [h]
    exact ⟨_, rfl⟩
  · cases h
def P_chk (x y : Nat) (as : List Int32) : Bool := match E_call 4000 60 x (.ref 0 :: as.map Value.int) P_h with
  | some (some (.int v), h1, s1) => P_is12 h1[83]? && P_le h1.length 600000 && (match E_call 4000 60 y (.ref 83 :: as.map Value.int) h1 with
    | some (some (.int w), h2, s2) => decide (v = w) && P_le h2.length 600000 && P_le (P_sl + s1 + s2) 2100000
    | _ => false)
  | _ => false
theorem P_chk_two {x y : Nat} {as : List Int32} (h : P_chk x y as = true) : L_two 4000 60 x y room_1.cells room_1.slots as P_h P_sl (P_J 1) := by
  unfold P_chk at h
  split at h
  · rename_i v h1 s1 e1
    simp only [Bool.and_eq_true] at h
    obtain ⟨⟨c1, c2⟩, c3⟩ := h
    obtain ⟨gs, e83⟩ := P_is12_ok c1
    split at c3
    · rename_i w h2 s2 e2
      simp only [Bool.and_eq_true] at c3
      obtain ⟨⟨d1, d2⟩, d3⟩ := c3
      have d1 := of_decide_eq_true d1
      subst d1
      have r0 : 600000 ≤ room_1.cells := Nat.le_of_ble_eq_true rfl
      have r9 : 2100000 ≤ room_1.slots := Nat.le_of_ble_eq_true rfl
      have r1 : h1.length ≤ room_1.cells := Nat.le_trans (P_le_ok c2) r0
      have r2 : h2.length ≤ room_1.cells := Nat.le_trans (P_le_ok d2) r0
      have r3 : P_sl + s1 + s2 ≤ room_1.slots := Nat.le_trans (P_le_ok d3) r9
      exact ⟨v, h1, s1, h2, s2, _, _, e1, e2, P_fa.1, e83, r1, r2, r3, fun h => absurd h (by decide), r2, r3⟩
    · cases c3
  · cases h
theorem X_gram {h w : E_H} {sw : Nat} (i k : Int32) (O0 : h[0]? = some (.inr (11, [.ref 1, .int 0, .ref 2, .ref 8, .ref 21, .ref 68, .ref 78]))) (O21 : h[21]? = some (.inr (5, [.ref 9, .ref 22, .ref 23, .ref 26, .ref 29, .ref 31, .ref 33, .ref 35, .ref 37, .ref 48, .ref 49]))) (W0 : w[0]? = some (.inr (11, [.ref 1, .int 0, .ref 2, .ref 8, .ref 21, .ref 68, .ref 78]))) (W78 : w[78]? = some (.inr (6, [.ref 79, .ref 81, .int 0, .int 0, .int 0, .int 0, .int 0]))) (W132 : w[132]? = some (.inr (4, [.int 0, .int 0, .ref 133, .ref 144, .ref 146, .ref 148]))) (hq : E_call 4000 59 55 [.ref 21] h = some (some (.ref 132), w, sw)) : E_call 4000 60 158 [.ref 0, .int i, .int k] h = some (some (.int (-1)), w, 0 + sw) := by
  refine S_call (M := E_m158) rfl (Nat.le_of_ble_eq_true rfl) ?_
  refine S_go rfl ?_
  refine S_get rfl O0 rfl (by decide) ?_
  refine S_callV (M2 := E_m55) (o := 21) (As := []) rfl (by decide) rfl rfl rfl (by decide +kernel) O21 (by decide) (Nat.le_of_ble_eq_true rfl) hq ?_
  refine S_get rfl W132 rfl (by decide) ?_
  refine S_go rfl ?_
  refine S_go rfl ?_
  refine S_get rfl W0 rfl (by decide) ?_
  refine S_get rfl W78 rfl (by decide) ?_
  refine S_go rfl ?_
  refine S_go rfl ?_
  exact S_end rfl
