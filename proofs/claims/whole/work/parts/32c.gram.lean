theorem P_x_gram (i k : Int32) : E_call 4000 60 158 [.ref 0, .int i, .int k] P_h = some (some (.int (-1)), P_w, 0 + P_gs P_r3) := by
  obtain ⟨O0, -, O21, -, -, -, -⟩ := P_fa
  obtain ⟨W0, W78, -, W132, -⟩ := P_fw
  exact X_gram i k O0 O21 W0 W78 W132 (P_opt3 P_k3).1
theorem P_gram (i k : Int32) : L_two 4000 60 158 281 room_1.cells room_1.slots [i, k] P_h P_sl (P_J 1) := by
  obtain ⟨o0, -, -, -, -, -, l1, l2⟩ := P_fa
  obtain ⟨-, -, W83, -, l3, l4⟩ := P_fw
  have r1 : P_w.length ≤ room_1.cells := Nat.le_trans l3 (Nat.le_of_ble_eq_true rfl)
  have r9 : 4000000 ≤ room_1.slots := Nat.le_of_ble_eq_true rfl
  have r2 : P_sl + (0 + P_gs P_r3) + 0 ≤ room_1.slots := by omega
  exact ⟨-1, P_w, 0 + P_gs P_r3, P_w, 0, _, _, P_x_gram i k, Y_gram 59 i k W83, o0, W83, r1, r1, r2, fun h => absurd h (by decide), r1, r2⟩
