/-! the first heap: it is the class's and the reference's first state -/
theorem P_q38 : C_cell P_s0 38 = P_q8 38 := by
  show (Sum.inl (7, 8, .inr (.inr (.inr (.inr (fun i : Nat => C_Q P_s0 38 (i : Int)))))) : E_O) = _
  unfold P_q8
  have e : (fun i : Nat => C_Q P_s0 38 (i : Int)) = fun i => if i < 8 then some (38 + 1 + i) else none := by
    funext i
    show (if 38 = 38 ∧ 0 ≤ (i : Int) ∧ (i : Int) < 8 then some (39 + (i : Int).toNat) else if 38 = 51 ∧ 0 ≤ (i : Int) ∧ (i : Int) < 8 then some (52 + (i : Int).toNat) else none) = _
    by_cases c : i < 8
    · rw [if_pos ⟨rfl, by omega, by omega⟩, if_pos c]; congr 1
    · rw [if_neg (by omega), if_neg (by omega), if_neg c]
  rw [e]
theorem P_q51 : C_cell P_s0 51 = P_q8 51 := by
  show (Sum.inl (7, 8, .inr (.inr (.inr (.inr (fun i : Nat => C_Q P_s0 51 (i : Int)))))) : E_O) = _
  unfold P_q8
  have e : (fun i : Nat => C_Q P_s0 51 (i : Int)) = fun i => if i < 8 then some (51 + 1 + i) else none := by
    funext i
    show (if 51 = 38 ∧ 0 ≤ (i : Int) ∧ (i : Int) < 8 then some (39 + (i : Int).toNat) else if 51 = 51 ∧ 0 ≤ (i : Int) ∧ (i : Int) < 8 then some (52 + (i : Int).toNat) else none) = _
    by_cases c : i < 8
    · rw [if_neg (by omega), if_pos ⟨rfl, by omega, by omega⟩, if_pos c]; congr 1
    · rw [if_neg (by omega), if_neg (by omega), if_neg c]
  rw [e]
theorem P_cell {j : Nat} (hj : j < 83) : P_h[j]? = some (C_cell P_s0 j) := by
  have h1 := List.map_inj_left.mp P_s0_o
  have h2 := List.map_inj_left.mp P_s0_r
  have h3 := List.map_inj_left.mp P_s0_a
  have h4 := List.map_inj_left.mp P_s0_q
  have c : ∀ j, j < 83 → j ∈ ([0, 2, 8, 9, 21, 23, 26, 37, 49, 50, 65, 68, 78] : List Nat) ∨ j ∈ ([4, 6, 29, 31, 33, 35, 61, 63, 79, 81] : List Nat) ∨ j = 38 ∨ j = 51 ∨ j ∈ ([1, 3, 5, 7, 10, 11, 12, 13, 14, 15, 16, 17, 18, 19, 20, 22, 24, 25, 27, 28, 30, 32, 34, 36, 39, 40, 41, 42, 43, 44, 45, 46, 47, 48, 52, 53, 54, 55, 56, 57, 58, 59, 60, 62, 64, 66, 67, 69, 70, 71, 72, 73, 74, 75, 76, 77, 80, 82] : List Nat) := by decide
  rcases c j hj with c | c | rfl | rfl | c
  · exact h1 j c
  · exact h2 j c
  · rw [P_q38]; exact h4 38 (by decide)
  · rw [P_q51]; exact h4 51 (by decide)
  · exact h3 j c
theorem P_wf : C_wf P_s0 := by
  refine ⟨fun j b => ?_, fun j i => ⟨by show -2147483648 ≤ (0 : Int); omega, by show (0 : Int) < 2147483648; omega⟩, fun j i _ => ⟨by show -128 ≤ (0 : Int); omega, by show (0 : Int) < 128; omega⟩, fun j hj => ?_, Nat.le_refl _⟩
  · show Zr (P_F0 j b)
    unfold P_F0
    split <;> exact ⟨by omega, by omega⟩
  · have c : j < 83 := by
      by_cases c : j < 83
      · exact c
      · have e : C_K P_s0 j = (20, 0) := by
          show (P_K0[j]?).getD (20, 0) = _
          rw [List.getElem?_eq_none (by show 83 ≤ j; omega)]
          rfl
        rw [e] at hj
        exact absurd hj (by decide)
    have d : ∀ j, j < 83 → ((P_K0[j]?).getD (20, 0)).2 < 2147483648 := by decide
    exact ⟨by show j < 132; omega, .inl c, d j c⟩
theorem P_len : P_le P_h.length 132 = true ∧ P_le 132 P_h.length = true := by
  constructor <;> decide +kernel
theorem P_is : C_is P_h P_h P_s0 := by
  refine ⟨P_wf, ?_, fun j hj => P_cell ?_, fun _ _ _ => rfl⟩
  · have h1 := P_le_ok P_len.1
    have h2 := P_le_ok P_len.2
    exact Nat.le_antisymm h1 h2
  · rcases (P_wf.2.2.2.1 j hj) with ⟨a, b | b, _⟩
    · exact b
    · have a : j < 132 := a
      omega
theorem P_ris : R_is P_h P_h P_u0 := by
  have h2 := P_le_ok P_len.2
  have h3 := List.map_inj_left.mp P_u0_a
  refine ⟨⟨fun b => ?_, fun k i => ⟨by show -2147483648 ≤ (0 : Int); omega, by show (0 : Int) < 2147483648; omega⟩⟩, rfl, h2, P_u0_o, fun k hk => h3 k (List.mem_range.mpr hk), fun _ _ => rfl⟩
  show Zr (if b = 21 then -1 else 0)
  split <;> exact ⟨by omega, by omega⟩
