/-! the first state: what holds of it -/
theorem P_row {p : List Nat} {o : Nat} (h1 : C_K P_s0 o = (15, 0)) (h2 : C_T P_s0 o = p) (h3 : C_P P_s0 o 0 = some (o + 1)) (h4 : C_K P_s0 (o + 1) = (0, 8)) (h5 : C_T P_s0 (o + 1) = p) (h6 : C_F P_s0 o 1 = 0) : D_Row P_s0 p o (o + 1) 8 [] := ⟨h1, h2, h3, h4, h5, h6, Nat.zero_le _, Nat.le_refl _, fun i i0 i1 => by have i1 : i < ((0 : Nat) : Int) := i1; omega⟩
theorem P_G : D_G P_s0 0 1 2 8 21 68 78 0 := ⟨rfl, rfl, rfl, rfl, rfl, rfl, rfl, rfl, rfl, rfl, rfl, by omega, by omega⟩
theorem P_Sh : D_Sh P_s0 [1] 2 3 4 6 (fun _ => none) 0 0 0 := ⟨⟨rfl, rfl, rfl, rfl, rfl, rfl, rfl, rfl, rfl, rfl, by omega, by omega, by decide⟩, fun i i0 i1 => by omega, fun i j i0 i1 => by omega, ⟨5, 8, [], P_row rfl rfl rfl rfl rfl rfl, by decide⟩, ⟨7, 8, [], P_row rfl rfl rfl rfl rfl rfl, by decide⟩⟩
theorem P_Pq : D_Pq P_s0 [2] 8 9 0 (-1) := ⟨rfl, rfl, rfl, rfl, rfl⟩
theorem P_Tr : D_Tr P_s0 [2, 9] 9 (fun f => 10 + f) 0 0 (fun _ _ => 0) (fun _ => 0) := by
  refine ⟨⟨rfl, rfl, rfl, rfl, by omega, by omega, by omega, by omega⟩, fun f hf => ?_, fun f g _ _ e => by have e : 10 + f = 10 + g := e; omega, fun f _ => rfl, rfl⟩
  obtain rfl | rfl | rfl | rfl | rfl | rfl | rfl | rfl | rfl | rfl : f = 0 ∨ f = 1 ∨ f = 2 ∨ f = 3 ∨ f = 4 ∨ f = 5 ∨ f = 6 ∨ f = 7 ∨ f = 8 ∨ f = 9 := by omega
  all_goals exact ⟨rfl, rfl, rfl⟩
def P_A0 (f : Nat) : Nat := match f with
  | 1 => 69
  | 2 => 70
  | 3 => 71
  | 4 => 72
  | 7 => 73
  | 8 => 74
  | 10 => 75
  | 12 => 76
  | _ => 0
theorem P_M0 : D_M0 P_s0 [4] 68 P_A0 := by
  refine ⟨rfl, rfl, fun f hf => ?_, fun f g hf hg e => ?_⟩
  · rcases hf with rfl | rfl | rfl | rfl | rfl | rfl | rfl | rfl <;> exact ⟨rfl, rfl, rfl⟩
  · rcases hf with rfl | rfl | rfl | rfl | rfl | rfl | rfl | rfl <;> rcases hg with rfl | rfl | rfl | rfl | rfl | rfl | rfl | rfl <;> first | rfl | exact absurd e (by decide)
theorem P_Rp : D_Rp P_s0 [5] 78 79 81 [] [] 0 0 0 0 0 := ⟨⟨rfl, rfl, rfl, rfl, rfl, rfl, rfl, rfl, rfl, by decide⟩, ⟨80, 8, P_row rfl rfl rfl rfl rfl rfl, by decide⟩, ⟨82, 8, P_row rfl rfl rfl rfl rfl rfl, by decide⟩⟩
theorem P_Jr : J_r P_u0 [] (fun _ => none) 0 0 0 0 (-1) none [] [] 0 0 0 0 := by
  refine ⟨⟨⟨Int.le_refl 0, by show (0 : Int) ≤ 200; omega, fun f => .inl rfl⟩, Int.le_refl 0, by show (0 : Int) ≤ 1000; omega, Int.le_refl 0, by show (0 : Int) ≤ 16000; omega, fun f hf _ => ?_, fun j => ⟨Int.le_refl 0, by show (0 : Int) < 256; omega⟩, fun j => ⟨Int.le_refl 0, by show (0 : Int) < 256; omega⟩⟩, fun f f0 f1 => .inl ⟨rfl, rfl⟩, rfl, rfl, rfl, rfl, fun i i0 i1 => ?_, rfl, rfl, ⟨rfl, fun i hi => absurd hi (Nat.not_lt_zero _)⟩, ⟨rfl, fun x hx => absurd hx List.not_mem_nil, fun i hi => absurd hi (Nat.not_lt_zero _)⟩, rfl, rfl, rfl, rfl, trivial⟩
  · have := hf.2.2
    have : (0 : Int) = 1 := this
    omega
  · have i1 : i < ((0 : Nat) : Int) := i1
    omega
theorem P_Ji : J_in (fun _ => none) 0 0 0 none [] [] 0 0 0 0 0 := ⟨D_cn_0 _, by omega, by omega, by omega, by omega, rfl, by omega, by omega, ⟨fun _ => rfl, fun _ => rfl⟩, Nat.zero_le _, Nat.zero_le _, fun x hx => absurd hx List.not_mem_nil, by omega, by omega, by omega, by omega, by omega, by omega, by omega, by omega⟩
theorem P_slb : P_sl ≤ 1250000 := P_le_ok (by decide +kernel)
