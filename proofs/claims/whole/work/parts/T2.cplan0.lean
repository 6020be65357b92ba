/-! the first state: the planner's store; all of it -/
theorem P_Tx {p : List Nat} {o ra la : Nat} (h : C_K P_s0 o = (17, 0) ∧ C_T P_s0 o = p ∧ C_P P_s0 o 0 = some ra ∧ C_P P_s0 o 1 = some la ∧ C_K P_s0 ra = (7, 8) ∧ C_T P_s0 ra = p ∧ C_K P_s0 la = (0, 8) ∧ C_T P_s0 la = p ∧ C_F P_s0 o 2 = ((0 : Nat) : Int) ∧ 0 ≤ 8) (hq : ∀ i : Int, 0 ≤ i → i < 8 → C_Q P_s0 ra i = some (ra + 1 + i.toNat)) (hk : ∀ n, n < 8 → C_K P_s0 (ra + 1 + n) = (1, 60) ∧ C_T P_s0 (ra + 1 + n) = p) : D_Tx P_s0 p o ra la 0 (fun _ => []) := by
  refine ⟨⟨h, fun i i0 i1 => ⟨_, hq i i0 i1, hk i.toNat (by omega)⟩, fun i j i0 i1 j0 j1 b e1 e2 => ?_⟩, fun i hi => ?_⟩
  · rw [hq i i0 i1] at e1
    rw [hq j j0 j1] at e2
    injection e1 with e1
    injection e2 with e2
    omega
  · have := hi.2
    have h1 := hi.1
    have h2 : i < ((0 : Nat) : Int) := hi.2
    omega
theorem P_Q0 {j : Nat} {i : Int} (h1 : j ≠ 38) (h2 : j ≠ 51) : C_Q P_s0 j i = none := by
  show (if j = 38 ∧ 0 ≤ i ∧ i < 8 then some (39 + i.toNat) else if j = 51 ∧ 0 ≤ i ∧ i < 8 then some (52 + i.toNat) else none) = none
  rw [if_neg (fun e => h1 e.1), if_neg (fun e => h2 e.1)]
theorem P_Fm {p : List Nat} {f qa ma R : Nat} (h : C_K P_s0 f = (9, 0) ∧ C_T P_s0 f = p ∧ C_P P_s0 f 0 = some qa ∧ C_P P_s0 f 1 = some ma ∧ C_K P_s0 qa = (4, R) ∧ C_T P_s0 qa = p ∧ C_K P_s0 ma = (3, R) ∧ C_T P_s0 ma = p ∧ C_F P_s0 f 2 = ((0 : Nat) : Int) ∧ 0 ≤ R ∧ 1 ≤ R) (h1 : qa ≠ 38) (h2 : qa ≠ 51) : D_Fm P_s0 p f qa ma R 1280 0 (fun _ => []) ∧ C_fw P_s0 qa R = 0 := by
  refine ⟨⟨h, fun i i0 i1 => .inl ⟨P_Q0 h1 h2, by omega⟩, fun i j _ _ _ _ r e _ => ?_, fun i i0 i1 => by omega⟩, ?_⟩
  · rw [P_Q0 h1 h2] at e; cases e
  · have : C_fw P_s0 qa R ≤ R * 0 := by
      unfold C_fw
      rw [← L_sum_c]
      refine L_sum_le R (fun i _ => ?_)
      rw [P_Q0 h1 h2]
      exact Nat.le_refl _
    omega
theorem P_Q51 (i : Int) (i0 : 0 ≤ i) (i1 : i < 8) : C_Q P_s0 51 i = some (51 + 1 + i.toNat) := by
  show (if 51 = 38 ∧ 0 ≤ i ∧ i < 8 then some (39 + i.toNat) else if 51 = 51 ∧ 0 ≤ i ∧ i < 8 then some (52 + i.toNat) else none) = some (52 + i.toNat)
  rw [if_neg (by omega), if_pos ⟨rfl, i0, i1⟩]
def P_g0 : G_t := (fun _ => [], fun _ => [], fun _ => [], fun _ => 0, fun _ => 0)
def P_p0 : G_p := (fun r => if r = 0 then 29 else if r = 1 then 31 else if r = 2 then 33 else if r = 3 then 35 else if r = 80 then 61 else 63, fun f => if f = 0 then 23 else if f = 1 then 26 else 65, fun t => if t = 0 then 37 else 50, fun _ => 49, fun j => decide (j = 38), 22, 48)
def P_w0 (i : Nat) : Nat := if i < 4 ∨ i = 80 ∨ i = 81 then 8 else if i = 188 then 300 else 0
theorem P_Pl : D_Pl P_s0 [3] 21 9 1280 P_g0 P_p0 P_w0 := by
  have hx : ∀ j, P_p0.2.2.2.2.1 j = true → j = 38 := fun j h => of_decide_eq_true h
  refine ⟨⟨⟨rfl, rfl, rfl, rfl, rfl, rfl, rfl, rfl, rfl, rfl, rfl, rfl, rfl⟩, ⟨rfl, rfl⟩, ⟨rfl, rfl⟩, fun j hj => ?_, rfl⟩, fun j hj hT => ?_, fun r hr => ?_, fun f hf => ?_, fun t ht => ?_, fun r h82 hr => ?_, fun f h41 hf => ?_, fun j hj => ?_, fun i hi => ?_⟩
  · rw [if_neg (fun e => by have := hx j e; omega)]
    exact P_Q0 (by decide) (by decide)
  · obtain rfl := hx j hT
    exact ⟨rfl, rfl, rfl, rfl, rfl, rfl, rfl, rfl, .inl rfl, .inl rfl⟩
  · have c : r = 0 ∨ r = 1 ∨ r = 2 ∨ r = 3 ∨ r = 80 ∨ r = 81 := by
      rcases hr with e | ⟨e1, e2⟩
      · omega
      · have := hx _ e2; omega
    rcases c with rfl | rfl | rfl | rfl | rfl | rfl <;> exact ⟨_, P_row rfl rfl rfl rfl rfl rfl, by decide⟩
  · have c : f = 0 ∨ f = 1 ∨ f = 40 := by
      rcases hf with e | ⟨e1, e2⟩
      · omega
      · have := hx _ e2; omega
    rcases c with rfl | rfl | rfl
    · obtain ⟨q1, q2⟩ := P_Fm (p := [3, 1, 0]) (f := 23) (qa := 24) (ma := 25) (R := 576) ⟨rfl, rfl, rfl, rfl, rfl, rfl, rfl, rfl, rfl, by decide, by decide⟩ (by decide) (by decide)
      exact ⟨24, 25, 0, _, q1, rfl, q2.symm⟩
    · obtain ⟨q1, q2⟩ := P_Fm (p := [3, 1, 1]) (f := 26) (qa := 27) (ma := 28) (R := 24) ⟨rfl, rfl, rfl, rfl, rfl, rfl, rfl, rfl, rfl, by decide, by decide⟩ (by decide) (by decide)
      exact ⟨27, 28, 0, _, q1, rfl, q2.symm⟩
    · obtain ⟨q1, q2⟩ := P_Fm (p := [3, 1, 40]) (f := 65) (qa := 66) (ma := 67) (R := 24) ⟨rfl, rfl, rfl, rfl, rfl, rfl, rfl, rfl, rfl, by decide, by decide⟩ (by decide) (by decide)
      exact ⟨66, 67, 0, _, q1, rfl, q2.symm⟩
  · have c : t = 0 ∨ t = 39 := by
      rcases ht with e | ⟨e1, e2⟩
      · omega
      · have := hx _ e2; omega
    rcases c with rfl | rfl
    · exact ⟨38, 47, 0, _, P_Tx (p := [3, 2, 0]) (o := 37) (ra := 38) (la := 47) ⟨rfl, rfl, rfl, rfl, rfl, rfl, rfl, rfl, rfl, by decide⟩ (fun i i0 i1 => if_pos ⟨rfl, i0, i1⟩) (by decide), rfl⟩
    · exact ⟨51, 60, 0, _, P_Tx (p := [3, 2, 39]) (o := 50) (ra := 51) (la := 60) ⟨rfl, rfl, rfl, rfl, rfl, rfl, rfl, rfl, rfl, by decide⟩ P_Q51 (by decide), rfl⟩
  · show (if r < 4 ∨ r = 80 ∨ r = 81 then 8 else if r = 188 then 300 else 0) = 0
    rw [if_neg (fun e => hr (by rcases e with e | e | e; exact .inl e; exact .inr ⟨by omega, by subst e; rfl⟩; exact .inr ⟨by omega, by subst e; rfl⟩)), if_neg (by omega)]
  · show (if 100 + f < 4 ∨ 100 + f = 80 ∨ 100 + f = 81 then 8 else if 100 + f = 188 then 300 else 0) = 0
    rw [if_neg (by omega), if_neg (by omega)]
  · show (if 150 + j < 4 ∨ 150 + j = 80 ∨ 150 + j = 81 then 8 else if 150 + j = 188 then 300 else 0) = if decide (j = 38) = true then 300 else 0
    rw [if_neg (by omega)]
    by_cases c : j = 38
    · subst c; rfl
    · rw [if_neg (by omega), if_neg (fun e => c (of_decide_eq_true e))]
  · show (if i < 4 ∨ i = 80 ∨ i = 81 then 8 else if i = 188 then 300 else 0) = 0
    rw [if_neg (by omega), if_neg (by omega)]
theorem P_Jc : J_c P_s0 0 1 2 8 21 68 78 [] (fun _ => none) 0 0 0 0 (-1) none [] [] 0 0 0 0 (Pl_w P_w0 + D_ps P_s0 2 + D_pr P_s0 78) := ⟨3, 4, 6, 9, _, _, _, _, _, P_g0, P_p0, P_w0, P_A0, 79, 81, P_G, J_by0 P_G, P_Sh, P_Pq, P_Tr, fun i => by show (0 : Int) ≤ 1000000; omega, P_Pl, trivial, P_M0, rfl, P_Rp, rfl⟩
theorem P_Jst : J_st 1300000 0 P_h P_sl := ⟨P_s0, P_u0, 1, 2, 8, 21, 68, 78, [], fun _ => none, 0, 0, 0, 0, -1, none, [], [], 0, 0, 0, 0, _, P_is, P_ris, P_Jc, P_Jr, P_Ji, by have := P_slb; have : (([] : List Int).length) = 0 := rfl; omega, by have : C_n P_s0 = 132 := rfl; omega⟩
