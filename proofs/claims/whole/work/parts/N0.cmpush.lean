/-! the class: Machine: push, holdsAt -/
theorem C_mpush (d : Nat) {s : C_S} {p : List Nat} {o : Nat} {A : Nat → Nat} {q i : Int} (hm : D_M0 s p o A) (zq : Zr q) (zi : Zr i) (t0 : 0 ≤ C_F s o 9) (t1 : C_F s o 9 < 202) : C_ok (d + 2) 26 [.ref o, .int (Zi q), .int (Zi i)] s (fun x s2 n => x = none ∧ n = 0 ∧ s2 = if 0 ≤ q ∧ q < 202 ∧ C_A s (A 7) q ≠ i then C_sF (C_sA (C_sA s (A 7) q i) (A 8) (C_F s o 9) q) o 9 (C_F s o 9 + 1) else s) := by
  refine C_enter (M := E_m26) rfl (Nat.le_of_ble_eq_true rfl) (fun h0 h hs => ?_)
  show B_R (d + 1) _ (0, [(0, .ref o), (1, .int (Zi q)), (2, .int (Zi i))], []) _ _ _
  have w := hs.1
  have ok := hm.1
  obtain ⟨e1, k1, t1⟩ := hm.2.2.1 1 (by omega)
  obtain ⟨e2, k2, t2⟩ := hm.2.2.1 2 (by omega)
  obtain ⟨e3, k3, t3⟩ := hm.2.2.1 3 (by omega)
  obtain ⟨e4, k4, t4⟩ := hm.2.2.1 4 (by omega)
  obtain ⟨e7, k7, t7⟩ := hm.2.2.1 7 (by omega)
  obtain ⟨e8, k8, t8⟩ := hm.2.2.1 8 (by omega)
  obtain ⟨e10, k10, t10⟩ := hm.2.2.1 10 (by omega)
  obtain ⟨e12, k12, t12⟩ := hm.2.2.1 12 (by omega)
  have zt := w.1 o 9
  have z7 := w.2.1 (A 7) q
  refine Z_go (f2 := (1, [(0, .ref o), (1, .int (Zi q)), (2, .int (Zi i))], [.int (Zi q)])) (fun _ => rfl) ?_
  refine Z_ilt rfl rfl (by first | exact hs.zF _ _ | exact Zor_r _ _ | exact hs.zA _ _ | assumption | exact zA _ _ | exact zS _ | exact Zr_not (hs.zA _ _) | exact hs.1.1 _ _ | exact ⟨by omega, by omega⟩) (fun y1 => ?_) (fun y1 => ?_)
  · refine Z_ret rfl rfl ⟨_, hs, ?_⟩
    try dsimp only
    exact ⟨rfl, rfl, by rw [if_neg (fun e => by obtain ⟨e1, e2, e3⟩ := e; omega)]⟩
  · refine Z_go (f2 := (5, [(0, .ref o), (1, .int (Zi q)), (2, .int (Zi i))], [.int (Zi q)])) (fun _ => rfl) ?_
    refine Z_go (f2 := (8, [(0, .ref o), (1, .int (Zi q)), (2, .int (Zi i))], [.int (Zi 202), .int (Zi q)])) (fun _ => rfl) ?_
    refine Z_cge rfl rfl (by first | exact hs.zF _ _ | exact Zor_r _ _ | exact hs.zA _ _ | assumption | exact zA _ _ | exact zS _ | exact Zr_not (hs.zA _ _) | exact hs.1.1 _ _ | exact ⟨by omega, by omega⟩) (by first | exact hs.zF _ _ | exact Zor_r _ _ | exact hs.zA _ _ | assumption | exact zA _ _ | exact zS _ | exact Zr_not (hs.zA _ _) | exact hs.1.1 _ _ | exact ⟨by omega, by omega⟩) (fun y2 => ?_) (fun y2 => ?_)
    · refine Z_ret rfl rfl ⟨_, hs, ?_⟩
      try dsimp only
      exact ⟨rfl, rfl, by rw [if_neg (fun e => by obtain ⟨e1, e2, e3⟩ := e; omega)]⟩
    · refine Z_go (f2 := (12, [(0, .ref o), (1, .int (Zi q)), (2, .int (Zi i))], [.ref o])) (fun _ => rfl) ?_
      refine C_gr rfl hs ok (by decide) (Nat.le_of_ble_eq_true rfl) rfl e7 ?_
      refine Z_go (f2 := (16, [(0, .ref o), (1, .int (Zi q)), (2, .int (Zi i))], [.int (Zi q), .ref (A 7)])) (fun _ => rfl) ?_
      refine C_callSR (vs := [.ref (A 7), .int (Zi q)]) (rest := []) rfl (by decide) rfl rfl rfl (Nat.le_of_ble_eq_true rfl) hs (C_pick _ (k7) (i := q) (by first | exact hs.zF _ _ | exact Zor_r _ _ | exact hs.zA _ _ | assumption | exact zA _ _ | exact zS _ | exact Zr_not (hs.zA _ _) | exact hs.1.1 _ _ | exact ⟨by omega, by omega⟩)) (fun x q => ?_)
      obtain rfl := q
      rw [if_pos (by omega)]
      show B_R _ _ (19, [(0, .ref o), (1, .int (Zi q)), (2, .int (Zi i))], [.int (Zi (C_A s (A 7) q))]) _ _ _
      refine Z_go (f2 := (20, [(0, .ref o), (1, .int (Zi q)), (2, .int (Zi i))], [.int (Zi i), .int (Zi (C_A s (A 7) q))])) (fun _ => rfl) ?_
      refine Z_ceq rfl rfl (by first | exact hs.zF _ _ | exact Zor_r _ _ | exact hs.zA _ _ | assumption | exact zA _ _ | exact zS _ | exact Zr_not (hs.zA _ _) | exact hs.1.1 _ _ | exact ⟨by omega, by omega⟩) (by first | exact hs.zF _ _ | exact Zor_r _ _ | exact hs.zA _ _ | assumption | exact zA _ _ | exact zS _ | exact Zr_not (hs.zA _ _) | exact hs.1.1 _ _ | exact ⟨by omega, by omega⟩) (fun y3 => ?_) (fun y3 => ?_)
      · refine Z_ret rfl rfl ⟨_, hs, ?_⟩
        try dsimp only
        exact ⟨rfl, rfl, by rw [if_neg (fun e => by obtain ⟨e1, e2, e3⟩ := e; omega)]⟩
      · refine Z_go (f2 := (24, [(0, .ref o), (1, .int (Zi q)), (2, .int (Zi i))], [.ref o])) (fun _ => rfl) ?_
        refine C_gr rfl hs ok (by decide) (Nat.le_of_ble_eq_true rfl) rfl e7 ?_
        refine Z_go (f2 := (28, [(0, .ref o), (1, .int (Zi q)), (2, .int (Zi i))], [.int (Zi q), .ref (A 7)])) (fun _ => rfl) ?_
        refine Z_go (f2 := (29, [(0, .ref o), (1, .int (Zi q)), (2, .int (Zi i))], [.int (Zi i), .int (Zi q), .ref (A 7)])) (fun _ => rfl) ?_
        refine C_callS (vs := [.ref (A 7), .int (Zi q), .int (Zi i)]) (rest := []) rfl (by decide) rfl rfl rfl (Nat.le_of_ble_eq_true rfl) hs (C_store _ (k7) (i := q) (v := i) (by first | exact hs.zF _ _ | exact Zor_r _ _ | exact hs.zA _ _ | assumption | exact zA _ _ | exact zS _ | exact Zr_not (hs.zA _ _) | exact hs.1.1 _ _ | exact ⟨by omega, by omega⟩) (by first | exact hs.zF _ _ | exact Zor_r _ _ | exact hs.zA _ _ | assumption | exact zA _ _ | exact zS _ | exact Zr_not (hs.zA _ _) | exact hs.1.1 _ _ | exact ⟨by omega, by omega⟩)) (fun x h w85 n85 hs q => ?_)
        obtain ⟨rfl, rfl, rfl⟩ := q
        rw [if_pos (by omega)] at hs
        show B_R _ _ (32, [(0, .ref o), (1, .int (Zi q)), (2, .int (Zi i))], []) _ _ _
        refine Z_go (f2 := (33, [(0, .ref o), (1, .int (Zi q)), (2, .int (Zi i))], [.ref o])) (fun _ => rfl) ?_
        refine C_gr rfl hs ok (by decide) (Nat.le_of_ble_eq_true rfl) rfl e8 ?_
        refine Z_go (f2 := (37, [(0, .ref o), (1, .int (Zi q)), (2, .int (Zi i))], [.ref o, .ref (A 8)])) (fun _ => rfl) ?_
        refine C_gi rfl hs ok (by decide) (Nat.le_of_ble_eq_true rfl) rfl ?_
        rw [show C_F (C_sA s (A 7) q i) o 9 = C_F s o 9 from (by first | rfl | (simp only [C_F, C_P, C_A, C_L, C_Q, C_K, C_T, C_n, C_sF, C_sP, C_sA, C_sL, C_sQ, C_sAf, C_sQf]; simp [*]; done) | (simp only [C_F, C_P, C_A, C_L, C_Q, C_K, C_T, C_n, C_sF, C_sP, C_sA, C_sL, C_sQ, C_sAf, C_sQf]; simp; omega))]; show B_R _ _ (40, [(0, .ref o), (1, .int (Zi q)), (2, .int (Zi i))], [.int (Zi (C_F s o 9)), .ref (A 8)]) _ _ _
        refine Z_go (f2 := (41, [(0, .ref o), (1, .int (Zi q)), (2, .int (Zi i))], [.int (Zi q), .int (Zi (C_F s o 9)), .ref (A 8)])) (fun _ => rfl) ?_
        refine C_callS (vs := [.ref (A 8), .int (Zi (C_F s o 9)), .int (Zi q)]) (rest := []) rfl (by decide) rfl rfl rfl (Nat.le_of_ble_eq_true rfl) hs (C_store _ (k8) (i := C_F s o 9) (v := q) (by first | exact hs.zF _ _ | exact Zor_r _ _ | exact hs.zA _ _ | assumption | exact zA _ _ | exact zS _ | exact Zr_not (hs.zA _ _) | exact hs.1.1 _ _ | exact ⟨by omega, by omega⟩) (by first | exact hs.zF _ _ | exact Zor_r _ _ | exact hs.zA _ _ | assumption | exact zA _ _ | exact zS _ | exact Zr_not (hs.zA _ _) | exact hs.1.1 _ _ | exact ⟨by omega, by omega⟩)) (fun x h w86 n86 hs q => ?_)
        obtain ⟨rfl, rfl, rfl⟩ := q
        rw [if_pos (by omega)] at hs
        show B_R _ _ (44, [(0, .ref o), (1, .int (Zi q)), (2, .int (Zi i))], []) _ _ _
        refine Z_go (f2 := (45, [(0, .ref o), (1, .int (Zi q)), (2, .int (Zi i))], [.ref o])) (fun _ => rfl) ?_
        refine Z_go (f2 := (46, [(0, .ref o), (1, .int (Zi q)), (2, .int (Zi i))], [.ref o, .ref o])) (fun _ => rfl) ?_
        refine C_gi rfl hs ok (by decide) (Nat.le_of_ble_eq_true rfl) rfl ?_
        rw [show C_F (C_sA (C_sA s (A 7) q i) (A 8) (C_F s o 9) q) o 9 = C_F s o 9 from (by first | rfl | (simp only [C_F, C_P, C_A, C_L, C_Q, C_K, C_T, C_n, C_sF, C_sP, C_sA, C_sL, C_sQ, C_sAf, C_sQf]; simp [*]; done) | (simp only [C_F, C_P, C_A, C_L, C_Q, C_K, C_T, C_n, C_sF, C_sP, C_sA, C_sL, C_sQ, C_sAf, C_sQf]; simp; omega))]; show B_R _ _ (49, [(0, .ref o), (1, .int (Zi q)), (2, .int (Zi i))], [.int (Zi (C_F s o 9)), .ref o]) _ _ _
        refine Z_go (f2 := (50, [(0, .ref o), (1, .int (Zi q)), (2, .int (Zi i))], [.int (Zi 1), .int (Zi (C_F s o 9)), .ref o])) (fun _ => rfl) ?_
        refine Z_iadd rfl ?_
        refine C_pi rfl hs ok (by decide) (Nat.le_of_ble_eq_true rfl) (.inl rfl) rfl rfl rfl (by first | exact hs.zF _ _ | exact Zor_r _ _ | exact hs.zA _ _ | assumption | exact zA _ _ | exact zS _ | exact Zr_not (hs.zA _ _) | exact hs.1.1 _ _ | exact ⟨by omega, by omega⟩) (fun h hs => ?_)
        refine Z_ret rfl rfl ⟨_, hs, ?_⟩
        try dsimp only
        exact ⟨rfl, rfl, by rw [if_pos ⟨by omega, by omega, by omega⟩]⟩
