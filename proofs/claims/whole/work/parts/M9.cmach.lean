/-! the class: Machine: a new state, a match is noted -/
/-- the machine at o: its arrays -/
def D_M0 (s : C_S) (p : List Nat) (o : Nat) (A : Nat → Nat) : Prop := C_K s o = (10, 0) ∧ C_T s o = p ∧ (∀ f, (f = 1 ∨ f = 2 ∨ f = 3 ∨ f = 4 ∨ f = 7 ∨ f = 8 ∨ f = 10 ∨ f = 12) → C_P s o f = some (A f) ∧ C_K s (A f) = (0, 202) ∧ C_T s (A f) = p) ∧ ∀ f g, (f = 1 ∨ f = 2 ∨ f = 3 ∨ f = 4 ∨ f = 7 ∨ f = 8 ∨ f = 10 ∨ f = 12) → (g = 1 ∨ g = 2 ∨ g = 3 ∨ g = 4 ∨ g = 7 ∨ g = 8 ∨ g = 10 ∨ g = 12) → A f = A g → f = g
theorem C_newSt (d : Nat) {s : C_S} {p : List Nat} {o : Nat} {A : Nat → Nat} {a b c e : Int} (hm : D_M0 s p o A) (m0 : 0 ≤ C_F s o 5) (za : Zr a) (zb : Zr b) (zc : Zr c) (ze : Zr e) : C_ok (d + 2) 22 [.ref o, .int (Zi a), .int (Zi b), .int (Zi c), .int (Zi e)] s (fun x s2 n => n = 0 ∧ ((¬ C_F s o 5 < 202 ∧ x = some (.int (Zi (-1))) ∧ s2 = s) ∨ (C_F s o 5 < 202 ∧ x = some (.int (Zi (C_F s o 5))) ∧ s2 = C_sA (C_sA (C_sA (C_sA (C_sF s o 5 (C_F s o 5 + 1)) (A 1) (C_F s o 5) a) (A 2) (C_F s o 5) b) (A 3) (C_F s o 5) c) (A 4) (C_F s o 5) e))) := by
  refine C_enter (M := E_m22) rfl (Nat.le_of_ble_eq_true rfl) (fun h0 h hs => ?_)
  show B_R (d + 1) _ (0, [(0, .ref o), (1, .int (Zi a)), (2, .int (Zi b)), (3, .int (Zi c)), (4, .int (Zi e))], []) _ _ _
  have w := hs.1
  have ok := hm.1
  obtain ⟨e1, k1, t1⟩ := hm.2.2.1 1 (by omega)
  obtain ⟨e2, k2, t2⟩ := hm.2.2.1 2 (by omega)
  obtain ⟨e3, k3, t3⟩ := hm.2.2.1 3 (by omega)
  obtain ⟨e4, k4, t4⟩ := hm.2.2.1 4 (by omega)
  obtain ⟨e7, k7, t7⟩ := hm.2.2.1 7 (by omega)
  obtain ⟨e8, k8, t8⟩ := hm.2.2.1 8 (by omega)
  obtain ⟨e10, k10, t10⟩ := hm.2.2.1 10 (by omega)
  obtain ⟨e12, k12, t12⟩ := hm.2.2.1 12 (by omega)
  have zm := w.1 o 5
  refine Z_go (f2 := (1, [(0, .ref o), (1, .int (Zi a)), (2, .int (Zi b)), (3, .int (Zi c)), (4, .int (Zi e))], [.ref o])) (fun _ => rfl) ?_
  refine C_gi rfl hs ok (by decide) (Nat.le_of_ble_eq_true rfl) rfl ?_
  show B_R _ _ (4, [(0, .ref o), (1, .int (Zi a)), (2, .int (Zi b)), (3, .int (Zi c)), (4, .int (Zi e))], [.int (Zi (C_F s o 5))]) _ _ _
  refine Z_go (f2 := (6, [(5, .int (Zi (C_F s o 5))), (0, .ref o), (1, .int (Zi a)), (2, .int (Zi b)), (3, .int (Zi c)), (4, .int (Zi e))], [])) (fun _ => rfl) ?_
  refine Z_go (f2 := (8, [(5, .int (Zi (C_F s o 5))), (0, .ref o), (1, .int (Zi a)), (2, .int (Zi b)), (3, .int (Zi c)), (4, .int (Zi e))], [.int (Zi (C_F s o 5))])) (fun _ => rfl) ?_
  refine Z_go (f2 := (11, [(5, .int (Zi (C_F s o 5))), (0, .ref o), (1, .int (Zi a)), (2, .int (Zi b)), (3, .int (Zi c)), (4, .int (Zi e))], [.int (Zi 202), .int (Zi (C_F s o 5))])) (fun _ => rfl) ?_
  refine Z_clt rfl rfl (by first | exact hs.zF _ _ | exact Zor_r _ _ | exact hs.zA _ _ | assumption | exact zA _ _ | exact zS _ | exact Zr_not (hs.zA _ _) | exact hs.1.1 _ _ | exact ⟨by omega, by omega⟩) (by first | exact hs.zF _ _ | exact Zor_r _ _ | exact hs.zA _ _ | assumption | exact zA _ _ | exact zS _ | exact Zr_not (hs.zA _ _) | exact hs.1.1 _ _ | exact ⟨by omega, by omega⟩) (fun y1 => ?_) (fun y1 => ?_)
  · refine Z_go (f2 := (17, [(5, .int (Zi (C_F s o 5))), (0, .ref o), (1, .int (Zi a)), (2, .int (Zi b)), (3, .int (Zi c)), (4, .int (Zi e))], [.ref o])) (fun _ => rfl) ?_
    refine Z_go (f2 := (18, [(5, .int (Zi (C_F s o 5))), (0, .ref o), (1, .int (Zi a)), (2, .int (Zi b)), (3, .int (Zi c)), (4, .int (Zi e))], [.ref o, .ref o])) (fun _ => rfl) ?_
    refine C_gi rfl hs ok (by decide) (Nat.le_of_ble_eq_true rfl) rfl ?_
    show B_R _ _ (21, [(5, .int (Zi (C_F s o 5))), (0, .ref o), (1, .int (Zi a)), (2, .int (Zi b)), (3, .int (Zi c)), (4, .int (Zi e))], [.int (Zi (C_F s o 5)), .ref o]) _ _ _
    refine Z_go (f2 := (22, [(5, .int (Zi (C_F s o 5))), (0, .ref o), (1, .int (Zi a)), (2, .int (Zi b)), (3, .int (Zi c)), (4, .int (Zi e))], [.int (Zi 1), .int (Zi (C_F s o 5)), .ref o])) (fun _ => rfl) ?_
    refine Z_iadd rfl ?_
    refine C_pi rfl hs ok (by decide) (Nat.le_of_ble_eq_true rfl) (.inl rfl) rfl rfl rfl (by first | exact hs.zF _ _ | exact Zor_r _ _ | exact hs.zA _ _ | assumption | exact zA _ _ | exact zS _ | exact Zr_not (hs.zA _ _) | exact hs.1.1 _ _ | exact ⟨by omega, by omega⟩) (fun h hs => ?_)
    refine Z_go (f2 := (27, [(5, .int (Zi (C_F s o 5))), (0, .ref o), (1, .int (Zi a)), (2, .int (Zi b)), (3, .int (Zi c)), (4, .int (Zi e))], [.ref o])) (fun _ => rfl) ?_
    refine C_gr rfl hs ok (by decide) (Nat.le_of_ble_eq_true rfl) rfl e1 ?_
    refine Z_go (f2 := (32, [(5, .int (Zi (C_F s o 5))), (0, .ref o), (1, .int (Zi a)), (2, .int (Zi b)), (3, .int (Zi c)), (4, .int (Zi e))], [.int (Zi (C_F s o 5)), .ref (A 1)])) (fun _ => rfl) ?_
    refine Z_go (f2 := (33, [(5, .int (Zi (C_F s o 5))), (0, .ref o), (1, .int (Zi a)), (2, .int (Zi b)), (3, .int (Zi c)), (4, .int (Zi e))], [.int (Zi a), .int (Zi (C_F s o 5)), .ref (A 1)])) (fun _ => rfl) ?_
    refine C_callS (vs := [.ref (A 1), .int (Zi (C_F s o 5)), .int (Zi a)]) (rest := []) rfl (by decide) rfl rfl rfl (Nat.le_of_ble_eq_true rfl) hs (C_store _ (k1) (i := C_F s o 5) (v := a) (by first | exact hs.zF _ _ | exact Zor_r _ _ | exact hs.zA _ _ | assumption | exact zA _ _ | exact zS _ | exact Zr_not (hs.zA _ _) | exact hs.1.1 _ _ | exact ⟨by omega, by omega⟩) (by first | exact hs.zF _ _ | exact Zor_r _ _ | exact hs.zA _ _ | assumption | exact zA _ _ | exact zS _ | exact Zr_not (hs.zA _ _) | exact hs.1.1 _ _ | exact ⟨by omega, by omega⟩)) (fun x h w81 n81 hs q => ?_)
    obtain ⟨rfl, rfl, rfl⟩ := q
    rw [if_pos (by omega)] at hs
    show B_R _ _ (36, [(5, .int (Zi (C_F s o 5))), (0, .ref o), (1, .int (Zi a)), (2, .int (Zi b)), (3, .int (Zi c)), (4, .int (Zi e))], []) _ _ _
    refine Z_go (f2 := (37, [(5, .int (Zi (C_F s o 5))), (0, .ref o), (1, .int (Zi a)), (2, .int (Zi b)), (3, .int (Zi c)), (4, .int (Zi e))], [.ref o])) (fun _ => rfl) ?_
    refine C_gr rfl hs ok (by decide) (Nat.le_of_ble_eq_true rfl) rfl e2 ?_
    refine Z_go (f2 := (42, [(5, .int (Zi (C_F s o 5))), (0, .ref o), (1, .int (Zi a)), (2, .int (Zi b)), (3, .int (Zi c)), (4, .int (Zi e))], [.int (Zi (C_F s o 5)), .ref (A 2)])) (fun _ => rfl) ?_
    refine Z_go (f2 := (43, [(5, .int (Zi (C_F s o 5))), (0, .ref o), (1, .int (Zi a)), (2, .int (Zi b)), (3, .int (Zi c)), (4, .int (Zi e))], [.int (Zi b), .int (Zi (C_F s o 5)), .ref (A 2)])) (fun _ => rfl) ?_
    refine C_callS (vs := [.ref (A 2), .int (Zi (C_F s o 5)), .int (Zi b)]) (rest := []) rfl (by decide) rfl rfl rfl (Nat.le_of_ble_eq_true rfl) hs (C_store _ (k2) (i := C_F s o 5) (v := b) (by first | exact hs.zF _ _ | exact Zor_r _ _ | exact hs.zA _ _ | assumption | exact zA _ _ | exact zS _ | exact Zr_not (hs.zA _ _) | exact hs.1.1 _ _ | exact ⟨by omega, by omega⟩) (by first | exact hs.zF _ _ | exact Zor_r _ _ | exact hs.zA _ _ | assumption | exact zA _ _ | exact zS _ | exact Zr_not (hs.zA _ _) | exact hs.1.1 _ _ | exact ⟨by omega, by omega⟩)) (fun x h w82 n82 hs q => ?_)
    obtain ⟨rfl, rfl, rfl⟩ := q
    rw [if_pos (by omega)] at hs
    show B_R _ _ (46, [(5, .int (Zi (C_F s o 5))), (0, .ref o), (1, .int (Zi a)), (2, .int (Zi b)), (3, .int (Zi c)), (4, .int (Zi e))], []) _ _ _
    refine Z_go (f2 := (47, [(5, .int (Zi (C_F s o 5))), (0, .ref o), (1, .int (Zi a)), (2, .int (Zi b)), (3, .int (Zi c)), (4, .int (Zi e))], [.ref o])) (fun _ => rfl) ?_
    refine C_gr rfl hs ok (by decide) (Nat.le_of_ble_eq_true rfl) rfl e3 ?_
    refine Z_go (f2 := (52, [(5, .int (Zi (C_F s o 5))), (0, .ref o), (1, .int (Zi a)), (2, .int (Zi b)), (3, .int (Zi c)), (4, .int (Zi e))], [.int (Zi (C_F s o 5)), .ref (A 3)])) (fun _ => rfl) ?_
    refine Z_go (f2 := (53, [(5, .int (Zi (C_F s o 5))), (0, .ref o), (1, .int (Zi a)), (2, .int (Zi b)), (3, .int (Zi c)), (4, .int (Zi e))], [.int (Zi c), .int (Zi (C_F s o 5)), .ref (A 3)])) (fun _ => rfl) ?_
    refine C_callS (vs := [.ref (A 3), .int (Zi (C_F s o 5)), .int (Zi c)]) (rest := []) rfl (by decide) rfl rfl rfl (Nat.le_of_ble_eq_true rfl) hs (C_store _ (k3) (i := C_F s o 5) (v := c) (by first | exact hs.zF _ _ | exact Zor_r _ _ | exact hs.zA _ _ | assumption | exact zA _ _ | exact zS _ | exact Zr_not (hs.zA _ _) | exact hs.1.1 _ _ | exact ⟨by omega, by omega⟩) (by first | exact hs.zF _ _ | exact Zor_r _ _ | exact hs.zA _ _ | assumption | exact zA _ _ | exact zS _ | exact Zr_not (hs.zA _ _) | exact hs.1.1 _ _ | exact ⟨by omega, by omega⟩)) (fun x h w83 n83 hs q => ?_)
    obtain ⟨rfl, rfl, rfl⟩ := q
    rw [if_pos (by omega)] at hs
    show B_R _ _ (56, [(5, .int (Zi (C_F s o 5))), (0, .ref o), (1, .int (Zi a)), (2, .int (Zi b)), (3, .int (Zi c)), (4, .int (Zi e))], []) _ _ _
    refine Z_go (f2 := (57, [(5, .int (Zi (C_F s o 5))), (0, .ref o), (1, .int (Zi a)), (2, .int (Zi b)), (3, .int (Zi c)), (4, .int (Zi e))], [.ref o])) (fun _ => rfl) ?_
    refine C_gr rfl hs ok (by decide) (Nat.le_of_ble_eq_true rfl) rfl e4 ?_
    refine Z_go (f2 := (62, [(5, .int (Zi (C_F s o 5))), (0, .ref o), (1, .int (Zi a)), (2, .int (Zi b)), (3, .int (Zi c)), (4, .int (Zi e))], [.int (Zi (C_F s o 5)), .ref (A 4)])) (fun _ => rfl) ?_
    refine Z_go (f2 := (64, [(5, .int (Zi (C_F s o 5))), (0, .ref o), (1, .int (Zi a)), (2, .int (Zi b)), (3, .int (Zi c)), (4, .int (Zi e))], [.int (Zi e), .int (Zi (C_F s o 5)), .ref (A 4)])) (fun _ => rfl) ?_
    refine C_callS (vs := [.ref (A 4), .int (Zi (C_F s o 5)), .int (Zi e)]) (rest := []) rfl (by decide) rfl rfl rfl (Nat.le_of_ble_eq_true rfl) hs (C_store _ (k4) (i := C_F s o 5) (v := e) (by first | exact hs.zF _ _ | exact Zor_r _ _ | exact hs.zA _ _ | assumption | exact zA _ _ | exact zS _ | exact Zr_not (hs.zA _ _) | exact hs.1.1 _ _ | exact ⟨by omega, by omega⟩) (by first | exact hs.zF _ _ | exact Zor_r _ _ | exact hs.zA _ _ | assumption | exact zA _ _ | exact zS _ | exact Zr_not (hs.zA _ _) | exact hs.1.1 _ _ | exact ⟨by omega, by omega⟩)) (fun x h w84 n84 hs q => ?_)
    obtain ⟨rfl, rfl, rfl⟩ := q
    rw [if_pos (by omega)] at hs
    show B_R _ _ (67, [(5, .int (Zi (C_F s o 5))), (0, .ref o), (1, .int (Zi a)), (2, .int (Zi b)), (3, .int (Zi c)), (4, .int (Zi e))], []) _ _ _
    refine Z_go (f2 := (69, [(5, .int (Zi (C_F s o 5))), (0, .ref o), (1, .int (Zi a)), (2, .int (Zi b)), (3, .int (Zi c)), (4, .int (Zi e))], [.int (Zi (C_F s o 5))])) (fun _ => rfl) ?_
    refine Z_iret rfl rfl (by first | rfl | decide | exact narrow_b01 (by omega)) ⟨_, hs, ?_⟩
    try dsimp only
    exact ⟨rfl, .inr ⟨by omega, rfl, rfl⟩⟩
  · refine Z_go (f2 := (15, [(5, .int (Zi (C_F s o 5))), (0, .ref o), (1, .int (Zi a)), (2, .int (Zi b)), (3, .int (Zi c)), (4, .int (Zi e))], [.int (Zi (-1))])) (fun _ => rfl) ?_
    refine Z_iret rfl rfl (by first | rfl | decide | exact narrow_b01 (by omega)) ⟨_, hs, ?_⟩
    try dsimp only
    exact ⟨rfl, .inl ⟨by omega, rfl, rfl⟩⟩
theorem C_noteM (d : Nat) {s : C_S} {p : List Nat} {o : Nat} {A : Nat → Nat} {b e : Int} (hm : D_M0 s p o A) (zb : Zr b) (ze : Zr e) : C_ok (d + 1) 28 [.ref o, .int (Zi b), .int (Zi e)] s (fun x s2 n => x = none ∧ n = 0 ∧ s2 = if C_F s o 15 = -1 ∨ b ≤ C_F s o 15 then C_sF (C_sF s o 15 b) o 16 e else s) := by
  refine C_enter (M := E_m28) rfl (Nat.le_of_ble_eq_true rfl) (fun h0 h hs => ?_)
  show B_R (d + 0) _ (0, [(0, .ref o), (1, .int (Zi b)), (2, .int (Zi e))], []) _ _ _
  have w := hs.1
  have ok := hm.1
  obtain ⟨e1, k1, t1⟩ := hm.2.2.1 1 (by omega)
  obtain ⟨e2, k2, t2⟩ := hm.2.2.1 2 (by omega)
  obtain ⟨e3, k3, t3⟩ := hm.2.2.1 3 (by omega)
  obtain ⟨e4, k4, t4⟩ := hm.2.2.1 4 (by omega)
  obtain ⟨e7, k7, t7⟩ := hm.2.2.1 7 (by omega)
  obtain ⟨e8, k8, t8⟩ := hm.2.2.1 8 (by omega)
  obtain ⟨e10, k10, t10⟩ := hm.2.2.1 10 (by omega)
  obtain ⟨e12, k12, t12⟩ := hm.2.2.1 12 (by omega)
  refine Z_go (f2 := (1, [(0, .ref o), (1, .int (Zi b)), (2, .int (Zi e))], [.ref o])) (fun _ => rfl) ?_
  refine C_gi rfl hs ok (by decide) (Nat.le_of_ble_eq_true rfl) rfl ?_
  show B_R _ _ (4, [(0, .ref o), (1, .int (Zi b)), (2, .int (Zi e))], [.int (Zi (C_F s o 15))]) _ _ _
  refine Z_go (f2 := (5, [(0, .ref o), (1, .int (Zi b)), (2, .int (Zi e))], [.int (Zi (-1)), .int (Zi (C_F s o 15))])) (fun _ => rfl) ?_
  refine Z_ceq rfl rfl (by first | exact hs.zF _ _ | exact Zor_r _ _ | exact hs.zA _ _ | assumption | exact zA _ _ | exact zS _ | exact Zr_not (hs.zA _ _) | exact hs.1.1 _ _ | exact ⟨by omega, by omega⟩) (by first | exact hs.zF _ _ | exact Zor_r _ _ | exact hs.zA _ _ | assumption | exact zA _ _ | exact zS _ | exact Zr_not (hs.zA _ _) | exact hs.1.1 _ _ | exact ⟨by omega, by omega⟩) (fun y1 => ?_) (fun y1 => ?_)
  · refine Z_go (f2 := (17, [(0, .ref o), (1, .int (Zi b)), (2, .int (Zi e))], [.ref o])) (fun _ => rfl) ?_
    refine Z_go (f2 := (18, [(0, .ref o), (1, .int (Zi b)), (2, .int (Zi e))], [.int (Zi b), .ref o])) (fun _ => rfl) ?_
    refine C_pi rfl hs ok (by decide) (Nat.le_of_ble_eq_true rfl) (.inl rfl) rfl rfl rfl (by first | exact hs.zF _ _ | exact Zor_r _ _ | exact hs.zA _ _ | assumption | exact zA _ _ | exact zS _ | exact Zr_not (hs.zA _ _) | exact hs.1.1 _ _ | exact ⟨by omega, by omega⟩) (fun h hs => ?_)
    refine Z_go (f2 := (22, [(0, .ref o), (1, .int (Zi b)), (2, .int (Zi e))], [.ref o])) (fun _ => rfl) ?_
    refine Z_go (f2 := (23, [(0, .ref o), (1, .int (Zi b)), (2, .int (Zi e))], [.int (Zi e), .ref o])) (fun _ => rfl) ?_
    refine C_pi rfl hs ok (by decide) (Nat.le_of_ble_eq_true rfl) (.inl rfl) rfl rfl rfl (by first | exact hs.zF _ _ | exact Zor_r _ _ | exact hs.zA _ _ | assumption | exact zA _ _ | exact zS _ | exact Zr_not (hs.zA _ _) | exact hs.1.1 _ _ | exact ⟨by omega, by omega⟩) (fun h hs => ?_)
    refine Z_ret rfl rfl ⟨_, hs, ?_⟩
    try dsimp only
    exact ⟨rfl, rfl, by rw [if_pos (by omega)]⟩
  · refine Z_go (f2 := (9, [(0, .ref o), (1, .int (Zi b)), (2, .int (Zi e))], [.int (Zi b)])) (fun _ => rfl) ?_
    refine Z_go (f2 := (10, [(0, .ref o), (1, .int (Zi b)), (2, .int (Zi e))], [.ref o, .int (Zi b)])) (fun _ => rfl) ?_
    refine C_gi rfl hs ok (by decide) (Nat.le_of_ble_eq_true rfl) rfl ?_
    show B_R _ _ (13, [(0, .ref o), (1, .int (Zi b)), (2, .int (Zi e))], [.int (Zi (C_F s o 15)), .int (Zi b)]) _ _ _
    refine Z_cgt rfl rfl (by first | exact hs.zF _ _ | exact Zor_r _ _ | exact hs.zA _ _ | assumption | exact zA _ _ | exact zS _ | exact Zr_not (hs.zA _ _) | exact hs.1.1 _ _ | exact ⟨by omega, by omega⟩) (by first | exact hs.zF _ _ | exact Zor_r _ _ | exact hs.zA _ _ | assumption | exact zA _ _ | exact zS _ | exact Zr_not (hs.zA _ _) | exact hs.1.1 _ _ | exact ⟨by omega, by omega⟩) (fun y2 => ?_) (fun y2 => ?_)
    · refine Z_ret rfl rfl ⟨_, hs, ?_⟩
      try dsimp only
      exact ⟨rfl, rfl, by rw [if_neg (by omega)]⟩
    · refine Z_go (f2 := (17, [(0, .ref o), (1, .int (Zi b)), (2, .int (Zi e))], [.ref o])) (fun _ => rfl) ?_
      refine Z_go (f2 := (18, [(0, .ref o), (1, .int (Zi b)), (2, .int (Zi e))], [.int (Zi b), .ref o])) (fun _ => rfl) ?_
      refine C_pi rfl hs ok (by decide) (Nat.le_of_ble_eq_true rfl) (.inl rfl) rfl rfl rfl (by first | exact hs.zF _ _ | exact Zor_r _ _ | exact hs.zA _ _ | assumption | exact zA _ _ | exact zS _ | exact Zr_not (hs.zA _ _) | exact hs.1.1 _ _ | exact ⟨by omega, by omega⟩) (fun h hs => ?_)
      refine Z_go (f2 := (22, [(0, .ref o), (1, .int (Zi b)), (2, .int (Zi e))], [.ref o])) (fun _ => rfl) ?_
      refine Z_go (f2 := (23, [(0, .ref o), (1, .int (Zi b)), (2, .int (Zi e))], [.int (Zi e), .ref o])) (fun _ => rfl) ?_
      refine C_pi rfl hs ok (by decide) (Nat.le_of_ble_eq_true rfl) (.inl rfl) rfl rfl rfl (by first | exact hs.zF _ _ | exact Zor_r _ _ | exact hs.zA _ _ | assumption | exact zA _ _ | exact zS _ | exact Zr_not (hs.zA _ _) | exact hs.1.1 _ _ | exact ⟨by omega, by omega⟩) (fun h hs => ?_)
      refine Z_ret rfl rfl ⟨_, hs, ?_⟩
      try dsimp only
      exact ⟨rfl, rfl, by rw [if_pos (by omega)]⟩
