/-! the class: GramFinder: fault -/
theorem C_fault (d : Nat) {s : C_S} {g tb sh pa pl ma re : Nat} {m : Int} {w9 : Int} (hg : D_G s g tb sh pa pl ma re m) (pk : C_K s pa = (11, 0)) (zw : Zr w9) : C_rd (d + 1) 154 [.ref g, .int (Zi w9)] s (fun x => x = some (.int (Zi (if w9 = 0 then C_F s pa 1 else if w9 = 1 then C_F s pa 2 else -1)))) := by
  refine C_enterR (M := E_m154) rfl (Nat.le_of_ble_eq_true rfl) (fun h0 h hs => ?_)
  show B_R (d + 0) _ (0, [(0, .ref g), (1, .int (Zi w9))], []) _ _ _
  have w := hs.1
  obtain ⟨gk, gt, g0, tk, tt, g2, g3, g4, g5, g6, gm, m0, m1⟩ := id hg
  refine Z_go (f2 := (1, [(0, .ref g), (1, .int (Zi w9))], [.int (Zi w9)])) (fun _ => rfl) ?_
  refine Z_ine rfl rfl (by first | exact hs.zF _ _ | exact Zor_r _ _ | exact hs.zA _ _ | assumption | exact zA _ _ | exact zS _ | exact Zr_not (hs.zA _ _) | exact hs.1.1 _ _ | exact ⟨by omega, by omega⟩) (fun y1 => ?_) (fun y1 => ?_)
  · refine Z_go (f2 := (13, [(0, .ref g), (1, .int (Zi w9))], [.int (Zi w9)])) (fun _ => rfl) ?_
    refine Z_go (f2 := (14, [(0, .ref g), (1, .int (Zi w9))], [.int (Zi 1), .int (Zi w9)])) (fun _ => rfl) ?_
    refine Z_cne rfl rfl (by first | exact hs.zF _ _ | exact Zor_r _ _ | exact hs.zA _ _ | assumption | exact zA _ _ | exact zS _ | exact Zr_not (hs.zA _ _) | exact hs.1.1 _ _ | exact ⟨by omega, by omega⟩) (by first | exact hs.zF _ _ | exact Zor_r _ _ | exact hs.zA _ _ | assumption | exact zA _ _ | exact zS _ | exact Zr_not (hs.zA _ _) | exact hs.1.1 _ _ | exact ⟨by omega, by omega⟩) (fun y2 => ?_) (fun y2 => ?_)
    · refine Z_go (f2 := (28, [(0, .ref g), (1, .int (Zi w9))], [.int (Zi (-1))])) (fun _ => rfl) ?_
      refine Z_iret rfl rfl (by first | rfl | decide | exact narrow_b01 (by omega)) ⟨rfl, rfl, ?_⟩
      try dsimp only
      first | rw [if_pos (by omega)] | rw [if_neg (by omega), if_pos (by omega)] | rw [if_neg (by omega), if_neg (by omega)]
    · refine Z_go (f2 := (18, [(0, .ref g), (1, .int (Zi w9))], [.ref g])) (fun _ => rfl) ?_
      refine C_gr rfl hs gk (by decide) (Nat.le_of_ble_eq_true rfl) rfl g3 ?_
      refine C_gi rfl hs pk (by decide) (Nat.le_of_ble_eq_true rfl) rfl ?_
      show B_R _ _ (24, [(0, .ref g), (1, .int (Zi w9))], [.int (Zi (C_F s pa 2))]) _ _ _
      refine Z_go (f2 := (28, [(0, .ref g), (1, .int (Zi w9))], [.int (Zi (C_F s pa 2))])) (fun _ => rfl) ?_
      refine Z_iret rfl rfl (by first | rfl | decide | exact narrow_b01 (by omega)) ⟨rfl, rfl, ?_⟩
      try dsimp only
      first | rw [if_pos (by omega)] | rw [if_neg (by omega), if_pos (by omega)] | rw [if_neg (by omega), if_neg (by omega)]
  · refine Z_go (f2 := (5, [(0, .ref g), (1, .int (Zi w9))], [.ref g])) (fun _ => rfl) ?_
    refine C_gr rfl hs gk (by decide) (Nat.le_of_ble_eq_true rfl) rfl g3 ?_
    refine C_gi rfl hs pk (by decide) (Nat.le_of_ble_eq_true rfl) rfl ?_
    show B_R _ _ (11, [(0, .ref g), (1, .int (Zi w9))], [.int (Zi (C_F s pa 1))]) _ _ _
    refine Z_iret rfl rfl (by first | rfl | decide | exact narrow_b01 (by omega)) ⟨rfl, rfl, ?_⟩
    try dsimp only
    first | rw [if_pos (by omega)] | rw [if_neg (by omega), if_pos (by omega)] | rw [if_neg (by omega), if_neg (by omega)]
