/-! the class: what signs are; Tree: ranges, names, folding, turning over -/
theorem C_isDig (d : Nat) {c : Int} (zc : Zr c) : Q_ok (d + 1) 166 [.int (Zi c)] (fun x => ∃ v : Int, x = some (.int (Zi v)) ∧ (v = 1 ∧ D_dig c ∨ v = 0 ∧ ¬ D_dig c)) := by
  refine Q_enter (M := E_m166) rfl (Nat.le_of_ble_eq_true rfl) (fun h => ?_)
  show B_R d _ (0, [(0, .int (Zi c))], []) _ _ _
  refine Z_go (f2 := (1, [(0, .int (Zi c))], [.int (Zi c)])) (fun _ => rfl) ?_
  refine Z_go (f2 := (3, [(0, .int (Zi c))], [.int (Zi 48), .int (Zi c)])) (fun _ => rfl) ?_
  refine Z_clt rfl rfl (by first | exact hs.zF _ _ | exact Zor_r _ _ | exact hs.zA _ _ | assumption | exact zA _ _ | exact zS _ | exact Zr_not (hs.zA _ _) | exact hs.1.1 _ _ | exact ⟨by omega, by omega⟩) (by first | exact hs.zF _ _ | exact Zor_r _ _ | exact hs.zA _ _ | assumption | exact zA _ _ | exact zS _ | exact Zr_not (hs.zA _ _) | exact hs.1.1 _ _ | exact ⟨by omega, by omega⟩) (fun c1 => ?_) (fun c1 => ?_)
  · refine Z_go (f2 := (17, [(0, .int (Zi c))], [.int (Zi 0)])) (fun _ => rfl) ?_
    refine Z_iret rfl rfl (by first | rfl | decide | exact narrow_b01 (by omega)) ⟨rfl, rfl, ?_⟩
    try dsimp only
    exact ⟨0, rfl, .inr ⟨rfl, by omega⟩⟩
  · refine Z_go (f2 := (7, [(0, .int (Zi c))], [.int (Zi c)])) (fun _ => rfl) ?_
    refine Z_go (f2 := (9, [(0, .int (Zi c))], [.int (Zi 57), .int (Zi c)])) (fun _ => rfl) ?_
    refine Z_cgt rfl rfl (by first | exact hs.zF _ _ | exact Zor_r _ _ | exact hs.zA _ _ | assumption | exact zA _ _ | exact zS _ | exact Zr_not (hs.zA _ _) | exact hs.1.1 _ _ | exact ⟨by omega, by omega⟩) (by first | exact hs.zF _ _ | exact Zor_r _ _ | exact hs.zA _ _ | assumption | exact zA _ _ | exact zS _ | exact Zr_not (hs.zA _ _) | exact hs.1.1 _ _ | exact ⟨by omega, by omega⟩) (fun c2 => ?_) (fun c2 => ?_)
    · refine Z_go (f2 := (17, [(0, .int (Zi c))], [.int (Zi 0)])) (fun _ => rfl) ?_
      refine Z_iret rfl rfl (by first | rfl | decide | exact narrow_b01 (by omega)) ⟨rfl, rfl, ?_⟩
      try dsimp only
      exact ⟨0, rfl, .inr ⟨rfl, by omega⟩⟩
    · refine Z_go (f2 := (13, [(0, .int (Zi c))], [.int (Zi 1)])) (fun _ => rfl) ?_
      refine Z_go (f2 := (17, [(0, .int (Zi c))], [.int (Zi 1)])) (fun _ => rfl) ?_
      refine Z_iret rfl rfl (by first | rfl | decide | exact narrow_b01 (by omega)) ⟨rfl, rfl, ?_⟩
      try dsimp only
      exact ⟨1, rfl, .inl ⟨rfl, by omega⟩⟩
theorem C_isLet (d : Nat) {c : Int} (zc : Zr c) : Q_ok (d + 1) 167 [.int (Zi c)] (fun x => ∃ v : Int, x = some (.int (Zi v)) ∧ (v = 1 ∧ D_let c ∨ v = 0 ∧ ¬ D_let c)) := by
  refine Q_enter (M := E_m167) rfl (Nat.le_of_ble_eq_true rfl) (fun h => ?_)
  show B_R d _ (0, [(0, .int (Zi c))], []) _ _ _
  refine Z_go (f2 := (1, [(0, .int (Zi c))], [.int (Zi c)])) (fun _ => rfl) ?_
  refine Z_go (f2 := (3, [(0, .int (Zi c))], [.int (Zi 97), .int (Zi c)])) (fun _ => rfl) ?_
  refine Z_clt rfl rfl (by first | exact hs.zF _ _ | exact Zor_r _ _ | exact hs.zA _ _ | assumption | exact zA _ _ | exact zS _ | exact Zr_not (hs.zA _ _) | exact hs.1.1 _ _ | exact ⟨by omega, by omega⟩) (by first | exact hs.zF _ _ | exact Zor_r _ _ | exact hs.zA _ _ | assumption | exact zA _ _ | exact zS _ | exact Zr_not (hs.zA _ _) | exact hs.1.1 _ _ | exact ⟨by omega, by omega⟩) (fun c1 => ?_) (fun c1 => ?_)
  · refine Z_go (f2 := (13, [(0, .int (Zi c))], [.int (Zi c)])) (fun _ => rfl) ?_
    refine Z_go (f2 := (15, [(0, .int (Zi c))], [.int (Zi 65), .int (Zi c)])) (fun _ => rfl) ?_
    refine Z_clt rfl rfl (by first | exact hs.zF _ _ | exact Zor_r _ _ | exact hs.zA _ _ | assumption | exact zA _ _ | exact zS _ | exact Zr_not (hs.zA _ _) | exact hs.1.1 _ _ | exact ⟨by omega, by omega⟩) (by first | exact hs.zF _ _ | exact Zor_r _ _ | exact hs.zA _ _ | assumption | exact zA _ _ | exact zS _ | exact Zr_not (hs.zA _ _) | exact hs.1.1 _ _ | exact ⟨by omega, by omega⟩) (fun c2 => ?_) (fun c2 => ?_)
    · refine Z_go (f2 := (29, [(0, .int (Zi c))], [.int (Zi 0)])) (fun _ => rfl) ?_
      refine Z_iret rfl rfl (by first | rfl | decide | exact narrow_b01 (by omega)) ⟨rfl, rfl, ?_⟩
      try dsimp only
      exact ⟨0, rfl, .inr ⟨rfl, by omega⟩⟩
    · refine Z_go (f2 := (19, [(0, .int (Zi c))], [.int (Zi c)])) (fun _ => rfl) ?_
      refine Z_go (f2 := (21, [(0, .int (Zi c))], [.int (Zi 90), .int (Zi c)])) (fun _ => rfl) ?_
      refine Z_cgt rfl rfl (by first | exact hs.zF _ _ | exact Zor_r _ _ | exact hs.zA _ _ | assumption | exact zA _ _ | exact zS _ | exact Zr_not (hs.zA _ _) | exact hs.1.1 _ _ | exact ⟨by omega, by omega⟩) (by first | exact hs.zF _ _ | exact Zor_r _ _ | exact hs.zA _ _ | assumption | exact zA _ _ | exact zS _ | exact Zr_not (hs.zA _ _) | exact hs.1.1 _ _ | exact ⟨by omega, by omega⟩) (fun c3 => ?_) (fun c3 => ?_)
      · refine Z_go (f2 := (29, [(0, .int (Zi c))], [.int (Zi 0)])) (fun _ => rfl) ?_
        refine Z_iret rfl rfl (by first | rfl | decide | exact narrow_b01 (by omega)) ⟨rfl, rfl, ?_⟩
        try dsimp only
        exact ⟨0, rfl, .inr ⟨rfl, by omega⟩⟩
      · refine Z_go (f2 := (25, [(0, .int (Zi c))], [.int (Zi 1)])) (fun _ => rfl) ?_
        refine Z_go (f2 := (29, [(0, .int (Zi c))], [.int (Zi 1)])) (fun _ => rfl) ?_
        refine Z_iret rfl rfl (by first | rfl | decide | exact narrow_b01 (by omega)) ⟨rfl, rfl, ?_⟩
        try dsimp only
        exact ⟨1, rfl, .inl ⟨rfl, by omega⟩⟩
  · refine Z_go (f2 := (7, [(0, .int (Zi c))], [.int (Zi c)])) (fun _ => rfl) ?_
    refine Z_go (f2 := (9, [(0, .int (Zi c))], [.int (Zi 122), .int (Zi c)])) (fun _ => rfl) ?_
    refine Z_cle rfl rfl (by first | exact hs.zF _ _ | exact Zor_r _ _ | exact hs.zA _ _ | assumption | exact zA _ _ | exact zS _ | exact Zr_not (hs.zA _ _) | exact hs.1.1 _ _ | exact ⟨by omega, by omega⟩) (by first | exact hs.zF _ _ | exact Zor_r _ _ | exact hs.zA _ _ | assumption | exact zA _ _ | exact zS _ | exact Zr_not (hs.zA _ _) | exact hs.1.1 _ _ | exact ⟨by omega, by omega⟩) (fun c4 => ?_) (fun c4 => ?_)
    · refine Z_go (f2 := (25, [(0, .int (Zi c))], [.int (Zi 1)])) (fun _ => rfl) ?_
      refine Z_go (f2 := (29, [(0, .int (Zi c))], [.int (Zi 1)])) (fun _ => rfl) ?_
      refine Z_iret rfl rfl (by first | rfl | decide | exact narrow_b01 (by omega)) ⟨rfl, rfl, ?_⟩
      try dsimp only
      exact ⟨1, rfl, .inl ⟨rfl, by omega⟩⟩
    · refine Z_go (f2 := (13, [(0, .int (Zi c))], [.int (Zi c)])) (fun _ => rfl) ?_
      refine Z_go (f2 := (15, [(0, .int (Zi c))], [.int (Zi 65), .int (Zi c)])) (fun _ => rfl) ?_
      refine Z_clt rfl rfl (by first | exact hs.zF _ _ | exact Zor_r _ _ | exact hs.zA _ _ | assumption | exact zA _ _ | exact zS _ | exact Zr_not (hs.zA _ _) | exact hs.1.1 _ _ | exact ⟨by omega, by omega⟩) (by first | exact hs.zF _ _ | exact Zor_r _ _ | exact hs.zA _ _ | assumption | exact zA _ _ | exact zS _ | exact Zr_not (hs.zA _ _) | exact hs.1.1 _ _ | exact ⟨by omega, by omega⟩) (fun c5 => ?_) (fun c5 => ?_)
      · refine Z_go (f2 := (29, [(0, .int (Zi c))], [.int (Zi 0)])) (fun _ => rfl) ?_
        refine Z_iret rfl rfl (by first | rfl | decide | exact narrow_b01 (by omega)) ⟨rfl, rfl, ?_⟩
        try dsimp only
        exact ⟨0, rfl, .inr ⟨rfl, by omega⟩⟩
      · refine Z_go (f2 := (19, [(0, .int (Zi c))], [.int (Zi c)])) (fun _ => rfl) ?_
        refine Z_go (f2 := (21, [(0, .int (Zi c))], [.int (Zi 90), .int (Zi c)])) (fun _ => rfl) ?_
        refine Z_cgt rfl rfl (by first | exact hs.zF _ _ | exact Zor_r _ _ | exact hs.zA _ _ | assumption | exact zA _ _ | exact zS _ | exact Zr_not (hs.zA _ _) | exact hs.1.1 _ _ | exact ⟨by omega, by omega⟩) (by first | exact hs.zF _ _ | exact Zor_r _ _ | exact hs.zA _ _ | assumption | exact zA _ _ | exact zS _ | exact Zr_not (hs.zA _ _) | exact hs.1.1 _ _ | exact ⟨by omega, by omega⟩) (fun c6 => ?_) (fun c6 => ?_)
        · refine Z_go (f2 := (29, [(0, .int (Zi c))], [.int (Zi 0)])) (fun _ => rfl) ?_
          refine Z_iret rfl rfl (by first | rfl | decide | exact narrow_b01 (by omega)) ⟨rfl, rfl, ?_⟩
          try dsimp only
          exact ⟨0, rfl, .inr ⟨rfl, by omega⟩⟩
        · refine Z_go (f2 := (25, [(0, .int (Zi c))], [.int (Zi 1)])) (fun _ => rfl) ?_
          refine Z_go (f2 := (29, [(0, .int (Zi c))], [.int (Zi 1)])) (fun _ => rfl) ?_
          refine Z_iret rfl rfl (by first | rfl | decide | exact narrow_b01 (by omega)) ⟨rfl, rfl, ?_⟩
          try dsimp only
          exact ⟨1, rfl, .inl ⟨rfl, by omega⟩⟩
theorem C_isWrd (d : Nat) {c : Int} (zc : Zr c) : Q_ok (d + 1) 168 [.int (Zi c)] (fun x => ∃ v : Int, x = some (.int (Zi v)) ∧ (v = 1 ∧ D_wrd c ∨ v = 0 ∧ ¬ D_wrd c)) := by
  refine Q_enter (M := E_m168) rfl (Nat.le_of_ble_eq_true rfl) (fun h => ?_)
  show B_R d _ (0, [(0, .int (Zi c))], []) _ _ _
  refine Z_go (f2 := (1, [(0, .int (Zi c))], [.int (Zi c)])) (fun _ => rfl) ?_
  refine Z_go (f2 := (3, [(0, .int (Zi c))], [.int (Zi 97), .int (Zi c)])) (fun _ => rfl) ?_
  refine Z_clt rfl rfl (by first | exact hs.zF _ _ | exact Zor_r _ _ | exact hs.zA _ _ | assumption | exact zA _ _ | exact zS _ | exact Zr_not (hs.zA _ _) | exact hs.1.1 _ _ | exact ⟨by omega, by omega⟩) (by first | exact hs.zF _ _ | exact Zor_r _ _ | exact hs.zA _ _ | assumption | exact zA _ _ | exact zS _ | exact Zr_not (hs.zA _ _) | exact hs.1.1 _ _ | exact ⟨by omega, by omega⟩) (fun c1 => ?_) (fun c1 => ?_)
  · refine Z_go (f2 := (13, [(0, .int (Zi c))], [.int (Zi c)])) (fun _ => rfl) ?_
    refine Z_go (f2 := (15, [(0, .int (Zi c))], [.int (Zi 65), .int (Zi c)])) (fun _ => rfl) ?_
    refine Z_clt rfl rfl (by first | exact hs.zF _ _ | exact Zor_r _ _ | exact hs.zA _ _ | assumption | exact zA _ _ | exact zS _ | exact Zr_not (hs.zA _ _) | exact hs.1.1 _ _ | exact ⟨by omega, by omega⟩) (by first | exact hs.zF _ _ | exact Zor_r _ _ | exact hs.zA _ _ | assumption | exact zA _ _ | exact zS _ | exact Zr_not (hs.zA _ _) | exact hs.1.1 _ _ | exact ⟨by omega, by omega⟩) (fun c2 => ?_) (fun c2 => ?_)
    · refine Z_go (f2 := (25, [(0, .int (Zi c))], [.int (Zi c)])) (fun _ => rfl) ?_
      refine Z_go (f2 := (27, [(0, .int (Zi c))], [.int (Zi 48), .int (Zi c)])) (fun _ => rfl) ?_
      refine Z_clt rfl rfl (by first | exact hs.zF _ _ | exact Zor_r _ _ | exact hs.zA _ _ | assumption | exact zA _ _ | exact zS _ | exact Zr_not (hs.zA _ _) | exact hs.1.1 _ _ | exact ⟨by omega, by omega⟩) (by first | exact hs.zF _ _ | exact Zor_r _ _ | exact hs.zA _ _ | assumption | exact zA _ _ | exact zS _ | exact Zr_not (hs.zA _ _) | exact hs.1.1 _ _ | exact ⟨by omega, by omega⟩) (fun c3 => ?_) (fun c3 => ?_)
      · refine Z_go (f2 := (37, [(0, .int (Zi c))], [.int (Zi c)])) (fun _ => rfl) ?_
        refine Z_go (f2 := (39, [(0, .int (Zi c))], [.int (Zi 95), .int (Zi c)])) (fun _ => rfl) ?_
        refine Z_cne rfl rfl (by first | exact hs.zF _ _ | exact Zor_r _ _ | exact hs.zA _ _ | assumption | exact zA _ _ | exact zS _ | exact Zr_not (hs.zA _ _) | exact hs.1.1 _ _ | exact ⟨by omega, by omega⟩) (by first | exact hs.zF _ _ | exact Zor_r _ _ | exact hs.zA _ _ | assumption | exact zA _ _ | exact zS _ | exact Zr_not (hs.zA _ _) | exact hs.1.1 _ _ | exact ⟨by omega, by omega⟩) (fun c4 => ?_) (fun c4 => ?_)
        · refine Z_go (f2 := (47, [(0, .int (Zi c))], [.int (Zi 0)])) (fun _ => rfl) ?_
          refine Z_iret rfl rfl (by first | rfl | decide | exact narrow_b01 (by omega)) ⟨rfl, rfl, ?_⟩
          try dsimp only
          exact ⟨0, rfl, .inr ⟨rfl, by omega⟩⟩
        · refine Z_go (f2 := (43, [(0, .int (Zi c))], [.int (Zi 1)])) (fun _ => rfl) ?_
          refine Z_go (f2 := (47, [(0, .int (Zi c))], [.int (Zi 1)])) (fun _ => rfl) ?_
          refine Z_iret rfl rfl (by first | rfl | decide | exact narrow_b01 (by omega)) ⟨rfl, rfl, ?_⟩
          try dsimp only
          exact ⟨1, rfl, .inl ⟨rfl, by omega⟩⟩
      · refine Z_go (f2 := (31, [(0, .int (Zi c))], [.int (Zi c)])) (fun _ => rfl) ?_
        refine Z_go (f2 := (33, [(0, .int (Zi c))], [.int (Zi 57), .int (Zi c)])) (fun _ => rfl) ?_
        refine Z_cle rfl rfl (by first | exact hs.zF _ _ | exact Zor_r _ _ | exact hs.zA _ _ | assumption | exact zA _ _ | exact zS _ | exact Zr_not (hs.zA _ _) | exact hs.1.1 _ _ | exact ⟨by omega, by omega⟩) (by first | exact hs.zF _ _ | exact Zor_r _ _ | exact hs.zA _ _ | assumption | exact zA _ _ | exact zS _ | exact Zr_not (hs.zA _ _) | exact hs.1.1 _ _ | exact ⟨by omega, by omega⟩) (fun c5 => ?_) (fun c5 => ?_)
        · refine Z_go (f2 := (43, [(0, .int (Zi c))], [.int (Zi 1)])) (fun _ => rfl) ?_
          refine Z_go (f2 := (47, [(0, .int (Zi c))], [.int (Zi 1)])) (fun _ => rfl) ?_
          refine Z_iret rfl rfl (by first | rfl | decide | exact narrow_b01 (by omega)) ⟨rfl, rfl, ?_⟩
          try dsimp only
          exact ⟨1, rfl, .inl ⟨rfl, by omega⟩⟩
        · refine Z_go (f2 := (37, [(0, .int (Zi c))], [.int (Zi c)])) (fun _ => rfl) ?_
          refine Z_go (f2 := (39, [(0, .int (Zi c))], [.int (Zi 95), .int (Zi c)])) (fun _ => rfl) ?_
          refine Z_cne rfl rfl (by first | exact hs.zF _ _ | exact Zor_r _ _ | exact hs.zA _ _ | assumption | exact zA _ _ | exact zS _ | exact Zr_not (hs.zA _ _) | exact hs.1.1 _ _ | exact ⟨by omega, by omega⟩) (by first | exact hs.zF _ _ | exact Zor_r _ _ | exact hs.zA _ _ | assumption | exact zA _ _ | exact zS _ | exact Zr_not (hs.zA _ _) | exact hs.1.1 _ _ | exact ⟨by omega, by omega⟩) (fun c6 => ?_) (fun c6 => ?_)
          · refine Z_go (f2 := (47, [(0, .int (Zi c))], [.int (Zi 0)])) (fun _ => rfl) ?_
            refine Z_iret rfl rfl (by first | rfl | decide | exact narrow_b01 (by omega)) ⟨rfl, rfl, ?_⟩
            try dsimp only
            exact ⟨0, rfl, .inr ⟨rfl, by omega⟩⟩
          · refine Z_go (f2 := (43, [(0, .int (Zi c))], [.int (Zi 1)])) (fun _ => rfl) ?_
            refine Z_go (f2 := (47, [(0, .int (Zi c))], [.int (Zi 1)])) (fun _ => rfl) ?_
            refine Z_iret rfl rfl (by first | rfl | decide | exact narrow_b01 (by omega)) ⟨rfl, rfl, ?_⟩
            try dsimp only
            exact ⟨1, rfl, .inl ⟨rfl, by omega⟩⟩
    · refine Z_go (f2 := (19, [(0, .int (Zi c))], [.int (Zi c)])) (fun _ => rfl) ?_
      refine Z_go (f2 := (21, [(0, .int (Zi c))], [.int (Zi 90), .int (Zi c)])) (fun _ => rfl) ?_
      refine Z_cle rfl rfl (by first | exact hs.zF _ _ | exact Zor_r _ _ | exact hs.zA _ _ | assumption | exact zA _ _ | exact zS _ | exact Zr_not (hs.zA _ _) | exact hs.1.1 _ _ | exact ⟨by omega, by omega⟩) (by first | exact hs.zF _ _ | exact Zor_r _ _ | exact hs.zA _ _ | assumption | exact zA _ _ | exact zS _ | exact Zr_not (hs.zA _ _) | exact hs.1.1 _ _ | exact ⟨by omega, by omega⟩) (fun c7 => ?_) (fun c7 => ?_)
      · refine Z_go (f2 := (43, [(0, .int (Zi c))], [.int (Zi 1)])) (fun _ => rfl) ?_
        refine Z_go (f2 := (47, [(0, .int (Zi c))], [.int (Zi 1)])) (fun _ => rfl) ?_
        refine Z_iret rfl rfl (by first | rfl | decide | exact narrow_b01 (by omega)) ⟨rfl, rfl, ?_⟩
        try dsimp only
        exact ⟨1, rfl, .inl ⟨rfl, by omega⟩⟩
      · refine Z_go (f2 := (25, [(0, .int (Zi c))], [.int (Zi c)])) (fun _ => rfl) ?_
        refine Z_go (f2 := (27, [(0, .int (Zi c))], [.int (Zi 48), .int (Zi c)])) (fun _ => rfl) ?_
        refine Z_clt rfl rfl (by first | exact hs.zF _ _ | exact Zor_r _ _ | exact hs.zA _ _ | assumption | exact zA _ _ | exact zS _ | exact Zr_not (hs.zA _ _) | exact hs.1.1 _ _ | exact ⟨by omega, by omega⟩) (by first | exact hs.zF _ _ | exact Zor_r _ _ | exact hs.zA _ _ | assumption | exact zA _ _ | exact zS _ | exact Zr_not (hs.zA _ _) | exact hs.1.1 _ _ | exact ⟨by omega, by omega⟩) (fun c8 => ?_) (fun c8 => ?_)
        · refine Z_go (f2 := (37, [(0, .int (Zi c))], [.int (Zi c)])) (fun _ => rfl) ?_
          refine Z_go (f2 := (39, [(0, .int (Zi c))], [.int (Zi 95), .int (Zi c)])) (fun _ => rfl) ?_
          refine Z_cne rfl rfl (by first | exact hs.zF _ _ | exact Zor_r _ _ | exact hs.zA _ _ | assumption | exact zA _ _ | exact zS _ | exact Zr_not (hs.zA _ _) | exact hs.1.1 _ _ | exact ⟨by omega, by omega⟩) (by first | exact hs.zF _ _ | exact Zor_r _ _ | exact hs.zA _ _ | assumption | exact zA _ _ | exact zS _ | exact Zr_not (hs.zA _ _) | exact hs.1.1 _ _ | exact ⟨by omega, by omega⟩) (fun c9 => ?_) (fun c9 => ?_)
          · refine Z_go (f2 := (47, [(0, .int (Zi c))], [.int (Zi 0)])) (fun _ => rfl) ?_
            refine Z_iret rfl rfl (by first | rfl | decide | exact narrow_b01 (by omega)) ⟨rfl, rfl, ?_⟩
            try dsimp only
            exact ⟨0, rfl, .inr ⟨rfl, by omega⟩⟩
          · refine Z_go (f2 := (43, [(0, .int (Zi c))], [.int (Zi 1)])) (fun _ => rfl) ?_
            refine Z_go (f2 := (47, [(0, .int (Zi c))], [.int (Zi 1)])) (fun _ => rfl) ?_
            refine Z_iret rfl rfl (by first | rfl | decide | exact narrow_b01 (by omega)) ⟨rfl, rfl, ?_⟩
            try dsimp only
            exact ⟨1, rfl, .inl ⟨rfl, by omega⟩⟩
        · refine Z_go (f2 := (31, [(0, .int (Zi c))], [.int (Zi c)])) (fun _ => rfl) ?_
          refine Z_go (f2 := (33, [(0, .int (Zi c))], [.int (Zi 57), .int (Zi c)])) (fun _ => rfl) ?_
          refine Z_cle rfl rfl (by first | exact hs.zF _ _ | exact Zor_r _ _ | exact hs.zA _ _ | assumption | exact zA _ _ | exact zS _ | exact Zr_not (hs.zA _ _) | exact hs.1.1 _ _ | exact ⟨by omega, by omega⟩) (by first | exact hs.zF _ _ | exact Zor_r _ _ | exact hs.zA _ _ | assumption | exact zA _ _ | exact zS _ | exact Zr_not (hs.zA _ _) | exact hs.1.1 _ _ | exact ⟨by omega, by omega⟩) (fun c10 => ?_) (fun c10 => ?_)
          · refine Z_go (f2 := (43, [(0, .int (Zi c))], [.int (Zi 1)])) (fun _ => rfl) ?_
            refine Z_go (f2 := (47, [(0, .int (Zi c))], [.int (Zi 1)])) (fun _ => rfl) ?_
            refine Z_iret rfl rfl (by first | rfl | decide | exact narrow_b01 (by omega)) ⟨rfl, rfl, ?_⟩
            try dsimp only
            exact ⟨1, rfl, .inl ⟨rfl, by omega⟩⟩
          · refine Z_go (f2 := (37, [(0, .int (Zi c))], [.int (Zi c)])) (fun _ => rfl) ?_
            refine Z_go (f2 := (39, [(0, .int (Zi c))], [.int (Zi 95), .int (Zi c)])) (fun _ => rfl) ?_
            refine Z_cne rfl rfl (by first | exact hs.zF _ _ | exact Zor_r _ _ | exact hs.zA _ _ | assumption | exact zA _ _ | exact zS _ | exact Zr_not (hs.zA _ _) | exact hs.1.1 _ _ | exact ⟨by omega, by omega⟩) (by first | exact hs.zF _ _ | exact Zor_r _ _ | exact hs.zA _ _ | assumption | exact zA _ _ | exact zS _ | exact Zr_not (hs.zA _ _) | exact hs.1.1 _ _ | exact ⟨by omega, by omega⟩) (fun c11 => ?_) (fun c11 => ?_)
            · refine Z_go (f2 := (47, [(0, .int (Zi c))], [.int (Zi 0)])) (fun _ => rfl) ?_
              refine Z_iret rfl rfl (by first | rfl | decide | exact narrow_b01 (by omega)) ⟨rfl, rfl, ?_⟩
              try dsimp only
              exact ⟨0, rfl, .inr ⟨rfl, by omega⟩⟩
            · refine Z_go (f2 := (43, [(0, .int (Zi c))], [.int (Zi 1)])) (fun _ => rfl) ?_
              refine Z_go (f2 := (47, [(0, .int (Zi c))], [.int (Zi 1)])) (fun _ => rfl) ?_
              refine Z_iret rfl rfl (by first | rfl | decide | exact narrow_b01 (by omega)) ⟨rfl, rfl, ?_⟩
              try dsimp only
              exact ⟨1, rfl, .inl ⟨rfl, by omega⟩⟩
  · refine Z_go (f2 := (7, [(0, .int (Zi c))], [.int (Zi c)])) (fun _ => rfl) ?_
    refine Z_go (f2 := (9, [(0, .int (Zi c))], [.int (Zi 122), .int (Zi c)])) (fun _ => rfl) ?_
    refine Z_cle rfl rfl (by first | exact hs.zF _ _ | exact Zor_r _ _ | exact hs.zA _ _ | assumption | exact zA _ _ | exact zS _ | exact Zr_not (hs.zA _ _) | exact hs.1.1 _ _ | exact ⟨by omega, by omega⟩) (by first | exact hs.zF _ _ | exact Zor_r _ _ | exact hs.zA _ _ | assumption | exact zA _ _ | exact zS _ | exact Zr_not (hs.zA _ _) | exact hs.1.1 _ _ | exact ⟨by omega, by omega⟩) (fun c12 => ?_) (fun c12 => ?_)
    · refine Z_go (f2 := (43, [(0, .int (Zi c))], [.int (Zi 1)])) (fun _ => rfl) ?_
      refine Z_go (f2 := (47, [(0, .int (Zi c))], [.int (Zi 1)])) (fun _ => rfl) ?_
      refine Z_iret rfl rfl (by first | rfl | decide | exact narrow_b01 (by omega)) ⟨rfl, rfl, ?_⟩
      try dsimp only
      exact ⟨1, rfl, .inl ⟨rfl, by omega⟩⟩
    · refine Z_go (f2 := (13, [(0, .int (Zi c))], [.int (Zi c)])) (fun _ => rfl) ?_
      refine Z_go (f2 := (15, [(0, .int (Zi c))], [.int (Zi 65), .int (Zi c)])) (fun _ => rfl) ?_
      refine Z_clt rfl rfl (by first | exact hs.zF _ _ | exact Zor_r _ _ | exact hs.zA _ _ | assumption | exact zA _ _ | exact zS _ | exact Zr_not (hs.zA _ _) | exact hs.1.1 _ _ | exact ⟨by omega, by omega⟩) (by first | exact hs.zF _ _ | exact Zor_r _ _ | exact hs.zA _ _ | assumption | exact zA _ _ | exact zS _ | exact Zr_not (hs.zA _ _) | exact hs.1.1 _ _ | exact ⟨by omega, by omega⟩) (fun c13 => ?_) (fun c13 => ?_)
      · refine Z_go (f2 := (25, [(0, .int (Zi c))], [.int (Zi c)])) (fun _ => rfl) ?_
        refine Z_go (f2 := (27, [(0, .int (Zi c))], [.int (Zi 48), .int (Zi c)])) (fun _ => rfl) ?_
        refine Z_clt rfl rfl (by first | exact hs.zF _ _ | exact Zor_r _ _ | exact hs.zA _ _ | assumption | exact zA _ _ | exact zS _ | exact Zr_not (hs.zA _ _) | exact hs.1.1 _ _ | exact ⟨by omega, by omega⟩) (by first | exact hs.zF _ _ | exact Zor_r _ _ | exact hs.zA _ _ | assumption | exact zA _ _ | exact zS _ | exact Zr_not (hs.zA _ _) | exact hs.1.1 _ _ | exact ⟨by omega, by omega⟩) (fun c14 => ?_) (fun c14 => ?_)
        · refine Z_go (f2 := (37, [(0, .int (Zi c))], [.int (Zi c)])) (fun _ => rfl) ?_
          refine Z_go (f2 := (39, [(0, .int (Zi c))], [.int (Zi 95), .int (Zi c)])) (fun _ => rfl) ?_
          refine Z_cne rfl rfl (by first | exact hs.zF _ _ | exact Zor_r _ _ | exact hs.zA _ _ | assumption | exact zA _ _ | exact zS _ | exact Zr_not (hs.zA _ _) | exact hs.1.1 _ _ | exact ⟨by omega, by omega⟩) (by first | exact hs.zF _ _ | exact Zor_r _ _ | exact hs.zA _ _ | assumption | exact zA _ _ | exact zS _ | exact Zr_not (hs.zA _ _) | exact hs.1.1 _ _ | exact ⟨by omega, by omega⟩) (fun c15 => ?_) (fun c15 => ?_)
          · refine Z_go (f2 := (47, [(0, .int (Zi c))], [.int (Zi 0)])) (fun _ => rfl) ?_
            refine Z_iret rfl rfl (by first | rfl | decide | exact narrow_b01 (by omega)) ⟨rfl, rfl, ?_⟩
            try dsimp only
            exact ⟨0, rfl, .inr ⟨rfl, by omega⟩⟩
          · refine Z_go (f2 := (43, [(0, .int (Zi c))], [.int (Zi 1)])) (fun _ => rfl) ?_
            refine Z_go (f2 := (47, [(0, .int (Zi c))], [.int (Zi 1)])) (fun _ => rfl) ?_
            refine Z_iret rfl rfl (by first | rfl | decide | exact narrow_b01 (by omega)) ⟨rfl, rfl, ?_⟩
            try dsimp only
            exact ⟨1, rfl, .inl ⟨rfl, by omega⟩⟩
        · refine Z_go (f2 := (31, [(0, .int (Zi c))], [.int (Zi c)])) (fun _ => rfl) ?_
          refine Z_go (f2 := (33, [(0, .int (Zi c))], [.int (Zi 57), .int (Zi c)])) (fun _ => rfl) ?_
          refine Z_cle rfl rfl (by first | exact hs.zF _ _ | exact Zor_r _ _ | exact hs.zA _ _ | assumption | exact zA _ _ | exact zS _ | exact Zr_not (hs.zA _ _) | exact hs.1.1 _ _ | exact ⟨by omega, by omega⟩) (by first | exact hs.zF _ _ | exact Zor_r _ _ | exact hs.zA _ _ | assumption | exact zA _ _ | exact zS _ | exact Zr_not (hs.zA _ _) | exact hs.1.1 _ _ | exact ⟨by omega, by omega⟩) (fun c16 => ?_) (fun c16 => ?_)
          · refine Z_go (f2 := (43, [(0, .int (Zi c))], [.int (Zi 1)])) (fun _ => rfl) ?_
            refine Z_go (f2 := (47, [(0, .int (Zi c))], [.int (Zi 1)])) (fun _ => rfl) ?_
            refine Z_iret rfl rfl (by first | rfl | decide | exact narrow_b01 (by omega)) ⟨rfl, rfl, ?_⟩
            try dsimp only
            exact ⟨1, rfl, .inl ⟨rfl, by omega⟩⟩
          · refine Z_go (f2 := (37, [(0, .int (Zi c))], [.int (Zi c)])) (fun _ => rfl) ?_
            refine Z_go (f2 := (39, [(0, .int (Zi c))], [.int (Zi 95), .int (Zi c)])) (fun _ => rfl) ?_
            refine Z_cne rfl rfl (by first | exact hs.zF _ _ | exact Zor_r _ _ | exact hs.zA _ _ | assumption | exact zA _ _ | exact zS _ | exact Zr_not (hs.zA _ _) | exact hs.1.1 _ _ | exact ⟨by omega, by omega⟩) (by first | exact hs.zF _ _ | exact Zor_r _ _ | exact hs.zA _ _ | assumption | exact zA _ _ | exact zS _ | exact Zr_not (hs.zA _ _) | exact hs.1.1 _ _ | exact ⟨by omega, by omega⟩) (fun c17 => ?_) (fun c17 => ?_)
            · refine Z_go (f2 := (47, [(0, .int (Zi c))], [.int (Zi 0)])) (fun _ => rfl) ?_
              refine Z_iret rfl rfl (by first | rfl | decide | exact narrow_b01 (by omega)) ⟨rfl, rfl, ?_⟩
              try dsimp only
              exact ⟨0, rfl, .inr ⟨rfl, by omega⟩⟩
            · refine Z_go (f2 := (43, [(0, .int (Zi c))], [.int (Zi 1)])) (fun _ => rfl) ?_
              refine Z_go (f2 := (47, [(0, .int (Zi c))], [.int (Zi 1)])) (fun _ => rfl) ?_
              refine Z_iret rfl rfl (by first | rfl | decide | exact narrow_b01 (by omega)) ⟨rfl, rfl, ?_⟩
              try dsimp only
              exact ⟨1, rfl, .inl ⟨rfl, by omega⟩⟩
      · refine Z_go (f2 := (19, [(0, .int (Zi c))], [.int (Zi c)])) (fun _ => rfl) ?_
        refine Z_go (f2 := (21, [(0, .int (Zi c))], [.int (Zi 90), .int (Zi c)])) (fun _ => rfl) ?_
        refine Z_cle rfl rfl (by first | exact hs.zF _ _ | exact Zor_r _ _ | exact hs.zA _ _ | assumption | exact zA _ _ | exact zS _ | exact Zr_not (hs.zA _ _) | exact hs.1.1 _ _ | exact ⟨by omega, by omega⟩) (by first | exact hs.zF _ _ | exact Zor_r _ _ | exact hs.zA _ _ | assumption | exact zA _ _ | exact zS _ | exact Zr_not (hs.zA _ _) | exact hs.1.1 _ _ | exact ⟨by omega, by omega⟩) (fun c18 => ?_) (fun c18 => ?_)
        · refine Z_go (f2 := (43, [(0, .int (Zi c))], [.int (Zi 1)])) (fun _ => rfl) ?_
          refine Z_go (f2 := (47, [(0, .int (Zi c))], [.int (Zi 1)])) (fun _ => rfl) ?_
          refine Z_iret rfl rfl (by first | rfl | decide | exact narrow_b01 (by omega)) ⟨rfl, rfl, ?_⟩
          try dsimp only
          exact ⟨1, rfl, .inl ⟨rfl, by omega⟩⟩
        · refine Z_go (f2 := (25, [(0, .int (Zi c))], [.int (Zi c)])) (fun _ => rfl) ?_
          refine Z_go (f2 := (27, [(0, .int (Zi c))], [.int (Zi 48), .int (Zi c)])) (fun _ => rfl) ?_
          refine Z_clt rfl rfl (by first | exact hs.zF _ _ | exact Zor_r _ _ | exact hs.zA _ _ | assumption | exact zA _ _ | exact zS _ | exact Zr_not (hs.zA _ _) | exact hs.1.1 _ _ | exact ⟨by omega, by omega⟩) (by first | exact hs.zF _ _ | exact Zor_r _ _ | exact hs.zA _ _ | assumption | exact zA _ _ | exact zS _ | exact Zr_not (hs.zA _ _) | exact hs.1.1 _ _ | exact ⟨by omega, by omega⟩) (fun c19 => ?_) (fun c19 => ?_)
          · refine Z_go (f2 := (37, [(0, .int (Zi c))], [.int (Zi c)])) (fun _ => rfl) ?_
            refine Z_go (f2 := (39, [(0, .int (Zi c))], [.int (Zi 95), .int (Zi c)])) (fun _ => rfl) ?_
            refine Z_cne rfl rfl (by first | exact hs.zF _ _ | exact Zor_r _ _ | exact hs.zA _ _ | assumption | exact zA _ _ | exact zS _ | exact Zr_not (hs.zA _ _) | exact hs.1.1 _ _ | exact ⟨by omega, by omega⟩) (by first | exact hs.zF _ _ | exact Zor_r _ _ | exact hs.zA _ _ | assumption | exact zA _ _ | exact zS _ | exact Zr_not (hs.zA _ _) | exact hs.1.1 _ _ | exact ⟨by omega, by omega⟩) (fun c20 => ?_) (fun c20 => ?_)
            · refine Z_go (f2 := (47, [(0, .int (Zi c))], [.int (Zi 0)])) (fun _ => rfl) ?_
              refine Z_iret rfl rfl (by first | rfl | decide | exact narrow_b01 (by omega)) ⟨rfl, rfl, ?_⟩
              try dsimp only
              exact ⟨0, rfl, .inr ⟨rfl, by omega⟩⟩
            · refine Z_go (f2 := (43, [(0, .int (Zi c))], [.int (Zi 1)])) (fun _ => rfl) ?_
              refine Z_go (f2 := (47, [(0, .int (Zi c))], [.int (Zi 1)])) (fun _ => rfl) ?_
              refine Z_iret rfl rfl (by first | rfl | decide | exact narrow_b01 (by omega)) ⟨rfl, rfl, ?_⟩
              try dsimp only
              exact ⟨1, rfl, .inl ⟨rfl, by omega⟩⟩
          · refine Z_go (f2 := (31, [(0, .int (Zi c))], [.int (Zi c)])) (fun _ => rfl) ?_
            refine Z_go (f2 := (33, [(0, .int (Zi c))], [.int (Zi 57), .int (Zi c)])) (fun _ => rfl) ?_
            refine Z_cle rfl rfl (by first | exact hs.zF _ _ | exact Zor_r _ _ | exact hs.zA _ _ | assumption | exact zA _ _ | exact zS _ | exact Zr_not (hs.zA _ _) | exact hs.1.1 _ _ | exact ⟨by omega, by omega⟩) (by first | exact hs.zF _ _ | exact Zor_r _ _ | exact hs.zA _ _ | assumption | exact zA _ _ | exact zS _ | exact Zr_not (hs.zA _ _) | exact hs.1.1 _ _ | exact ⟨by omega, by omega⟩) (fun c21 => ?_) (fun c21 => ?_)
            · refine Z_go (f2 := (43, [(0, .int (Zi c))], [.int (Zi 1)])) (fun _ => rfl) ?_
              refine Z_go (f2 := (47, [(0, .int (Zi c))], [.int (Zi 1)])) (fun _ => rfl) ?_
              refine Z_iret rfl rfl (by first | rfl | decide | exact narrow_b01 (by omega)) ⟨rfl, rfl, ?_⟩
              try dsimp only
              exact ⟨1, rfl, .inl ⟨rfl, by omega⟩⟩
            · refine Z_go (f2 := (37, [(0, .int (Zi c))], [.int (Zi c)])) (fun _ => rfl) ?_
              refine Z_go (f2 := (39, [(0, .int (Zi c))], [.int (Zi 95), .int (Zi c)])) (fun _ => rfl) ?_
              refine Z_cne rfl rfl (by first | exact hs.zF _ _ | exact Zor_r _ _ | exact hs.zA _ _ | assumption | exact zA _ _ | exact zS _ | exact Zr_not (hs.zA _ _) | exact hs.1.1 _ _ | exact ⟨by omega, by omega⟩) (by first | exact hs.zF _ _ | exact Zor_r _ _ | exact hs.zA _ _ | assumption | exact zA _ _ | exact zS _ | exact Zr_not (hs.zA _ _) | exact hs.1.1 _ _ | exact ⟨by omega, by omega⟩) (fun c22 => ?_) (fun c22 => ?_)
              · refine Z_go (f2 := (47, [(0, .int (Zi c))], [.int (Zi 0)])) (fun _ => rfl) ?_
                refine Z_iret rfl rfl (by first | rfl | decide | exact narrow_b01 (by omega)) ⟨rfl, rfl, ?_⟩
                try dsimp only
                exact ⟨0, rfl, .inr ⟨rfl, by omega⟩⟩
              · refine Z_go (f2 := (43, [(0, .int (Zi c))], [.int (Zi 1)])) (fun _ => rfl) ?_
                refine Z_go (f2 := (47, [(0, .int (Zi c))], [.int (Zi 1)])) (fun _ => rfl) ?_
                refine Z_iret rfl rfl (by first | rfl | decide | exact narrow_b01 (by omega)) ⟨rfl, rfl, ?_⟩
                try dsimp only
                exact ⟨1, rfl, .inl ⟨rfl, by omega⟩⟩
theorem C_isSpc (d : Nat) {c : Int} (zc : Zr c) : Q_ok (d + 1) 169 [.int (Zi c)] (fun x => ∃ v : Int, x = some (.int (Zi v)) ∧ (v = 1 ∧ (c = 9 ∨ c = 10 ∨ c = 32) ∨ v = 0 ∧ ¬ (c = 9 ∨ c = 10 ∨ c = 32))) := by
  refine Q_enter (M := E_m169) rfl (Nat.le_of_ble_eq_true rfl) (fun h => ?_)
  show B_R d _ (0, [(0, .int (Zi c))], []) _ _ _
  refine Z_go (f2 := (1, [(0, .int (Zi c))], [.int (Zi c)])) (fun _ => rfl) ?_
  refine Z_go (f2 := (3, [(0, .int (Zi c))], [.int (Zi 9), .int (Zi c)])) (fun _ => rfl) ?_
  refine Z_ceq rfl rfl (by first | exact hs.zF _ _ | exact Zor_r _ _ | exact hs.zA _ _ | assumption | exact zA _ _ | exact zS _ | exact Zr_not (hs.zA _ _) | exact hs.1.1 _ _ | exact ⟨by omega, by omega⟩) (by first | exact hs.zF _ _ | exact Zor_r _ _ | exact hs.zA _ _ | assumption | exact zA _ _ | exact zS _ | exact Zr_not (hs.zA _ _) | exact hs.1.1 _ _ | exact ⟨by omega, by omega⟩) (fun c1 => ?_) (fun c1 => ?_)
  · refine Z_go (f2 := (19, [(0, .int (Zi c))], [.int (Zi 1)])) (fun _ => rfl) ?_
    refine Z_go (f2 := (23, [(0, .int (Zi c))], [.int (Zi 1)])) (fun _ => rfl) ?_
    refine Z_iret rfl rfl (by first | rfl | decide | exact narrow_b01 (by omega)) ⟨rfl, rfl, ?_⟩
    try dsimp only
    exact ⟨1, rfl, .inl ⟨rfl, by omega⟩⟩
  · refine Z_go (f2 := (7, [(0, .int (Zi c))], [.int (Zi c)])) (fun _ => rfl) ?_
    refine Z_go (f2 := (9, [(0, .int (Zi c))], [.int (Zi 10), .int (Zi c)])) (fun _ => rfl) ?_
    refine Z_ceq rfl rfl (by first | exact hs.zF _ _ | exact Zor_r _ _ | exact hs.zA _ _ | assumption | exact zA _ _ | exact zS _ | exact Zr_not (hs.zA _ _) | exact hs.1.1 _ _ | exact ⟨by omega, by omega⟩) (by first | exact hs.zF _ _ | exact Zor_r _ _ | exact hs.zA _ _ | assumption | exact zA _ _ | exact zS _ | exact Zr_not (hs.zA _ _) | exact hs.1.1 _ _ | exact ⟨by omega, by omega⟩) (fun c2 => ?_) (fun c2 => ?_)
    · refine Z_go (f2 := (19, [(0, .int (Zi c))], [.int (Zi 1)])) (fun _ => rfl) ?_
      refine Z_go (f2 := (23, [(0, .int (Zi c))], [.int (Zi 1)])) (fun _ => rfl) ?_
      refine Z_iret rfl rfl (by first | rfl | decide | exact narrow_b01 (by omega)) ⟨rfl, rfl, ?_⟩
      try dsimp only
      exact ⟨1, rfl, .inl ⟨rfl, by omega⟩⟩
    · refine Z_go (f2 := (13, [(0, .int (Zi c))], [.int (Zi c)])) (fun _ => rfl) ?_
      refine Z_go (f2 := (15, [(0, .int (Zi c))], [.int (Zi 32), .int (Zi c)])) (fun _ => rfl) ?_
      refine Z_cne rfl rfl (by first | exact hs.zF _ _ | exact Zor_r _ _ | exact hs.zA _ _ | assumption | exact zA _ _ | exact zS _ | exact Zr_not (hs.zA _ _) | exact hs.1.1 _ _ | exact ⟨by omega, by omega⟩) (by first | exact hs.zF _ _ | exact Zor_r _ _ | exact hs.zA _ _ | assumption | exact zA _ _ | exact zS _ | exact Zr_not (hs.zA _ _) | exact hs.1.1 _ _ | exact ⟨by omega, by omega⟩) (fun c3 => ?_) (fun c3 => ?_)
      · refine Z_go (f2 := (23, [(0, .int (Zi c))], [.int (Zi 0)])) (fun _ => rfl) ?_
        refine Z_iret rfl rfl (by first | rfl | decide | exact narrow_b01 (by omega)) ⟨rfl, rfl, ?_⟩
        try dsimp only
        exact ⟨0, rfl, .inr ⟨rfl, by omega⟩⟩
      · refine Z_go (f2 := (19, [(0, .int (Zi c))], [.int (Zi 1)])) (fun _ => rfl) ?_
        refine Z_go (f2 := (23, [(0, .int (Zi c))], [.int (Zi 1)])) (fun _ => rfl) ?_
        refine Z_iret rfl rfl (by first | rfl | decide | exact narrow_b01 (by omega)) ⟨rfl, rfl, ?_⟩
        try dsimp only
        exact ⟨1, rfl, .inl ⟨rfl, by omega⟩⟩
theorem C_isNam (d : Nat) {c : Int} (zc : Zr c) : Q_ok (d + 1) 46 [.int (Zi c)] (fun x => ∃ v : Int, x = some (.int (Zi v)) ∧ (v = 1 ∧ P_nm c ∨ v = 0 ∧ ¬ P_nm c)) := by
  refine Q_enter (M := E_m46) rfl (Nat.le_of_ble_eq_true rfl) (fun h => ?_)
  show B_R d _ (0, [(0, .int (Zi c))], []) _ _ _
  refine Z_go (f2 := (1, [(0, .int (Zi c))], [.int (Zi c)])) (fun _ => rfl) ?_
  refine Z_go (f2 := (3, [(0, .int (Zi c))], [.int (Zi 100), .int (Zi c)])) (fun _ => rfl) ?_
  refine Z_ceq rfl rfl (by first | exact hs.zF _ _ | exact Zor_r _ _ | exact hs.zA _ _ | assumption | exact zA _ _ | exact zS _ | exact Zr_not (hs.zA _ _) | exact hs.1.1 _ _ | exact ⟨by omega, by omega⟩) (by first | exact hs.zF _ _ | exact Zor_r _ _ | exact hs.zA _ _ | assumption | exact zA _ _ | exact zS _ | exact Zr_not (hs.zA _ _) | exact hs.1.1 _ _ | exact ⟨by omega, by omega⟩) (fun c1 => ?_) (fun c1 => ?_)
  · refine Z_go (f2 := (19, [(0, .int (Zi c))], [.int (Zi 1)])) (fun _ => rfl) ?_
    refine Z_go (f2 := (23, [(0, .int (Zi c))], [.int (Zi 1)])) (fun _ => rfl) ?_
    refine Z_iret rfl rfl (by first | rfl | decide | exact narrow_b01 (by omega)) ⟨rfl, rfl, ?_⟩
    try dsimp only
    exact ⟨1, rfl, .inl ⟨rfl, by omega⟩⟩
  · refine Z_go (f2 := (7, [(0, .int (Zi c))], [.int (Zi c)])) (fun _ => rfl) ?_
    refine Z_go (f2 := (9, [(0, .int (Zi c))], [.int (Zi 119), .int (Zi c)])) (fun _ => rfl) ?_
    refine Z_ceq rfl rfl (by first | exact hs.zF _ _ | exact Zor_r _ _ | exact hs.zA _ _ | assumption | exact zA _ _ | exact zS _ | exact Zr_not (hs.zA _ _) | exact hs.1.1 _ _ | exact ⟨by omega, by omega⟩) (by first | exact hs.zF _ _ | exact Zor_r _ _ | exact hs.zA _ _ | assumption | exact zA _ _ | exact zS _ | exact Zr_not (hs.zA _ _) | exact hs.1.1 _ _ | exact ⟨by omega, by omega⟩) (fun c2 => ?_) (fun c2 => ?_)
    · refine Z_go (f2 := (19, [(0, .int (Zi c))], [.int (Zi 1)])) (fun _ => rfl) ?_
      refine Z_go (f2 := (23, [(0, .int (Zi c))], [.int (Zi 1)])) (fun _ => rfl) ?_
      refine Z_iret rfl rfl (by first | rfl | decide | exact narrow_b01 (by omega)) ⟨rfl, rfl, ?_⟩
      try dsimp only
      exact ⟨1, rfl, .inl ⟨rfl, by omega⟩⟩
    · refine Z_go (f2 := (13, [(0, .int (Zi c))], [.int (Zi c)])) (fun _ => rfl) ?_
      refine Z_go (f2 := (15, [(0, .int (Zi c))], [.int (Zi 115), .int (Zi c)])) (fun _ => rfl) ?_
      refine Z_cne rfl rfl (by first | exact hs.zF _ _ | exact Zor_r _ _ | exact hs.zA _ _ | assumption | exact zA _ _ | exact zS _ | exact Zr_not (hs.zA _ _) | exact hs.1.1 _ _ | exact ⟨by omega, by omega⟩) (by first | exact hs.zF _ _ | exact Zor_r _ _ | exact hs.zA _ _ | assumption | exact zA _ _ | exact zS _ | exact Zr_not (hs.zA _ _) | exact hs.1.1 _ _ | exact ⟨by omega, by omega⟩) (fun c3 => ?_) (fun c3 => ?_)
      · refine Z_go (f2 := (23, [(0, .int (Zi c))], [.int (Zi 0)])) (fun _ => rfl) ?_
        refine Z_iret rfl rfl (by first | rfl | decide | exact narrow_b01 (by omega)) ⟨rfl, rfl, ?_⟩
        try dsimp only
        exact ⟨0, rfl, .inr ⟨rfl, by omega⟩⟩
      · refine Z_go (f2 := (19, [(0, .int (Zi c))], [.int (Zi 1)])) (fun _ => rfl) ?_
        refine Z_go (f2 := (23, [(0, .int (Zi c))], [.int (Zi 1)])) (fun _ => rfl) ?_
        refine Z_iret rfl rfl (by first | rfl | decide | exact narrow_b01 (by omega)) ⟨rfl, rfl, ?_⟩
        try dsimp only
        exact ⟨1, rfl, .inl ⟨rfl, by omega⟩⟩
def D_escd (c : Int) : Int := if c = 110 then 10 else if c = 116 then 9 else if D_sgn c then c else -1
theorem C_escd (d : Nat) {c : Int} (zc : Zr c) : Q_ok (d + 2) 47 [.int (Zi c)] (fun x => x = some (.int (Zi (D_escd c)))) := by
  refine Q_enter (M := E_m47) rfl (Nat.le_of_ble_eq_true rfl) (fun h => ?_)
  show B_R (d + 1) _ (0, [(0, .int (Zi c))], []) _ _ _
  refine Z_go (f2 := (1, [(0, .int (Zi c))], [.int (Zi c)])) (fun _ => rfl) ?_
  refine Z_go (f2 := (3, [(0, .int (Zi c))], [.int (Zi 110), .int (Zi c)])) (fun _ => rfl) ?_
  refine Z_cne rfl rfl (by first | exact hs.zF _ _ | exact Zor_r _ _ | exact hs.zA _ _ | assumption | exact zA _ _ | exact zS _ | exact Zr_not (hs.zA _ _) | exact hs.1.1 _ _ | exact ⟨by omega, by omega⟩) (by first | exact hs.zF _ _ | exact Zor_r _ _ | exact hs.zA _ _ | assumption | exact zA _ _ | exact zS _ | exact Zr_not (hs.zA _ _) | exact hs.1.1 _ _ | exact ⟨by omega, by omega⟩) (fun c1 => ?_) (fun c1 => ?_)
  · refine Z_go (f2 := (10, [(0, .int (Zi c))], [.int (Zi c)])) (fun _ => rfl) ?_
    refine Z_go (f2 := (12, [(0, .int (Zi c))], [.int (Zi 116), .int (Zi c)])) (fun _ => rfl) ?_
    refine Z_cne rfl rfl (by first | exact hs.zF _ _ | exact Zor_r _ _ | exact hs.zA _ _ | assumption | exact zA _ _ | exact zS _ | exact Zr_not (hs.zA _ _) | exact hs.1.1 _ _ | exact ⟨by omega, by omega⟩) (by first | exact hs.zF _ _ | exact Zor_r _ _ | exact hs.zA _ _ | assumption | exact zA _ _ | exact zS _ | exact Zr_not (hs.zA _ _) | exact hs.1.1 _ _ | exact ⟨by omega, by omega⟩) (fun c2 => ?_) (fun c2 => ?_)
    · refine Z_go (f2 := (19, [(0, .int (Zi c))], [.int (Zi c)])) (fun _ => rfl) ?_
      refine Z_go (f2 := (21, [(0, .int (Zi c))], [.int (Zi 32), .int (Zi c)])) (fun _ => rfl) ?_
      refine Z_clt rfl rfl (by first | exact hs.zF _ _ | exact Zor_r _ _ | exact hs.zA _ _ | assumption | exact zA _ _ | exact zS _ | exact Zr_not (hs.zA _ _) | exact hs.1.1 _ _ | exact ⟨by omega, by omega⟩) (by first | exact hs.zF _ _ | exact Zor_r _ _ | exact hs.zA _ _ | assumption | exact zA _ _ | exact zS _ | exact Zr_not (hs.zA _ _) | exact hs.1.1 _ _ | exact ⟨by omega, by omega⟩) (fun c3 => ?_) (fun c3 => ?_)
      · refine Z_go (f2 := (49, [(0, .int (Zi c))], [.int (Zi (-1))])) (fun _ => rfl) ?_
        refine Z_iret rfl rfl (by first | rfl | decide | exact narrow_b01 (by omega)) ⟨rfl, rfl, ?_⟩
        try dsimp only
        unfold D_escd
        rw [if_neg (by omega), if_neg (by omega), if_neg (by omega)]
      · refine Z_go (f2 := (25, [(0, .int (Zi c))], [.int (Zi c)])) (fun _ => rfl) ?_
        refine Z_go (f2 := (27, [(0, .int (Zi c))], [.int (Zi 126), .int (Zi c)])) (fun _ => rfl) ?_
        refine Z_cgt rfl rfl (by first | exact hs.zF _ _ | exact Zor_r _ _ | exact hs.zA _ _ | assumption | exact zA _ _ | exact zS _ | exact Zr_not (hs.zA _ _) | exact hs.1.1 _ _ | exact ⟨by omega, by omega⟩) (by first | exact hs.zF _ _ | exact Zor_r _ _ | exact hs.zA _ _ | assumption | exact zA _ _ | exact zS _ | exact Zr_not (hs.zA _ _) | exact hs.1.1 _ _ | exact ⟨by omega, by omega⟩) (fun c4 => ?_) (fun c4 => ?_)
        · refine Z_go (f2 := (49, [(0, .int (Zi c))], [.int (Zi (-1))])) (fun _ => rfl) ?_
          refine Z_iret rfl rfl (by first | rfl | decide | exact narrow_b01 (by omega)) ⟨rfl, rfl, ?_⟩
          try dsimp only
          unfold D_escd
          rw [if_neg (by omega), if_neg (by omega), if_neg (by omega)]
        · refine Z_go (f2 := (31, [(0, .int (Zi c))], [.int (Zi c)])) (fun _ => rfl) ?_
          refine Z_callQ (vs := [.int (Zi c)]) (rest := []) rfl (by decide) rfl rfl rfl (Nat.le_of_ble_eq_true rfl) (C_isLet _ (c := c) (by first | exact hs.zF _ _ | exact Zor_r _ _ | exact hs.zA _ _ | assumption | exact zA _ _ | exact zS _ | exact Zr_not (hs.zA _ _) | exact hs.1.1 _ _ | exact ⟨by omega, by omega⟩)) (fun x q => ?_)
          obtain ⟨lt101, rfl, hlt101⟩ := q
          have zlt101 : Zr lt101 := ⟨by omega, by omega⟩
          show B_R _ _ (34, [(0, .int (Zi c))], [.int (Zi lt101)]) _ _ _
          refine Z_ine rfl rfl (by first | exact hs.zF _ _ | exact Zor_r _ _ | exact hs.zA _ _ | assumption | exact zA _ _ | exact zS _ | exact Zr_not (hs.zA _ _) | exact hs.1.1 _ _ | exact ⟨by omega, by omega⟩) (fun c5 => ?_) (fun c5 => ?_)
          · refine Z_go (f2 := (49, [(0, .int (Zi c))], [.int (Zi (-1))])) (fun _ => rfl) ?_
            refine Z_iret rfl rfl (by first | rfl | decide | exact narrow_b01 (by omega)) ⟨rfl, rfl, ?_⟩
            try dsimp only
            unfold D_escd
            rw [if_neg (by omega), if_neg (by omega), if_neg (by omega)]
          · refine Z_go (f2 := (38, [(0, .int (Zi c))], [.int (Zi c)])) (fun _ => rfl) ?_
            refine Z_callQ (vs := [.int (Zi c)]) (rest := []) rfl (by decide) rfl rfl rfl (Nat.le_of_ble_eq_true rfl) (C_isDig _ (c := c) (by first | exact hs.zF _ _ | exact Zor_r _ _ | exact hs.zA _ _ | assumption | exact zA _ _ | exact zS _ | exact Zr_not (hs.zA _ _) | exact hs.1.1 _ _ | exact ⟨by omega, by omega⟩)) (fun x q => ?_)
            obtain ⟨dg102, rfl, hdg102⟩ := q
            have zdg102 : Zr dg102 := ⟨by omega, by omega⟩
            show B_R _ _ (41, [(0, .int (Zi c))], [.int (Zi dg102)]) _ _ _
            refine Z_ine rfl rfl (by first | exact hs.zF _ _ | exact Zor_r _ _ | exact hs.zA _ _ | assumption | exact zA _ _ | exact zS _ | exact Zr_not (hs.zA _ _) | exact hs.1.1 _ _ | exact ⟨by omega, by omega⟩) (fun c6 => ?_) (fun c6 => ?_)
            · refine Z_go (f2 := (49, [(0, .int (Zi c))], [.int (Zi (-1))])) (fun _ => rfl) ?_
              refine Z_iret rfl rfl (by first | rfl | decide | exact narrow_b01 (by omega)) ⟨rfl, rfl, ?_⟩
              try dsimp only
              unfold D_escd
              rw [if_neg (by omega), if_neg (by omega), if_neg (by omega)]
            · refine Z_go (f2 := (45, [(0, .int (Zi c))], [.int (Zi c)])) (fun _ => rfl) ?_
              refine Z_go (f2 := (49, [(0, .int (Zi c))], [.int (Zi c)])) (fun _ => rfl) ?_
              refine Z_iret rfl rfl (by first | rfl | decide | exact narrow_b01 (by omega)) ⟨rfl, rfl, ?_⟩
              try dsimp only
              unfold D_escd
              rw [if_neg (by omega), if_neg (by omega), if_pos (by omega)]
    · refine Z_go (f2 := (17, [(0, .int (Zi c))], [.int (Zi 9)])) (fun _ => rfl) ?_
      refine Z_iret rfl rfl (by first | rfl | decide | exact narrow_b01 (by omega)) ⟨rfl, rfl, ?_⟩
      try dsimp only
      unfold D_escd
      rw [if_neg (by omega), if_pos (by omega)]
  · refine Z_go (f2 := (8, [(0, .int (Zi c))], [.int (Zi 10)])) (fun _ => rfl) ?_
    refine Z_iret rfl rfl (by first | rfl | decide | exact narrow_b01 (by omega)) ⟨rfl, rfl, ?_⟩
    try dsimp only
    unfold D_escd
    rw [if_pos (by omega)]
theorem C_rng_lp {dd : Nat} {h0 : E_H} {s : C_S} {p : List Nat} {o : Nat} {A : Nat → Nat} {m sm : Int} {τ : Nat → Int → Int} {β : Int → Int64} {c lo hi : Int} (hd00 : D_Tr s p o A m sm τ β) (c0 : -1 ≤ c) (c1 : c < 80) (l0 : -1 ≤ lo) (l1 : lo ≤ 256) (h0_ : -1 ≤ hi) (h1_ : hi < 256) : ∀ (t : Nat) (i : Int) (u : C_S) (h : E_H) (βu : Int → Int64), 256 - i < t → C_is h0 h u → D_Tr u p o A m sm τ βu → C_fr (fun t => t = p) s u → C_n u = C_n s → (∀ d j, 0 ≤ d → 0 ≤ j → j ≤ 255 → (T_has βu d j ↔ T_has β d j ∨ (d = c ∧ lo ≤ j ∧ j < i))) → (lo ≤ i ∧ i ≤ 256 ∧ (i ≤ hi + 1 ∨ i = lo)) → B_R (dd + 2) E_m139 (3, [(4, .int (Zi i)), (0, .ref o), (1, .int (Zi c)), (2, .int (Zi lo)), (3, .int (Zi hi))], []) h 0 (fun r => ∃ s2 : C_S, C_is h0 r.2.1 s2 ∧ (fun (x : Option Value) (s2 : C_S) (n : Nat) => x = none ∧ n = 0 ∧ C_fr (fun t => t = p) s s2 ∧ C_n s2 = C_n s ∧ ∃ β2, D_Tr s2 p o A m sm τ β2 ∧ ∀ d j, 0 ≤ d → 0 ≤ j → j ≤ 255 → (T_has β2 d j ↔ T_has β d j ∨ (d = c ∧ lo ≤ j ∧ j ≤ hi))) r.1 s2 r.2.2) := by
  intro t
  induction t with
  | zero => intro i u h βu ht hs hd fr en hI hc; omega
  | succ t ih =>
    intro i u h βu ht hs hd fr en hI hc
    have zi : Zr i := ⟨by omega, by omega⟩
    refine Z_go (f2 := (5, [(4, .int (Zi i)), (0, .ref o), (1, .int (Zi c)), (2, .int (Zi lo)), (3, .int (Zi hi))], [.int (Zi i)])) (fun _ => rfl) ?_
    refine Z_go (f2 := (6, [(4, .int (Zi i)), (0, .ref o), (1, .int (Zi c)), (2, .int (Zi lo)), (3, .int (Zi hi))], [.int (Zi hi), .int (Zi i)])) (fun _ => rfl) ?_
    refine Z_cgt rfl rfl (by first | exact hs.zF _ _ | exact Zor_r _ _ | exact hs.zA _ _ | assumption | exact zA _ _ | exact zS _ | exact Zr_not (hs.zA _ _) | exact hs.1.1 _ _ | exact ⟨by omega, by omega⟩) (by first | exact hs.zF _ _ | exact Zor_r _ _ | exact hs.zA _ _ | assumption | exact zA _ _ | exact zS _ | exact Zr_not (hs.zA _ _) | exact hs.1.1 _ _ | exact ⟨by omega, by omega⟩) (fun c1 => ?_) (fun c1 => ?_)
    · refine Z_ret rfl rfl ⟨_, hs, ?_⟩
      try dsimp only
      exact ⟨rfl, rfl, fr, en, βu, hd, fun d j d0 j0 j1 => (hI d j d0 j0 j1).trans ⟨fun h => h.imp id (fun h => ⟨h.1, h.2.1, by omega⟩), fun h => h.imp id (fun h => ⟨h.1, h.2.1, by omega⟩)⟩⟩
    · refine Z_go (f2 := (11, [(4, .int (Zi i)), (0, .ref o), (1, .int (Zi c)), (2, .int (Zi lo)), (3, .int (Zi hi))], [.int (Zi i)])) (fun _ => rfl) ?_
      refine Z_go (f2 := (14, [(4, .int (Zi i)), (0, .ref o), (1, .int (Zi c)), (2, .int (Zi lo)), (3, .int (Zi hi))], [.int (Zi 256), .int (Zi i)])) (fun _ => rfl) ?_
      refine Z_cge rfl rfl (by first | exact hs.zF _ _ | exact Zor_r _ _ | exact hs.zA _ _ | assumption | exact zA _ _ | exact zS _ | exact Zr_not (hs.zA _ _) | exact hs.1.1 _ _ | exact ⟨by omega, by omega⟩) (by first | exact hs.zF _ _ | exact Zor_r _ _ | exact hs.zA _ _ | assumption | exact zA _ _ | exact zS _ | exact Zr_not (hs.zA _ _) | exact hs.1.1 _ _ | exact ⟨by omega, by omega⟩) (fun c2 => ?_) (fun c2 => ?_)
      · refine Z_ret rfl rfl ⟨_, hs, ?_⟩
        try dsimp only
        exact ⟨rfl, rfl, fr, en, βu, hd, fun d j d0 j0 j1 => (hI d j d0 j0 j1).trans ⟨fun h => h.imp id (fun h => ⟨h.1, h.2.1, by omega⟩), fun h => h.imp id (fun h => ⟨h.1, h.2.1, by omega⟩)⟩⟩
      · refine Z_go (f2 := (18, [(4, .int (Zi i)), (0, .ref o), (1, .int (Zi c)), (2, .int (Zi lo)), (3, .int (Zi hi))], [.ref o])) (fun _ => rfl) ?_
        refine Z_go (f2 := (19, [(4, .int (Zi i)), (0, .ref o), (1, .int (Zi c)), (2, .int (Zi lo)), (3, .int (Zi hi))], [.int (Zi c), .ref o])) (fun _ => rfl) ?_
        refine Z_go (f2 := (21, [(4, .int (Zi i)), (0, .ref o), (1, .int (Zi c)), (2, .int (Zi lo)), (3, .int (Zi hi))], [.int (Zi i), .int (Zi c), .ref o])) (fun _ => rfl) ?_
        refine C_callV (As := [.int (Zi c), .int (Zi i)]) (rest := []) rfl (by decide) rfl (by decide) rfl rfl (by decide +kernel) (Nat.le_of_ble_eq_true rfl) hs (hd).1.1 (C_incl _ hd (c := c) (k := i) (by first | exact hs.zF _ _ | exact Zor_r _ _ | exact hs.zA _ _ | assumption | exact zA _ _ | exact zS _ | exact Zr_not (hs.zA _ _) | exact hs.1.1 _ _ | exact ⟨by omega, by omega⟩) (by omega) (by omega)) (fun x h v103 n103 hs q => ?_)
        obtain ⟨rfl, rfl, fr103, en103, β103, hd103, hb103⟩ := q
        show B_R _ _ (24, [(4, .int (Zi i)), (0, .ref o), (1, .int (Zi c)), (2, .int (Zi lo)), (3, .int (Zi hi))], []) _ _ _
        refine Z_iinc (L2 := [(4, .int (Zi (i + 1))), (0, .ref o), (1, .int (Zi c)), (2, .int (Zi lo)), (3, .int (Zi hi))]) rfl rfl (by decide) rfl ?_
        refine Z_go (f2 := (3, [(4, .int (Zi (i + 1))), (0, .ref o), (1, .int (Zi c)), (2, .int (Zi lo)), (3, .int (Zi hi))], [])) (fun _ => rfl) ?_
        refine B_loc (K := [(4, .int (Zi (i + 1))), (0, .ref o), (1, .int (Zi c)), (2, .int (Zi lo)), (3, .int (Zi hi))]) (N_all_sub ⟨rfl, rfl, rfl, rfl, rfl, trivial⟩) (show ([4, 0, 1, 2, 3] : List Nat).Nodup by decide) ?_
        refine ih (i + 1) v103 h β103 (by omega) hs hd103 (fr.tr fr103) (by rw [en103, en]) (fun d j d0 j0 j1 => ?_) (by omega)
        rw [hb103, hI d j d0 j0 j1]
        constructor
        · rintro ((h | h) | h)
          · exact .inl h
          · exact .inr (by omega)
          · exact .inr (by omega)
        · rintro (h | h)
          · exact .inl (.inl h)
          · by_cases e : j = i
            · exact .inr (by omega)
            · exact .inl (.inr (by omega))
theorem C_rng (d : Nat) {s : C_S} {p : List Nat} {o : Nat} {A : Nat → Nat} {m sm : Int} {τ : Nat → Int → Int} {β : Int → Int64} {c lo hi : Int} (hd : D_Tr s p o A m sm τ β) (c0 : -1 ≤ c) (c1 : c < 80) (l0 : -1 ≤ lo) (l1 : lo ≤ 256) (h0_ : -1 ≤ hi) (h1_ : hi < 256) : C_ok (d + 3) 139 [.ref o, .int (Zi c), .int (Zi lo), .int (Zi hi)] s (fun x s2 n => x = none ∧ n = 0 ∧ C_fr (fun t => t = p) s s2 ∧ C_n s2 = C_n s ∧ ∃ β2, D_Tr s2 p o A m sm τ β2 ∧ ∀ d j, 0 ≤ d → 0 ≤ j → j ≤ 255 → (T_has β2 d j ↔ T_has β d j ∨ (d = c ∧ lo ≤ j ∧ j ≤ hi))) := by
  refine C_enter (M := E_m139) rfl (Nat.le_of_ble_eq_true rfl) (fun h0 h hs => ?_)
  show B_R (d + 2) _ (0, [(0, .ref o), (1, .int (Zi c)), (2, .int (Zi lo)), (3, .int (Zi hi))], []) _ _ _
  have hd0 := hd
  refine Z_go (f2 := (1, [(0, .ref o), (1, .int (Zi c)), (2, .int (Zi lo)), (3, .int (Zi hi))], [.int (Zi lo)])) (fun _ => rfl) ?_
  refine Z_go (f2 := (3, [(4, .int (Zi lo)), (0, .ref o), (1, .int (Zi c)), (2, .int (Zi lo)), (3, .int (Zi hi))], [])) (fun _ => rfl) ?_
  refine B_loc (K := [(4, .int (Zi lo)), (0, .ref o), (1, .int (Zi c)), (2, .int (Zi lo)), (3, .int (Zi hi))]) (N_all_sub ⟨rfl, rfl, rfl, rfl, rfl, trivial⟩) (show ([4, 0, 1, 2, 3] : List Nat).Nodup by decide) ?_
  exact C_rng_lp hd0 c0 c1 l0 l1 h0_ h1_ (258) lo s h β (by omega) hs hd (C_fr.refl _ _) rfl (fun d j d0 j0 j1 => ⟨.inl, fun h => h.elim id (fun h => by omega)⟩) (by omega)
theorem C_named_lp {dd : Nat} {h0 : E_H} {s : C_S} {p : List Nat} {o : Nat} {A : Nat → Nat} {m sm : Int} {τ : Nat → Int → Int} {β : Int → Int64} {c nm : Int} (hd00 : D_Tr s p o A m sm τ β) (c0 : -1 ≤ c) (c1 : c < 80) (zn : P_nm nm) : ∀ (t : Nat) (i : Int) (u : C_S) (h : E_H) (βu : Int → Int64), 256 - i < t → C_is h0 h u → D_Tr u p o A m sm τ βu → C_fr (fun t => t = p) s u → C_n u = C_n s → (∀ d j, 0 ≤ d → 0 ≤ j → j ≤ 255 → (T_has βu d j ↔ T_has β d j ∨ (d = c ∧ D_kd nm j ∧ j < i))) → (0 ≤ i ∧ i ≤ 256) → B_R (dd + 2) E_m140 (2, [(3, .int (Zi i)), (0, .ref o), (1, .int (Zi c)), (2, .int (Zi nm))], []) h 0 (fun r => ∃ s2 : C_S, C_is h0 r.2.1 s2 ∧ (fun (x : Option Value) (s2 : C_S) (n : Nat) => x = none ∧ n = 0 ∧ C_fr (fun t => t = p) s s2 ∧ C_n s2 = C_n s ∧ ∃ β2, D_Tr s2 p o A m sm τ β2 ∧ ∀ d j, 0 ≤ d → 0 ≤ j → j ≤ 255 → (T_has β2 d j ↔ T_has β d j ∨ (d = c ∧ D_kd nm j))) r.1 s2 r.2.2) := by
  intro t
  induction t with
  | zero => intro i u h βu ht hs hd fr en hI hc; omega
  | succ t ih =>
    intro i u h βu ht hs hd fr en hI hc
    have zi : Zr i := ⟨by omega, by omega⟩
    have zn2 := zn
    unfold P_nm at zn2
    have znm : Zr nm := ⟨by omega, by omega⟩
    refine Z_go (f2 := (3, [(3, .int (Zi i)), (0, .ref o), (1, .int (Zi c)), (2, .int (Zi nm))], [.int (Zi i)])) (fun _ => rfl) ?_
    refine Z_go (f2 := (6, [(3, .int (Zi i)), (0, .ref o), (1, .int (Zi c)), (2, .int (Zi nm))], [.int (Zi 256), .int (Zi i)])) (fun _ => rfl) ?_
    refine Z_cge rfl rfl (by first | exact hs.zF _ _ | exact Zor_r _ _ | exact hs.zA _ _ | assumption | exact zA _ _ | exact zS _ | exact Zr_not (hs.zA _ _) | exact hs.1.1 _ _ | exact ⟨by omega, by omega⟩) (by first | exact hs.zF _ _ | exact Zor_r _ _ | exact hs.zA _ _ | assumption | exact zA _ _ | exact zS _ | exact Zr_not (hs.zA _ _) | exact hs.1.1 _ _ | exact ⟨by omega, by omega⟩) (fun c1 => ?_) (fun c1 => ?_)
    · refine Z_ret rfl rfl ⟨_, hs, ?_⟩
      try dsimp only
      have ei : i = 256 := by omega
      subst ei
      exact ⟨rfl, rfl, fr, en, βu, hd, fun d j d0 j0 j1 => (hI d j d0 j0 j1).trans ⟨fun h => h.imp id (fun h => ⟨h.1, h.2.1⟩), fun h => h.imp id (fun h => ⟨h.1, h.2, by omega⟩)⟩⟩
    · refine Z_go (f2 := (10, [(3, .int (Zi i)), (0, .ref o), (1, .int (Zi c)), (2, .int (Zi nm))], [.int (Zi nm)])) (fun _ => rfl) ?_
      refine Z_go (f2 := (12, [(3, .int (Zi i)), (0, .ref o), (1, .int (Zi c)), (2, .int (Zi nm))], [.int (Zi 100), .int (Zi nm)])) (fun _ => rfl) ?_
      refine Z_cne rfl rfl (by first | exact hs.zF _ _ | exact Zor_r _ _ | exact hs.zA _ _ | assumption | exact zA _ _ | exact zS _ | exact Zr_not (hs.zA _ _) | exact hs.1.1 _ _ | exact ⟨by omega, by omega⟩) (by first | exact hs.zF _ _ | exact Zor_r _ _ | exact hs.zA _ _ | assumption | exact zA _ _ | exact zS _ | exact Zr_not (hs.zA _ _) | exact hs.1.1 _ _ | exact ⟨by omega, by omega⟩) (fun c2 => ?_) (fun c2 => ?_)
      · refine Z_go (f2 := (23, [(3, .int (Zi i)), (0, .ref o), (1, .int (Zi c)), (2, .int (Zi nm))], [.int (Zi nm)])) (fun _ => rfl) ?_
        refine Z_go (f2 := (25, [(3, .int (Zi i)), (0, .ref o), (1, .int (Zi c)), (2, .int (Zi nm))], [.int (Zi 119), .int (Zi nm)])) (fun _ => rfl) ?_
        refine Z_cne rfl rfl (by first | exact hs.zF _ _ | exact Zor_r _ _ | exact hs.zA _ _ | assumption | exact zA _ _ | exact zS _ | exact Zr_not (hs.zA _ _) | exact hs.1.1 _ _ | exact ⟨by omega, by omega⟩) (by first | exact hs.zF _ _ | exact Zor_r _ _ | exact hs.zA _ _ | assumption | exact zA _ _ | exact zS _ | exact Zr_not (hs.zA _ _) | exact hs.1.1 _ _ | exact ⟨by omega, by omega⟩) (fun c3 => ?_) (fun c3 => ?_)
        · refine Z_go (f2 := (36, [(3, .int (Zi i)), (0, .ref o), (1, .int (Zi c)), (2, .int (Zi nm))], [.int (Zi nm)])) (fun _ => rfl) ?_
          refine Z_go (f2 := (38, [(3, .int (Zi i)), (0, .ref o), (1, .int (Zi c)), (2, .int (Zi nm))], [.int (Zi 115), .int (Zi nm)])) (fun _ => rfl) ?_
          refine Z_cne rfl rfl (by first | exact hs.zF _ _ | exact Zor_r _ _ | exact hs.zA _ _ | assumption | exact zA _ _ | exact zS _ | exact Zr_not (hs.zA _ _) | exact hs.1.1 _ _ | exact ⟨by omega, by omega⟩) (by first | exact hs.zF _ _ | exact Zor_r _ _ | exact hs.zA _ _ | assumption | exact zA _ _ | exact zS _ | exact Zr_not (hs.zA _ _) | exact hs.1.1 _ _ | exact ⟨by omega, by omega⟩) (fun c4 => ?_) (fun c4 => ?_)
          · refine Z_iinc (L2 := [(3, .int (Zi (i + 1))), (0, .ref o), (1, .int (Zi c)), (2, .int (Zi nm))]) rfl rfl (by decide) rfl ?_
            refine Z_go (f2 := (2, [(3, .int (Zi (i + 1))), (0, .ref o), (1, .int (Zi c)), (2, .int (Zi nm))], [])) (fun _ => rfl) ?_
            have hk : ¬ D_kd nm i := by unfold D_kd; omega
            refine B_loc (K := [(3, .int (Zi (i + 1))), (0, .ref o), (1, .int (Zi c)), (2, .int (Zi nm))]) (N_all_sub ⟨rfl, rfl, rfl, rfl, trivial⟩) (show ([3, 0, 1, 2] : List Nat).Nodup by decide) ?_
            refine ih (i + 1) u h βu (by omega) hs hd fr en (fun d j d0 j0 j1 => ?_) (by omega)
            rw [hI d j d0 j0 j1]
            constructor
            · rintro (h | h)
              · exact .inl h
              · exact .inr ⟨h.1, h.2.1, by omega⟩
            · rintro (h | h)
              · exact .inl h
              · by_cases e : j = i
                · exact absurd h.2.1 (by rw [e]; exact hk)
                · exact .inr ⟨h.1, h.2.1, by omega⟩
          · refine Z_go (f2 := (42, [(3, .int (Zi i)), (0, .ref o), (1, .int (Zi c)), (2, .int (Zi nm))], [.int (Zi i)])) (fun _ => rfl) ?_
            refine Z_callQ (vs := [.int (Zi i)]) (rest := []) rfl (by decide) rfl rfl rfl (Nat.le_of_ble_eq_true rfl) (C_isSpc _ (c := i) (by first | exact hs.zF _ _ | exact Zor_r _ _ | exact hs.zA _ _ | assumption | exact zA _ _ | exact zS _ | exact Zr_not (hs.zA _ _) | exact hs.1.1 _ _ | exact ⟨by omega, by omega⟩)) (fun x q => ?_)
            obtain ⟨sp104, rfl, hsp104⟩ := q
            have zsp104 : Zr sp104 := ⟨by omega, by omega⟩
            show B_R _ _ (45, [(3, .int (Zi i)), (0, .ref o), (1, .int (Zi c)), (2, .int (Zi nm))], [.int (Zi sp104)]) _ _ _
            refine Z_ieq rfl rfl (by first | exact hs.zF _ _ | exact Zor_r _ _ | exact hs.zA _ _ | assumption | exact zA _ _ | exact zS _ | exact Zr_not (hs.zA _ _) | exact hs.1.1 _ _ | exact ⟨by omega, by omega⟩) (fun c5 => ?_) (fun c5 => ?_)
            · refine Z_iinc (L2 := [(3, .int (Zi (i + 1))), (0, .ref o), (1, .int (Zi c)), (2, .int (Zi nm))]) rfl rfl (by decide) rfl ?_
              refine Z_go (f2 := (2, [(3, .int (Zi (i + 1))), (0, .ref o), (1, .int (Zi c)), (2, .int (Zi nm))], [])) (fun _ => rfl) ?_
              have hk : ¬ D_kd nm i := by unfold D_kd; omega
              refine B_loc (K := [(3, .int (Zi (i + 1))), (0, .ref o), (1, .int (Zi c)), (2, .int (Zi nm))]) (N_all_sub ⟨rfl, rfl, rfl, rfl, trivial⟩) (show ([3, 0, 1, 2] : List Nat).Nodup by decide) ?_
              refine ih (i + 1) u h βu (by omega) hs hd fr en (fun d j d0 j0 j1 => ?_) (by omega)
              rw [hI d j d0 j0 j1]
              constructor
              · rintro (h | h)
                · exact .inl h
                · exact .inr ⟨h.1, h.2.1, by omega⟩
              · rintro (h | h)
                · exact .inl h
                · by_cases e : j = i
                  · exact absurd h.2.1 (by rw [e]; exact hk)
                  · exact .inr ⟨h.1, h.2.1, by omega⟩
            · refine Z_go (f2 := (49, [(3, .int (Zi i)), (0, .ref o), (1, .int (Zi c)), (2, .int (Zi nm))], [.ref o])) (fun _ => rfl) ?_
              refine Z_go (f2 := (50, [(3, .int (Zi i)), (0, .ref o), (1, .int (Zi c)), (2, .int (Zi nm))], [.int (Zi c), .ref o])) (fun _ => rfl) ?_
              refine Z_go (f2 := (51, [(3, .int (Zi i)), (0, .ref o), (1, .int (Zi c)), (2, .int (Zi nm))], [.int (Zi i), .int (Zi c), .ref o])) (fun _ => rfl) ?_
              refine C_callV (As := [.int (Zi c), .int (Zi i)]) (rest := []) rfl (by decide) rfl (by decide) rfl rfl (by decide +kernel) (Nat.le_of_ble_eq_true rfl) hs (hd).1.1 (C_incl _ hd (c := c) (k := i) (by first | exact hs.zF _ _ | exact Zor_r _ _ | exact hs.zA _ _ | assumption | exact zA _ _ | exact zS _ | exact Zr_not (hs.zA _ _) | exact hs.1.1 _ _ | exact ⟨by omega, by omega⟩) (by omega) (by omega)) (fun x h v105 n105 hs q => ?_)
              obtain ⟨rfl, rfl, fr105, en105, β105, hd105, hb105⟩ := q
              show B_R _ _ (54, [(3, .int (Zi i)), (0, .ref o), (1, .int (Zi c)), (2, .int (Zi nm))], []) _ _ _
              refine Z_iinc (L2 := [(3, .int (Zi (i + 1))), (0, .ref o), (1, .int (Zi c)), (2, .int (Zi nm))]) rfl rfl (by decide) rfl ?_
              refine Z_go (f2 := (2, [(3, .int (Zi (i + 1))), (0, .ref o), (1, .int (Zi c)), (2, .int (Zi nm))], [])) (fun _ => rfl) ?_
              have hk : D_kd nm i := by unfold D_kd; omega
              refine B_loc (K := [(3, .int (Zi (i + 1))), (0, .ref o), (1, .int (Zi c)), (2, .int (Zi nm))]) (N_all_sub ⟨rfl, rfl, rfl, rfl, trivial⟩) (show ([3, 0, 1, 2] : List Nat).Nodup by decide) ?_
              refine ih (i + 1) v105 h β105 (by omega) hs hd105 (fr.tr fr105) (by rw [en105, en]) (fun d j d0 j0 j1 => ?_) (by omega)
              rw [hb105, hI d j d0 j0 j1]
              constructor
              · rintro ((h | h) | h)
                · exact .inl h
                · exact .inr ⟨h.1, h.2.1, by omega⟩
                · exact .inr ⟨h.1, by rw [h.2.1]; exact hk, by omega⟩
              · rintro (h | h)
                · exact .inl (.inl h)
                · by_cases e : j = i
                  · exact .inr ⟨h.1, e, by omega⟩
                  · exact .inl (.inr ⟨h.1, h.2.1, by omega⟩)
        · refine Z_go (f2 := (29, [(3, .int (Zi i)), (0, .ref o), (1, .int (Zi c)), (2, .int (Zi nm))], [.int (Zi i)])) (fun _ => rfl) ?_
          refine Z_callQ (vs := [.int (Zi i)]) (rest := []) rfl (by decide) rfl rfl rfl (Nat.le_of_ble_eq_true rfl) (C_isWrd _ (c := i) (by first | exact hs.zF _ _ | exact Zor_r _ _ | exact hs.zA _ _ | assumption | exact zA _ _ | exact zS _ | exact Zr_not (hs.zA _ _) | exact hs.1.1 _ _ | exact ⟨by omega, by omega⟩)) (fun x q => ?_)
          obtain ⟨wr106, rfl, hwr106⟩ := q
          have zwr106 : Zr wr106 := ⟨by omega, by omega⟩
          show B_R _ _ (32, [(3, .int (Zi i)), (0, .ref o), (1, .int (Zi c)), (2, .int (Zi nm))], [.int (Zi wr106)]) _ _ _
          refine Z_ine rfl rfl (by first | exact hs.zF _ _ | exact Zor_r _ _ | exact hs.zA _ _ | assumption | exact zA _ _ | exact zS _ | exact Zr_not (hs.zA _ _) | exact hs.1.1 _ _ | exact ⟨by omega, by omega⟩) (fun c6 => ?_) (fun c6 => ?_)
          · refine Z_go (f2 := (49, [(3, .int (Zi i)), (0, .ref o), (1, .int (Zi c)), (2, .int (Zi nm))], [.ref o])) (fun _ => rfl) ?_
            refine Z_go (f2 := (50, [(3, .int (Zi i)), (0, .ref o), (1, .int (Zi c)), (2, .int (Zi nm))], [.int (Zi c), .ref o])) (fun _ => rfl) ?_
            refine Z_go (f2 := (51, [(3, .int (Zi i)), (0, .ref o), (1, .int (Zi c)), (2, .int (Zi nm))], [.int (Zi i), .int (Zi c), .ref o])) (fun _ => rfl) ?_
            refine C_callV (As := [.int (Zi c), .int (Zi i)]) (rest := []) rfl (by decide) rfl (by decide) rfl rfl (by decide +kernel) (Nat.le_of_ble_eq_true rfl) hs (hd).1.1 (C_incl _ hd (c := c) (k := i) (by first | exact hs.zF _ _ | exact Zor_r _ _ | exact hs.zA _ _ | assumption | exact zA _ _ | exact zS _ | exact Zr_not (hs.zA _ _) | exact hs.1.1 _ _ | exact ⟨by omega, by omega⟩) (by omega) (by omega)) (fun x h v107 n107 hs q => ?_)
            obtain ⟨rfl, rfl, fr107, en107, β107, hd107, hb107⟩ := q
            show B_R _ _ (54, [(3, .int (Zi i)), (0, .ref o), (1, .int (Zi c)), (2, .int (Zi nm))], []) _ _ _
            refine Z_iinc (L2 := [(3, .int (Zi (i + 1))), (0, .ref o), (1, .int (Zi c)), (2, .int (Zi nm))]) rfl rfl (by decide) rfl ?_
            refine Z_go (f2 := (2, [(3, .int (Zi (i + 1))), (0, .ref o), (1, .int (Zi c)), (2, .int (Zi nm))], [])) (fun _ => rfl) ?_
            have hk : D_kd nm i := by unfold D_kd; omega
            refine B_loc (K := [(3, .int (Zi (i + 1))), (0, .ref o), (1, .int (Zi c)), (2, .int (Zi nm))]) (N_all_sub ⟨rfl, rfl, rfl, rfl, trivial⟩) (show ([3, 0, 1, 2] : List Nat).Nodup by decide) ?_
            refine ih (i + 1) v107 h β107 (by omega) hs hd107 (fr.tr fr107) (by rw [en107, en]) (fun d j d0 j0 j1 => ?_) (by omega)
            rw [hb107, hI d j d0 j0 j1]
            constructor
            · rintro ((h | h) | h)
              · exact .inl h
              · exact .inr ⟨h.1, h.2.1, by omega⟩
              · exact .inr ⟨h.1, by rw [h.2.1]; exact hk, by omega⟩
            · rintro (h | h)
              · exact .inl (.inl h)
              · by_cases e : j = i
                · exact .inr ⟨h.1, e, by omega⟩
                · exact .inl (.inr ⟨h.1, h.2.1, by omega⟩)
          · refine Z_go (f2 := (36, [(3, .int (Zi i)), (0, .ref o), (1, .int (Zi c)), (2, .int (Zi nm))], [.int (Zi nm)])) (fun _ => rfl) ?_
            refine Z_go (f2 := (38, [(3, .int (Zi i)), (0, .ref o), (1, .int (Zi c)), (2, .int (Zi nm))], [.int (Zi 115), .int (Zi nm)])) (fun _ => rfl) ?_
            refine Z_cne rfl rfl (by first | exact hs.zF _ _ | exact Zor_r _ _ | exact hs.zA _ _ | assumption | exact zA _ _ | exact zS _ | exact Zr_not (hs.zA _ _) | exact hs.1.1 _ _ | exact ⟨by omega, by omega⟩) (by first | exact hs.zF _ _ | exact Zor_r _ _ | exact hs.zA _ _ | assumption | exact zA _ _ | exact zS _ | exact Zr_not (hs.zA _ _) | exact hs.1.1 _ _ | exact ⟨by omega, by omega⟩) (fun c7 => ?_) (fun c7 => ?_)
            · refine Z_iinc (L2 := [(3, .int (Zi (i + 1))), (0, .ref o), (1, .int (Zi c)), (2, .int (Zi nm))]) rfl rfl (by decide) rfl ?_
              refine Z_go (f2 := (2, [(3, .int (Zi (i + 1))), (0, .ref o), (1, .int (Zi c)), (2, .int (Zi nm))], [])) (fun _ => rfl) ?_
              have hk : ¬ D_kd nm i := by unfold D_kd; omega
              refine B_loc (K := [(3, .int (Zi (i + 1))), (0, .ref o), (1, .int (Zi c)), (2, .int (Zi nm))]) (N_all_sub ⟨rfl, rfl, rfl, rfl, trivial⟩) (show ([3, 0, 1, 2] : List Nat).Nodup by decide) ?_
              refine ih (i + 1) u h βu (by omega) hs hd fr en (fun d j d0 j0 j1 => ?_) (by omega)
              rw [hI d j d0 j0 j1]
              constructor
              · rintro (h | h)
                · exact .inl h
                · exact .inr ⟨h.1, h.2.1, by omega⟩
              · rintro (h | h)
                · exact .inl h
                · by_cases e : j = i
                  · exact absurd h.2.1 (by rw [e]; exact hk)
                  · exact .inr ⟨h.1, h.2.1, by omega⟩
            · refine Z_go (f2 := (42, [(3, .int (Zi i)), (0, .ref o), (1, .int (Zi c)), (2, .int (Zi nm))], [.int (Zi i)])) (fun _ => rfl) ?_
              refine Z_callQ (vs := [.int (Zi i)]) (rest := []) rfl (by decide) rfl rfl rfl (Nat.le_of_ble_eq_true rfl) (C_isSpc _ (c := i) (by first | exact hs.zF _ _ | exact Zor_r _ _ | exact hs.zA _ _ | assumption | exact zA _ _ | exact zS _ | exact Zr_not (hs.zA _ _) | exact hs.1.1 _ _ | exact ⟨by omega, by omega⟩)) (fun x q => ?_)
              obtain ⟨sp108, rfl, hsp108⟩ := q
              have zsp108 : Zr sp108 := ⟨by omega, by omega⟩
              show B_R _ _ (45, [(3, .int (Zi i)), (0, .ref o), (1, .int (Zi c)), (2, .int (Zi nm))], [.int (Zi sp108)]) _ _ _
              refine Z_ieq rfl rfl (by first | exact hs.zF _ _ | exact Zor_r _ _ | exact hs.zA _ _ | assumption | exact zA _ _ | exact zS _ | exact Zr_not (hs.zA _ _) | exact hs.1.1 _ _ | exact ⟨by omega, by omega⟩) (fun c8 => ?_) (fun c8 => ?_)
              · refine Z_iinc (L2 := [(3, .int (Zi (i + 1))), (0, .ref o), (1, .int (Zi c)), (2, .int (Zi nm))]) rfl rfl (by decide) rfl ?_
                refine Z_go (f2 := (2, [(3, .int (Zi (i + 1))), (0, .ref o), (1, .int (Zi c)), (2, .int (Zi nm))], [])) (fun _ => rfl) ?_
                have hk : ¬ D_kd nm i := by unfold D_kd; omega
                refine B_loc (K := [(3, .int (Zi (i + 1))), (0, .ref o), (1, .int (Zi c)), (2, .int (Zi nm))]) (N_all_sub ⟨rfl, rfl, rfl, rfl, trivial⟩) (show ([3, 0, 1, 2] : List Nat).Nodup by decide) ?_
                refine ih (i + 1) u h βu (by omega) hs hd fr en (fun d j d0 j0 j1 => ?_) (by omega)
                rw [hI d j d0 j0 j1]
                constructor
                · rintro (h | h)
                  · exact .inl h
                  · exact .inr ⟨h.1, h.2.1, by omega⟩
                · rintro (h | h)
                  · exact .inl h
                  · by_cases e : j = i
                    · exact absurd h.2.1 (by rw [e]; exact hk)
                    · exact .inr ⟨h.1, h.2.1, by omega⟩
              · refine Z_go (f2 := (49, [(3, .int (Zi i)), (0, .ref o), (1, .int (Zi c)), (2, .int (Zi nm))], [.ref o])) (fun _ => rfl) ?_
                refine Z_go (f2 := (50, [(3, .int (Zi i)), (0, .ref o), (1, .int (Zi c)), (2, .int (Zi nm))], [.int (Zi c), .ref o])) (fun _ => rfl) ?_
                refine Z_go (f2 := (51, [(3, .int (Zi i)), (0, .ref o), (1, .int (Zi c)), (2, .int (Zi nm))], [.int (Zi i), .int (Zi c), .ref o])) (fun _ => rfl) ?_
                refine C_callV (As := [.int (Zi c), .int (Zi i)]) (rest := []) rfl (by decide) rfl (by decide) rfl rfl (by decide +kernel) (Nat.le_of_ble_eq_true rfl) hs (hd).1.1 (C_incl _ hd (c := c) (k := i) (by first | exact hs.zF _ _ | exact Zor_r _ _ | exact hs.zA _ _ | assumption | exact zA _ _ | exact zS _ | exact Zr_not (hs.zA _ _) | exact hs.1.1 _ _ | exact ⟨by omega, by omega⟩) (by omega) (by omega)) (fun x h v109 n109 hs q => ?_)
                obtain ⟨rfl, rfl, fr109, en109, β109, hd109, hb109⟩ := q
                show B_R _ _ (54, [(3, .int (Zi i)), (0, .ref o), (1, .int (Zi c)), (2, .int (Zi nm))], []) _ _ _
                refine Z_iinc (L2 := [(3, .int (Zi (i + 1))), (0, .ref o), (1, .int (Zi c)), (2, .int (Zi nm))]) rfl rfl (by decide) rfl ?_
                refine Z_go (f2 := (2, [(3, .int (Zi (i + 1))), (0, .ref o), (1, .int (Zi c)), (2, .int (Zi nm))], [])) (fun _ => rfl) ?_
                have hk : D_kd nm i := by unfold D_kd; omega
                refine B_loc (K := [(3, .int (Zi (i + 1))), (0, .ref o), (1, .int (Zi c)), (2, .int (Zi nm))]) (N_all_sub ⟨rfl, rfl, rfl, rfl, trivial⟩) (show ([3, 0, 1, 2] : List Nat).Nodup by decide) ?_
                refine ih (i + 1) v109 h β109 (by omega) hs hd109 (fr.tr fr109) (by rw [en109, en]) (fun d j d0 j0 j1 => ?_) (by omega)
                rw [hb109, hI d j d0 j0 j1]
                constructor
                · rintro ((h | h) | h)
                  · exact .inl h
                  · exact .inr ⟨h.1, h.2.1, by omega⟩
                  · exact .inr ⟨h.1, by rw [h.2.1]; exact hk, by omega⟩
                · rintro (h | h)
                  · exact .inl (.inl h)
                  · by_cases e : j = i
                    · exact .inr ⟨h.1, e, by omega⟩
                    · exact .inl (.inr ⟨h.1, h.2.1, by omega⟩)
      · refine Z_go (f2 := (16, [(3, .int (Zi i)), (0, .ref o), (1, .int (Zi c)), (2, .int (Zi nm))], [.int (Zi i)])) (fun _ => rfl) ?_
        refine Z_callQ (vs := [.int (Zi i)]) (rest := []) rfl (by decide) rfl rfl rfl (Nat.le_of_ble_eq_true rfl) (C_isDig _ (c := i) (by first | exact hs.zF _ _ | exact Zor_r _ _ | exact hs.zA _ _ | assumption | exact zA _ _ | exact zS _ | exact Zr_not (hs.zA _ _) | exact hs.1.1 _ _ | exact ⟨by omega, by omega⟩)) (fun x q => ?_)
        obtain ⟨dg110, rfl, hdg110⟩ := q
        have zdg110 : Zr dg110 := ⟨by omega, by omega⟩
        show B_R _ _ (19, [(3, .int (Zi i)), (0, .ref o), (1, .int (Zi c)), (2, .int (Zi nm))], [.int (Zi dg110)]) _ _ _
        refine Z_ine rfl rfl (by first | exact hs.zF _ _ | exact Zor_r _ _ | exact hs.zA _ _ | assumption | exact zA _ _ | exact zS _ | exact Zr_not (hs.zA _ _) | exact hs.1.1 _ _ | exact ⟨by omega, by omega⟩) (fun c9 => ?_) (fun c9 => ?_)
        · refine Z_go (f2 := (49, [(3, .int (Zi i)), (0, .ref o), (1, .int (Zi c)), (2, .int (Zi nm))], [.ref o])) (fun _ => rfl) ?_
          refine Z_go (f2 := (50, [(3, .int (Zi i)), (0, .ref o), (1, .int (Zi c)), (2, .int (Zi nm))], [.int (Zi c), .ref o])) (fun _ => rfl) ?_
          refine Z_go (f2 := (51, [(3, .int (Zi i)), (0, .ref o), (1, .int (Zi c)), (2, .int (Zi nm))], [.int (Zi i), .int (Zi c), .ref o])) (fun _ => rfl) ?_
          refine C_callV (As := [.int (Zi c), .int (Zi i)]) (rest := []) rfl (by decide) rfl (by decide) rfl rfl (by decide +kernel) (Nat.le_of_ble_eq_true rfl) hs (hd).1.1 (C_incl _ hd (c := c) (k := i) (by first | exact hs.zF _ _ | exact Zor_r _ _ | exact hs.zA _ _ | assumption | exact zA _ _ | exact zS _ | exact Zr_not (hs.zA _ _) | exact hs.1.1 _ _ | exact ⟨by omega, by omega⟩) (by omega) (by omega)) (fun x h v111 n111 hs q => ?_)
          obtain ⟨rfl, rfl, fr111, en111, β111, hd111, hb111⟩ := q
          show B_R _ _ (54, [(3, .int (Zi i)), (0, .ref o), (1, .int (Zi c)), (2, .int (Zi nm))], []) _ _ _
          refine Z_iinc (L2 := [(3, .int (Zi (i + 1))), (0, .ref o), (1, .int (Zi c)), (2, .int (Zi nm))]) rfl rfl (by decide) rfl ?_
          refine Z_go (f2 := (2, [(3, .int (Zi (i + 1))), (0, .ref o), (1, .int (Zi c)), (2, .int (Zi nm))], [])) (fun _ => rfl) ?_
          have hk : D_kd nm i := by unfold D_kd; omega
          refine B_loc (K := [(3, .int (Zi (i + 1))), (0, .ref o), (1, .int (Zi c)), (2, .int (Zi nm))]) (N_all_sub ⟨rfl, rfl, rfl, rfl, trivial⟩) (show ([3, 0, 1, 2] : List Nat).Nodup by decide) ?_
          refine ih (i + 1) v111 h β111 (by omega) hs hd111 (fr.tr fr111) (by rw [en111, en]) (fun d j d0 j0 j1 => ?_) (by omega)
          rw [hb111, hI d j d0 j0 j1]
          constructor
          · rintro ((h | h) | h)
            · exact .inl h
            · exact .inr ⟨h.1, h.2.1, by omega⟩
            · exact .inr ⟨h.1, by rw [h.2.1]; exact hk, by omega⟩
          · rintro (h | h)
            · exact .inl (.inl h)
            · by_cases e : j = i
              · exact .inr ⟨h.1, e, by omega⟩
              · exact .inl (.inr ⟨h.1, h.2.1, by omega⟩)
        · refine Z_go (f2 := (23, [(3, .int (Zi i)), (0, .ref o), (1, .int (Zi c)), (2, .int (Zi nm))], [.int (Zi nm)])) (fun _ => rfl) ?_
          refine Z_go (f2 := (25, [(3, .int (Zi i)), (0, .ref o), (1, .int (Zi c)), (2, .int (Zi nm))], [.int (Zi 119), .int (Zi nm)])) (fun _ => rfl) ?_
          refine Z_cne rfl rfl (by first | exact hs.zF _ _ | exact Zor_r _ _ | exact hs.zA _ _ | assumption | exact zA _ _ | exact zS _ | exact Zr_not (hs.zA _ _) | exact hs.1.1 _ _ | exact ⟨by omega, by omega⟩) (by first | exact hs.zF _ _ | exact Zor_r _ _ | exact hs.zA _ _ | assumption | exact zA _ _ | exact zS _ | exact Zr_not (hs.zA _ _) | exact hs.1.1 _ _ | exact ⟨by omega, by omega⟩) (fun c10 => ?_) (fun c10 => ?_)
          · refine Z_go (f2 := (36, [(3, .int (Zi i)), (0, .ref o), (1, .int (Zi c)), (2, .int (Zi nm))], [.int (Zi nm)])) (fun _ => rfl) ?_
            refine Z_go (f2 := (38, [(3, .int (Zi i)), (0, .ref o), (1, .int (Zi c)), (2, .int (Zi nm))], [.int (Zi 115), .int (Zi nm)])) (fun _ => rfl) ?_
            refine Z_cne rfl rfl (by first | exact hs.zF _ _ | exact Zor_r _ _ | exact hs.zA _ _ | assumption | exact zA _ _ | exact zS _ | exact Zr_not (hs.zA _ _) | exact hs.1.1 _ _ | exact ⟨by omega, by omega⟩) (by first | exact hs.zF _ _ | exact Zor_r _ _ | exact hs.zA _ _ | assumption | exact zA _ _ | exact zS _ | exact Zr_not (hs.zA _ _) | exact hs.1.1 _ _ | exact ⟨by omega, by omega⟩) (fun c11 => ?_) (fun c11 => ?_)
            · refine Z_iinc (L2 := [(3, .int (Zi (i + 1))), (0, .ref o), (1, .int (Zi c)), (2, .int (Zi nm))]) rfl rfl (by decide) rfl ?_
              refine Z_go (f2 := (2, [(3, .int (Zi (i + 1))), (0, .ref o), (1, .int (Zi c)), (2, .int (Zi nm))], [])) (fun _ => rfl) ?_
              have hk : ¬ D_kd nm i := by unfold D_kd; omega
              refine B_loc (K := [(3, .int (Zi (i + 1))), (0, .ref o), (1, .int (Zi c)), (2, .int (Zi nm))]) (N_all_sub ⟨rfl, rfl, rfl, rfl, trivial⟩) (show ([3, 0, 1, 2] : List Nat).Nodup by decide) ?_
              refine ih (i + 1) u h βu (by omega) hs hd fr en (fun d j d0 j0 j1 => ?_) (by omega)
              rw [hI d j d0 j0 j1]
              constructor
              · rintro (h | h)
                · exact .inl h
                · exact .inr ⟨h.1, h.2.1, by omega⟩
              · rintro (h | h)
                · exact .inl h
                · by_cases e : j = i
                  · exact absurd h.2.1 (by rw [e]; exact hk)
                  · exact .inr ⟨h.1, h.2.1, by omega⟩
            · refine Z_go (f2 := (42, [(3, .int (Zi i)), (0, .ref o), (1, .int (Zi c)), (2, .int (Zi nm))], [.int (Zi i)])) (fun _ => rfl) ?_
              refine Z_callQ (vs := [.int (Zi i)]) (rest := []) rfl (by decide) rfl rfl rfl (Nat.le_of_ble_eq_true rfl) (C_isSpc _ (c := i) (by first | exact hs.zF _ _ | exact Zor_r _ _ | exact hs.zA _ _ | assumption | exact zA _ _ | exact zS _ | exact Zr_not (hs.zA _ _) | exact hs.1.1 _ _ | exact ⟨by omega, by omega⟩)) (fun x q => ?_)
              obtain ⟨sp112, rfl, hsp112⟩ := q
              have zsp112 : Zr sp112 := ⟨by omega, by omega⟩
              show B_R _ _ (45, [(3, .int (Zi i)), (0, .ref o), (1, .int (Zi c)), (2, .int (Zi nm))], [.int (Zi sp112)]) _ _ _
              refine Z_ieq rfl rfl (by first | exact hs.zF _ _ | exact Zor_r _ _ | exact hs.zA _ _ | assumption | exact zA _ _ | exact zS _ | exact Zr_not (hs.zA _ _) | exact hs.1.1 _ _ | exact ⟨by omega, by omega⟩) (fun c12 => ?_) (fun c12 => ?_)
              · refine Z_iinc (L2 := [(3, .int (Zi (i + 1))), (0, .ref o), (1, .int (Zi c)), (2, .int (Zi nm))]) rfl rfl (by decide) rfl ?_
                refine Z_go (f2 := (2, [(3, .int (Zi (i + 1))), (0, .ref o), (1, .int (Zi c)), (2, .int (Zi nm))], [])) (fun _ => rfl) ?_
                have hk : ¬ D_kd nm i := by unfold D_kd; omega
                refine B_loc (K := [(3, .int (Zi (i + 1))), (0, .ref o), (1, .int (Zi c)), (2, .int (Zi nm))]) (N_all_sub ⟨rfl, rfl, rfl, rfl, trivial⟩) (show ([3, 0, 1, 2] : List Nat).Nodup by decide) ?_
                refine ih (i + 1) u h βu (by omega) hs hd fr en (fun d j d0 j0 j1 => ?_) (by omega)
                rw [hI d j d0 j0 j1]
                constructor
                · rintro (h | h)
                  · exact .inl h
                  · exact .inr ⟨h.1, h.2.1, by omega⟩
                · rintro (h | h)
                  · exact .inl h
                  · by_cases e : j = i
                    · exact absurd h.2.1 (by rw [e]; exact hk)
                    · exact .inr ⟨h.1, h.2.1, by omega⟩
              · refine Z_go (f2 := (49, [(3, .int (Zi i)), (0, .ref o), (1, .int (Zi c)), (2, .int (Zi nm))], [.ref o])) (fun _ => rfl) ?_
                refine Z_go (f2 := (50, [(3, .int (Zi i)), (0, .ref o), (1, .int (Zi c)), (2, .int (Zi nm))], [.int (Zi c), .ref o])) (fun _ => rfl) ?_
                refine Z_go (f2 := (51, [(3, .int (Zi i)), (0, .ref o), (1, .int (Zi c)), (2, .int (Zi nm))], [.int (Zi i), .int (Zi c), .ref o])) (fun _ => rfl) ?_
                refine C_callV (As := [.int (Zi c), .int (Zi i)]) (rest := []) rfl (by decide) rfl (by decide) rfl rfl (by decide +kernel) (Nat.le_of_ble_eq_true rfl) hs (hd).1.1 (C_incl _ hd (c := c) (k := i) (by first | exact hs.zF _ _ | exact Zor_r _ _ | exact hs.zA _ _ | assumption | exact zA _ _ | exact zS _ | exact Zr_not (hs.zA _ _) | exact hs.1.1 _ _ | exact ⟨by omega, by omega⟩) (by omega) (by omega)) (fun x h v113 n113 hs q => ?_)
                obtain ⟨rfl, rfl, fr113, en113, β113, hd113, hb113⟩ := q
                show B_R _ _ (54, [(3, .int (Zi i)), (0, .ref o), (1, .int (Zi c)), (2, .int (Zi nm))], []) _ _ _
                refine Z_iinc (L2 := [(3, .int (Zi (i + 1))), (0, .ref o), (1, .int (Zi c)), (2, .int (Zi nm))]) rfl rfl (by decide) rfl ?_
                refine Z_go (f2 := (2, [(3, .int (Zi (i + 1))), (0, .ref o), (1, .int (Zi c)), (2, .int (Zi nm))], [])) (fun _ => rfl) ?_
                have hk : D_kd nm i := by unfold D_kd; omega
                refine B_loc (K := [(3, .int (Zi (i + 1))), (0, .ref o), (1, .int (Zi c)), (2, .int (Zi nm))]) (N_all_sub ⟨rfl, rfl, rfl, rfl, trivial⟩) (show ([3, 0, 1, 2] : List Nat).Nodup by decide) ?_
                refine ih (i + 1) v113 h β113 (by omega) hs hd113 (fr.tr fr113) (by rw [en113, en]) (fun d j d0 j0 j1 => ?_) (by omega)
                rw [hb113, hI d j d0 j0 j1]
                constructor
                · rintro ((h | h) | h)
                  · exact .inl h
                  · exact .inr ⟨h.1, h.2.1, by omega⟩
                  · exact .inr ⟨h.1, by rw [h.2.1]; exact hk, by omega⟩
                · rintro (h | h)
                  · exact .inl (.inl h)
                  · by_cases e : j = i
                    · exact .inr ⟨h.1, e, by omega⟩
                    · exact .inl (.inr ⟨h.1, h.2.1, by omega⟩)
          · refine Z_go (f2 := (29, [(3, .int (Zi i)), (0, .ref o), (1, .int (Zi c)), (2, .int (Zi nm))], [.int (Zi i)])) (fun _ => rfl) ?_
            refine Z_callQ (vs := [.int (Zi i)]) (rest := []) rfl (by decide) rfl rfl rfl (Nat.le_of_ble_eq_true rfl) (C_isWrd _ (c := i) (by first | exact hs.zF _ _ | exact Zor_r _ _ | exact hs.zA _ _ | assumption | exact zA _ _ | exact zS _ | exact Zr_not (hs.zA _ _) | exact hs.1.1 _ _ | exact ⟨by omega, by omega⟩)) (fun x q => ?_)
            obtain ⟨wr114, rfl, hwr114⟩ := q
            have zwr114 : Zr wr114 := ⟨by omega, by omega⟩
            show B_R _ _ (32, [(3, .int (Zi i)), (0, .ref o), (1, .int (Zi c)), (2, .int (Zi nm))], [.int (Zi wr114)]) _ _ _
            refine Z_ine rfl rfl (by first | exact hs.zF _ _ | exact Zor_r _ _ | exact hs.zA _ _ | assumption | exact zA _ _ | exact zS _ | exact Zr_not (hs.zA _ _) | exact hs.1.1 _ _ | exact ⟨by omega, by omega⟩) (fun c13 => ?_) (fun c13 => ?_)
            · refine Z_go (f2 := (49, [(3, .int (Zi i)), (0, .ref o), (1, .int (Zi c)), (2, .int (Zi nm))], [.ref o])) (fun _ => rfl) ?_
              refine Z_go (f2 := (50, [(3, .int (Zi i)), (0, .ref o), (1, .int (Zi c)), (2, .int (Zi nm))], [.int (Zi c), .ref o])) (fun _ => rfl) ?_
              refine Z_go (f2 := (51, [(3, .int (Zi i)), (0, .ref o), (1, .int (Zi c)), (2, .int (Zi nm))], [.int (Zi i), .int (Zi c), .ref o])) (fun _ => rfl) ?_
              refine C_callV (As := [.int (Zi c), .int (Zi i)]) (rest := []) rfl (by decide) rfl (by decide) rfl rfl (by decide +kernel) (Nat.le_of_ble_eq_true rfl) hs (hd).1.1 (C_incl _ hd (c := c) (k := i) (by first | exact hs.zF _ _ | exact Zor_r _ _ | exact hs.zA _ _ | assumption | exact zA _ _ | exact zS _ | exact Zr_not (hs.zA _ _) | exact hs.1.1 _ _ | exact ⟨by omega, by omega⟩) (by omega) (by omega)) (fun x h v115 n115 hs q => ?_)
              obtain ⟨rfl, rfl, fr115, en115, β115, hd115, hb115⟩ := q
              show B_R _ _ (54, [(3, .int (Zi i)), (0, .ref o), (1, .int (Zi c)), (2, .int (Zi nm))], []) _ _ _
              refine Z_iinc (L2 := [(3, .int (Zi (i + 1))), (0, .ref o), (1, .int (Zi c)), (2, .int (Zi nm))]) rfl rfl (by decide) rfl ?_
              refine Z_go (f2 := (2, [(3, .int (Zi (i + 1))), (0, .ref o), (1, .int (Zi c)), (2, .int (Zi nm))], [])) (fun _ => rfl) ?_
              have hk : D_kd nm i := by unfold D_kd; omega
              refine B_loc (K := [(3, .int (Zi (i + 1))), (0, .ref o), (1, .int (Zi c)), (2, .int (Zi nm))]) (N_all_sub ⟨rfl, rfl, rfl, rfl, trivial⟩) (show ([3, 0, 1, 2] : List Nat).Nodup by decide) ?_
              refine ih (i + 1) v115 h β115 (by omega) hs hd115 (fr.tr fr115) (by rw [en115, en]) (fun d j d0 j0 j1 => ?_) (by omega)
              rw [hb115, hI d j d0 j0 j1]
              constructor
              · rintro ((h | h) | h)
                · exact .inl h
                · exact .inr ⟨h.1, h.2.1, by omega⟩
                · exact .inr ⟨h.1, by rw [h.2.1]; exact hk, by omega⟩
              · rintro (h | h)
                · exact .inl (.inl h)
                · by_cases e : j = i
                  · exact .inr ⟨h.1, e, by omega⟩
                  · exact .inl (.inr ⟨h.1, h.2.1, by omega⟩)
            · refine Z_go (f2 := (36, [(3, .int (Zi i)), (0, .ref o), (1, .int (Zi c)), (2, .int (Zi nm))], [.int (Zi nm)])) (fun _ => rfl) ?_
              refine Z_go (f2 := (38, [(3, .int (Zi i)), (0, .ref o), (1, .int (Zi c)), (2, .int (Zi nm))], [.int (Zi 115), .int (Zi nm)])) (fun _ => rfl) ?_
              refine Z_cne rfl rfl (by first | exact hs.zF _ _ | exact Zor_r _ _ | exact hs.zA _ _ | assumption | exact zA _ _ | exact zS _ | exact Zr_not (hs.zA _ _) | exact hs.1.1 _ _ | exact ⟨by omega, by omega⟩) (by first | exact hs.zF _ _ | exact Zor_r _ _ | exact hs.zA _ _ | assumption | exact zA _ _ | exact zS _ | exact Zr_not (hs.zA _ _) | exact hs.1.1 _ _ | exact ⟨by omega, by omega⟩) (fun c14 => ?_) (fun c14 => ?_)
              · refine Z_iinc (L2 := [(3, .int (Zi (i + 1))), (0, .ref o), (1, .int (Zi c)), (2, .int (Zi nm))]) rfl rfl (by decide) rfl ?_
                refine Z_go (f2 := (2, [(3, .int (Zi (i + 1))), (0, .ref o), (1, .int (Zi c)), (2, .int (Zi nm))], [])) (fun _ => rfl) ?_
                have hk : ¬ D_kd nm i := by unfold D_kd; omega
                refine B_loc (K := [(3, .int (Zi (i + 1))), (0, .ref o), (1, .int (Zi c)), (2, .int (Zi nm))]) (N_all_sub ⟨rfl, rfl, rfl, rfl, trivial⟩) (show ([3, 0, 1, 2] : List Nat).Nodup by decide) ?_
                refine ih (i + 1) u h βu (by omega) hs hd fr en (fun d j d0 j0 j1 => ?_) (by omega)
                rw [hI d j d0 j0 j1]
                constructor
                · rintro (h | h)
                  · exact .inl h
                  · exact .inr ⟨h.1, h.2.1, by omega⟩
                · rintro (h | h)
                  · exact .inl h
                  · by_cases e : j = i
                    · exact absurd h.2.1 (by rw [e]; exact hk)
                    · exact .inr ⟨h.1, h.2.1, by omega⟩
              · refine Z_go (f2 := (42, [(3, .int (Zi i)), (0, .ref o), (1, .int (Zi c)), (2, .int (Zi nm))], [.int (Zi i)])) (fun _ => rfl) ?_
                refine Z_callQ (vs := [.int (Zi i)]) (rest := []) rfl (by decide) rfl rfl rfl (Nat.le_of_ble_eq_true rfl) (C_isSpc _ (c := i) (by first | exact hs.zF _ _ | exact Zor_r _ _ | exact hs.zA _ _ | assumption | exact zA _ _ | exact zS _ | exact Zr_not (hs.zA _ _) | exact hs.1.1 _ _ | exact ⟨by omega, by omega⟩)) (fun x q => ?_)
                obtain ⟨sp116, rfl, hsp116⟩ := q
                have zsp116 : Zr sp116 := ⟨by omega, by omega⟩
                show B_R _ _ (45, [(3, .int (Zi i)), (0, .ref o), (1, .int (Zi c)), (2, .int (Zi nm))], [.int (Zi sp116)]) _ _ _
                refine Z_ieq rfl rfl (by first | exact hs.zF _ _ | exact Zor_r _ _ | exact hs.zA _ _ | assumption | exact zA _ _ | exact zS _ | exact Zr_not (hs.zA _ _) | exact hs.1.1 _ _ | exact ⟨by omega, by omega⟩) (fun c15 => ?_) (fun c15 => ?_)
                · refine Z_iinc (L2 := [(3, .int (Zi (i + 1))), (0, .ref o), (1, .int (Zi c)), (2, .int (Zi nm))]) rfl rfl (by decide) rfl ?_
                  refine Z_go (f2 := (2, [(3, .int (Zi (i + 1))), (0, .ref o), (1, .int (Zi c)), (2, .int (Zi nm))], [])) (fun _ => rfl) ?_
                  have hk : ¬ D_kd nm i := by unfold D_kd; omega
                  refine B_loc (K := [(3, .int (Zi (i + 1))), (0, .ref o), (1, .int (Zi c)), (2, .int (Zi nm))]) (N_all_sub ⟨rfl, rfl, rfl, rfl, trivial⟩) (show ([3, 0, 1, 2] : List Nat).Nodup by decide) ?_
                  refine ih (i + 1) u h βu (by omega) hs hd fr en (fun d j d0 j0 j1 => ?_) (by omega)
                  rw [hI d j d0 j0 j1]
                  constructor
                  · rintro (h | h)
                    · exact .inl h
                    · exact .inr ⟨h.1, h.2.1, by omega⟩
                  · rintro (h | h)
                    · exact .inl h
                    · by_cases e : j = i
                      · exact absurd h.2.1 (by rw [e]; exact hk)
                      · exact .inr ⟨h.1, h.2.1, by omega⟩
                · refine Z_go (f2 := (49, [(3, .int (Zi i)), (0, .ref o), (1, .int (Zi c)), (2, .int (Zi nm))], [.ref o])) (fun _ => rfl) ?_
                  refine Z_go (f2 := (50, [(3, .int (Zi i)), (0, .ref o), (1, .int (Zi c)), (2, .int (Zi nm))], [.int (Zi c), .ref o])) (fun _ => rfl) ?_
                  refine Z_go (f2 := (51, [(3, .int (Zi i)), (0, .ref o), (1, .int (Zi c)), (2, .int (Zi nm))], [.int (Zi i), .int (Zi c), .ref o])) (fun _ => rfl) ?_
                  refine C_callV (As := [.int (Zi c), .int (Zi i)]) (rest := []) rfl (by decide) rfl (by decide) rfl rfl (by decide +kernel) (Nat.le_of_ble_eq_true rfl) hs (hd).1.1 (C_incl _ hd (c := c) (k := i) (by first | exact hs.zF _ _ | exact Zor_r _ _ | exact hs.zA _ _ | assumption | exact zA _ _ | exact zS _ | exact Zr_not (hs.zA _ _) | exact hs.1.1 _ _ | exact ⟨by omega, by omega⟩) (by omega) (by omega)) (fun x h v117 n117 hs q => ?_)
                  obtain ⟨rfl, rfl, fr117, en117, β117, hd117, hb117⟩ := q
                  show B_R _ _ (54, [(3, .int (Zi i)), (0, .ref o), (1, .int (Zi c)), (2, .int (Zi nm))], []) _ _ _
                  refine Z_iinc (L2 := [(3, .int (Zi (i + 1))), (0, .ref o), (1, .int (Zi c)), (2, .int (Zi nm))]) rfl rfl (by decide) rfl ?_
                  refine Z_go (f2 := (2, [(3, .int (Zi (i + 1))), (0, .ref o), (1, .int (Zi c)), (2, .int (Zi nm))], [])) (fun _ => rfl) ?_
                  have hk : D_kd nm i := by unfold D_kd; omega
                  refine B_loc (K := [(3, .int (Zi (i + 1))), (0, .ref o), (1, .int (Zi c)), (2, .int (Zi nm))]) (N_all_sub ⟨rfl, rfl, rfl, rfl, trivial⟩) (show ([3, 0, 1, 2] : List Nat).Nodup by decide) ?_
                  refine ih (i + 1) v117 h β117 (by omega) hs hd117 (fr.tr fr117) (by rw [en117, en]) (fun d j d0 j0 j1 => ?_) (by omega)
                  rw [hb117, hI d j d0 j0 j1]
                  constructor
                  · rintro ((h | h) | h)
                    · exact .inl h
                    · exact .inr ⟨h.1, h.2.1, by omega⟩
                    · exact .inr ⟨h.1, by rw [h.2.1]; exact hk, by omega⟩
                  · rintro (h | h)
                    · exact .inl (.inl h)
                    · by_cases e : j = i
                      · exact .inr ⟨h.1, e, by omega⟩
                      · exact .inl (.inr ⟨h.1, h.2.1, by omega⟩)
theorem C_named (d : Nat) {s : C_S} {p : List Nat} {o : Nat} {A : Nat → Nat} {m sm : Int} {τ : Nat → Int → Int} {β : Int → Int64} {c nm : Int} (hd : D_Tr s p o A m sm τ β) (c0 : -1 ≤ c) (c1 : c < 80) (zn : P_nm nm) : C_ok (d + 3) 140 [.ref o, .int (Zi c), .int (Zi nm)] s (fun x s2 n => x = none ∧ n = 0 ∧ C_fr (fun t => t = p) s s2 ∧ C_n s2 = C_n s ∧ ∃ β2, D_Tr s2 p o A m sm τ β2 ∧ ∀ d j, 0 ≤ d → 0 ≤ j → j ≤ 255 → (T_has β2 d j ↔ T_has β d j ∨ (d = c ∧ D_kd nm j))) := by
  refine C_enter (M := E_m140) rfl (Nat.le_of_ble_eq_true rfl) (fun h0 h hs => ?_)
  show B_R (d + 2) _ (0, [(0, .ref o), (1, .int (Zi c)), (2, .int (Zi nm))], []) _ _ _
  have hd0 := hd
  refine Z_go (f2 := (1, [(0, .ref o), (1, .int (Zi c)), (2, .int (Zi nm))], [.int (Zi 0)])) (fun _ => rfl) ?_
  refine Z_go (f2 := (2, [(3, .int (Zi 0)), (0, .ref o), (1, .int (Zi c)), (2, .int (Zi nm))], [])) (fun _ => rfl) ?_
  refine B_loc (K := [(3, .int (Zi 0)), (0, .ref o), (1, .int (Zi c)), (2, .int (Zi nm))]) (N_all_sub ⟨rfl, rfl, rfl, rfl, trivial⟩) (show ([3, 0, 1, 2] : List Nat).Nodup by decide) ?_
  exact C_named_lp hd0 c0 c1 zn 258 0 s h β (by omega) hs hd (C_fr.refl _ _) rfl (fun d j d0 j0 j1 => ⟨.inl, fun h => h.elim id (fun h => by omega)⟩) (by omega)
theorem C_foldL_lp {dd : Nat} {h0 : E_H} {s : C_S} {p : List Nat} {o : Nat} {A : Nat → Nat} {m sm : Int} {τ : Nat → Int → Int} {β : Int → Int64} {c : Int} (hd00 : D_Tr s p o A m sm τ β) (c0 : -1 ≤ c) (c1 : c < 80) : ∀ (t : Nat) (i : Int) (u : C_S) (h : E_H) (βu : Int → Int64), 123 - i < t → C_is h0 h u → D_Tr u p o A m sm τ βu → C_fr (fun t => t = p) s u → C_n u = C_n s → (∀ d j, 0 ≤ d → 0 ≤ j → j ≤ 255 → (T_has βu d j ↔ T_has β d j ∨ (d = c ∧ D_fd (T_has β c) i j))) → (97 ≤ i ∧ i ≤ 123) → B_R (dd + 3) E_m141 (3, [(2, .int (Zi i)), (0, .ref o), (1, .int (Zi c))], []) h 0 (fun r => ∃ s2 : C_S, C_is h0 r.2.1 s2 ∧ (fun (x : Option Value) (s2 : C_S) (n : Nat) => x = none ∧ n = 0 ∧ C_fr (fun t => t = p) s s2 ∧ C_n s2 = C_n s ∧ ∃ β2, D_Tr s2 p o A m sm τ β2 ∧ ∀ d j, 0 ≤ d → 0 ≤ j → j ≤ 255 → (T_has β2 d j ↔ T_has β d j ∨ (d = c ∧ D_fd (T_has β c) 123 j))) r.1 s2 r.2.2) := by
  intro t
  induction t with
  | zero => intro i u h βu ht hs hd fr en hI hc; omega
  | succ t ih =>
    intro i u h βu ht hs hd fr en hI hc
    have zi : Zr i := ⟨by omega, by omega⟩
    refine Z_go (f2 := (4, [(2, .int (Zi i)), (0, .ref o), (1, .int (Zi c))], [.int (Zi i)])) (fun _ => rfl) ?_
    refine Z_go (f2 := (6, [(2, .int (Zi i)), (0, .ref o), (1, .int (Zi c))], [.int (Zi 122), .int (Zi i)])) (fun _ => rfl) ?_
    refine Z_cgt rfl rfl (by first | exact hs.zF _ _ | exact Zor_r _ _ | exact hs.zA _ _ | assumption | exact zA _ _ | exact zS _ | exact Zr_not (hs.zA _ _) | exact hs.1.1 _ _ | exact ⟨by omega, by omega⟩) (by first | exact hs.zF _ _ | exact Zor_r _ _ | exact hs.zA _ _ | assumption | exact zA _ _ | exact zS _ | exact Zr_not (hs.zA _ _) | exact hs.1.1 _ _ | exact ⟨by omega, by omega⟩) (fun c1 => ?_) (fun c1 => ?_)
    · refine Z_ret rfl rfl ⟨_, hs, ?_⟩
      try dsimp only
      have ei : i = 123 := by omega
      subst ei
      exact ⟨rfl, rfl, fr, en, βu, hd, hI⟩
    · refine Z_go (f2 := (10, [(2, .int (Zi i)), (0, .ref o), (1, .int (Zi c))], [.int (Zi i)])) (fun _ => rfl) ?_
      refine Z_go (f2 := (12, [(2, .int (Zi i)), (0, .ref o), (1, .int (Zi c))], [.int (Zi 97), .int (Zi i)])) (fun _ => rfl) ?_
      refine Z_isub rfl ?_
      refine Z_go (f2 := (15, [(2, .int (Zi i)), (0, .ref o), (1, .int (Zi c))], [.int (Zi 65), .int (Zi (i - 97))])) (fun _ => rfl) ?_
      refine Z_iadd rfl ?_
      refine Z_go (f2 := (17, [(3, .int (Zi (i - 97 + 65))), (2, .int (Zi i)), (0, .ref o), (1, .int (Zi c))], [])) (fun _ => rfl) ?_
      refine Z_go (f2 := (18, [(3, .int (Zi (i - 97 + 65))), (2, .int (Zi i)), (0, .ref o), (1, .int (Zi c))], [.ref o])) (fun _ => rfl) ?_
      refine Z_go (f2 := (19, [(3, .int (Zi (i - 97 + 65))), (2, .int (Zi i)), (0, .ref o), (1, .int (Zi c))], [.int (Zi c), .ref o])) (fun _ => rfl) ?_
      refine Z_go (f2 := (20, [(3, .int (Zi (i - 97 + 65))), (2, .int (Zi i)), (0, .ref o), (1, .int (Zi c))], [.int (Zi i), .int (Zi c), .ref o])) (fun _ => rfl) ?_
      refine C_callVR (As := [.int (Zi c), .int (Zi i)]) (rest := []) rfl (by decide) rfl (by decide) rfl rfl (by decide +kernel) (Nat.le_of_ble_eq_true rfl) hs (hd).1.1 (C_cont _ hd (c := c) (k := i) (by first | exact hs.zF _ _ | exact Zor_r _ _ | exact hs.zA _ _ | assumption | exact zA _ _ | exact zS _ | exact Zr_not (hs.zA _ _) | exact hs.1.1 _ _ | exact ⟨by omega, by omega⟩) (by omega) (by omega)) (fun x q => ?_)
      obtain ⟨ct118, rfl, hct118⟩ := q
      have zct118 : Zr ct118 := ⟨by omega, by omega⟩
      have hcy118 : ct118 ≠ 0 → T_has βu c i := fun e => by rcases hct118 with h | h; exact h.2; exact absurd h.1 e
      have hcn118 : ct118 = 0 → ¬ T_has βu c i := fun e => by rcases hct118 with h | h; exact absurd (h.1.symm.trans e) (by decide); exact h.2
      show B_R _ _ (23, [(3, .int (Zi (i - 97 + 65))), (2, .int (Zi i)), (0, .ref o), (1, .int (Zi c))], [.int (Zi ct118)]) _ _ _
      refine Z_ine rfl rfl (by first | exact hs.zF _ _ | exact Zor_r _ _ | exact hs.zA _ _ | assumption | exact zA _ _ | exact zS _ | exact Zr_not (hs.zA _ _) | exact hs.1.1 _ _ | exact ⟨by omega, by omega⟩) (fun c2 => ?_) (fun c2 => ?_)
      · refine Z_go (f2 := (36, [(3, .int (Zi (i - 97 + 65))), (2, .int (Zi i)), (0, .ref o), (1, .int (Zi c))], [.ref o])) (fun _ => rfl) ?_
        refine Z_go (f2 := (37, [(3, .int (Zi (i - 97 + 65))), (2, .int (Zi i)), (0, .ref o), (1, .int (Zi c))], [.int (Zi c), .ref o])) (fun _ => rfl) ?_
        refine Z_go (f2 := (38, [(3, .int (Zi (i - 97 + 65))), (2, .int (Zi i)), (0, .ref o), (1, .int (Zi c))], [.int (Zi i), .int (Zi c), .ref o])) (fun _ => rfl) ?_
        refine C_callV (As := [.int (Zi c), .int (Zi i)]) (rest := []) rfl (by decide) rfl (by decide) rfl rfl (by decide +kernel) (Nat.le_of_ble_eq_true rfl) hs (hd).1.1 (C_incl _ hd (c := c) (k := i) (by first | exact hs.zF _ _ | exact Zor_r _ _ | exact hs.zA _ _ | assumption | exact zA _ _ | exact zS _ | exact Zr_not (hs.zA _ _) | exact hs.1.1 _ _ | exact ⟨by omega, by omega⟩) (by omega) (by omega)) (fun x h v119 n119 hs q => ?_)
        obtain ⟨rfl, rfl, fr119, en119, β119, hd119, hb119⟩ := q
        show B_R _ _ (41, [(3, .int (Zi (i - 97 + 65))), (2, .int (Zi i)), (0, .ref o), (1, .int (Zi c))], []) _ _ _
        refine Z_go (f2 := (42, [(3, .int (Zi (i - 97 + 65))), (2, .int (Zi i)), (0, .ref o), (1, .int (Zi c))], [.ref o])) (fun _ => rfl) ?_
        refine Z_go (f2 := (43, [(3, .int (Zi (i - 97 + 65))), (2, .int (Zi i)), (0, .ref o), (1, .int (Zi c))], [.int (Zi c), .ref o])) (fun _ => rfl) ?_
        refine Z_go (f2 := (44, [(3, .int (Zi (i - 97 + 65))), (2, .int (Zi i)), (0, .ref o), (1, .int (Zi c))], [.int (Zi (i - 97 + 65)), .int (Zi c), .ref o])) (fun _ => rfl) ?_
        refine C_callV (As := [.int (Zi c), .int (Zi (i - 97 + 65))]) (rest := []) rfl (by decide) rfl (by decide) rfl rfl (by decide +kernel) (Nat.le_of_ble_eq_true rfl) hs (hd119).1.1 (C_incl _ hd119 (c := c) (k := i - 97 + 65) (by first | exact hs.zF _ _ | exact Zor_r _ _ | exact hs.zA _ _ | assumption | exact zA _ _ | exact zS _ | exact Zr_not (hs.zA _ _) | exact hs.1.1 _ _ | exact ⟨by omega, by omega⟩) (by omega) (by omega)) (fun x h v120 n120 hs q => ?_)
        obtain ⟨rfl, rfl, fr120, en120, β120, hd120, hb120⟩ := q
        show B_R _ _ (47, [(3, .int (Zi (i - 97 + 65))), (2, .int (Zi i)), (0, .ref o), (1, .int (Zi c))], []) _ _ _
        refine Z_iinc (L2 := [(2, .int (Zi (i + 1))), (3, .int (Zi (i - 97 + 65))), (0, .ref o), (1, .int (Zi c))]) rfl rfl (by decide) rfl ?_
        refine Z_go (f2 := (3, [(2, .int (Zi (i + 1))), (3, .int (Zi (i - 97 + 65))), (0, .ref o), (1, .int (Zi c))], [])) (fun _ => rfl) ?_
        refine B_loc (K := [(2, .int (Zi (i + 1))), (0, .ref o), (1, .int (Zi c))]) (N_all_sub ⟨rfl, rfl, rfl, trivial⟩) (show ([2, 0, 1] : List Nat).Nodup by decide) ?_
        refine ih (i + 1) v120 h β120 (by omega) hs hd120 ((fr.tr fr119).tr fr120) (by rw [en120, en119, en]) (fun d j d0 j0 j1 => ?_) (by omega)
        rw [hb120, hb119, hI d j d0 j0 j1]
        by_cases e : d = c
        · subst e
          have hk : T_has β d i ∨ T_has β d (i - 32) := by
            rcases (hI d i d0 (by omega) (by omega)).mp (hcy118 (by omega)) with h | h
            · exact .inl h
            · exact absurd h.2 (D_fd_no (by omega) (by omega) (.inl rfl))
          constructor
          · rintro (((h | h) | h) | h)
            · exact .inl h
            · exact .inr ⟨rfl, D_fd_up h.2⟩
            · exact .inr ⟨rfl, i, by omega, by omega, by omega, hk, .inl h.2.1⟩
            · exact .inr ⟨rfl, i, by omega, by omega, by omega, hk, .inr (by omega)⟩
          · rintro (h | h)
            · exact .inl (.inl (.inl h))
            · rcases D_fd_st h.2 with h | h
              · exact .inl (.inl (.inr ⟨rfl, h⟩))
              · rcases h.2 with h | h
                · exact .inl (.inr ⟨rfl, h, by omega, by omega, by omega⟩)
                · exact .inr ⟨rfl, by omega, by omega, by omega, by omega⟩
        · exact ⟨fun h => h.elim (fun h => h.elim (fun h => h.elim .inl (fun h => absurd h.1 e)) (fun h => absurd h.1 e)) (fun h => absurd h.1 e), fun h => h.elim (fun h => .inl (.inl (.inl h))) (fun h => absurd h.1 e)⟩
      · refine Z_go (f2 := (27, [(3, .int (Zi (i - 97 + 65))), (2, .int (Zi i)), (0, .ref o), (1, .int (Zi c))], [.ref o])) (fun _ => rfl) ?_
        refine Z_go (f2 := (28, [(3, .int (Zi (i - 97 + 65))), (2, .int (Zi i)), (0, .ref o), (1, .int (Zi c))], [.int (Zi c), .ref o])) (fun _ => rfl) ?_
        refine Z_go (f2 := (29, [(3, .int (Zi (i - 97 + 65))), (2, .int (Zi i)), (0, .ref o), (1, .int (Zi c))], [.int (Zi (i - 97 + 65)), .int (Zi c), .ref o])) (fun _ => rfl) ?_
        refine C_callVR (As := [.int (Zi c), .int (Zi (i - 97 + 65))]) (rest := []) rfl (by decide) rfl (by decide) rfl rfl (by decide +kernel) (Nat.le_of_ble_eq_true rfl) hs (hd).1.1 (C_cont _ hd (c := c) (k := i - 97 + 65) (by first | exact hs.zF _ _ | exact Zor_r _ _ | exact hs.zA _ _ | assumption | exact zA _ _ | exact zS _ | exact Zr_not (hs.zA _ _) | exact hs.1.1 _ _ | exact ⟨by omega, by omega⟩) (by omega) (by omega)) (fun x q => ?_)
        obtain ⟨ct121, rfl, hct121⟩ := q
        have zct121 : Zr ct121 := ⟨by omega, by omega⟩
        have hcy121 : ct121 ≠ 0 → T_has βu c (i - 97 + 65) := fun e => by rcases hct121 with h | h; exact h.2; exact absurd h.1 e
        have hcn121 : ct121 = 0 → ¬ T_has βu c (i - 97 + 65) := fun e => by rcases hct121 with h | h; exact absurd (h.1.symm.trans e) (by decide); exact h.2
        show B_R _ _ (32, [(3, .int (Zi (i - 97 + 65))), (2, .int (Zi i)), (0, .ref o), (1, .int (Zi c))], [.int (Zi ct121)]) _ _ _
        refine Z_ieq rfl rfl (by first | exact hs.zF _ _ | exact Zor_r _ _ | exact hs.zA _ _ | assumption | exact zA _ _ | exact zS _ | exact Zr_not (hs.zA _ _) | exact hs.1.1 _ _ | exact ⟨by omega, by omega⟩) (fun c3 => ?_) (fun c3 => ?_)
        · refine Z_iinc (L2 := [(2, .int (Zi (i + 1))), (3, .int (Zi (i - 97 + 65))), (0, .ref o), (1, .int (Zi c))]) rfl rfl (by decide) rfl ?_
          refine Z_go (f2 := (3, [(2, .int (Zi (i + 1))), (3, .int (Zi (i - 97 + 65))), (0, .ref o), (1, .int (Zi c))], [])) (fun _ => rfl) ?_
          refine B_loc (K := [(2, .int (Zi (i + 1))), (0, .ref o), (1, .int (Zi c))]) (N_all_sub ⟨rfl, rfl, rfl, trivial⟩) (show ([2, 0, 1] : List Nat).Nodup by decide) ?_
          refine ih (i + 1) u h βu (by omega) hs hd fr en (fun d j d0 j0 j1 => ?_) (by omega)
          rw [hI d j d0 j0 j1]
          constructor
          · rintro (h | h)
            · exact .inl h
            · exact .inr ⟨h.1, D_fd_up h.2⟩
          · rintro (h | h)
            · exact .inl h
            · rcases D_fd_st h.2 with h2 | h2
              · exact .inr ⟨h.1, h2⟩
              · exfalso
                have e := h.1
                subst e
                have n1 : ¬ T_has βu d i := hcn118 (by omega)
                have n2 : ¬ T_has βu d (i - 32) := by
                  rw [show i - 32 = i - 97 + 65 by omega]
                  exact hcn121 (by omega)
                rcases h2.1 with h3 | h3
                · exact n1 ((hI d i d0 (by omega) (by omega)).mpr (.inl h3))
                · exact n2 ((hI d (i - 32) d0 (by omega) (by omega)).mpr (.inl h3))
        · refine Z_go (f2 := (36, [(3, .int (Zi (i - 97 + 65))), (2, .int (Zi i)), (0, .ref o), (1, .int (Zi c))], [.ref o])) (fun _ => rfl) ?_
          refine Z_go (f2 := (37, [(3, .int (Zi (i - 97 + 65))), (2, .int (Zi i)), (0, .ref o), (1, .int (Zi c))], [.int (Zi c), .ref o])) (fun _ => rfl) ?_
          refine Z_go (f2 := (38, [(3, .int (Zi (i - 97 + 65))), (2, .int (Zi i)), (0, .ref o), (1, .int (Zi c))], [.int (Zi i), .int (Zi c), .ref o])) (fun _ => rfl) ?_
          refine C_callV (As := [.int (Zi c), .int (Zi i)]) (rest := []) rfl (by decide) rfl (by decide) rfl rfl (by decide +kernel) (Nat.le_of_ble_eq_true rfl) hs (hd).1.1 (C_incl _ hd (c := c) (k := i) (by first | exact hs.zF _ _ | exact Zor_r _ _ | exact hs.zA _ _ | assumption | exact zA _ _ | exact zS _ | exact Zr_not (hs.zA _ _) | exact hs.1.1 _ _ | exact ⟨by omega, by omega⟩) (by omega) (by omega)) (fun x h v122 n122 hs q => ?_)
          obtain ⟨rfl, rfl, fr122, en122, β122, hd122, hb122⟩ := q
          show B_R _ _ (41, [(3, .int (Zi (i - 97 + 65))), (2, .int (Zi i)), (0, .ref o), (1, .int (Zi c))], []) _ _ _
          refine Z_go (f2 := (42, [(3, .int (Zi (i - 97 + 65))), (2, .int (Zi i)), (0, .ref o), (1, .int (Zi c))], [.ref o])) (fun _ => rfl) ?_
          refine Z_go (f2 := (43, [(3, .int (Zi (i - 97 + 65))), (2, .int (Zi i)), (0, .ref o), (1, .int (Zi c))], [.int (Zi c), .ref o])) (fun _ => rfl) ?_
          refine Z_go (f2 := (44, [(3, .int (Zi (i - 97 + 65))), (2, .int (Zi i)), (0, .ref o), (1, .int (Zi c))], [.int (Zi (i - 97 + 65)), .int (Zi c), .ref o])) (fun _ => rfl) ?_
          refine C_callV (As := [.int (Zi c), .int (Zi (i - 97 + 65))]) (rest := []) rfl (by decide) rfl (by decide) rfl rfl (by decide +kernel) (Nat.le_of_ble_eq_true rfl) hs (hd122).1.1 (C_incl _ hd122 (c := c) (k := i - 97 + 65) (by first | exact hs.zF _ _ | exact Zor_r _ _ | exact hs.zA _ _ | assumption | exact zA _ _ | exact zS _ | exact Zr_not (hs.zA _ _) | exact hs.1.1 _ _ | exact ⟨by omega, by omega⟩) (by omega) (by omega)) (fun x h v123 n123 hs q => ?_)
          obtain ⟨rfl, rfl, fr123, en123, β123, hd123, hb123⟩ := q
          show B_R _ _ (47, [(3, .int (Zi (i - 97 + 65))), (2, .int (Zi i)), (0, .ref o), (1, .int (Zi c))], []) _ _ _
          refine Z_iinc (L2 := [(2, .int (Zi (i + 1))), (3, .int (Zi (i - 97 + 65))), (0, .ref o), (1, .int (Zi c))]) rfl rfl (by decide) rfl ?_
          refine Z_go (f2 := (3, [(2, .int (Zi (i + 1))), (3, .int (Zi (i - 97 + 65))), (0, .ref o), (1, .int (Zi c))], [])) (fun _ => rfl) ?_
          refine B_loc (K := [(2, .int (Zi (i + 1))), (0, .ref o), (1, .int (Zi c))]) (N_all_sub ⟨rfl, rfl, rfl, trivial⟩) (show ([2, 0, 1] : List Nat).Nodup by decide) ?_
          refine ih (i + 1) v123 h β123 (by omega) hs hd123 ((fr.tr fr122).tr fr123) (by rw [en123, en122, en]) (fun d j d0 j0 j1 => ?_) (by omega)
          rw [hb123, hb122, hI d j d0 j0 j1]
          by_cases e : d = c
          · subst e
            have hk : T_has β d i ∨ T_has β d (i - 32) := by
              have a2 : T_has βu d (i - 32) := by
                rw [show i - 32 = i - 97 + 65 by omega]
                exact hcy121 (by omega)
              rcases (hI d (i - 32) d0 (by omega) (by omega)).mp a2 with h | h
              · exact .inr h
              · exact absurd h.2 (D_fd_no (by omega) (by omega) (.inr rfl))
            constructor
            · rintro (((h | h) | h) | h)
              · exact .inl h
              · exact .inr ⟨rfl, D_fd_up h.2⟩
              · exact .inr ⟨rfl, i, by omega, by omega, by omega, hk, .inl h.2.1⟩
              · exact .inr ⟨rfl, i, by omega, by omega, by omega, hk, .inr (by omega)⟩
            · rintro (h | h)
              · exact .inl (.inl (.inl h))
              · rcases D_fd_st h.2 with h | h
                · exact .inl (.inl (.inr ⟨rfl, h⟩))
                · rcases h.2 with h | h
                  · exact .inl (.inr ⟨rfl, h, by omega, by omega, by omega⟩)
                  · exact .inr ⟨rfl, by omega, by omega, by omega, by omega⟩
          · exact ⟨fun h => h.elim (fun h => h.elim (fun h => h.elim .inl (fun h => absurd h.1 e)) (fun h => absurd h.1 e)) (fun h => absurd h.1 e), fun h => h.elim (fun h => .inl (.inl (.inl h))) (fun h => absurd h.1 e)⟩
theorem C_foldL (d : Nat) {s : C_S} {p : List Nat} {o : Nat} {A : Nat → Nat} {m sm : Int} {τ : Nat → Int → Int} {β : Int → Int64} {c : Int} (hd : D_Tr s p o A m sm τ β) (c0 : -1 ≤ c) (c1 : c < 80) : C_ok (d + 4) 141 [.ref o, .int (Zi c)] s (fun x s2 n => x = none ∧ n = 0 ∧ C_fr (fun t => t = p) s s2 ∧ C_n s2 = C_n s ∧ ∃ β2, D_Tr s2 p o A m sm τ β2 ∧ ∀ d j, 0 ≤ d → 0 ≤ j → j ≤ 255 → (T_has β2 d j ↔ T_has β d j ∨ (d = c ∧ D_fd (T_has β c) 123 j))) := by
  refine C_enter (M := E_m141) rfl (Nat.le_of_ble_eq_true rfl) (fun h0 h hs => ?_)
  show B_R (d + 3) _ (0, [(0, .ref o), (1, .int (Zi c))], []) _ _ _
  have hd0 := hd
  refine Z_go (f2 := (2, [(0, .ref o), (1, .int (Zi c))], [.int (Zi 97)])) (fun _ => rfl) ?_
  refine Z_go (f2 := (3, [(2, .int (Zi 97)), (0, .ref o), (1, .int (Zi c))], [])) (fun _ => rfl) ?_
  refine B_loc (K := [(2, .int (Zi 97)), (0, .ref o), (1, .int (Zi c))]) (N_all_sub ⟨rfl, rfl, rfl, trivial⟩) (show ([2, 0, 1] : List Nat).Nodup by decide) ?_
  exact C_foldL_lp hd0 c0 c1 30 97 s h β (by omega) hs hd (C_fr.refl _ _) rfl (fun d j d0 j0 j1 => ⟨.inl, fun h => h.elim id (fun h => by obtain ⟨_, l, a1, a2, a3, _⟩ := h; omega)⟩) (by omega)
theorem C_inv_lp {dd : Nat} {h0 : E_H} {s : C_S} {p : List Nat} {o : Nat} {A : Nat → Nat} {m sm : Int} {τ : Nat → Int → Int} {β : Int → Int64} {c : Int} (hd00 : D_Tr s p o A m sm τ β) (c0 : -1 ≤ c) (c1 : c < 80) : ∀ (t : Nat) (i : Int) (u : C_S) (h : E_H) (βu : Int → Int64), 256 - i < t → C_is h0 h u → D_Tr u p o A m sm τ βu → C_fr (fun t => t = p) s u → C_n u = C_n s → (∀ d j, 0 ≤ d → 0 ≤ j → j ≤ 255 → (T_has βu d j ↔ (d = c ∧ j < i ∧ ¬ T_has β d j ∨ ¬ (d = c ∧ j < i) ∧ T_has β d j))) → (i = 0 ∨ i = 64 ∨ i = 128 ∨ i = 192 ∨ i = 256) → B_R (dd + 1) E_m142 (2, [(2, .int (Zi i)), (0, .ref o), (1, .int (Zi c))], []) h 0 (fun r => ∃ s2 : C_S, C_is h0 r.2.1 s2 ∧ (fun (x : Option Value) (s2 : C_S) (n : Nat) => x = none ∧ n = 0 ∧ C_fr (fun t => t = p) s s2 ∧ C_n s2 = C_n s ∧ ∃ β2, D_Tr s2 p o A m sm τ β2 ∧ ∀ d j, 0 ≤ d → 0 ≤ j → j ≤ 255 → (T_has β2 d j ↔ (d = c ∧ ¬ T_has β d j ∨ ¬ d = c ∧ T_has β d j))) r.1 s2 r.2.2) := by
  intro t
  induction t with
  | zero => intro i u h βu ht hs hd fr en hI hc; omega
  | succ t ih =>
    intro i u h βu ht hs hd fr en hI hc
    have zi : Zr i := ⟨by omega, by omega⟩
    refine Z_go (f2 := (3, [(2, .int (Zi i)), (0, .ref o), (1, .int (Zi c))], [.int (Zi i)])) (fun _ => rfl) ?_
    refine Z_go (f2 := (6, [(2, .int (Zi i)), (0, .ref o), (1, .int (Zi c))], [.int (Zi 256), .int (Zi i)])) (fun _ => rfl) ?_
    refine Z_cge rfl rfl (by first | exact hs.zF _ _ | exact Zor_r _ _ | exact hs.zA _ _ | assumption | exact zA _ _ | exact zS _ | exact Zr_not (hs.zA _ _) | exact hs.1.1 _ _ | exact ⟨by omega, by omega⟩) (by first | exact hs.zF _ _ | exact Zor_r _ _ | exact hs.zA _ _ | assumption | exact zA _ _ | exact zS _ | exact Zr_not (hs.zA _ _) | exact hs.1.1 _ _ | exact ⟨by omega, by omega⟩) (fun c1 => ?_) (fun c1 => ?_)
    · refine Z_ret rfl rfl ⟨_, hs, ?_⟩
      try dsimp only
      have ei : i = 256 := by omega
      subst ei
      exact ⟨rfl, rfl, fr, en, βu, hd, fun d j d0 j0 j1 => (hI d j d0 j0 j1).trans ⟨fun h => h.imp (fun h => ⟨h.1, h.2.2⟩) (fun h => ⟨fun e => h.1 ⟨e, by omega⟩, h.2⟩), fun h => h.imp (fun h => ⟨h.1, by omega, h.2⟩) (fun h => ⟨fun e => h.1 e.1, h.2⟩)⟩⟩
    · refine Z_go (f2 := (10, [(2, .int (Zi i)), (0, .ref o), (1, .int (Zi c))], [.ref o])) (fun _ => rfl) ?_
      refine Z_go (f2 := (11, [(2, .int (Zi i)), (0, .ref o), (1, .int (Zi c))], [.int (Zi c), .ref o])) (fun _ => rfl) ?_
      refine Z_go (f2 := (12, [(2, .int (Zi i)), (0, .ref o), (1, .int (Zi c))], [.int (Zi i), .int (Zi c), .ref o])) (fun _ => rfl) ?_
      refine C_callVR (As := [.int (Zi c), .int (Zi i)]) (rest := []) rfl (by decide) rfl (by decide) rfl rfl (by decide +kernel) (Nat.le_of_ble_eq_true rfl) hs (hd).1.1 (C_word _ hd (c := c) (k := i) (by first | exact hs.zF _ _ | exact Zor_r _ _ | exact hs.zA _ _ | assumption | exact zA _ _ | exact zS _ | exact Zr_not (hs.zA _ _) | exact hs.1.1 _ _ | exact ⟨by omega, by omega⟩) (by omega) (by omega)) (fun x q => ?_)
      obtain ⟨wd124, ewd124⟩ : ∃ z : Int, z = T_wd c i := ⟨_, rfl⟩
      rw [← ewd124] at q
      obtain rfl := q
      have hwd124 : (0 ≤ c ∧ 0 ≤ i ∧ i ≤ 255) ∧ wd124 = 4 * c + i / 64 ∨ ¬ (0 ≤ c ∧ 0 ≤ i ∧ i ≤ 255) ∧ wd124 = -1 := by rw [ewd124]; unfold T_wd; split; exact .inl ⟨by assumption, rfl⟩; exact .inr ⟨by assumption, rfl⟩
      have zwd124 : Zr wd124 := ⟨by omega, by omega⟩
      show B_R _ _ (15, [(2, .int (Zi i)), (0, .ref o), (1, .int (Zi c))], [.int (Zi wd124)]) _ _ _
      refine Z_go (f2 := (16, [(3, .int (Zi wd124)), (2, .int (Zi i)), (0, .ref o), (1, .int (Zi c))], [])) (fun _ => rfl) ?_
      refine Z_go (f2 := (17, [(3, .int (Zi wd124)), (2, .int (Zi i)), (0, .ref o), (1, .int (Zi c))], [.int (Zi wd124)])) (fun _ => rfl) ?_
      refine Z_go (f2 := (18, [(3, .int (Zi wd124)), (2, .int (Zi i)), (0, .ref o), (1, .int (Zi c))], [.int (Zi (-1)), .int (Zi wd124)])) (fun _ => rfl) ?_
      refine Z_ceq rfl rfl (by first | exact hs.zF _ _ | exact Zor_r _ _ | exact hs.zA _ _ | assumption | exact zA _ _ | exact zS _ | exact Zr_not (hs.zA _ _) | exact hs.1.1 _ _ | exact ⟨by omega, by omega⟩) (by first | exact hs.zF _ _ | exact Zor_r _ _ | exact hs.zA _ _ | assumption | exact zA _ _ | exact zS _ | exact Zr_not (hs.zA _ _) | exact hs.1.1 _ _ | exact ⟨by omega, by omega⟩) (fun c2 => ?_) (fun c2 => ?_)
      · refine Z_iinc (L2 := [(2, .int (Zi (i + 64))), (3, .int (Zi wd124)), (0, .ref o), (1, .int (Zi c))]) rfl rfl (by decide) rfl ?_
        refine Z_go (f2 := (2, [(2, .int (Zi (i + 64))), (3, .int (Zi wd124)), (0, .ref o), (1, .int (Zi c))], [])) (fun _ => rfl) ?_
        refine B_loc (K := [(2, .int (Zi (i + 64))), (0, .ref o), (1, .int (Zi c))]) (N_all_sub ⟨rfl, rfl, rfl, trivial⟩) (show ([2, 0, 1] : List Nat).Nodup by decide) ?_
        refine ih (i + 64) u h βu (by omega) hs hd fr en (fun d j d0 j0 j1 => ?_) (by omega)
        rw [hI d j d0 j0 j1]
        have : d ≠ c := by omega
        exact ⟨fun h => h.elim (fun h => absurd h.1 this) (fun h => .inr ⟨fun e => this e.1, h.2⟩), fun h => h.elim (fun h => absurd h.1 this) (fun h => .inr ⟨fun e => this e.1, h.2⟩)⟩
      · refine Z_go (f2 := (22, [(3, .int (Zi wd124)), (2, .int (Zi i)), (0, .ref o), (1, .int (Zi c))], [.ref o])) (fun _ => rfl) ?_
        refine C_gr rfl hs (hd).1.1 (by decide) (Nat.le_of_ble_eq_true rfl) rfl ((hd).2.1 9 (by decide)).1 ?_
        refine Z_go (f2 := (26, [(3, .int (Zi wd124)), (2, .int (Zi i)), (0, .ref o), (1, .int (Zi c))], [.int (Zi wd124), .ref (A 9)])) (fun _ => rfl) ?_
        refine Z_go (f2 := (27, [(3, .int (Zi wd124)), (2, .int (Zi i)), (0, .ref o), (1, .int (Zi c))], [.ref o, .int (Zi wd124), .ref (A 9)])) (fun _ => rfl) ?_
        refine C_gr rfl hs (hd).1.1 (by decide) (Nat.le_of_ble_eq_true rfl) rfl ((hd).2.1 9 (by decide)).1 ?_
        refine Z_go (f2 := (31, [(3, .int (Zi wd124)), (2, .int (Zi i)), (0, .ref o), (1, .int (Zi c))], [.int (Zi wd124), .ref (A 9), .int (Zi wd124), .ref (A 9)])) (fun _ => rfl) ?_
        refine C_la rfl hs ((hd).2.1 9 (by decide)).2.2 (by omega) (by omega) ?_
        show B_R _ _ (32, [(3, .int (Zi wd124)), (2, .int (Zi i)), (0, .ref o), (1, .int (Zi c))], [.long (C_L u (A 9) wd124), .int (Zi wd124), .ref (A 9)]) _ _ _
        refine Z_go (f2 := (35, [(3, .int (Zi wd124)), (2, .int (Zi i)), (0, .ref o), (1, .int (Zi c))], [.long (-1), .long (C_L u (A 9) wd124), .int (Zi wd124), .ref (A 9)])) (fun _ => rfl) ?_
        refine Z_go (f2 := (36, [(3, .int (Zi wd124)), (2, .int (Zi i)), (0, .ref o), (1, .int (Zi c))], [.long ((C_L u (A 9) wd124) ^^^ (-1)), .int (Zi wd124), .ref (A 9)])) (fun _ => rfl) ?_
        refine C_ls rfl hs ((hd).2.1 9 (by decide)).2.2 (by omega) (by omega) (fun h hs => ?_)
        refine Z_iinc (L2 := [(2, .int (Zi (i + 64))), (3, .int (Zi wd124)), (0, .ref o), (1, .int (Zi c))]) rfl rfl (by decide) rfl ?_
        refine Z_go (f2 := (2, [(2, .int (Zi (i + 64))), (3, .int (Zi wd124)), (0, .ref o), (1, .int (Zi c))], [])) (fun _ => rfl) ?_
        have hw : wd124 = 4 * c + i / 64 := by omega
        refine B_loc (K := [(2, .int (Zi (i + 64))), (0, .ref o), (1, .int (Zi c))]) (N_all_sub ⟨rfl, rfl, rfl, trivial⟩) (show ([2, 0, 1] : List Nat).Nodup by decide) ?_
        refine ih (i + 64) _ h _ (by omega) hs (hd.setb _ _) (fr.sL (hd.2.1 9 (by decide)).2.1) en (fun d j d0 j0 j1 => ?_) (by omega)
        rw [hd.2.2.2.2, hw]
        have hj := hI d j d0 j0 j1
        by_cases e : d = c ∧ i ≤ j ∧ j < i + 64
        · have e1 : T_has (fun j => if j = 4 * c + i / 64 then βu (4 * c + i / 64) ^^^ (-1) else βu j) d j ↔ ¬ T_has βu d j := by
            unfold T_has
            have e9 : 4 * d + j / 64 = 4 * c + i / 64 := by omega
            dsimp only
            rw [if_pos e9, T_bit_not (by omega), e9]
            exact ⟨fun h h2 => h.2.2.2 h2.2.2.2, fun h => ⟨d0, j0, j1, fun h2 => h ⟨d0, j0, j1, h2⟩⟩⟩
          rw [e1, hj]
          constructor
          · intro h
            by_cases e2 : T_has β d j
            · exact absurd (.inr ⟨by omega, e2⟩) h
            · exact .inl ⟨e.1, by omega, e2⟩
          · rintro (h | h) (h2 | h2)
            · omega
            · exact h.2.2 h2.2
            · omega
            · exact h.1 ⟨e.1, by omega⟩
        · have e1 : T_has (fun j => if j = 4 * c + i / 64 then βu (4 * c + i / 64) ^^^ (-1) else βu j) d j ↔ T_has βu d j := by
            unfold T_has
            dsimp only
            rw [if_neg (by omega)]
          rw [e1, hj]
          constructor
          · rintro (h | h)
            · exact .inl ⟨h.1, by omega, h.2.2⟩
            · exact .inr ⟨fun e2 => h.1 ⟨e2.1, by omega⟩, h.2⟩
          · rintro (h | h)
            · exact .inl ⟨h.1, by omega, h.2.2⟩
            · exact .inr ⟨fun e2 => h.1 ⟨e2.1, by omega⟩, h.2⟩
theorem C_inv (d : Nat) {s : C_S} {p : List Nat} {o : Nat} {A : Nat → Nat} {m sm : Int} {τ : Nat → Int → Int} {β : Int → Int64} {c : Int} (hd : D_Tr s p o A m sm τ β) (c0 : -1 ≤ c) (c1 : c < 80) : C_ok (d + 2) 142 [.ref o, .int (Zi c)] s (fun x s2 n => x = none ∧ n = 0 ∧ C_fr (fun t => t = p) s s2 ∧ C_n s2 = C_n s ∧ ∃ β2, D_Tr s2 p o A m sm τ β2 ∧ ∀ d j, 0 ≤ d → 0 ≤ j → j ≤ 255 → (T_has β2 d j ↔ (d = c ∧ ¬ T_has β d j ∨ ¬ d = c ∧ T_has β d j))) := by
  refine C_enter (M := E_m142) rfl (Nat.le_of_ble_eq_true rfl) (fun h0 h hs => ?_)
  show B_R (d + 1) _ (0, [(0, .ref o), (1, .int (Zi c))], []) _ _ _
  have hd0 := hd
  refine Z_go (f2 := (1, [(0, .ref o), (1, .int (Zi c))], [.int (Zi 0)])) (fun _ => rfl) ?_
  refine Z_go (f2 := (2, [(2, .int (Zi 0)), (0, .ref o), (1, .int (Zi c))], [])) (fun _ => rfl) ?_
  refine B_loc (K := [(2, .int (Zi 0)), (0, .ref o), (1, .int (Zi c))]) (N_all_sub ⟨rfl, rfl, rfl, trivial⟩) (show ([2, 0, 1] : List Nat).Nodup by decide) ?_
  exact C_inv_lp hd0 c0 c1 258 0 s h β (by omega) hs hd (C_fr.refl _ _) rfl (fun d j d0 j0 j1 => ⟨fun h => .inr ⟨by omega, h⟩, fun h => h.elim (fun h => by omega) (fun h => h.2)⟩) (by omega)
