/-! the reference: openOnly, may -/
theorem R_openOnly (d : Nat) (s : R_S) {z : Int} (zz : Zr z) (z0 : 0 ≤ z) (z1 : z < 44) {v : P_V} (hv : R_V s z v) : R_ok (d + 7) 246 [.int (Zi z)] s (fun x s2 => x = none ∧ R_V s2 z (V_open v) ∧ R_vk s s2 (fun e => e = z)) := by
  refine R_enter (M := E_m246) rfl (Nat.le_of_ble_eq_true rfl) (fun h0 h hs => ?_)
  show B_R (d + 6) _ (0, [(0, .ref 83), (1, .int (Zi z))], []) _ _ _
  refine Z_go (f2 := (1, [(0, .ref 83), (1, .int (Zi z))], [.ref 83])) (fun _ => rfl) ?_
  refine Z_go (f2 := (2, [(0, .ref 83), (1, .int (Zi z))], [.int (Zi z), .ref 83])) (fun _ => rfl) ?_
  refine R_call (As := [.int (Zi z)]) (rest := []) rfl (by decide) rfl rfl rfl rfl (by decide +kernel) (Nat.le_of_ble_eq_true rfl) hs (R_opens _ s zz z0 z1 hv) (fun x h u hs q => ?_)
  obtain ⟨rfl, op, k⟩ := q
  show B_R _ _ (5, [(0, .ref 83), (1, .int (Zi z))], []) _ _ _
  refine Z_go (f2 := (6, [(0, .ref 83), (1, .int (Zi z))], [.ref 83])) (fun _ => rfl) ?_
  refine R_gr (q := 94) rfl hs rfl ?_
  show B_R _ _ (9, [(0, .ref 83), (1, .int (Zi z))], [.ref 96]) _ _ _
  refine Z_go (f2 := (10, [(0, .ref 83), (1, .int (Zi z))], [.int (Zi z), .ref 96])) (fun _ => rfl) ?_
  refine Z_go (f2 := (11, [(0, .ref 83), (1, .int (Zi z))], [.int (Zi 0), .int (Zi z), .ref 96])) (fun _ => rfl) ?_
  refine R_bs (q := 12) rfl hs rfl rfl (by omega) (by omega) (by decide) (by first | exact .inl rfl | exact .inr rfl | assumption) (fun h hs => ?_)
  refine Z_ret rfl rfl ⟨_, hs, ?_, rfl⟩
  have en : ∀ q j, q ≠ 96 → (R_sA u 96 z 0).2.1 q j = u.2.1 q j := fun q j hq => R_sA_n _ _ _ _ hq
  exact ⟨rfl, ⟨R_sA_s _ _ _ _, R_EN_at (en _ _ (by decide)) (fun j _ _ => en _ _ (by decide)) op.2.1, R_EN_at (en _ _ (by decide)) (fun j _ _ => en _ _ (by decide)) op.2.2.1, R_CC_at (en _ _ (by decide)) (fun t _ _ => en _ _ (by decide)) (fun t _ _ i _ _ => en _ _ (by decide)) op.2.2.2⟩, k.st (q := 96) (by decide) (by decide) (Int.ediv_one z)⟩
theorem R_may (d : Nat) (s : R_S) {z : Int} (zz : Zr z) (z0 : 0 ≤ z) (z1 : z < 40) {v : P_V} (hv : R_V s z v) : R_ok (d + 8) 247 [.int (Zi z)] s (fun x s2 => x = none ∧ R_V s2 z (V_may v) ∧ R_vk s s2 (fun e => e = z ∨ e = 40 ∨ e = 41 ∨ e = 42 ∨ e = 43)) := by
  refine R_enter (M := E_m247) rfl (Nat.le_of_ble_eq_true rfl) (fun h0 h hs => ?_)
  show B_R (d + 7) _ (0, [(0, .ref 83), (1, .int (Zi z))], []) _ _ _
  refine Z_go (f2 := (1, [(0, .ref 83), (1, .int (Zi z))], [.ref 83])) (fun _ => rfl) ?_
  refine Z_go (f2 := (3, [(0, .ref 83), (1, .int (Zi z))], [.int (Zi 43), .ref 83])) (fun _ => rfl) ?_
  refine R_call (As := [.int (Zi 43)]) (rest := []) rfl (by decide) rfl rfl rfl rfl (by decide +kernel) (Nat.le_of_ble_eq_true rfl) hs (R_empties _ s ⟨by omega, by omega⟩ (by omega) (by omega)) (fun x h u hs q => ?_)
  obtain ⟨rfl, e1, k⟩ := q
  have hv2 := R_V_vk k (by omega) hv
  show B_R _ _ (6, [(0, .ref 83), (1, .int (Zi z))], []) _ _ _
  refine Z_go (f2 := (7, [(0, .ref 83), (1, .int (Zi z))], [.ref 83])) (fun _ => rfl) ?_
  refine Z_go (f2 := (8, [(0, .ref 83), (1, .int (Zi z))], [.int (Zi z), .ref 83])) (fun _ => rfl) ?_
  refine Z_go (f2 := (10, [(0, .ref 83), (1, .int (Zi z))], [.int (Zi 43), .int (Zi z), .ref 83])) (fun _ => rfl) ?_
  refine R_call (As := [.int (Zi z), .int (Zi 43)]) (rest := []) rfl (by decide) rfl rfl rfl rfl (by decide +kernel) (Nat.le_of_ble_eq_true rfl) hs (R_or _ u zz ⟨by omega, by omega⟩ z0 z1 (by omega) (by omega) (by omega) (by omega) hv2 e1) (fun x h w hs q => ?_)
  obtain ⟨rfl, c1, c2⟩ := q
  show B_R _ _ (13, [(0, .ref 83), (1, .int (Zi z))], []) _ _ _
  refine Z_ret rfl rfl ⟨_, hs, ?_, rfl⟩
  exact ⟨rfl, c1, k.trans c2 (fun e h => .inr (.inr (.inr (.inr h)))) (fun e h => by rcases h with h | h | h | h | h; exact .inl h; exact .inr (.inr (.inr (.inr h))); exact .inr (.inl h); exact .inr (.inr (.inl h)); exact .inr (.inr (.inr (.inl h))))⟩
