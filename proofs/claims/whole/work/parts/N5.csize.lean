/-! the class: GramFinder: size, byteAt -/
theorem C_size (d : Nat) {s : C_S} {g tb sh pa pl ma re : Nat} {m : Int} {p : List Nat} {ea u v : Nat} {fs : Int → Option (List Int)} {ca th tg : Int} {f : Int} (hg : D_G s g tb sh pa pl ma re m) (hd : D_Sh s p sh ea u v fs ca th tg) (zf : Zr f) : C_rd (d + 3) 150 [.ref g, .int (Zi f)] s (fun x => ∃ z : Int, x = some (.int (Zi z)) ∧ ((∃ X, D_isf fs ca f X ∧ z = X.length) ∨ (∀ X, ¬ D_isf fs ca f X) ∧ z = -1)) := by
  refine C_enterR (M := E_m150) rfl (Nat.le_of_ble_eq_true rfl) (fun h0 h hs => ?_)
  show B_R (d + 2) _ (0, [(0, .ref g), (1, .int (Zi f))], []) _ _ _
  have w := hs.1
  obtain ⟨gk, gt, g0, tk, tt, g2, g3, g4, g5, g6, gm, m0, m1⟩ := id hg
  rcases hd.one f with ⟨e, ba, g9, a, cap, X, hi, hq, ⟨he1, he2, he3, he4, he5, he6, he7, he8, he9⟩, hx, hcap⟩ | ⟨hn, hno⟩
  · refine Z_go (f2 := (1, [(0, .ref g), (1, .int (Zi f))], [.ref g])) (fun _ => rfl) ?_
    refine C_gr rfl hs gk (by decide) (Nat.le_of_ble_eq_true rfl) rfl g2 ?_
    refine Z_go (f2 := (5, [(0, .ref g), (1, .int (Zi f))], [.int (Zi f), .ref sh])) (fun _ => rfl) ?_
    refine C_callVR (As := [.int (Zi f)]) (rest := []) rfl (by decide) rfl (by decide) rfl rfl (by decide +kernel) (Nat.le_of_ble_eq_true rfl) hs hd.1.1 (C_find1 _ hd hi.1 hi.2.1 hq) (fun x q => ?_)
    obtain rfl := q
    show B_R _ _ (8, [(0, .ref g), (1, .int (Zi f))], [.ref e]) _ _ _
    refine Z_go (f2 := (9, [(2, .ref e), (0, .ref g), (1, .int (Zi f))], [])) (fun _ => rfl) ?_
    refine Z_go (f2 := (10, [(2, .ref e), (0, .ref g), (1, .int (Zi f))], [.ref e])) (fun _ => rfl) ?_
    refine Z_go (f2 := (17, [(2, .ref e), (0, .ref g), (1, .int (Zi f))], [])) (fun _ => rfl) ?_
    refine Z_go (f2 := (18, [(2, .ref e), (0, .ref g), (1, .int (Zi f))], [.ref e])) (fun _ => rfl) ?_
    refine C_gr rfl hs he1 (by decide) (Nat.le_of_ble_eq_true rfl) rfl he3 ?_
    refine C_al rfl hs he5 (by decide) ?_
    show B_R _ _ (22, [(2, .ref e), (0, .ref g), (1, .int (Zi f))], [.int (Zi ((X.length : Int)))]) _ _ _
    refine Z_iret rfl rfl (by first | rfl | decide | exact narrow_b01 (by omega)) ⟨rfl, rfl, ?_⟩
    try dsimp only
    exact ⟨_, rfl, .inl ⟨X, hi, rfl⟩⟩
  · refine Z_go (f2 := (1, [(0, .ref g), (1, .int (Zi f))], [.ref g])) (fun _ => rfl) ?_
    refine C_gr rfl hs gk (by decide) (Nat.le_of_ble_eq_true rfl) rfl g2 ?_
    refine Z_go (f2 := (5, [(0, .ref g), (1, .int (Zi f))], [.int (Zi f), .ref sh])) (fun _ => rfl) ?_
    refine C_callVR (As := [.int (Zi f)]) (rest := []) rfl (by decide) rfl (by decide) rfl rfl (by decide +kernel) (Nat.le_of_ble_eq_true rfl) hs hd.1.1 (C_find0 _ hd hn zf) (fun x q => ?_)
    obtain rfl := q
    show B_R _ _ (8, [(0, .ref g), (1, .int (Zi f))], [.null]) _ _ _
    refine Z_go (f2 := (9, [(2, .null), (0, .ref g), (1, .int (Zi f))], [])) (fun _ => rfl) ?_
    refine Z_go (f2 := (10, [(2, .null), (0, .ref g), (1, .int (Zi f))], [.null])) (fun _ => rfl) ?_
    refine Z_go (f2 := (13, [(2, .null), (0, .ref g), (1, .int (Zi f))], [])) (fun _ => rfl) ?_
    refine Z_go (f2 := (14, [(2, .null), (0, .ref g), (1, .int (Zi f))], [.int (Zi (-1))])) (fun _ => rfl) ?_
    refine Z_go (f2 := (22, [(2, .null), (0, .ref g), (1, .int (Zi f))], [.int (Zi (-1))])) (fun _ => rfl) ?_
    refine Z_iret rfl rfl (by first | rfl | decide | exact narrow_b01 (by omega)) ⟨rfl, rfl, ?_⟩
    try dsimp only
    exact ⟨_, rfl, .inr ⟨hno, rfl⟩⟩
theorem C_byteAt (d : Nat) {s : C_S} {g tb sh pa pl ma re : Nat} {m : Int} {p : List Nat} {ea u v : Nat} {fs : Int → Option (List Int)} {ca th tg : Int} {f i : Int} (hg : D_G s g tb sh pa pl ma re m) (hd : D_Sh s p sh ea u v fs ca th tg) (zf : Zr f) (zi : Zr i) : C_rd (d + 3) 151 [.ref g, .int (Zi f), .int (Zi i)] s (fun x => ∃ z : Int, x = some (.int (Zi z)) ∧ ((∃ X, D_isf fs ca f X ∧ z = L_at X i) ∨ (∀ X, ¬ D_isf fs ca f X) ∧ z = -1)) := by
  refine C_enterR (M := E_m151) rfl (Nat.le_of_ble_eq_true rfl) (fun h0 h hs => ?_)
  show B_R (d + 2) _ (0, [(0, .ref g), (1, .int (Zi f)), (2, .int (Zi i))], []) _ _ _
  have w := hs.1
  obtain ⟨gk, gt, g0, tk, tt, g2, g3, g4, g5, g6, gm, m0, m1⟩ := id hg
  rcases hd.one f with ⟨e, ba, g9, a, cap, X, hi, hq, ⟨he1, he2, he3, he4, he5, he6, he7, he8, he9⟩, hx, hcap⟩ | ⟨hn, hno⟩
  · refine Z_go (f2 := (1, [(0, .ref g), (1, .int (Zi f)), (2, .int (Zi i))], [.ref g])) (fun _ => rfl) ?_
    refine C_gr rfl hs gk (by decide) (Nat.le_of_ble_eq_true rfl) rfl g2 ?_
    refine Z_go (f2 := (5, [(0, .ref g), (1, .int (Zi f)), (2, .int (Zi i))], [.int (Zi f), .ref sh])) (fun _ => rfl) ?_
    refine C_callVR (As := [.int (Zi f)]) (rest := []) rfl (by decide) rfl (by decide) rfl rfl (by decide +kernel) (Nat.le_of_ble_eq_true rfl) hs hd.1.1 (C_find1 _ hd hi.1 hi.2.1 hq) (fun x q => ?_)
    obtain rfl := q
    show B_R _ _ (8, [(0, .ref g), (1, .int (Zi f)), (2, .int (Zi i))], [.ref e]) _ _ _
    refine Z_go (f2 := (9, [(3, .ref e), (0, .ref g), (1, .int (Zi f)), (2, .int (Zi i))], [])) (fun _ => rfl) ?_
    refine Z_go (f2 := (10, [(3, .ref e), (0, .ref g), (1, .int (Zi f)), (2, .int (Zi i))], [.ref e])) (fun _ => rfl) ?_
    refine Z_go (f2 := (17, [(3, .ref e), (0, .ref g), (1, .int (Zi f)), (2, .int (Zi i))], [])) (fun _ => rfl) ?_
    refine Z_go (f2 := (18, [(3, .ref e), (0, .ref g), (1, .int (Zi f)), (2, .int (Zi i))], [.ref e])) (fun _ => rfl) ?_
    refine C_gr rfl hs he1 (by decide) (Nat.le_of_ble_eq_true rfl) rfl he3 ?_
    refine Z_go (f2 := (22, [(3, .ref e), (0, .ref g), (1, .int (Zi f)), (2, .int (Zi i))], [.int (Zi i), .ref ba])) (fun _ => rfl) ?_
    refine C_callSR (vs := [.ref ba, .int (Zi i)]) (rest := []) rfl (by decide) rfl rfl rfl (Nat.le_of_ble_eq_true rfl) hs (C_byteOf _ he5 (i := i) zi) (fun x q => ?_)
    obtain rfl := q
    show B_R _ _ (25, [(3, .ref e), (0, .ref g), (1, .int (Zi f)), (2, .int (Zi i))], [.int (Zi (if 0 ≤ i ∧ i < (X.length : Nat) then C_A s ba i % 256 else -1))]) _ _ _
    refine Z_iret rfl rfl (by first | rfl | decide | exact narrow_b01 (by omega)) ⟨rfl, rfl, ?_⟩
    try dsimp only
    refine ⟨_, rfl, .inl ⟨X, hi, ?_⟩⟩
    by_cases c : 0 ≤ i ∧ i < (X.length : Int)
    · rw [if_pos c, he8 i c.1 c.2]
    · rw [if_neg c, L_at_out (by omega)]
  · refine Z_go (f2 := (1, [(0, .ref g), (1, .int (Zi f)), (2, .int (Zi i))], [.ref g])) (fun _ => rfl) ?_
    refine C_gr rfl hs gk (by decide) (Nat.le_of_ble_eq_true rfl) rfl g2 ?_
    refine Z_go (f2 := (5, [(0, .ref g), (1, .int (Zi f)), (2, .int (Zi i))], [.int (Zi f), .ref sh])) (fun _ => rfl) ?_
    refine C_callVR (As := [.int (Zi f)]) (rest := []) rfl (by decide) rfl (by decide) rfl rfl (by decide +kernel) (Nat.le_of_ble_eq_true rfl) hs hd.1.1 (C_find0 _ hd hn zf) (fun x q => ?_)
    obtain rfl := q
    show B_R _ _ (8, [(0, .ref g), (1, .int (Zi f)), (2, .int (Zi i))], [.null]) _ _ _
    refine Z_go (f2 := (9, [(3, .null), (0, .ref g), (1, .int (Zi f)), (2, .int (Zi i))], [])) (fun _ => rfl) ?_
    refine Z_go (f2 := (10, [(3, .null), (0, .ref g), (1, .int (Zi f)), (2, .int (Zi i))], [.null])) (fun _ => rfl) ?_
    refine Z_go (f2 := (13, [(3, .null), (0, .ref g), (1, .int (Zi f)), (2, .int (Zi i))], [])) (fun _ => rfl) ?_
    refine Z_go (f2 := (14, [(3, .null), (0, .ref g), (1, .int (Zi f)), (2, .int (Zi i))], [.int (Zi (-1))])) (fun _ => rfl) ?_
    refine Z_go (f2 := (25, [(3, .null), (0, .ref g), (1, .int (Zi f)), (2, .int (Zi i))], [.int (Zi (-1))])) (fun _ => rfl) ?_
    refine Z_iret rfl rfl (by first | rfl | decide | exact narrow_b01 (by omega)) ⟨rfl, rfl, ?_⟩
    try dsimp only
    exact ⟨_, rfl, .inr ⟨hno, rfl⟩⟩
