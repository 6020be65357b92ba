/-! the class: GramFinder: what it asks of its shelf and report -/
/-- the finder at g: its tape tb, shelf, parser, planner, machine, report; m bytes came -/
def D_G (s : C_S) (g tb sh pa pl ma re : Nat) (m : Int) : Prop := C_K s g = (19, 0) ∧ C_T s g = [] ∧ C_P s g 0 = some tb ∧ C_K s tb = (1, 1000) ∧ C_T s tb = [] ∧ C_P s g 2 = some sh ∧ C_P s g 3 = some pa ∧ C_P s g 4 = some pl ∧ C_P s g 5 = some ma ∧ C_P s g 6 = some re ∧ C_F s g 1 = m ∧ 0 ≤ m ∧ m ≤ 1000
theorem C_end (d : Nat) {s : C_S} {g tb sh pa pl ma re : Nat} {m : Int} {n9 : Int} (hg : D_G s g tb sh pa pl ma re m) (zn : Zr n9) : C_ok (d + 1) 146 [.ref g, .int (Zi n9)] s (fun x s2 n => n = 0 ∧ ∃ z : Int, x = some (.int (Zi z)) ∧ (z = 0 ∧ s2 = s ∧ ¬ (0 ≤ n9 ∧ n9 ≤ m) ∨ z = 1 ∧ s2 = C_sF s g 1 n9 ∧ 0 ≤ n9 ∧ n9 ≤ m)) := by
  refine C_enter (M := E_m146) rfl (Nat.le_of_ble_eq_true rfl) (fun h0 h hs => ?_)
  show B_R (d + 0) _ (0, [(0, .ref g), (1, .int (Zi n9))], []) _ _ _
  have w := hs.1
  obtain ⟨gk, gt, g0, tk, tt, g2, g3, g4, g5, g6, gm, m0, m1⟩ := id hg
  have zm : Zr m := ⟨by omega, by omega⟩
  refine Z_go (f2 := (1, [(0, .ref g), (1, .int (Zi n9))], [.int (Zi n9)])) (fun _ => rfl) ?_
  refine Z_ilt rfl rfl (by first | exact hs.zF _ _ | exact Zor_r _ _ | exact hs.zA _ _ | assumption | exact zA _ _ | exact zS _ | exact Zr_not (hs.zA _ _) | exact hs.1.1 _ _ | exact ⟨by omega, by omega⟩) (fun y1 => ?_) (fun y1 => ?_)
  · refine Z_go (f2 := (13, [(0, .ref g), (1, .int (Zi n9))], [.int (Zi 0)])) (fun _ => rfl) ?_
    refine Z_iret rfl rfl (by first | rfl | decide | exact narrow_b01 (by omega)) ⟨_, hs, ?_⟩
    try dsimp only
    exact ⟨rfl, 0, rfl, .inl ⟨rfl, rfl, by omega⟩⟩
  · refine Z_go (f2 := (5, [(0, .ref g), (1, .int (Zi n9))], [.int (Zi n9)])) (fun _ => rfl) ?_
    refine Z_go (f2 := (6, [(0, .ref g), (1, .int (Zi n9))], [.ref g, .int (Zi n9)])) (fun _ => rfl) ?_
    refine C_gi rfl hs gk (by decide) (Nat.le_of_ble_eq_true rfl) rfl ?_
    rw [show C_F (s) g 1 = m from (by first | exact gm | exact (if_neg (fun e => absurd e.1 (by assumption))).trans gm | exact (if_neg (fun e => absurd e.2 (by decide))).trans gm | exact (if_neg (fun e => absurd e.2 (by decide))).trans ((if_neg (fun e => absurd e.2 (by decide))).trans gm) | exact (if_neg (fun e => absurd e.2 (by decide))).trans ((if_neg (fun e => absurd e.2 (by decide))).trans ((if_neg (fun e => absurd e.2 (by decide))).trans gm)))]
    show B_R _ _ (9, [(0, .ref g), (1, .int (Zi n9))], [.int (Zi m), .int (Zi n9)]) _ _ _
    refine Z_cle rfl rfl (by first | exact hs.zF _ _ | exact Zor_r _ _ | exact hs.zA _ _ | assumption | exact zA _ _ | exact zS _ | exact Zr_not (hs.zA _ _) | exact hs.1.1 _ _ | exact ⟨by omega, by omega⟩) (by first | exact hs.zF _ _ | exact Zor_r _ _ | exact hs.zA _ _ | assumption | exact zA _ _ | exact zS _ | exact Zr_not (hs.zA _ _) | exact hs.1.1 _ _ | exact ⟨by omega, by omega⟩) (fun y2 => ?_) (fun y2 => ?_)
    · refine Z_go (f2 := (15, [(0, .ref g), (1, .int (Zi n9))], [.ref g])) (fun _ => rfl) ?_
      refine Z_go (f2 := (16, [(0, .ref g), (1, .int (Zi n9))], [.int (Zi n9), .ref g])) (fun _ => rfl) ?_
      refine C_pi rfl hs gk (by decide) (Nat.le_of_ble_eq_true rfl) (.inl rfl) rfl rfl rfl (by first | exact hs.zF _ _ | exact Zor_r _ _ | exact hs.zA _ _ | assumption | exact zA _ _ | exact zS _ | exact Zr_not (hs.zA _ _) | exact hs.1.1 _ _ | exact ⟨by omega, by omega⟩) (fun h hs => ?_)
      refine Z_go (f2 := (20, [(0, .ref g), (1, .int (Zi n9))], [.int (Zi 1)])) (fun _ => rfl) ?_
      refine Z_iret rfl rfl (by first | rfl | decide | exact narrow_b01 (by omega)) ⟨_, hs, ?_⟩
      try dsimp only
      exact ⟨rfl, 1, rfl, .inr ⟨rfl, rfl, by omega, by omega⟩⟩
    · refine Z_go (f2 := (13, [(0, .ref g), (1, .int (Zi n9))], [.int (Zi 0)])) (fun _ => rfl) ?_
      refine Z_iret rfl rfl (by first | rfl | decide | exact narrow_b01 (by omega)) ⟨_, hs, ?_⟩
      try dsimp only
      exact ⟨rfl, 0, rfl, .inl ⟨rfl, rfl, by omega⟩⟩
theorem C_posting (d : Nat) {s : C_S} {g tb sh pa pl ma re : Nat} {m : Int} {p : List Nat} {ea u v : Nat} {fs : Int → Option (List Int)} {ca th tg : Int} {v9 k9 : Int} (hg : D_G s g tb sh pa pl ma re m) (hd : D_Sh s p sh ea u v fs ca th tg) (zv : Zr v9) (zk : Zr k9) : C_rd (d + 4) 152 [.ref g, .int (Zi v9), .int (Zi k9)] s (fun x => ∃ z : Int, x = some (.int (Zi z)) ∧ (z = -1 ∧ (k9 < 0 ∨ (D_ct (D_hg fs ca v9) ca.toNat : Int) ≤ k9) ∨ 0 ≤ k9 ∧ 0 ≤ z ∧ z < ca ∧ D_hg fs ca v9 z ∧ (D_ct (D_hg fs ca v9) z.toNat : Int) = k9)) := by
  refine C_enterR (M := E_m152) rfl (Nat.le_of_ble_eq_true rfl) (fun h0 h hs => ?_)
  show B_R (d + 3) _ (0, [(0, .ref g), (1, .int (Zi v9)), (2, .int (Zi k9))], []) _ _ _
  have w := hs.1
  obtain ⟨gk, gt, g0, tk, tt, g2, g3, g4, g5, g6, gm, m0, m1⟩ := id hg
  refine Z_go (f2 := (1, [(0, .ref g), (1, .int (Zi v9)), (2, .int (Zi k9))], [.ref g])) (fun _ => rfl) ?_
  refine C_gr rfl hs gk (by decide) (Nat.le_of_ble_eq_true rfl) rfl g2 ?_
  refine Z_go (f2 := (5, [(0, .ref g), (1, .int (Zi v9)), (2, .int (Zi k9))], [.int (Zi v9), .ref sh])) (fun _ => rfl) ?_
  refine Z_go (f2 := (6, [(0, .ref g), (1, .int (Zi v9)), (2, .int (Zi k9))], [.int (Zi k9), .int (Zi v9), .ref sh])) (fun _ => rfl) ?_
  refine C_callVR (As := [.int (Zi v9), .int (Zi k9)]) (rest := []) rfl (by decide) rfl (by decide) rfl rfl (by decide +kernel) (Nat.le_of_ble_eq_true rfl) hs hd.1.1 (C_holder _ hd zv zk) (fun x q => ?_)
  obtain ⟨z9, rfl, hz9⟩ := q
  show B_R _ _ (9, [(0, .ref g), (1, .int (Zi v9)), (2, .int (Zi k9))], [.int (Zi z9)]) _ _ _
  refine Z_iret rfl rfl (by first | rfl | decide | exact narrow_b01 (by omega)) ⟨rfl, rfl, ?_⟩
  try dsimp only
  exact ⟨z9, rfl, hz9⟩
theorem C_hit (d : Nat) {s : C_S} {g tb sh pa pl ma re : Nat} {m : Int} {p : List Nat} {u v : Nat} {O H : List Int} {n2 n3 n4 n5 n6 : Int} {i k : Int} (hg : D_G s g tb sh pa pl ma re m) (hr : D_Rp s p re u v O H n2 n3 n4 n5 n6) (zi : Zr i) (zk : Zr k) (h2 : n2 ≤ 100000) : C_rd (d + 3) 155 [.ref g, .int (Zi i), .int (Zi k)] s (fun x => x = some (.int (Zi (if 0 ≤ i ∧ i < n2 ∧ 0 ≤ k ∧ k ≤ 3 then L_at H (4 * i + k) else -1)))) := by
  refine C_enterR (M := E_m155) rfl (Nat.le_of_ble_eq_true rfl) (fun h0 h hs => ?_)
  show B_R (d + 2) _ (0, [(0, .ref g), (1, .int (Zi i)), (2, .int (Zi k))], []) _ _ _
  have w := hs.1
  obtain ⟨gk, gt, g0, tk, tt, g2, g3, g4, g5, g6, gm, m0, m1⟩ := id hg
  refine Z_go (f2 := (1, [(0, .ref g), (1, .int (Zi i)), (2, .int (Zi k))], [.ref g])) (fun _ => rfl) ?_
  refine C_gr rfl hs gk (by decide) (Nat.le_of_ble_eq_true rfl) rfl g6 ?_
  refine Z_go (f2 := (5, [(0, .ref g), (1, .int (Zi i)), (2, .int (Zi k))], [.int (Zi i), .ref re])) (fun _ => rfl) ?_
  refine Z_go (f2 := (6, [(0, .ref g), (1, .int (Zi i)), (2, .int (Zi k))], [.int (Zi k), .int (Zi i), .ref re])) (fun _ => rfl) ?_
  refine C_callVR (As := [.int (Zi i), .int (Zi k)]) (rest := []) rfl (by decide) rfl (by decide) rfl rfl (by decide +kernel) (Nat.le_of_ble_eq_true rfl) hs hr.1.1 (C_hitF _ hr zi zk h2) (fun x q => ?_)
  obtain rfl := q
  show B_R _ _ (9, [(0, .ref g), (1, .int (Zi i)), (2, .int (Zi k))], [.int (Zi (if 0 ≤ i ∧ i < n2 ∧ 0 ≤ k ∧ k ≤ 3 then L_at H (4 * i + k) else -1))]) _ _ _
  refine Z_iret rfl rfl (by first | rfl | decide | exact narrow_b01 (by omega)) ⟨rfl, rfl, ?_⟩
  try dsimp only
  try rfl
theorem C_opened (d : Nat) {s : C_S} {g tb sh pa pl ma re : Nat} {m : Int} {p : List Nat} {u v : Nat} {O H : List Int} {n2 n3 n4 n5 n6 : Int} {i : Int} (hg : D_G s g tb sh pa pl ma re m) (hr : D_Rp s p re u v O H n2 n3 n4 n5 n6) (zi : Zr i) : C_rd (d + 3) 156 [.ref g, .int (Zi i)] s (fun x => x = some (.int (Zi (L_at O i)))) := by
  refine C_enterR (M := E_m156) rfl (Nat.le_of_ble_eq_true rfl) (fun h0 h hs => ?_)
  show B_R (d + 2) _ (0, [(0, .ref g), (1, .int (Zi i))], []) _ _ _
  have w := hs.1
  obtain ⟨gk, gt, g0, tk, tt, g2, g3, g4, g5, g6, gm, m0, m1⟩ := id hg
  refine Z_go (f2 := (1, [(0, .ref g), (1, .int (Zi i))], [.ref g])) (fun _ => rfl) ?_
  refine C_gr rfl hs gk (by decide) (Nat.le_of_ble_eq_true rfl) rfl g6 ?_
  refine Z_go (f2 := (5, [(0, .ref g), (1, .int (Zi i))], [.int (Zi i), .ref re])) (fun _ => rfl) ?_
  refine C_callVR (As := [.int (Zi i)]) (rest := []) rfl (by decide) rfl (by decide) rfl rfl (by decide +kernel) (Nat.le_of_ble_eq_true rfl) hs hr.1.1 (C_opnd _ hr zi) (fun x q => ?_)
  obtain rfl := q
  show B_R _ _ (8, [(0, .ref g), (1, .int (Zi i))], [.int (Zi (L_at O i))]) _ _ _
  refine Z_iret rfl rfl (by first | rfl | decide | exact narrow_b01 (by omega)) ⟨rfl, rfl, ?_⟩
  try dsimp only
  try rfl
