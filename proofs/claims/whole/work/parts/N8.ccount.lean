/-! the class: GramFinder: count -/
theorem C_count (d : Nat) {s : C_S} {g tb sh pa pl ma re : Nat} {m : Int} {p : List Nat} {ea u v : Nat} {fs : Int → Option (List Int)} {ca th tg : Int} {p2 : List Nat} {u2 v2 : Nat} {O H : List Int} {n2 n3 n4 n5 n6 : Int} {w9 : Int} (hg : D_G s g tb sh pa pl ma re m) (hd : D_Sh s p sh ea u v fs ca th tg) (hr : D_Rp s p2 re u2 v2 O H n2 n3 n4 n5 n6) (hsm : D_sm (D_ln fs) ca.toNat ≤ 16000) (zw : Zr w9) : C_ok (d + 6) 161 [.ref g, .int (Zi w9)] s (fun x s2 n => w9 = 3 ∧ x = some (.int (Zi ((D_un fs ca.toNat).length))) ∧ (∃ u v, D_Sh s2 p sh ea u v fs ca th tg) ∧ n + 2 * D_ps s sh ≤ 2 * D_ps s2 sh ∧ 8 * C_n s2 + D_ps s sh ≤ 8 * C_n s + D_ps s2 sh ∧ C_fr (fun t => p <+: t) s s2 ∨ w9 ≠ 3 ∧ n = 0 ∧ s2 = s ∧ x = some (.int (Zi (if w9 = 0 then th else if w9 = 1 then tg else if w9 = 2 then ca else if w9 = 4 then D_sm (D_gl fs) ca.toNat else if w9 = 5 then m else if w9 = 6 then n3 else if w9 = 7 then n4 else if w9 = 8 then n5 else if w9 = 9 then n6 else -1)))) := by
  refine C_enter (M := E_m161) rfl (Nat.le_of_ble_eq_true rfl) (fun h0 h hs => ?_)
  show B_R (d + 5) _ (0, [(0, .ref g), (1, .int (Zi w9))], []) _ _ _
  have w := hs.1
  obtain ⟨gk, gt, g0, tk, tt, g2, g3, g4, g5, g6, gm, m0, m1⟩ := id hg
  refine Z_go (f2 := (1, [(0, .ref g), (1, .int (Zi w9))], [.int (Zi w9)])) (fun _ => rfl) ?_
  rcases (by omega : w9 = 0 ∨ w9 = 1 ∨ w9 = 2 ∨ w9 = 3 ∨ w9 = 4 ∨ w9 = 5 ∨ w9 = 6 ∨ w9 = 7 ∨ w9 = 8 ∨ w9 = 9 ∨ (w9 < 0 ∨ 9 < w9)) with y1 | y1 | y1 | y1 | y1 | y1 | y1 | y1 | y1 | y1 | y1
  · refine Z_swk (f2 := (56, [(0, .ref g), (1, .int (Zi w9))], [])) y1 (fun _ => rfl) ?_
    refine Z_go (f2 := (57, [(0, .ref g), (1, .int (Zi w9))], [.ref g])) (fun _ => rfl) ?_
    refine C_gr rfl hs gk (by decide) (Nat.le_of_ble_eq_true rfl) rfl g2 ?_
    refine C_gi rfl hs hd.1.1 (by decide) (Nat.le_of_ble_eq_true rfl) rfl ?_
    rw [show C_F (s) sh 4 = th from (by first | exact hd.1.2.2.2.2.2.2.2.2.1 | exact (if_neg (fun e => absurd e.1 (by assumption))).trans hd.1.2.2.2.2.2.2.2.2.1 | exact (if_neg (fun e => absurd e.2 (by decide))).trans hd.1.2.2.2.2.2.2.2.2.1 | exact (if_neg (fun e => absurd e.2 (by decide))).trans ((if_neg (fun e => absurd e.2 (by decide))).trans hd.1.2.2.2.2.2.2.2.2.1) | exact (if_neg (fun e => absurd e.2 (by decide))).trans ((if_neg (fun e => absurd e.2 (by decide))).trans ((if_neg (fun e => absurd e.2 (by decide))).trans hd.1.2.2.2.2.2.2.2.2.1)))]
    show B_R _ _ (63, [(0, .ref g), (1, .int (Zi w9))], [.int (Zi th)]) _ _ _
    refine Z_iret rfl rfl (by first | rfl | decide | exact narrow_b01 (by omega)) ⟨_, hs, ?_⟩
    try dsimp only
    refine .inr ⟨by omega, rfl, rfl, ?_⟩
    first | (subst_vars; simp; done) | (rw [if_neg (by omega), if_neg (by omega), if_neg (by omega), if_neg (by omega), if_neg (by omega), if_neg (by omega), if_neg (by omega), if_neg (by omega), if_neg (by omega)])
  · refine Z_swk (f2 := (64, [(0, .ref g), (1, .int (Zi w9))], [])) y1 (fun _ => rfl) ?_
    refine Z_go (f2 := (65, [(0, .ref g), (1, .int (Zi w9))], [.ref g])) (fun _ => rfl) ?_
    refine C_gr rfl hs gk (by decide) (Nat.le_of_ble_eq_true rfl) rfl g2 ?_
    refine C_gi rfl hs hd.1.1 (by decide) (Nat.le_of_ble_eq_true rfl) rfl ?_
    rw [show C_F (s) sh 5 = tg from (by first | exact hd.1.2.2.2.2.2.2.2.2.2.1 | exact (if_neg (fun e => absurd e.1 (by assumption))).trans hd.1.2.2.2.2.2.2.2.2.2.1 | exact (if_neg (fun e => absurd e.2 (by decide))).trans hd.1.2.2.2.2.2.2.2.2.2.1 | exact (if_neg (fun e => absurd e.2 (by decide))).trans ((if_neg (fun e => absurd e.2 (by decide))).trans hd.1.2.2.2.2.2.2.2.2.2.1) | exact (if_neg (fun e => absurd e.2 (by decide))).trans ((if_neg (fun e => absurd e.2 (by decide))).trans ((if_neg (fun e => absurd e.2 (by decide))).trans hd.1.2.2.2.2.2.2.2.2.2.1)))]
    show B_R _ _ (71, [(0, .ref g), (1, .int (Zi w9))], [.int (Zi tg)]) _ _ _
    refine Z_iret rfl rfl (by first | rfl | decide | exact narrow_b01 (by omega)) ⟨_, hs, ?_⟩
    try dsimp only
    refine .inr ⟨by omega, rfl, rfl, ?_⟩
    first | (subst_vars; simp; done) | (rw [if_neg (by omega), if_neg (by omega), if_neg (by omega), if_neg (by omega), if_neg (by omega), if_neg (by omega), if_neg (by omega), if_neg (by omega), if_neg (by omega)])
  · refine Z_swk (f2 := (72, [(0, .ref g), (1, .int (Zi w9))], [])) y1 (fun _ => rfl) ?_
    refine Z_go (f2 := (73, [(0, .ref g), (1, .int (Zi w9))], [.ref g])) (fun _ => rfl) ?_
    refine C_gr rfl hs gk (by decide) (Nat.le_of_ble_eq_true rfl) rfl g2 ?_
    refine C_gi rfl hs hd.1.1 (by decide) (Nat.le_of_ble_eq_true rfl) rfl ?_
    rw [show C_F (s) sh 3 = ca from (by first | exact hd.1.2.2.2.2.2.2.2.1 | exact (if_neg (fun e => absurd e.1 (by assumption))).trans hd.1.2.2.2.2.2.2.2.1 | exact (if_neg (fun e => absurd e.2 (by decide))).trans hd.1.2.2.2.2.2.2.2.1 | exact (if_neg (fun e => absurd e.2 (by decide))).trans ((if_neg (fun e => absurd e.2 (by decide))).trans hd.1.2.2.2.2.2.2.2.1) | exact (if_neg (fun e => absurd e.2 (by decide))).trans ((if_neg (fun e => absurd e.2 (by decide))).trans ((if_neg (fun e => absurd e.2 (by decide))).trans hd.1.2.2.2.2.2.2.2.1)))]
    show B_R _ _ (79, [(0, .ref g), (1, .int (Zi w9))], [.int (Zi ca)]) _ _ _
    refine Z_iret rfl rfl (by first | rfl | decide | exact narrow_b01 (by omega)) ⟨_, hs, ?_⟩
    try dsimp only
    refine .inr ⟨by omega, rfl, rfl, ?_⟩
    first | (subst_vars; simp; done) | (rw [if_neg (by omega), if_neg (by omega), if_neg (by omega), if_neg (by omega), if_neg (by omega), if_neg (by omega), if_neg (by omega), if_neg (by omega), if_neg (by omega)])
  · refine Z_swk (f2 := (80, [(0, .ref g), (1, .int (Zi w9))], [])) y1 (fun _ => rfl) ?_
    refine Z_go (f2 := (81, [(0, .ref g), (1, .int (Zi w9))], [.ref g])) (fun _ => rfl) ?_
    refine C_gr rfl hs gk (by decide) (Nat.le_of_ble_eq_true rfl) rfl g2 ?_
    refine C_callV (As := []) (rest := []) rfl (by decide) rfl (by decide) rfl rfl (by decide +kernel) (Nat.le_of_ble_eq_true rfl) hs hd.1.1 (C_dif _ hd hsm) (fun x h w1 m9 hs q => ?_)
    obtain ⟨rfl, q1, q2, q3, q4⟩ := q
    show B_R _ _ (87, [(0, .ref g), (1, .int (Zi w9))], [.int (Zi (((D_un fs ca.toNat).length : Int)))]) _ _ _
    refine Z_iret rfl rfl (by first | rfl | decide | exact narrow_b01 (by omega)) ⟨_, hs, ?_⟩
    try dsimp only
    exact .inl ⟨by omega, rfl, q1, by omega, q3, q4⟩
  · refine Z_swk (f2 := (88, [(0, .ref g), (1, .int (Zi w9))], [])) y1 (fun _ => rfl) ?_
    refine Z_go (f2 := (89, [(0, .ref g), (1, .int (Zi w9))], [.ref g])) (fun _ => rfl) ?_
    refine C_gr rfl hs gk (by decide) (Nat.le_of_ble_eq_true rfl) rfl g2 ?_
    refine C_callVR (As := []) (rest := []) rfl (by decide) rfl (by decide) rfl rfl (by decide +kernel) (Nat.le_of_ble_eq_true rfl) hs hd.1.1 (C_allG _ hd) (fun x q => ?_)
    obtain rfl := q
    show B_R _ _ (95, [(0, .ref g), (1, .int (Zi w9))], [.int (Zi ((D_sm (D_gl fs) ca.toNat : Int)))]) _ _ _
    refine Z_iret rfl rfl (by first | rfl | decide | exact narrow_b01 (by omega)) ⟨_, hs, ?_⟩
    try dsimp only
    refine .inr ⟨by omega, rfl, rfl, ?_⟩
    first | (subst_vars; simp; done) | (rw [if_neg (by omega), if_neg (by omega), if_neg (by omega), if_neg (by omega), if_neg (by omega), if_neg (by omega), if_neg (by omega), if_neg (by omega), if_neg (by omega)])
  · refine Z_swk (f2 := (96, [(0, .ref g), (1, .int (Zi w9))], [])) y1 (fun _ => rfl) ?_
    refine Z_go (f2 := (97, [(0, .ref g), (1, .int (Zi w9))], [.ref g])) (fun _ => rfl) ?_
    refine C_gi rfl hs gk (by decide) (Nat.le_of_ble_eq_true rfl) rfl ?_
    rw [show C_F (s) g 1 = m from (by first | exact gm | exact (if_neg (fun e => absurd e.1 (by assumption))).trans gm | exact (if_neg (fun e => absurd e.2 (by decide))).trans gm | exact (if_neg (fun e => absurd e.2 (by decide))).trans ((if_neg (fun e => absurd e.2 (by decide))).trans gm) | exact (if_neg (fun e => absurd e.2 (by decide))).trans ((if_neg (fun e => absurd e.2 (by decide))).trans ((if_neg (fun e => absurd e.2 (by decide))).trans gm)))]
    show B_R _ _ (100, [(0, .ref g), (1, .int (Zi w9))], [.int (Zi m)]) _ _ _
    refine Z_iret rfl rfl (by first | rfl | decide | exact narrow_b01 (by omega)) ⟨_, hs, ?_⟩
    try dsimp only
    refine .inr ⟨by omega, rfl, rfl, ?_⟩
    first | (subst_vars; simp; done) | (rw [if_neg (by omega), if_neg (by omega), if_neg (by omega), if_neg (by omega), if_neg (by omega), if_neg (by omega), if_neg (by omega), if_neg (by omega), if_neg (by omega)])
  · refine Z_swk (f2 := (101, [(0, .ref g), (1, .int (Zi w9))], [])) y1 (fun _ => rfl) ?_
    refine Z_go (f2 := (102, [(0, .ref g), (1, .int (Zi w9))], [.ref g])) (fun _ => rfl) ?_
    refine C_gr rfl hs gk (by decide) (Nat.le_of_ble_eq_true rfl) rfl g6 ?_
    refine C_gi rfl hs hr.1.1 (by decide) (Nat.le_of_ble_eq_true rfl) rfl ?_
    rw [show C_F (s) re 3 = n3 from (by first | exact hr.1.2.2.2.2.2.1 | exact (if_neg (fun e => absurd e.1 (by assumption))).trans hr.1.2.2.2.2.2.1 | exact (if_neg (fun e => absurd e.2 (by decide))).trans hr.1.2.2.2.2.2.1 | exact (if_neg (fun e => absurd e.2 (by decide))).trans ((if_neg (fun e => absurd e.2 (by decide))).trans hr.1.2.2.2.2.2.1) | exact (if_neg (fun e => absurd e.2 (by decide))).trans ((if_neg (fun e => absurd e.2 (by decide))).trans ((if_neg (fun e => absurd e.2 (by decide))).trans hr.1.2.2.2.2.2.1)))]
    show B_R _ _ (108, [(0, .ref g), (1, .int (Zi w9))], [.int (Zi n3)]) _ _ _
    refine Z_iret rfl rfl (by first | rfl | decide | exact narrow_b01 (by omega)) ⟨_, hs, ?_⟩
    try dsimp only
    refine .inr ⟨by omega, rfl, rfl, ?_⟩
    first | (subst_vars; simp; done) | (rw [if_neg (by omega), if_neg (by omega), if_neg (by omega), if_neg (by omega), if_neg (by omega), if_neg (by omega), if_neg (by omega), if_neg (by omega), if_neg (by omega)])
  · refine Z_swk (f2 := (109, [(0, .ref g), (1, .int (Zi w9))], [])) y1 (fun _ => rfl) ?_
    refine Z_go (f2 := (110, [(0, .ref g), (1, .int (Zi w9))], [.ref g])) (fun _ => rfl) ?_
    refine C_gr rfl hs gk (by decide) (Nat.le_of_ble_eq_true rfl) rfl g6 ?_
    refine C_gi rfl hs hr.1.1 (by decide) (Nat.le_of_ble_eq_true rfl) rfl ?_
    rw [show C_F (s) re 4 = n4 from (by first | exact hr.1.2.2.2.2.2.2.1 | exact (if_neg (fun e => absurd e.1 (by assumption))).trans hr.1.2.2.2.2.2.2.1 | exact (if_neg (fun e => absurd e.2 (by decide))).trans hr.1.2.2.2.2.2.2.1 | exact (if_neg (fun e => absurd e.2 (by decide))).trans ((if_neg (fun e => absurd e.2 (by decide))).trans hr.1.2.2.2.2.2.2.1) | exact (if_neg (fun e => absurd e.2 (by decide))).trans ((if_neg (fun e => absurd e.2 (by decide))).trans ((if_neg (fun e => absurd e.2 (by decide))).trans hr.1.2.2.2.2.2.2.1)))]
    show B_R _ _ (116, [(0, .ref g), (1, .int (Zi w9))], [.int (Zi n4)]) _ _ _
    refine Z_iret rfl rfl (by first | rfl | decide | exact narrow_b01 (by omega)) ⟨_, hs, ?_⟩
    try dsimp only
    refine .inr ⟨by omega, rfl, rfl, ?_⟩
    first | (subst_vars; simp; done) | (rw [if_neg (by omega), if_neg (by omega), if_neg (by omega), if_neg (by omega), if_neg (by omega), if_neg (by omega), if_neg (by omega), if_neg (by omega), if_neg (by omega)])
  · refine Z_swk (f2 := (117, [(0, .ref g), (1, .int (Zi w9))], [])) y1 (fun _ => rfl) ?_
    refine Z_go (f2 := (118, [(0, .ref g), (1, .int (Zi w9))], [.ref g])) (fun _ => rfl) ?_
    refine C_gr rfl hs gk (by decide) (Nat.le_of_ble_eq_true rfl) rfl g6 ?_
    refine C_gi rfl hs hr.1.1 (by decide) (Nat.le_of_ble_eq_true rfl) rfl ?_
    rw [show C_F (s) re 5 = n5 from (by first | exact hr.1.2.2.2.2.2.2.2.1 | exact (if_neg (fun e => absurd e.1 (by assumption))).trans hr.1.2.2.2.2.2.2.2.1 | exact (if_neg (fun e => absurd e.2 (by decide))).trans hr.1.2.2.2.2.2.2.2.1 | exact (if_neg (fun e => absurd e.2 (by decide))).trans ((if_neg (fun e => absurd e.2 (by decide))).trans hr.1.2.2.2.2.2.2.2.1) | exact (if_neg (fun e => absurd e.2 (by decide))).trans ((if_neg (fun e => absurd e.2 (by decide))).trans ((if_neg (fun e => absurd e.2 (by decide))).trans hr.1.2.2.2.2.2.2.2.1)))]
    show B_R _ _ (124, [(0, .ref g), (1, .int (Zi w9))], [.int (Zi n5)]) _ _ _
    refine Z_iret rfl rfl (by first | rfl | decide | exact narrow_b01 (by omega)) ⟨_, hs, ?_⟩
    try dsimp only
    refine .inr ⟨by omega, rfl, rfl, ?_⟩
    first | (subst_vars; simp; done) | (rw [if_neg (by omega), if_neg (by omega), if_neg (by omega), if_neg (by omega), if_neg (by omega), if_neg (by omega), if_neg (by omega), if_neg (by omega), if_neg (by omega)])
  · refine Z_swk (f2 := (125, [(0, .ref g), (1, .int (Zi w9))], [])) y1 (fun _ => rfl) ?_
    refine Z_go (f2 := (126, [(0, .ref g), (1, .int (Zi w9))], [.ref g])) (fun _ => rfl) ?_
    refine C_gr rfl hs gk (by decide) (Nat.le_of_ble_eq_true rfl) rfl g6 ?_
    refine C_gi rfl hs hr.1.1 (by decide) (Nat.le_of_ble_eq_true rfl) rfl ?_
    rw [show C_F (s) re 6 = n6 from (by first | exact hr.1.2.2.2.2.2.2.2.2.1 | exact (if_neg (fun e => absurd e.1 (by assumption))).trans hr.1.2.2.2.2.2.2.2.2.1 | exact (if_neg (fun e => absurd e.2 (by decide))).trans hr.1.2.2.2.2.2.2.2.2.1 | exact (if_neg (fun e => absurd e.2 (by decide))).trans ((if_neg (fun e => absurd e.2 (by decide))).trans hr.1.2.2.2.2.2.2.2.2.1) | exact (if_neg (fun e => absurd e.2 (by decide))).trans ((if_neg (fun e => absurd e.2 (by decide))).trans ((if_neg (fun e => absurd e.2 (by decide))).trans hr.1.2.2.2.2.2.2.2.2.1)))]
    show B_R _ _ (132, [(0, .ref g), (1, .int (Zi w9))], [.int (Zi n6)]) _ _ _
    refine Z_iret rfl rfl (by first | rfl | decide | exact narrow_b01 (by omega)) ⟨_, hs, ?_⟩
    try dsimp only
    refine .inr ⟨by omega, rfl, rfl, ?_⟩
    first | (subst_vars; simp; done) | (rw [if_neg (by omega), if_neg (by omega), if_neg (by omega), if_neg (by omega), if_neg (by omega), if_neg (by omega), if_neg (by omega), if_neg (by omega), if_neg (by omega)])
  · refine Z_tswd rfl (by first | exact hs.zF _ _ | exact Zor_r _ _ | exact hs.zA _ _ | assumption | exact zA _ _ | exact zS _ | exact Zr_not (hs.zA _ _) | exact hs.1.1 _ _ | exact ⟨by omega, by omega⟩) y1 (by rfl) ?_
    show B_R _ _ (133, [(0, .ref g), (1, .int (Zi w9))], []) _ _ _
    refine Z_go (f2 := (134, [(0, .ref g), (1, .int (Zi w9))], [.int (Zi (-1))])) (fun _ => rfl) ?_
    refine Z_iret rfl rfl (by first | rfl | decide | exact narrow_b01 (by omega)) ⟨_, hs, ?_⟩
    try dsimp only
    refine .inr ⟨by omega, rfl, rfl, ?_⟩
    first | (subst_vars; simp; done) | (rw [if_neg (by omega), if_neg (by omega), if_neg (by omega), if_neg (by omega), if_neg (by omega), if_neg (by omega), if_neg (by omega), if_neg (by omega), if_neg (by omega)])
