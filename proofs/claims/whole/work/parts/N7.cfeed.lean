/-! the class: GramFinder: feed -/
theorem C_w1_G {s : C_S} {g tb sh pa pl ma re : Nat} {m : Int} (hg : D_G s g tb sh pa pl ma re m) (m1 : m + 1 ≤ 1000) (w : Int) : D_G (C_w1 s g tb m w) g tb sh pa pl ma re (m + 1) := by
  obtain ⟨h1, h2, h3, h4, h5, h6, h7, h8, h9, h10, h11, h12, h13⟩ := hg
  exact ⟨h1, h2, h3, h4, h5, h6, h7, h8, h9, h10, if_pos ⟨rfl, rfl⟩, by omega, m1⟩
theorem C_wn_G {s : C_S} {g tb sh pa pl ma re : Nat} {m : Int} (hg : D_G s g tb sh pa pl ma re m) (m1 : m + 4 ≤ 1000) (v : Int) : D_G (C_wn s g tb m v) g tb sh pa pl ma re (m + 4) := by
  have h1 := C_w1_G hg (by omega) ((v % 4294967296 / 16777216 + 128) % 256 - 128)
  have h2 := C_w1_G h1 (by omega) ((v % 4294967296 / 65536 + 128) % 256 - 128)
  have h3 := C_w1_G h2 (by omega) ((v % 4294967296 / 256 + 128) % 256 - 128)
  have h4 := C_w1_G h3 (by omega) ((v % 4294967296 / 1 + 128) % 256 - 128)
  rw [show m + 1 + 1 + 1 + 1 = m + 4 by omega] at h4
  exact h4
/-- a byte stands behind those that came -/
theorem C_w1_by {s : C_S} {g tb : Nat} {X : List Int} {w : Int} (h : D_by s tb 1000 X) (hl : X.length + 1 ≤ 1000) : D_by (C_w1 s g tb X.length w) tb 1000 (X ++ [w % 256]) := by
  obtain ⟨h1, h2, h3, h4⟩ := h
  refine ⟨h1, by rw [List.length_append, List.length_singleton]; omega, fun x hx => ?_, fun k k0 k1 => ?_⟩
  · rcases List.mem_append.mp hx with hx | hx
    · exact h3 x hx
    · rw [List.mem_singleton.mp hx]; omega
  · show (if tb = tb ∧ k = X.length then w else C_A s tb k) % 256 = _
    rw [List.length_append, List.length_singleton] at k1
    by_cases c : k = X.length
    · rw [if_pos ⟨rfl, c⟩, L_at_app2 (by omega), show k - (X.length : Int) = 0 by omega]
      rfl
    · rw [if_neg (fun e => c e.2), L_at_app (by omega)]
      exact h4 k k0 (by omega)
theorem C_wn_by {s : C_S} {g tb : Nat} {X : List Int} {v : Int} (h : D_by s tb 1000 X) (hl : X.length + 4 ≤ 1000) : D_by (C_wn s g tb X.length v) tb 1000 (X ++ [v / 16777216 % 256, v / 65536 % 256, v / 256 % 256, v % 256]) := by
  have h1 := C_w1_by (g := g) (w := (v % 4294967296 / 16777216 + 128) % 256 - 128) h (by omega)
  have h2 := C_w1_by (g := g) (w := (v % 4294967296 / 65536 + 128) % 256 - 128) h1 (by rw [List.length_append, List.length_singleton]; omega)
  have h3 := C_w1_by (g := g) (w := (v % 4294967296 / 256 + 128) % 256 - 128) h2 (by rw [List.length_append, List.length_append, List.length_singleton, List.length_singleton]; omega)
  have h4 := C_w1_by (g := g) (w := (v % 4294967296 / 1 + 128) % 256 - 128) h3 (by rw [List.length_append, List.length_append, List.length_append, List.length_singleton, List.length_singleton, List.length_singleton]; omega)
  have e1 : ((v % 4294967296 / 16777216 + 128) % 256 - 128) % 256 = v / 16777216 % 256 := by omega
  have e2 : ((v % 4294967296 / 65536 + 128) % 256 - 128) % 256 = v / 65536 % 256 := by omega
  have e3 : ((v % 4294967296 / 256 + 128) % 256 - 128) % 256 = v / 256 % 256 := by omega
  have e4 : ((v % 4294967296 / 1 + 128) % 256 - 128) % 256 = v % 256 := by omega
  simp only [List.length_append, List.length_singleton, List.append_assoc, List.cons_append, List.nil_append, Int.natCast_add, Int.natCast_one, e1, e2, e3, e4] at h4
  exact h4
theorem C_feed (d : Nat) {s : C_S} {g tb sh pa pl ma re : Nat} {m : Int} {a b c w e : Int} (hg : D_G s g tb sh pa pl ma re m) (za : Zr a) (zb : Zr b) (zc : Zr c) (zw : Zr w) (ze : Zr e) : C_ok (d + 2) 145 [.ref g, .int (Zi a), .int (Zi b), .int (Zi c), .int (Zi w), .int (Zi e)] s (fun x s2 n => n = 0 ∧ (980 < m ∧ x = some (.int (Zi (-1))) ∧ s2 = s ∨ m ≤ 980 ∧ x = some (.int (Zi (m + 20))) ∧ s2 = C_wn (C_wn (C_wn (C_wn (C_wn s g tb (m) a) g tb (m + 4) b) g tb (m + 8) c) g tb (m + 12) w) g tb (m + 16) e)) := by
  refine C_enter (M := E_m145) rfl (Nat.le_of_ble_eq_true rfl) (fun h0 h hs => ?_)
  show B_R (d + 1) _ (0, [(0, .ref g), (1, .int (Zi a)), (2, .int (Zi b)), (3, .int (Zi c)), (4, .int (Zi w)), (5, .int (Zi e))], []) _ _ _
  have wf := hs.1
  obtain ⟨gk, gt, g0, tk, tt, g2, g3, g4, g5, g6, gm, m0, m1⟩ := id hg
  have zm : Zr m := ⟨by omega, by omega⟩
  refine Z_go (f2 := (1, [(0, .ref g), (1, .int (Zi a)), (2, .int (Zi b)), (3, .int (Zi c)), (4, .int (Zi w)), (5, .int (Zi e))], [.ref g])) (fun _ => rfl) ?_
  refine C_gi rfl hs gk (by decide) (Nat.le_of_ble_eq_true rfl) rfl ?_
  rw [show C_F (s) g 1 = m from (by first | exact gm | exact (if_neg (fun e => absurd e.1 (by assumption))).trans gm | exact (if_neg (fun e => absurd e.2 (by decide))).trans gm | exact (if_neg (fun e => absurd e.2 (by decide))).trans ((if_neg (fun e => absurd e.2 (by decide))).trans gm) | exact (if_neg (fun e => absurd e.2 (by decide))).trans ((if_neg (fun e => absurd e.2 (by decide))).trans ((if_neg (fun e => absurd e.2 (by decide))).trans gm)))]
  show B_R _ _ (4, [(0, .ref g), (1, .int (Zi a)), (2, .int (Zi b)), (3, .int (Zi c)), (4, .int (Zi w)), (5, .int (Zi e))], [.int (Zi m)]) _ _ _
  refine Z_go (f2 := (6, [(0, .ref g), (1, .int (Zi a)), (2, .int (Zi b)), (3, .int (Zi c)), (4, .int (Zi w)), (5, .int (Zi e))], [.int (Zi 20), .int (Zi m)])) (fun _ => rfl) ?_
  refine Z_iadd rfl ?_
  refine Z_go (f2 := (10, [(0, .ref g), (1, .int (Zi a)), (2, .int (Zi b)), (3, .int (Zi c)), (4, .int (Zi w)), (5, .int (Zi e))], [.int (Zi 1000), .int (Zi (m + 20))])) (fun _ => rfl) ?_
  refine Z_cle rfl rfl (by first | exact hs.zF _ _ | exact Zor_r _ _ | exact hs.zA _ _ | assumption | exact zA _ _ | exact zS _ | exact Zr_not (hs.zA _ _) | exact hs.1.1 _ _ | exact ⟨by omega, by omega⟩) (by first | exact hs.zF _ _ | exact Zor_r _ _ | exact hs.zA _ _ | assumption | exact zA _ _ | exact zS _ | exact Zr_not (hs.zA _ _) | exact hs.1.1 _ _ | exact ⟨by omega, by omega⟩) (fun y1 => ?_) (fun y1 => ?_)
  · refine Z_go (f2 := (16, [(0, .ref g), (1, .int (Zi a)), (2, .int (Zi b)), (3, .int (Zi c)), (4, .int (Zi w)), (5, .int (Zi e))], [.ref g])) (fun _ => rfl) ?_
    refine Z_go (f2 := (17, [(0, .ref g), (1, .int (Zi a)), (2, .int (Zi b)), (3, .int (Zi c)), (4, .int (Zi w)), (5, .int (Zi e))], [.int (Zi a), .ref g])) (fun _ => rfl) ?_
    refine C_callV (As := [.int (Zi a)]) (rest := []) rfl (by decide) rfl (by decide) rfl rfl (by decide +kernel) (Nat.le_of_ble_eq_true rfl) hs gk (C_writeN _ hg za (by omega)) (fun x h u1 m1 hs q => ?_)
    obtain ⟨rfl, rfl, rfl⟩ := q
    have hg1 := C_wn_G hg (by omega) a
    show B_R _ _ (20, [(0, .ref g), (1, .int (Zi a)), (2, .int (Zi b)), (3, .int (Zi c)), (4, .int (Zi w)), (5, .int (Zi e))], []) _ _ _
    refine Z_go (f2 := (21, [(0, .ref g), (1, .int (Zi a)), (2, .int (Zi b)), (3, .int (Zi c)), (4, .int (Zi w)), (5, .int (Zi e))], [.ref g])) (fun _ => rfl) ?_
    refine Z_go (f2 := (22, [(0, .ref g), (1, .int (Zi a)), (2, .int (Zi b)), (3, .int (Zi c)), (4, .int (Zi w)), (5, .int (Zi e))], [.int (Zi b), .ref g])) (fun _ => rfl) ?_
    refine C_callV (As := [.int (Zi b)]) (rest := []) rfl (by decide) rfl (by decide) rfl rfl (by decide +kernel) (Nat.le_of_ble_eq_true rfl) hs hg1.1 (C_writeN _ hg1 zb (by omega)) (fun x h u2 m2 hs q => ?_)
    obtain ⟨rfl, rfl, rfl⟩ := q
    have hg2 := C_wn_G hg1 (by omega) b
    rw [show m + 4 + 4 = m + 8 by omega] at hg2
    show B_R _ _ (25, [(0, .ref g), (1, .int (Zi a)), (2, .int (Zi b)), (3, .int (Zi c)), (4, .int (Zi w)), (5, .int (Zi e))], []) _ _ _
    refine Z_go (f2 := (26, [(0, .ref g), (1, .int (Zi a)), (2, .int (Zi b)), (3, .int (Zi c)), (4, .int (Zi w)), (5, .int (Zi e))], [.ref g])) (fun _ => rfl) ?_
    refine Z_go (f2 := (27, [(0, .ref g), (1, .int (Zi a)), (2, .int (Zi b)), (3, .int (Zi c)), (4, .int (Zi w)), (5, .int (Zi e))], [.int (Zi c), .ref g])) (fun _ => rfl) ?_
    refine C_callV (As := [.int (Zi c)]) (rest := []) rfl (by decide) rfl (by decide) rfl rfl (by decide +kernel) (Nat.le_of_ble_eq_true rfl) hs hg2.1 (C_writeN _ hg2 zc (by omega)) (fun x h u3 m3 hs q => ?_)
    obtain ⟨rfl, rfl, rfl⟩ := q
    have hg3 := C_wn_G hg2 (by omega) c
    rw [show m + 8 + 4 = m + 12 by omega] at hg3
    show B_R _ _ (30, [(0, .ref g), (1, .int (Zi a)), (2, .int (Zi b)), (3, .int (Zi c)), (4, .int (Zi w)), (5, .int (Zi e))], []) _ _ _
    refine Z_go (f2 := (31, [(0, .ref g), (1, .int (Zi a)), (2, .int (Zi b)), (3, .int (Zi c)), (4, .int (Zi w)), (5, .int (Zi e))], [.ref g])) (fun _ => rfl) ?_
    refine Z_go (f2 := (33, [(0, .ref g), (1, .int (Zi a)), (2, .int (Zi b)), (3, .int (Zi c)), (4, .int (Zi w)), (5, .int (Zi e))], [.int (Zi w), .ref g])) (fun _ => rfl) ?_
    refine C_callV (As := [.int (Zi w)]) (rest := []) rfl (by decide) rfl (by decide) rfl rfl (by decide +kernel) (Nat.le_of_ble_eq_true rfl) hs hg3.1 (C_writeN _ hg3 zw (by omega)) (fun x h u4 m4 hs q => ?_)
    obtain ⟨rfl, rfl, rfl⟩ := q
    have hg4 := C_wn_G hg3 (by omega) w
    rw [show m + 12 + 4 = m + 16 by omega] at hg4
    show B_R _ _ (36, [(0, .ref g), (1, .int (Zi a)), (2, .int (Zi b)), (3, .int (Zi c)), (4, .int (Zi w)), (5, .int (Zi e))], []) _ _ _
    refine Z_go (f2 := (37, [(0, .ref g), (1, .int (Zi a)), (2, .int (Zi b)), (3, .int (Zi c)), (4, .int (Zi w)), (5, .int (Zi e))], [.ref g])) (fun _ => rfl) ?_
    refine Z_go (f2 := (39, [(0, .ref g), (1, .int (Zi a)), (2, .int (Zi b)), (3, .int (Zi c)), (4, .int (Zi w)), (5, .int (Zi e))], [.int (Zi e), .ref g])) (fun _ => rfl) ?_
    refine C_callV (As := [.int (Zi e)]) (rest := []) rfl (by decide) rfl (by decide) rfl rfl (by decide +kernel) (Nat.le_of_ble_eq_true rfl) hs hg4.1 (C_writeN _ hg4 ze (by omega)) (fun x h u5 m5 hs q => ?_)
    obtain ⟨rfl, rfl, rfl⟩ := q
    have hg5 := C_wn_G hg4 (by omega) e
    rw [show m + 16 + 4 = m + 20 by omega] at hg5
    show B_R _ _ (42, [(0, .ref g), (1, .int (Zi a)), (2, .int (Zi b)), (3, .int (Zi c)), (4, .int (Zi w)), (5, .int (Zi e))], []) _ _ _
    refine Z_go (f2 := (43, [(0, .ref g), (1, .int (Zi a)), (2, .int (Zi b)), (3, .int (Zi c)), (4, .int (Zi w)), (5, .int (Zi e))], [.ref g])) (fun _ => rfl) ?_
    refine C_gi rfl hs hg5.1 (by decide) (Nat.le_of_ble_eq_true rfl) rfl ?_
    rw [show C_F (C_wn (C_wn (C_wn (C_wn (C_wn s g tb (m) a) g tb (m + 4) b) g tb (m + 8) c) g tb (m + 12) w) g tb (m + 16) e) g 1 = m + 20 from (by first | exact (hg5).2.2.2.2.2.2.2.2.2.2.1 | exact (if_neg (fun e => absurd e.1 (by assumption))).trans (hg5).2.2.2.2.2.2.2.2.2.2.1 | exact (if_neg (fun e => absurd e.2 (by decide))).trans (hg5).2.2.2.2.2.2.2.2.2.2.1 | exact (if_neg (fun e => absurd e.2 (by decide))).trans ((if_neg (fun e => absurd e.2 (by decide))).trans (hg5).2.2.2.2.2.2.2.2.2.2.1) | exact (if_neg (fun e => absurd e.2 (by decide))).trans ((if_neg (fun e => absurd e.2 (by decide))).trans ((if_neg (fun e => absurd e.2 (by decide))).trans (hg5).2.2.2.2.2.2.2.2.2.2.1)))]
    show B_R _ _ (46, [(0, .ref g), (1, .int (Zi a)), (2, .int (Zi b)), (3, .int (Zi c)), (4, .int (Zi w)), (5, .int (Zi e))], [.int (Zi (m + 20))]) _ _ _
    refine Z_iret rfl rfl (by first | rfl | decide | exact narrow_b01 (by omega)) ⟨_, hs, ?_⟩
    try dsimp only
    exact ⟨rfl, .inr ⟨by omega, rfl, rfl⟩⟩
  · refine Z_go (f2 := (14, [(0, .ref g), (1, .int (Zi a)), (2, .int (Zi b)), (3, .int (Zi c)), (4, .int (Zi w)), (5, .int (Zi e))], [.int (Zi (-1))])) (fun _ => rfl) ?_
    refine Z_iret rfl rfl (by first | rfl | decide | exact narrow_b01 (by omega)) ⟨_, hs, ?_⟩
    try dsimp only
    exact ⟨rfl, .inl ⟨by omega, rfl, rfl⟩⟩
