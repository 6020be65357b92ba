/-! the class: Planner: join, alternate -/
theorem D_pv.ofi {B j : Nat} {G : G_t} {q : P_X × P_X × P_X} (h1 : G.2.2.2.1 j = 0) (h2 : G.2.2.2.2 j = 1) (h3 : D_pu B G j (.inr q)) : D_pv B G j (.inr q) := ⟨h1, h2, h3⟩
theorem D_pv.of0 {B j : Nat} {G : G_t} {A : P_X} {xs : List (List Int)} (h1 : G.2.2.2.1 j = 1) (h2 : G.2.2.1 (1 + j) = xs) (h3 : X_so xs) (h4 : T_tel A xs) (h5 : G.2.2.2.2 j = 0) : D_pv B G j (.inl A) := ⟨h1, by rw [h2]; exact h3, by rw [h2]; exact h4, .inl h5⟩
theorem D_pv.ex {B j : Nat} {G : G_t} {v : P_V} (h : D_pv B G j v) (e : G.2.2.2.1 j ≠ 0) : ∃ A, v = .inl A ∧ X_so (G.2.2.1 (1 + j)) ∧ T_tel A (G.2.2.1 (1 + j)) := by
  match v, h with
  | .inl A, h => exact ⟨A, rfl, h.2.1, h.2.2.1⟩
  | .inr q, h => exact absurd h.1 e
theorem D_pv.op {B j : Nat} {G : G_t} {v : P_V} (h : D_pv B G j v) (e : G.2.2.2.1 j = 0) : ∃ q, v = .inr q := by
  match v, h with
  | .inl A, h => have := h.1; omega
  | .inr q, h => exact ⟨q, rfl⟩
theorem K_is_one : K_is (F_one []) [0] := ⟨⟨fun y hy => absurd hy List.not_mem_nil, trivial⟩, fun x => by
  rw [List.mem_singleton]
  exact ⟨fun e => ⟨[], rfl, e⟩, fun ⟨t, ht, e⟩ => by rw [show t = [] from ht] at e; exact e⟩, fun t ht => by
  rw [show t = [] from ht]
  exact ⟨Nat.zero_le _, fun x hx => absurd hx List.not_mem_nil⟩⟩
theorem K_is.or {S T : P_X} {a b : List Int} (h : K_is S a) (g : K_is T b) : K_is (F_or S T) (L_un a b) := by
  refine ⟨L_un_srt g.1, fun x => ?_, fun t ht => ht.elim (h.2.2 t) (g.2.2 t)⟩
  rw [L_un_mem, h.2.1, g.2.1]
  constructor
  · rintro (⟨t, ht, e⟩ | ⟨t, ht, e⟩)
    · exact ⟨t, .inl ht, e⟩
    · exact ⟨t, .inr ht, e⟩
  · rintro ⟨t, ht | ht, e⟩
    · exact .inl ⟨t, ht, e⟩
    · exact .inr ⟨t, ht, e⟩
theorem o_fillR' {s : C_S} {pp : List Nat} {pl tr B : Nat} {G : G_t} {P : G_p} {ω : Nat → Nat} {ys ws : List Int} (d : Nat) (h : D_Pl s pp pl tr B G P ω) {r r2 r3 : Nat} (hr : Pl_hr P r) (hr2 : Pl_hr P r2) (hr3 : Pl_hr P r3) (e2 : G.1 r2 = ys) (e3 : G.1 r3 = ws) (n2 : r ≠ r2) (n3 : r ≠ r3) (w : C_wf s) (sy : L_srt ys) (sw : L_srt ws) (m1 : 2 * (ys.length + ws.length) ≤ B) (hB : B ≤ 20000) : C_ok (d + 4) 94 [.ref (P.1 r), .ref (P.1 r2), .ref (P.1 r3)] s (fun x s2 n => x = none ∧ D_ch pp pl tr B s P ω (g_sr G r (L_un ys ws)) s2 n) := by
  subst e2; subst e3; exact o_fillR d h hr hr2 hr3 n2 n3 w sy sw m1 hB
theorem C_bex (d : Nat) {s : C_S} {pp : List Nat} {pl tr B : Nat} {G : G_t} {P : G_p} {ω : Nat → Nat} {j : Nat} {A : P_X} {xs : List (List Int)} (hp : D_Pl s pp pl tr B G P ω) (B0 : 1280 ≤ B) (B1 : B ≤ 20000) (hj : j ≤ 38) (hT : P.2.2.2.2.1 j = true) (et : G.2.2.1 0 = xs) (hso : X_so xs) (hA : T_tel A xs) : C_ok (d + 5) 52 [.ref (P.2.2.2.1 j), .ref (P.2.2.1 0)] s (fun x s2 n => x = none ∧ ∃ G2, D_ch pp pl tr B s P ω G2 s2 n ∧ D_pv B G2 j (.inl A) ∧ ∀ i, i ≠ j → G_oth i G G2) := by
  refine C_enter (M := E_m52) rfl (Nat.le_of_ble_eq_true rfl) (fun h0 h hs => ?_)
  show B_R (d + 4) _ (0, [(0, .ref (P.2.2.2.1 j)), (1, .ref (P.2.2.1 0))], []) _ _ _
  have cs := D_cs.refl pp s ω
  refine Z_go (f2 := (1, [(0, .ref (P.2.2.2.1 j)), (1, .ref (P.2.2.1 0))], [.ref (P.2.2.2.1 j)])) (fun _ => rfl) ?_
  refine C_gr rfl hs (hp.2.1 j hj hT).1 (by decide) (Nat.le_of_ble_eq_true rfl) rfl (hp.2.1 j hj hT).2.2.1 ?_
  refine Z_go (f2 := (5, [(0, .ref (P.2.2.2.1 j)), (1, .ref (P.2.2.1 0))], [.ref (P.2.2.1 0), .ref (P.2.2.1 (1 + j))])) (fun _ => rfl) ?_
  refine C_callV (As := [.ref (P.2.2.1 0)]) (rest := []) rfl (by decide) rfl (by decide) rfl rfl (by decide +kernel) (Nat.le_of_ble_eq_true rfl) hs (hp.tK (Pl_h1 hj hT)) ((by have := o_tcopy (t := 1 + j) (t2 := 0) d hp (Pl_h1 hj hT) (.inl rfl) (by omega) hs.1; rw [et] at this; exact this)) (fun x h v1 n1 hs q => ?_)
  obtain ⟨rfl, ω1, hp, cq⟩ := q
  have cs := cs.tr cq
  have hw1 := hs.1
  have hT8 := (hp.2.1 j hj hT).2.1
  show B_R _ _ (8, [(0, .ref (P.2.2.2.1 j)), (1, .ref (P.2.2.1 0))], []) _ _ _
  refine Z_go (f2 := (9, [(0, .ref (P.2.2.2.1 j)), (1, .ref (P.2.2.1 0))], [.ref (P.2.2.2.1 j)])) (fun _ => rfl) ?_
  refine Z_go (f2 := (10, [(0, .ref (P.2.2.2.1 j)), (1, .ref (P.2.2.1 0))], [.int (Zi 1), .ref (P.2.2.2.1 j)])) (fun _ => rfl) ?_
  refine C_pi rfl hs (hp.2.1 j hj hT).1 (by decide) (Nat.le_of_ble_eq_true rfl) (.inl rfl) rfl (by first | rfl | exact narrow_b01 (by omega)) (by first | rfl | exact fits_b01 (by omega)) (by first | exact hs.zF _ _ | exact Zor_r _ _ | exact hs.zA _ _ | assumption | exact zA _ _ | exact zS _ | exact Zr_not (hs.zA _ _) | exact hs.1.1 _ _ | exact ⟨by omega, by omega⟩) (fun h hs => ?_)
  refine Z_go (f2 := (14, [(0, .ref (P.2.2.2.1 j)), (1, .ref (P.2.2.1 0))], [.ref (P.2.2.2.1 j)])) (fun _ => rfl) ?_
  refine Z_go (f2 := (15, [(0, .ref (P.2.2.2.1 j)), (1, .ref (P.2.2.1 0))], [.int (Zi 0), .ref (P.2.2.2.1 j)])) (fun _ => rfl) ?_
  refine C_pi rfl hs (hp.2.1 j hj hT).1 (by decide) (Nat.le_of_ble_eq_true rfl) (.inl rfl) rfl (by first | rfl | exact narrow_b01 (by omega)) (by first | rfl | exact fits_b01 (by omega)) (by first | exact hs.zF _ _ | exact Zor_r _ _ | exact hs.zA _ _ | assumption | exact zA _ _ | exact zS _ | exact Zr_not (hs.zA _ _) | exact hs.1.1 _ _ | exact ⟨by omega, by omega⟩) (fun h hs => ?_)
  refine Z_ret rfl rfl ⟨_, hs, ?_⟩
  try dsimp only
  have hp := hp.upE hw1 hj hT (v := 1) (.inr rfl)
  have hw2 := hw1.sF (o := P.2.2.2.1 j) (b := 0) (z := 1) ⟨by omega, by omega⟩
  have hp := hp.upU hw2 hj hT (v := 0) (.inl rfl)
  have cs := (cs.tr (D_cs.flag (ω := ω1) (z := 1) (b := 0) hT8)).tr (D_cs.flag (ω := ω1) (z := 0) (b := 1) (j := j) hT8)
  exact ⟨rfl, _, ⟨_, hp, cs⟩, D_pv.of0 (xs := xs) (by simp only [g_sr, g_sf, g_st, g_se, g_su]; repeat (first | rw [g_up_s] | rw [g_up_o (by omega)])) (by simp only [g_sr, g_sf, g_st, g_se, g_su]; repeat (first | rw [g_up_s] | rw [g_up_o (by omega)])) hso hA (by simp only [g_sr, g_sf, g_st, g_se, g_su]; repeat (first | rw [g_up_s] | rw [g_up_o (by omega)])), fun i hi => ⟨rfl, rfl, rfl, (by simp only [g_sr, g_sf, g_st, g_se, g_su]; repeat (first | rw [g_up_s] | rw [g_up_o (by omega)])), (by simp only [g_sr, g_sf, g_st, g_se, g_su]; repeat (first | rw [g_up_s] | rw [g_up_o (by omega)])), (by simp only [g_sr, g_sf, g_st, g_se, g_su]; repeat (first | rw [g_up_s] | rw [g_up_o (by omega)]))⟩⟩
theorem C_bsh (d : Nat) {s : C_S} {pp : List Nat} {pl tr B : Nat} {G : G_t} {P : G_p} {ω : Nat → Nat} {j : Nat} (hp : D_Pl s pp pl tr B G P ω) (B0 : 1280 ≤ B) (B1 : B ≤ 20000) (hj : j ≤ 38) (hT : P.2.2.2.2.1 j = true) (e0 : G.1 0 = []) : C_ok (d + 5) 53 [.ref (P.2.2.2.1 j), .ref (P.1 0)] s (fun x s2 n => x = none ∧ ∃ G2, D_ch pp pl tr B s P ω G2 s2 n ∧ D_pv B G2 j V_shut ∧ ∀ i, i ≠ j → G_oth i G G2) := by
  refine C_enter (M := E_m53) rfl (Nat.le_of_ble_eq_true rfl) (fun h0 h hs => ?_)
  show B_R (d + 4) _ (0, [(0, .ref (P.2.2.2.1 j)), (1, .ref (P.1 0))], []) _ _ _
  have cs := D_cs.refl pp s ω
  have hw1 := hs.1
  have okj0 := (hp.2.1 j hj hT).1
  have hT8 := (hp.2.1 j hj hT).2.1
  have hp := hp.upE hw1 hj hT (v := 0) (.inl rfl)
  have hw2 := hw1.sF (o := P.2.2.2.1 j) (b := 0) (z := 0) ⟨by omega, by omega⟩
  have hp := hp.upU hw2 hj hT (v := 1) (.inr rfl)
  have cs := (cs.tr (D_cs.flag (ω := ω) (z := 0) (b := 0) hT8)).tr (D_cs.flag (ω := ω) (z := 1) (b := 1) (j := j) hT8)
  have okj := (hp.2.1 j hj hT).1
  refine Z_go (f2 := (1, [(0, .ref (P.2.2.2.1 j)), (1, .ref (P.1 0))], [.ref (P.2.2.2.1 j)])) (fun _ => rfl) ?_
  refine Z_go (f2 := (2, [(0, .ref (P.2.2.2.1 j)), (1, .ref (P.1 0))], [.int (Zi 0), .ref (P.2.2.2.1 j)])) (fun _ => rfl) ?_
  refine C_pi rfl hs okj0 (by decide) (Nat.le_of_ble_eq_true rfl) (.inl rfl) rfl (by first | rfl | exact narrow_b01 (by omega)) (by first | rfl | exact fits_b01 (by omega)) (by first | exact hs.zF _ _ | exact Zor_r _ _ | exact hs.zA _ _ | assumption | exact zA _ _ | exact zS _ | exact Zr_not (hs.zA _ _) | exact hs.1.1 _ _ | exact ⟨by omega, by omega⟩) (fun h hs => ?_)
  refine Z_go (f2 := (6, [(0, .ref (P.2.2.2.1 j)), (1, .ref (P.1 0))], [.ref (P.2.2.2.1 j)])) (fun _ => rfl) ?_
  refine Z_go (f2 := (7, [(0, .ref (P.2.2.2.1 j)), (1, .ref (P.1 0))], [.int (Zi 1), .ref (P.2.2.2.1 j)])) (fun _ => rfl) ?_
  refine C_pi rfl hs okj0 (by decide) (Nat.le_of_ble_eq_true rfl) (.inl rfl) rfl (by first | rfl | exact narrow_b01 (by omega)) (by first | rfl | exact fits_b01 (by omega)) (by first | exact hs.zF _ _ | exact Zor_r _ _ | exact hs.zA _ _ | assumption | exact zA _ _ | exact zS _ | exact Zr_not (hs.zA _ _) | exact hs.1.1 _ _ | exact ⟨by omega, by omega⟩) (fun h hs => ?_)
  refine Z_go (f2 := (11, [(0, .ref (P.2.2.2.1 j)), (1, .ref (P.1 0))], [.ref (P.2.2.2.1 j)])) (fun _ => rfl) ?_
  refine C_gr rfl hs okj0 (by decide) (Nat.le_of_ble_eq_true rfl) rfl (hp.2.1 j hj hT).2.2.2.1 ?_
  refine C_callV (As := []) (rest := []) rfl (by decide) rfl (by decide) rfl rfl (by decide +kernel) (Nat.le_of_ble_eq_true rfl) hs (hp.rK (Pl_h4 hj hT)) (o_clear _ hp (Pl_h4 hj hT) hs.1) (fun x h v81 n81 hs q => ?_)
  obtain ⟨rfl, ω2, hp, cq⟩ := q
  have cs := cs.tr cq
  show B_R _ _ (17, [(0, .ref (P.2.2.2.1 j)), (1, .ref (P.1 0))], []) _ _ _
  refine Z_go (f2 := (18, [(0, .ref (P.2.2.2.1 j)), (1, .ref (P.1 0))], [.ref (P.2.2.2.1 j)])) (fun _ => rfl) ?_
  refine C_gr rfl hs (hp.2.1 j hj hT).1 (by decide) (Nat.le_of_ble_eq_true rfl) rfl (hp.2.1 j hj hT).2.2.2.1 ?_
  refine Z_go (f2 := (22, [(0, .ref (P.2.2.2.1 j)), (1, .ref (P.1 0))], [.int (Zi 0), .ref (P.1 (4 + 2 * j))])) (fun _ => rfl) ?_
  refine C_callV (As := [.int (Zi 0)]) (rest := []) rfl (by decide) rfl (by decide) rfl rfl (by decide +kernel) (Nat.le_of_ble_eq_true rfl) hs (hp.rK (Pl_h4 hj hT)) (o_push' _ hp (Pl_h4 hj hT) (xs := []) (by simp only [g_sr, g_sf, g_st, g_se, g_su]; repeat (first | rw [g_up_s] | rw [g_up_o (by omega)])) hs.1 (v := 0) ⟨by omega, by omega⟩ (by show 2 * (0 + 1) ≤ B; omega) B1) (fun x h v82 n82 hs q => ?_)
  obtain ⟨rfl, ω2, hp, cq⟩ := q
  have cs := cs.tr cq
  rw [g_sr_i, List.nil_append] at hp
  show B_R _ _ (25, [(0, .ref (P.2.2.2.1 j)), (1, .ref (P.1 0))], []) _ _ _
  refine Z_go (f2 := (26, [(0, .ref (P.2.2.2.1 j)), (1, .ref (P.1 0))], [.ref (P.2.2.2.1 j)])) (fun _ => rfl) ?_
  refine C_gr rfl hs (hp.2.1 j hj hT).1 (by decide) (Nat.le_of_ble_eq_true rfl) rfl (hp.2.1 j hj hT).2.2.2.2.1 ?_
  refine C_callV (As := []) (rest := []) rfl (by decide) rfl (by decide) rfl rfl (by decide +kernel) (Nat.le_of_ble_eq_true rfl) hs (hp.rK (Pl_h5 hj hT)) (o_clear _ hp (Pl_h5 hj hT) hs.1) (fun x h v83 n83 hs q => ?_)
  obtain ⟨rfl, ω2, hp, cq⟩ := q
  have cs := cs.tr cq
  show B_R _ _ (32, [(0, .ref (P.2.2.2.1 j)), (1, .ref (P.1 0))], []) _ _ _
  refine Z_go (f2 := (33, [(0, .ref (P.2.2.2.1 j)), (1, .ref (P.1 0))], [.ref (P.2.2.2.1 j)])) (fun _ => rfl) ?_
  refine C_gr rfl hs (hp.2.1 j hj hT).1 (by decide) (Nat.le_of_ble_eq_true rfl) rfl (hp.2.1 j hj hT).2.2.2.2.1 ?_
  refine Z_go (f2 := (37, [(0, .ref (P.2.2.2.1 j)), (1, .ref (P.1 0))], [.int (Zi 0), .ref (P.1 (5 + 2 * j))])) (fun _ => rfl) ?_
  refine C_callV (As := [.int (Zi 0)]) (rest := []) rfl (by decide) rfl (by decide) rfl rfl (by decide +kernel) (Nat.le_of_ble_eq_true rfl) hs (hp.rK (Pl_h5 hj hT)) (o_push' _ hp (Pl_h5 hj hT) (xs := []) (by simp only [g_sr, g_sf, g_st, g_se, g_su]; repeat (first | rw [g_up_s] | rw [g_up_o (by omega)])) hs.1 (v := 0) ⟨by omega, by omega⟩ (by show 2 * (0 + 1) ≤ B; omega) B1) (fun x h v84 n84 hs q => ?_)
  obtain ⟨rfl, ω2, hp, cq⟩ := q
  have cs := cs.tr cq
  rw [g_sr_i, List.nil_append] at hp
  show B_R _ _ (40, [(0, .ref (P.2.2.2.1 j)), (1, .ref (P.1 0))], []) _ _ _
  refine Z_go (f2 := (41, [(0, .ref (P.2.2.2.1 j)), (1, .ref (P.1 0))], [.ref (P.2.2.2.1 j)])) (fun _ => rfl) ?_
  refine C_gr rfl hs (hp.2.1 j hj hT).1 (by decide) (Nat.le_of_ble_eq_true rfl) rfl (hp.2.1 j hj hT).2.2.2.2.2.1 ?_
  refine C_callV (As := []) (rest := []) rfl (by decide) rfl (by decide) rfl rfl (by decide +kernel) (Nat.le_of_ble_eq_true rfl) hs (hp.fK (Pl_h2 hj hT)) (o_fclear _ hp (Pl_h2 hj hT) hs.1) (fun x h v85 n85 hs q => ?_)
  obtain ⟨rfl, ω2, hp, cq⟩ := q
  have cs := cs.tr cq
  show B_R _ _ (47, [(0, .ref (P.2.2.2.1 j)), (1, .ref (P.1 0))], []) _ _ _
  refine Z_go (f2 := (48, [(0, .ref (P.2.2.2.1 j)), (1, .ref (P.1 0))], [.ref (P.2.2.2.1 j)])) (fun _ => rfl) ?_
  refine C_gr rfl hs (hp.2.1 j hj hT).1 (by decide) (Nat.le_of_ble_eq_true rfl) rfl (hp.2.1 j hj hT).2.2.2.2.2.1 ?_
  refine Z_go (f2 := (52, [(0, .ref (P.2.2.2.1 j)), (1, .ref (P.1 0))], [.ref (P.1 0), .ref (P.2.1 (2 + j))])) (fun _ => rfl) ?_
  refine C_callV (As := [.ref (P.1 0)]) (rest := []) rfl (by decide) rfl (by decide) rfl rfl (by decide +kernel) (Nat.le_of_ble_eq_true rfl) hs (hp.fK (Pl_h2 hj hT)) (o_offerR' _ hp (f := 2 + j) (Pl_h2 hj hT) (r := 0) (.inl (by omega)) (xf := []) (xs := []) (by simp only [g_sr, g_sf, g_st, g_se, g_su]; repeat (first | rw [g_up_s] | rw [g_up_o (by omega)])) (by simp only [g_sr, g_sf, g_st, g_se, g_su]; rw [g_up_o (by omega), g_up_o (by omega)]; exact e0) hs.1 trivial (by show (0 : Nat) < _; unfold Pl_R; rw [if_neg (by omega)]; omega) B0 B1 (by show 2 * 0 ≤ B; omega)) (fun x h v86 n86 hs q => ?_)
  obtain ⟨rfl, ω2, hp, cq⟩ := q
  have cs := cs.tr cq
  rw [g_sf_i, F_off_nil] at hp
  show B_R _ _ (55, [(0, .ref (P.2.2.2.1 j)), (1, .ref (P.1 0))], []) _ _ _
  refine Z_ret rfl rfl ⟨_, hs, ?_⟩
  try dsimp only
  exact ⟨rfl, _, ⟨_, hp, cs⟩, D_pv.ofi (q := (F_one [], F_one [], F_one [])) (by simp only [g_sr, g_sf, g_st, g_se, g_su]; repeat (first | rw [g_up_s] | rw [g_up_o (by omega)])) (by simp only [g_sr, g_sf, g_st, g_se, g_su]; repeat (first | rw [g_up_s] | rw [g_up_o (by omega)])) (D_pu.of (a := [0]) (b := [0]) (c := [[]]) (by simp only [g_sr, g_sf, g_st, g_se, g_su]; repeat (first | rw [g_up_s] | rw [g_up_o (by omega)])) (by simp only [g_sr, g_sf, g_st, g_se, g_su]; repeat (first | rw [g_up_s] | rw [g_up_o (by omega)])) (by simp only [g_sr, g_sf, g_st, g_se, g_su]; repeat (first | rw [g_up_s] | rw [g_up_o (by omega)])) ⟨K_is_one, by show 1 ≤ 12; omega, K_is_one, by show 1 ≤ 12; omega, F_tel_one trivial, by show 1 ≤ 24; omega, fun c hc => by rw [List.mem_singleton.mp hc]; show 2 * 0 ≤ B; omega⟩), fun i hi => ⟨(by simp only [g_sr, g_sf, g_st, g_se, g_su]; repeat (first | rw [g_up_s] | rw [g_up_o (by omega)])), (by simp only [g_sr, g_sf, g_st, g_se, g_su]; repeat (first | rw [g_up_s] | rw [g_up_o (by omega)])), (by simp only [g_sr, g_sf, g_st, g_se, g_su]; repeat (first | rw [g_up_s] | rw [g_up_o (by omega)])), rfl, (by simp only [g_sr, g_sf, g_st, g_se, g_su]; repeat (first | rw [g_up_s] | rw [g_up_o (by omega)])), (by simp only [g_sr, g_sf, g_st, g_se, g_su]; repeat (first | rw [g_up_s] | rw [g_up_o (by omega)]))⟩⟩
theorem C_join2 {d : Nat} {h0 : E_H} {s : C_S} {pp : List Nat} {pl tr B : Nat} {G : G_t} {P : G_p} {ω : Nat → Nat} {j k : Nat} {v w : P_V} {G0 : G_t} (B0 : 1280 ≤ B) (B1 : B ≤ 20000) (hj : j ≤ 38) (hT : P.2.2.2.2.1 j = true) (hk : k ≤ 38) (hT2 : P.2.2.2.2.1 k = true) (ne : j ≠ k) (hv : D_pv B G j v) (hw : D_pv B G k w) (an1 : ∀ x y, V_C v x → V_C v y → L_le x y → x = y) (an2 : ∀ x y, F_both (V_C v) (V_C w) x → F_both (V_C v) (V_C w) y → L_le x y → x = y) (lb1 : ∀ x y, V_C v x → V_C w y → 2 * (x.length + y.length) ≤ B) (lb2 : ∀ z, F_both (V_C v) (V_C w) z → 2 * (z.length + 2) ≤ B) (hg0 : ∀ i, i ≠ j → i ≠ k → G_oth i G0 G) : ∀ (u : C_S) (h : E_H) (sl : Nat) (ω2 : Nat → Nat), C_is h0 h u → D_Pl u pp pl tr B G P ω2 → D_cs pp s u ω ω2 sl → B_R (d + 7) E_m65 (38, [(0, .ref pl), (1, .ref (P.2.2.2.1 j)), (2, .ref (P.2.2.2.1 k))], []) h sl (fun x => ∃ s2 : C_S, C_is h0 x.2.1 s2 ∧ x.1 = none ∧ ∃ G2, D_ch pp pl tr B s P ω G2 s2 x.2.2 ∧ D_pv B G2 j (V_beh2 v w) ∧ D_pv B G2 k w ∧ ∀ i, i ≠ j → i ≠ k → G_oth i G0 G2) := by
  intro u h sl ω2 hs hp cs
  have hjk : k ≠ j := fun e => ne e.symm
  refine Z_go (f2 := (39, [(0, .ref pl), (1, .ref (P.2.2.2.1 j)), (2, .ref (P.2.2.2.1 k))], [.ref pl])) (fun _ => rfl) ?_
  refine Z_go (f2 := (40, [(0, .ref pl), (1, .ref (P.2.2.2.1 j)), (2, .ref (P.2.2.2.1 k))], [.ref (P.2.2.2.1 j), .ref pl])) (fun _ => rfl) ?_
  refine C_callV (As := [.ref (P.2.2.2.1 j)]) (rest := []) rfl (by decide) rfl (by decide) rfl rfl (by decide +kernel) (Nat.le_of_ble_eq_true rfl) hs hp.1.1.1 (C_unf _ hp B0 B1 hj hT hv) (fun x h v87 n87 hs q => ?_)
  obtain ⟨rfl, G1, ⟨ω3, hp, cq⟩, hv, uv, ev, tv, ot1⟩ := q
  have cs := cs.tr cq
  have hw := hw.congr (ot1 k hjk)
  show B_R _ _ (43, [(0, .ref pl), (1, .ref (P.2.2.2.1 j)), (2, .ref (P.2.2.2.1 k))], []) _ _ _
  refine Z_go (f2 := (44, [(0, .ref pl), (1, .ref (P.2.2.2.1 j)), (2, .ref (P.2.2.2.1 k))], [.ref pl])) (fun _ => rfl) ?_
  refine Z_go (f2 := (45, [(0, .ref pl), (1, .ref (P.2.2.2.1 j)), (2, .ref (P.2.2.2.1 k))], [.ref (P.2.2.2.1 k), .ref pl])) (fun _ => rfl) ?_
  refine C_callV (As := [.ref (P.2.2.2.1 k)]) (rest := []) rfl (by decide) rfl (by decide) rfl rfl (by decide +kernel) (Nat.le_of_ble_eq_true rfl) hs hp.1.1.1 (C_unf _ hp B0 B1 hk hT2 hw) (fun x h v88 n88 hs q => ?_)
  obtain ⟨rfl, G2, ⟨ω3, hp, cq⟩, hw, uw, ew, tw, ot2⟩ := q
  have cs := cs.tr cq
  have hv := hv.congr (ot2 j ne)
  have uv : G2.2.2.2.2 j = 1 := ((ot2 j ne).2.2.2.2.2).trans uv
  obtain ⟨pa1, pa2, pa3, pa4, pa5, pa6, pa7⟩ := hv.u uv
  obtain ⟨pb1, pb2, pb3, pb4, pb5, pb6, pb7⟩ := hw.u uw
  have hot : ∀ i, i ≠ j → i ≠ k → G_oth i G0 G2 := fun i h1 h2 => ((hg0 i h1 h2).tr (ot1 i h1)).tr (ot2 i h2)
  have cj := (hp.2.1 j hj hT).2.2.2.2.2.2.2.2.1
  have ck := (hp.2.1 k hk hT2).2.2.2.2.2.2.2.2.1
  have zej : Zr (G2.2.2.2.1 j) := ⟨by omega, by omega⟩
  have zek : Zr (G2.2.2.2.1 k) := ⟨by omega, by omega⟩
  show B_R _ _ (48, [(0, .ref pl), (1, .ref (P.2.2.2.1 j)), (2, .ref (P.2.2.2.1 k))], []) _ _ _
  refine Z_go (f2 := (49, [(0, .ref pl), (1, .ref (P.2.2.2.1 j)), (2, .ref (P.2.2.2.1 k))], [.ref pl])) (fun _ => rfl) ?_
  refine Z_go (f2 := (50, [(0, .ref pl), (1, .ref (P.2.2.2.1 j)), (2, .ref (P.2.2.2.1 k))], [.ref (P.2.2.2.1 j), .ref pl])) (fun _ => rfl) ?_
  refine C_gr rfl hs (hp.2.1 j hj hT).1 (by decide) (Nat.le_of_ble_eq_true rfl) rfl (hp.2.1 j hj hT).2.2.2.2.1 ?_
  refine Z_go (f2 := (54, [(0, .ref pl), (1, .ref (P.2.2.2.1 j)), (2, .ref (P.2.2.2.1 k))], [.ref (P.2.2.2.1 k), .ref (P.1 (5 + 2 * j)), .ref pl])) (fun _ => rfl) ?_
  refine C_gr rfl hs (hp.2.1 k hk hT2).1 (by decide) (Nat.le_of_ble_eq_true rfl) rfl (hp.2.1 k hk hT2).2.2.2.1 ?_
  refine C_callV (As := [.ref (P.1 (5 + 2 * j)), .ref (P.1 (4 + 2 * k))]) (rest := []) rfl (by decide) rfl (by decide) rfl rfl (by decide +kernel) (Nat.le_of_ble_eq_true rfl) hs hp.1.1.1 (C_cross _ hp B0 B1 (Pl_h5 hj hT) (Pl_h4 hk hT2) (by omega) (by omega) rfl rfl pa3 pb1 pa4 pb2) (fun x h v89 n89 hs q => ?_)
  obtain ⟨rfl, yc, j9, k9, zf, qc1, qc2, qc3, ω3, hp, cq⟩ := q
  have cs := cs.tr cq
  show B_R _ _ (60, [(0, .ref pl), (1, .ref (P.2.2.2.1 j)), (2, .ref (P.2.2.2.1 k))], []) _ _ _
  refine Z_go (f2 := (61, [(0, .ref pl), (1, .ref (P.2.2.2.1 j)), (2, .ref (P.2.2.2.1 k))], [.ref (P.2.2.2.1 j)])) (fun _ => rfl) ?_
  refine C_gi rfl hs (hp.2.1 j hj hT).1 (by decide) (Nat.le_of_ble_eq_true rfl) rfl ?_
  rw [show C_F (v89) (P.2.2.2.1 j) 0 = G2.2.2.2.1 j from (by first | exact (hp.2.1 j hj hT).2.2.2.2.2.2.1 | exact (if_neg (fun e => absurd e.1 (by assumption))).trans (hp.2.1 j hj hT).2.2.2.2.2.2.1 | exact (if_neg (fun e => absurd e.2 (by decide))).trans (hp.2.1 j hj hT).2.2.2.2.2.2.1 | exact (if_neg (fun e => absurd e.2 (by decide))).trans ((if_neg (fun e => absurd e.2 (by decide))).trans (hp.2.1 j hj hT).2.2.2.2.2.2.1) | exact (if_neg (fun e => absurd e.2 (by decide))).trans ((if_neg (fun e => absurd e.2 (by decide))).trans ((if_neg (fun e => absurd e.2 (by decide))).trans (hp.2.1 j hj hT).2.2.2.2.2.2.1)))]
  show B_R _ _ (64, [(0, .ref pl), (1, .ref (P.2.2.2.1 j)), (2, .ref (P.2.2.2.1 k))], [.int (Zi (G2.2.2.2.1 j))]) _ _ _
  refine Z_ieq rfl rfl (by first | exact hs.zF _ _ | exact Zor_r _ _ | exact hs.zA _ _ | assumption | exact zA _ _ | exact zS _ | exact Zr_not (hs.zA _ _) | exact hs.1.1 _ _ | exact ⟨by omega, by omega⟩) (fun y1 => ?_) (fun y1 => ?_)
  · refine Z_go (f2 := (77, [(0, .ref pl), (1, .ref (P.2.2.2.1 j)), (2, .ref (P.2.2.2.1 k))], [.ref (P.2.2.2.1 k)])) (fun _ => rfl) ?_
    refine C_gi rfl hs (hp.2.1 k hk hT2).1 (by decide) (Nat.le_of_ble_eq_true rfl) rfl ?_
    rw [show C_F (v89) (P.2.2.2.1 k) 0 = G2.2.2.2.1 k from (by first | exact (hp.2.1 k hk hT2).2.2.2.2.2.2.1 | exact (if_neg (fun e => absurd e.1 (by assumption))).trans (hp.2.1 k hk hT2).2.2.2.2.2.2.1 | exact (if_neg (fun e => absurd e.2 (by decide))).trans (hp.2.1 k hk hT2).2.2.2.2.2.2.1 | exact (if_neg (fun e => absurd e.2 (by decide))).trans ((if_neg (fun e => absurd e.2 (by decide))).trans (hp.2.1 k hk hT2).2.2.2.2.2.2.1) | exact (if_neg (fun e => absurd e.2 (by decide))).trans ((if_neg (fun e => absurd e.2 (by decide))).trans ((if_neg (fun e => absurd e.2 (by decide))).trans (hp.2.1 k hk hT2).2.2.2.2.2.2.1)))]
    show B_R _ _ (80, [(0, .ref pl), (1, .ref (P.2.2.2.1 j)), (2, .ref (P.2.2.2.1 k))], [.int (Zi (G2.2.2.2.1 k))]) _ _ _
    refine Z_ieq rfl rfl (by first | exact hs.zF _ _ | exact Zor_r _ _ | exact hs.zA _ _ | assumption | exact zA _ _ | exact zS _ | exact Zr_not (hs.zA _ _) | exact hs.1.1 _ _ | exact ⟨by omega, by omega⟩) (fun y2 => ?_) (fun y2 => ?_)
    · refine Z_go (f2 := (96, [(0, .ref pl), (1, .ref (P.2.2.2.1 j)), (2, .ref (P.2.2.2.1 k))], [.ref (P.2.2.2.1 j)])) (fun _ => rfl) ?_
      refine C_gr rfl hs (hp.2.1 j hj hT).1 (by decide) (Nat.le_of_ble_eq_true rfl) rfl (hp.2.1 j hj hT).2.2.2.2.1 ?_
      refine Z_go (f2 := (100, [(0, .ref pl), (1, .ref (P.2.2.2.1 j)), (2, .ref (P.2.2.2.1 k))], [.ref (P.2.2.2.1 k), .ref (P.1 (5 + 2 * j))])) (fun _ => rfl) ?_
      refine C_gr rfl hs (hp.2.1 k hk hT2).1 (by decide) (Nat.le_of_ble_eq_true rfl) rfl (hp.2.1 k hk hT2).2.2.2.2.1 ?_
      refine C_callV (As := [.ref (P.1 (5 + 2 * k))]) (rest := []) rfl (by decide) rfl (by decide) rfl rfl (by decide +kernel) (Nat.le_of_ble_eq_true rfl) hs (hp.rK (Pl_h5 hj hT)) (o_copy' _ hp (r := 5 + 2 * j) (r2 := 5 + 2 * k) (Pl_h5 hj hT) (Pl_h5 hk hT2) (xs := G2.1 (5 + 2 * k)) (by simp only [g_sr, g_sf, g_st, g_se, g_su]; repeat (first | rw [g_up_s] | rw [g_up_o (by omega)])) (by omega) hs.1 (by omega) B1) (fun x h v90 n90 hs q => ?_)
      obtain ⟨rfl, ω3, hp, cq⟩ := q
      have cs := cs.tr cq
      show B_R _ _ (106, [(0, .ref pl), (1, .ref (P.2.2.2.1 j)), (2, .ref (P.2.2.2.1 k))], []) _ _ _
      refine Z_go (f2 := (107, [(0, .ref pl), (1, .ref (P.2.2.2.1 j)), (2, .ref (P.2.2.2.1 k))], [.ref pl])) (fun _ => rfl) ?_
      refine Z_go (f2 := (108, [(0, .ref pl), (1, .ref (P.2.2.2.1 j)), (2, .ref (P.2.2.2.1 k))], [.ref (P.2.2.2.1 j), .ref pl])) (fun _ => rfl) ?_
      refine C_gr rfl hs (hp.2.1 j hj hT).1 (by decide) (Nat.le_of_ble_eq_true rfl) rfl (hp.2.1 j hj hT).2.2.2.2.2.1 ?_
      refine Z_go (f2 := (112, [(0, .ref pl), (1, .ref (P.2.2.2.1 j)), (2, .ref (P.2.2.2.1 k))], [.ref (P.2.2.2.1 k), .ref (P.2.1 (2 + j)), .ref pl])) (fun _ => rfl) ?_
      refine C_gr rfl hs (hp.2.1 k hk hT2).1 (by decide) (Nat.le_of_ble_eq_true rfl) rfl (hp.2.1 k hk hT2).2.2.2.2.2.1 ?_
      refine C_callV (As := [.ref (P.2.1 (2 + j)), .ref (P.2.1 (2 + k))]) (rest := []) rfl (by decide) rfl (by decide) rfl rfl (by decide +kernel) (Nat.le_of_ble_eq_true rfl) hs hp.1.1.1 (C_both _ hp B0 B1 (a := 2 + j) (b := 2 + k) (Pl_h2 hj hT) (Pl_h2 hk hT2) (by omega) (by omega) (xp := G2.2.1 (2 + j)) (xq := G2.2.1 (2 + k)) (by simp only [g_sr, g_sf, g_st, g_se, g_su]; repeat (first | rw [g_up_s] | rw [g_up_o (by omega)])) (by simp only [g_sr, g_sf, g_st, g_se, g_su]; repeat (first | rw [g_up_s] | rw [g_up_o (by omega)])) pa5 pb5 pa6 pb6 (fun x hx y hy => lb1 x y ((pa5.2.2 x).mp hx) ((pb5.2.2 y).mp hy)) (fun x hx y hy => an1 x y ((pa5.2.2 x).mp hx) ((pa5.2.2 y).mp hy))) (fun x h v91 n91 hs q => ?_)
      obtain ⟨rfl, y1_, a1_, a2_, a3_, qb1, qb2, qb3, ω3, hp, cq⟩ := q
      have cs := cs.tr cq
      show B_R _ _ (118, [(0, .ref pl), (1, .ref (P.2.2.2.1 j)), (2, .ref (P.2.2.2.1 k))], []) _ _ _
      refine Z_go (f2 := (119, [(0, .ref pl), (1, .ref (P.2.2.2.1 j)), (2, .ref (P.2.2.2.1 k))], [.ref pl])) (fun _ => rfl) ?_
      refine Z_go (f2 := (120, [(0, .ref pl), (1, .ref (P.2.2.2.1 j)), (2, .ref (P.2.2.2.1 k))], [.ref (P.2.2.2.1 j), .ref pl])) (fun _ => rfl) ?_
      refine C_gr rfl hs (hp.2.1 j hj hT).1 (by decide) (Nat.le_of_ble_eq_true rfl) rfl (hp.2.1 j hj hT).2.2.2.2.2.1 ?_
      refine Z_go (f2 := (124, [(0, .ref pl), (1, .ref (P.2.2.2.1 j)), (2, .ref (P.2.2.2.1 k))], [.ref pl, .ref (P.2.1 (2 + j)), .ref pl])) (fun _ => rfl) ?_
      refine C_gr rfl hs hp.1.1.1 (by decide) (Nat.le_of_ble_eq_true rfl) rfl hp.1.1.2.2.2.2.2.1 ?_
      refine C_callV (As := [.ref (P.2.1 (2 + j)), .ref (P.2.1 1)]) (rest := []) rfl (by decide) rfl (by decide) rfl rfl (by decide +kernel) (Nat.le_of_ble_eq_true rfl) hs hp.1.1.1 (C_both _ hp B0 B1 (a := 2 + j) (b := 1) (Pl_h2 hj hT) (.inl (by omega)) (by omega) (by omega) (xp := y1_) (xq := yc) (by simp only [g_sr, g_sf, g_st, g_se, g_su]; repeat (first | rw [g_up_s] | rw [g_up_o (by omega)])) (by simp only [g_sr, g_sf, g_st, g_se, g_su]; repeat (first | rw [g_up_s] | rw [g_up_o (by omega)])) qb1 qc1 qb2 qc2 (fun x hx y hy => by have := lb2 x ((qb1.2.2 x).mp hx); have := qc3 y hy; omega) (fun x hx y hy => an2 x y ((qb1.2.2 x).mp hx) ((qb1.2.2 y).mp hy))) (fun x h v92 n92 hs q => ?_)
      obtain ⟨rfl, y2_, b1_, b2_, b3_, qd1, qd2, qd3, ω3, hp, cq⟩ := q
      have cs := cs.tr cq
      have hw1 := hs.1
      have hT8 := (hp.2.1 j hj hT).2.1
      show B_R _ _ (130, [(0, .ref pl), (1, .ref (P.2.2.2.1 j)), (2, .ref (P.2.2.2.1 k))], []) _ _ _
      refine Z_go (f2 := (131, [(0, .ref pl), (1, .ref (P.2.2.2.1 j)), (2, .ref (P.2.2.2.1 k))], [.ref (P.2.2.2.1 j)])) (fun _ => rfl) ?_
      refine Z_go (f2 := (132, [(0, .ref pl), (1, .ref (P.2.2.2.1 j)), (2, .ref (P.2.2.2.1 k))], [.int (Zi 0), .ref (P.2.2.2.1 j)])) (fun _ => rfl) ?_
      refine C_pi rfl hs (hp.2.1 j hj hT).1 (by decide) (Nat.le_of_ble_eq_true rfl) (.inl rfl) rfl (by first | rfl | exact narrow_b01 (by omega)) (by first | rfl | exact fits_b01 (by omega)) (by first | exact hs.zF _ _ | exact Zor_r _ _ | exact hs.zA _ _ | assumption | exact zA _ _ | exact zS _ | exact Zr_not (hs.zA _ _) | exact hs.1.1 _ _ | exact ⟨by omega, by omega⟩) (fun h hs => ?_)
      refine Z_ret rfl rfl ?_
      try dsimp only
      have hp := hp.upE hw1 hj hT (v := 0) (.inl rfl)
      have cs := cs.tr (D_cs.flag (ω := ω3) (z := 0) (b := 0) hT8)
      obtain ⟨qv, rfl⟩ := hv.op (by omega)
      obtain ⟨qw, rfl⟩ := hw.op (by omega)
      refine ⟨_, hs, rfl, _, ⟨_, hp, cs⟩, D_pv.ofi (q := (qv.1, qw.2.1, F_both (F_both (V_C (.inr qv)) (V_C (.inr qw))) (F_least (F_im2 (fun t h => L_gr (t ++ h)) (V_T (.inr qv)) (V_H (.inr qw)))))) (by simp only [g_sr, g_sf, g_st, g_se, g_su]; repeat (first | rw [g_up_s] | rw [g_up_o (by omega)])) uv (D_pu.of (a := G2.1 (4 + 2 * j)) (b := G2.1 (5 + 2 * k)) (c := y2_) (by simp only [g_sr, g_sf, g_st, g_se, g_su]; repeat (first | rw [g_up_s] | rw [g_up_o (by omega)])) (by simp only [g_sr, g_sf, g_st, g_se, g_su]; repeat (first | rw [g_up_s] | rw [g_up_o (by omega)])) (by simp only [g_sr, g_sf, g_st, g_se, g_su]; repeat (first | rw [g_up_s] | rw [g_up_o (by omega)])) ⟨pa1, pa2, pb3, pb4, qd1, qd2, qd3⟩), hw.congr ⟨(by simp only [g_sr, g_sf, g_st, g_se, g_su]; repeat (first | rw [g_up_s] | rw [g_up_o (by omega)])), (by simp only [g_sr, g_sf, g_st, g_se, g_su]; repeat (first | rw [g_up_s] | rw [g_up_o (by omega)])), (by simp only [g_sr, g_sf, g_st, g_se, g_su]; repeat (first | rw [g_up_s] | rw [g_up_o (by omega)])), rfl, (by simp only [g_sr, g_sf, g_st, g_se, g_su]; repeat (first | rw [g_up_s] | rw [g_up_o (by omega)])), rfl⟩, fun i h1 h2 => (hot i h1 h2).tr ⟨(by simp only [g_sr, g_sf, g_st, g_se, g_su]; repeat (first | rw [g_up_s] | rw [g_up_o (by omega)])), (by simp only [g_sr, g_sf, g_st, g_se, g_su]; repeat (first | rw [g_up_s] | rw [g_up_o (by omega)])), (by simp only [g_sr, g_sf, g_st, g_se, g_su]; repeat (first | rw [g_up_s] | rw [g_up_o (by omega)])), rfl, (by simp only [g_sr, g_sf, g_st, g_se, g_su]; repeat (first | rw [g_up_s] | rw [g_up_o (by omega)])), rfl⟩⟩
    · obtain ⟨Aw, rfl, hsoQ, hQ⟩ := hw.ex (by omega)
      refine Z_go (f2 := (84, [(0, .ref pl), (1, .ref (P.2.2.2.1 j)), (2, .ref (P.2.2.2.1 k))], [.ref pl])) (fun _ => rfl) ?_
      refine Z_go (f2 := (85, [(0, .ref pl), (1, .ref (P.2.2.2.1 j)), (2, .ref (P.2.2.2.1 k))], [.ref (P.2.2.2.1 j), .ref pl])) (fun _ => rfl) ?_
      refine Z_go (f2 := (86, [(0, .ref pl), (1, .ref (P.2.2.2.1 j)), (2, .ref (P.2.2.2.1 k))], [.ref (P.2.2.2.1 k), .ref (P.2.2.2.1 j), .ref pl])) (fun _ => rfl) ?_
      refine C_gr rfl hs (hp.2.1 k hk hT2).1 (by decide) (Nat.le_of_ble_eq_true rfl) rfl (hp.2.1 k hk hT2).2.2.1 ?_
      refine C_callV (As := [.ref (P.2.2.2.1 j), .ref (P.2.2.1 (1 + k))]) (rest := []) rfl (by decide) rfl (by decide) rfl rfl (by decide +kernel) (Nat.le_of_ble_eq_true rfl) hs hp.1.1.1 (C_jtails _ hp B0 B1 hj hT (tx := 1 + k) (Pl_h1 hk hT2) (xs := G2.2.2.1 (1 + k)) (by rfl) (hd := G2.1 (5 + 2 * j)) (by simp only [g_sr, g_sf, g_st, g_se, g_su]; repeat (first | rw [g_up_s] | rw [g_up_o (by omega)])) hQ pa3 pa4) (fun x h v93 n93 hs q => ?_)
      obtain ⟨rfl, yt, kt, st, qt1, qt2, ω3, hp, cq⟩ := q
      have cs := cs.tr cq
      show B_R _ _ (92, [(0, .ref pl), (1, .ref (P.2.2.2.1 j)), (2, .ref (P.2.2.2.1 k))], []) _ _ _
      refine Z_go (f2 := (106, [(0, .ref pl), (1, .ref (P.2.2.2.1 j)), (2, .ref (P.2.2.2.1 k))], [])) (fun _ => rfl) ?_
      refine Z_go (f2 := (107, [(0, .ref pl), (1, .ref (P.2.2.2.1 j)), (2, .ref (P.2.2.2.1 k))], [.ref pl])) (fun _ => rfl) ?_
      refine Z_go (f2 := (108, [(0, .ref pl), (1, .ref (P.2.2.2.1 j)), (2, .ref (P.2.2.2.1 k))], [.ref (P.2.2.2.1 j), .ref pl])) (fun _ => rfl) ?_
      refine C_gr rfl hs (hp.2.1 j hj hT).1 (by decide) (Nat.le_of_ble_eq_true rfl) rfl (hp.2.1 j hj hT).2.2.2.2.2.1 ?_
      refine Z_go (f2 := (112, [(0, .ref pl), (1, .ref (P.2.2.2.1 j)), (2, .ref (P.2.2.2.1 k))], [.ref (P.2.2.2.1 k), .ref (P.2.1 (2 + j)), .ref pl])) (fun _ => rfl) ?_
      refine C_gr rfl hs (hp.2.1 k hk hT2).1 (by decide) (Nat.le_of_ble_eq_true rfl) rfl (hp.2.1 k hk hT2).2.2.2.2.2.1 ?_
      refine C_callV (As := [.ref (P.2.1 (2 + j)), .ref (P.2.1 (2 + k))]) (rest := []) rfl (by decide) rfl (by decide) rfl rfl (by decide +kernel) (Nat.le_of_ble_eq_true rfl) hs hp.1.1.1 (C_both _ hp B0 B1 (a := 2 + j) (b := 2 + k) (Pl_h2 hj hT) (Pl_h2 hk hT2) (by omega) (by omega) (xp := G2.2.1 (2 + j)) (xq := G2.2.1 (2 + k)) (by simp only [g_sr, g_sf, g_st, g_se, g_su]; repeat (first | rw [g_up_s] | rw [g_up_o (by omega)])) (by simp only [g_sr, g_sf, g_st, g_se, g_su]; repeat (first | rw [g_up_s] | rw [g_up_o (by omega)])) pa5 pb5 pa6 pb6 (fun x hx y hy => lb1 x y ((pa5.2.2 x).mp hx) ((pb5.2.2 y).mp hy)) (fun x hx y hy => an1 x y ((pa5.2.2 x).mp hx) ((pa5.2.2 y).mp hy))) (fun x h v94 n94 hs q => ?_)
      obtain ⟨rfl, y1_, a1_, a2_, a3_, qb1, qb2, qb3, ω3, hp, cq⟩ := q
      have cs := cs.tr cq
      show B_R _ _ (118, [(0, .ref pl), (1, .ref (P.2.2.2.1 j)), (2, .ref (P.2.2.2.1 k))], []) _ _ _
      refine Z_go (f2 := (119, [(0, .ref pl), (1, .ref (P.2.2.2.1 j)), (2, .ref (P.2.2.2.1 k))], [.ref pl])) (fun _ => rfl) ?_
      refine Z_go (f2 := (120, [(0, .ref pl), (1, .ref (P.2.2.2.1 j)), (2, .ref (P.2.2.2.1 k))], [.ref (P.2.2.2.1 j), .ref pl])) (fun _ => rfl) ?_
      refine C_gr rfl hs (hp.2.1 j hj hT).1 (by decide) (Nat.le_of_ble_eq_true rfl) rfl (hp.2.1 j hj hT).2.2.2.2.2.1 ?_
      refine Z_go (f2 := (124, [(0, .ref pl), (1, .ref (P.2.2.2.1 j)), (2, .ref (P.2.2.2.1 k))], [.ref pl, .ref (P.2.1 (2 + j)), .ref pl])) (fun _ => rfl) ?_
      refine C_gr rfl hs hp.1.1.1 (by decide) (Nat.le_of_ble_eq_true rfl) rfl hp.1.1.2.2.2.2.2.1 ?_
      refine C_callV (As := [.ref (P.2.1 (2 + j)), .ref (P.2.1 1)]) (rest := []) rfl (by decide) rfl (by decide) rfl rfl (by decide +kernel) (Nat.le_of_ble_eq_true rfl) hs hp.1.1.1 (C_both _ hp B0 B1 (a := 2 + j) (b := 1) (Pl_h2 hj hT) (.inl (by omega)) (by omega) (by omega) (xp := y1_) (xq := yc) (by simp only [g_sr, g_sf, g_st, g_se, g_su]; repeat (first | rw [g_up_s] | rw [g_up_o (by omega)])) (by simp only [g_sr, g_sf, g_st, g_se, g_su]; repeat (first | rw [g_up_s] | rw [g_up_o (by omega)])) qb1 qc1 qb2 qc2 (fun x hx y hy => by have := lb2 x ((qb1.2.2 x).mp hx); have := qc3 y hy; omega) (fun x hx y hy => an2 x y ((qb1.2.2 x).mp hx) ((qb1.2.2 y).mp hy))) (fun x h v95 n95 hs q => ?_)
      obtain ⟨rfl, y2_, b1_, b2_, b3_, qd1, qd2, qd3, ω3, hp, cq⟩ := q
      have cs := cs.tr cq
      have hw1 := hs.1
      have hT8 := (hp.2.1 j hj hT).2.1
      show B_R _ _ (130, [(0, .ref pl), (1, .ref (P.2.2.2.1 j)), (2, .ref (P.2.2.2.1 k))], []) _ _ _
      refine Z_go (f2 := (131, [(0, .ref pl), (1, .ref (P.2.2.2.1 j)), (2, .ref (P.2.2.2.1 k))], [.ref (P.2.2.2.1 j)])) (fun _ => rfl) ?_
      refine Z_go (f2 := (132, [(0, .ref pl), (1, .ref (P.2.2.2.1 j)), (2, .ref (P.2.2.2.1 k))], [.int (Zi 0), .ref (P.2.2.2.1 j)])) (fun _ => rfl) ?_
      refine C_pi rfl hs (hp.2.1 j hj hT).1 (by decide) (Nat.le_of_ble_eq_true rfl) (.inl rfl) rfl (by first | rfl | exact narrow_b01 (by omega)) (by first | rfl | exact fits_b01 (by omega)) (by first | exact hs.zF _ _ | exact Zor_r _ _ | exact hs.zA _ _ | assumption | exact zA _ _ | exact zS _ | exact Zr_not (hs.zA _ _) | exact hs.1.1 _ _ | exact ⟨by omega, by omega⟩) (fun h hs => ?_)
      refine Z_ret rfl rfl ?_
      try dsimp only
      have hp := hp.upE hw1 hj hT (v := 0) (.inl rfl)
      have cs := cs.tr (D_cs.flag (ω := ω3) (z := 0) (b := 0) hT8)
      obtain ⟨qv, rfl⟩ := hv.op (by omega)
      refine ⟨_, hs, rfl, _, ⟨_, hp, cs⟩, D_pv.ofi (q := (qv.1, E_ts (F_im2 (fun t u => E_tl (u ++ t)) Aw (V_T (.inr qv))), F_both (F_both (V_C (.inr qv)) (V_C (.inl Aw))) (F_least (F_im2 (fun t h => L_gr (t ++ h)) (V_T (.inr qv)) (V_H (.inl Aw)))))) (by simp only [g_sr, g_sf, g_st, g_se, g_su]; repeat (first | rw [g_up_s] | rw [g_up_o (by omega)])) uv (D_pu.of (a := G2.1 (4 + 2 * j)) (b := yt) (c := y2_) (by simp only [g_sr, g_sf, g_st, g_se, g_su]; repeat (first | rw [g_up_s] | rw [g_up_o (by omega)])) (by simp only [g_sr, g_sf, g_st, g_se, g_su]; repeat (first | rw [g_up_s] | rw [g_up_o (by omega)])) (by simp only [g_sr, g_sf, g_st, g_se, g_su]; repeat (first | rw [g_up_s] | rw [g_up_o (by omega)])) ⟨pa1, pa2, qt1, qt2, qd1, qd2, qd3⟩), hw.congr ⟨(by simp only [g_sr, g_sf, g_st, g_se, g_su]; repeat (first | rw [g_up_s] | rw [g_up_o (by omega)])), (by simp only [g_sr, g_sf, g_st, g_se, g_su]; repeat (first | rw [g_up_s] | rw [g_up_o (by omega)])), (by simp only [g_sr, g_sf, g_st, g_se, g_su]; repeat (first | rw [g_up_s] | rw [g_up_o (by omega)])), rfl, (by simp only [g_sr, g_sf, g_st, g_se, g_su]; repeat (first | rw [g_up_s] | rw [g_up_o (by omega)])), rfl⟩, fun i h1 h2 => (hot i h1 h2).tr ⟨(by simp only [g_sr, g_sf, g_st, g_se, g_su]; repeat (first | rw [g_up_s] | rw [g_up_o (by omega)])), (by simp only [g_sr, g_sf, g_st, g_se, g_su]; repeat (first | rw [g_up_s] | rw [g_up_o (by omega)])), (by simp only [g_sr, g_sf, g_st, g_se, g_su]; repeat (first | rw [g_up_s] | rw [g_up_o (by omega)])), rfl, (by simp only [g_sr, g_sf, g_st, g_se, g_su]; repeat (first | rw [g_up_s] | rw [g_up_o (by omega)])), rfl⟩⟩
  · obtain ⟨Av, rfl, hsoA, hA⟩ := hv.ex (by omega)
    refine Z_go (f2 := (68, [(0, .ref pl), (1, .ref (P.2.2.2.1 j)), (2, .ref (P.2.2.2.1 k))], [.ref pl])) (fun _ => rfl) ?_
    refine Z_go (f2 := (69, [(0, .ref pl), (1, .ref (P.2.2.2.1 j)), (2, .ref (P.2.2.2.1 k))], [.ref (P.2.2.2.1 j), .ref pl])) (fun _ => rfl) ?_
    refine Z_go (f2 := (70, [(0, .ref pl), (1, .ref (P.2.2.2.1 j)), (2, .ref (P.2.2.2.1 k))], [.ref (P.2.2.2.1 k), .ref (P.2.2.2.1 j), .ref pl])) (fun _ => rfl) ?_
    refine C_gr rfl hs (hp.2.1 k hk hT2).1 (by decide) (Nat.le_of_ble_eq_true rfl) rfl (hp.2.1 k hk hT2).2.2.2.1 ?_
    refine C_callV (As := [.ref (P.2.2.2.1 j), .ref (P.1 (4 + 2 * k))]) (rest := []) rfl (by decide) rfl (by decide) rfl rfl (by decide +kernel) (Nat.le_of_ble_eq_true rfl) hs hp.1.1.1 (C_jheads _ hp B0 B1 hj hT (rr := 4 + 2 * k) (Pl_h4 hk hT2) (by omega) (xs := G2.2.2.1 (1 + j)) (by rfl) (hd := G2.1 (4 + 2 * k)) (by simp only [g_sr, g_sf, g_st, g_se, g_su]; repeat (first | rw [g_up_s] | rw [g_up_o (by omega)])) hA pb1 pb2) (fun x h v96 n96 hs q => ?_)
    obtain ⟨rfl, yh, kh, sh, qh1, qh2, ω3, hp, cq⟩ := q
    have cs := cs.tr cq
    show B_R _ _ (76, [(0, .ref pl), (1, .ref (P.2.2.2.1 j)), (2, .ref (P.2.2.2.1 k))], []) _ _ _
    refine Z_go (f2 := (77, [(0, .ref pl), (1, .ref (P.2.2.2.1 j)), (2, .ref (P.2.2.2.1 k))], [.ref (P.2.2.2.1 k)])) (fun _ => rfl) ?_
    refine C_gi rfl hs (hp.2.1 k hk hT2).1 (by decide) (Nat.le_of_ble_eq_true rfl) rfl ?_
    rw [show C_F (v96) (P.2.2.2.1 k) 0 = G2.2.2.2.1 k from (by first | exact (hp.2.1 k hk hT2).2.2.2.2.2.2.1 | exact (if_neg (fun e => absurd e.1 (by assumption))).trans (hp.2.1 k hk hT2).2.2.2.2.2.2.1 | exact (if_neg (fun e => absurd e.2 (by decide))).trans (hp.2.1 k hk hT2).2.2.2.2.2.2.1 | exact (if_neg (fun e => absurd e.2 (by decide))).trans ((if_neg (fun e => absurd e.2 (by decide))).trans (hp.2.1 k hk hT2).2.2.2.2.2.2.1) | exact (if_neg (fun e => absurd e.2 (by decide))).trans ((if_neg (fun e => absurd e.2 (by decide))).trans ((if_neg (fun e => absurd e.2 (by decide))).trans (hp.2.1 k hk hT2).2.2.2.2.2.2.1)))]
    show B_R _ _ (80, [(0, .ref pl), (1, .ref (P.2.2.2.1 j)), (2, .ref (P.2.2.2.1 k))], [.int (Zi (G2.2.2.2.1 k))]) _ _ _
    refine Z_ieq rfl rfl (by first | exact hs.zF _ _ | exact Zor_r _ _ | exact hs.zA _ _ | assumption | exact zA _ _ | exact zS _ | exact Zr_not (hs.zA _ _) | exact hs.1.1 _ _ | exact ⟨by omega, by omega⟩) (fun y3 => ?_) (fun y3 => ?_)
    · refine Z_go (f2 := (96, [(0, .ref pl), (1, .ref (P.2.2.2.1 j)), (2, .ref (P.2.2.2.1 k))], [.ref (P.2.2.2.1 j)])) (fun _ => rfl) ?_
      refine C_gr rfl hs (hp.2.1 j hj hT).1 (by decide) (Nat.le_of_ble_eq_true rfl) rfl (hp.2.1 j hj hT).2.2.2.2.1 ?_
      refine Z_go (f2 := (100, [(0, .ref pl), (1, .ref (P.2.2.2.1 j)), (2, .ref (P.2.2.2.1 k))], [.ref (P.2.2.2.1 k), .ref (P.1 (5 + 2 * j))])) (fun _ => rfl) ?_
      refine C_gr rfl hs (hp.2.1 k hk hT2).1 (by decide) (Nat.le_of_ble_eq_true rfl) rfl (hp.2.1 k hk hT2).2.2.2.2.1 ?_
      refine C_callV (As := [.ref (P.1 (5 + 2 * k))]) (rest := []) rfl (by decide) rfl (by decide) rfl rfl (by decide +kernel) (Nat.le_of_ble_eq_true rfl) hs (hp.rK (Pl_h5 hj hT)) (o_copy' _ hp (r := 5 + 2 * j) (r2 := 5 + 2 * k) (Pl_h5 hj hT) (Pl_h5 hk hT2) (xs := G2.1 (5 + 2 * k)) (by simp only [g_sr, g_sf, g_st, g_se, g_su]; repeat (first | rw [g_up_s] | rw [g_up_o (by omega)])) (by omega) hs.1 (by omega) B1) (fun x h v97 n97 hs q => ?_)
      obtain ⟨rfl, ω3, hp, cq⟩ := q
      have cs := cs.tr cq
      show B_R _ _ (106, [(0, .ref pl), (1, .ref (P.2.2.2.1 j)), (2, .ref (P.2.2.2.1 k))], []) _ _ _
      refine Z_go (f2 := (107, [(0, .ref pl), (1, .ref (P.2.2.2.1 j)), (2, .ref (P.2.2.2.1 k))], [.ref pl])) (fun _ => rfl) ?_
      refine Z_go (f2 := (108, [(0, .ref pl), (1, .ref (P.2.2.2.1 j)), (2, .ref (P.2.2.2.1 k))], [.ref (P.2.2.2.1 j), .ref pl])) (fun _ => rfl) ?_
      refine C_gr rfl hs (hp.2.1 j hj hT).1 (by decide) (Nat.le_of_ble_eq_true rfl) rfl (hp.2.1 j hj hT).2.2.2.2.2.1 ?_
      refine Z_go (f2 := (112, [(0, .ref pl), (1, .ref (P.2.2.2.1 j)), (2, .ref (P.2.2.2.1 k))], [.ref (P.2.2.2.1 k), .ref (P.2.1 (2 + j)), .ref pl])) (fun _ => rfl) ?_
      refine C_gr rfl hs (hp.2.1 k hk hT2).1 (by decide) (Nat.le_of_ble_eq_true rfl) rfl (hp.2.1 k hk hT2).2.2.2.2.2.1 ?_
      refine C_callV (As := [.ref (P.2.1 (2 + j)), .ref (P.2.1 (2 + k))]) (rest := []) rfl (by decide) rfl (by decide) rfl rfl (by decide +kernel) (Nat.le_of_ble_eq_true rfl) hs hp.1.1.1 (C_both _ hp B0 B1 (a := 2 + j) (b := 2 + k) (Pl_h2 hj hT) (Pl_h2 hk hT2) (by omega) (by omega) (xp := G2.2.1 (2 + j)) (xq := G2.2.1 (2 + k)) (by simp only [g_sr, g_sf, g_st, g_se, g_su]; repeat (first | rw [g_up_s] | rw [g_up_o (by omega)])) (by simp only [g_sr, g_sf, g_st, g_se, g_su]; repeat (first | rw [g_up_s] | rw [g_up_o (by omega)])) pa5 pb5 pa6 pb6 (fun x hx y hy => lb1 x y ((pa5.2.2 x).mp hx) ((pb5.2.2 y).mp hy)) (fun x hx y hy => an1 x y ((pa5.2.2 x).mp hx) ((pa5.2.2 y).mp hy))) (fun x h v98 n98 hs q => ?_)
      obtain ⟨rfl, y1_, a1_, a2_, a3_, qb1, qb2, qb3, ω3, hp, cq⟩ := q
      have cs := cs.tr cq
      show B_R _ _ (118, [(0, .ref pl), (1, .ref (P.2.2.2.1 j)), (2, .ref (P.2.2.2.1 k))], []) _ _ _
      refine Z_go (f2 := (119, [(0, .ref pl), (1, .ref (P.2.2.2.1 j)), (2, .ref (P.2.2.2.1 k))], [.ref pl])) (fun _ => rfl) ?_
      refine Z_go (f2 := (120, [(0, .ref pl), (1, .ref (P.2.2.2.1 j)), (2, .ref (P.2.2.2.1 k))], [.ref (P.2.2.2.1 j), .ref pl])) (fun _ => rfl) ?_
      refine C_gr rfl hs (hp.2.1 j hj hT).1 (by decide) (Nat.le_of_ble_eq_true rfl) rfl (hp.2.1 j hj hT).2.2.2.2.2.1 ?_
      refine Z_go (f2 := (124, [(0, .ref pl), (1, .ref (P.2.2.2.1 j)), (2, .ref (P.2.2.2.1 k))], [.ref pl, .ref (P.2.1 (2 + j)), .ref pl])) (fun _ => rfl) ?_
      refine C_gr rfl hs hp.1.1.1 (by decide) (Nat.le_of_ble_eq_true rfl) rfl hp.1.1.2.2.2.2.2.1 ?_
      refine C_callV (As := [.ref (P.2.1 (2 + j)), .ref (P.2.1 1)]) (rest := []) rfl (by decide) rfl (by decide) rfl rfl (by decide +kernel) (Nat.le_of_ble_eq_true rfl) hs hp.1.1.1 (C_both _ hp B0 B1 (a := 2 + j) (b := 1) (Pl_h2 hj hT) (.inl (by omega)) (by omega) (by omega) (xp := y1_) (xq := yc) (by simp only [g_sr, g_sf, g_st, g_se, g_su]; repeat (first | rw [g_up_s] | rw [g_up_o (by omega)])) (by simp only [g_sr, g_sf, g_st, g_se, g_su]; repeat (first | rw [g_up_s] | rw [g_up_o (by omega)])) qb1 qc1 qb2 qc2 (fun x hx y hy => by have := lb2 x ((qb1.2.2 x).mp hx); have := qc3 y hy; omega) (fun x hx y hy => an2 x y ((qb1.2.2 x).mp hx) ((qb1.2.2 y).mp hy))) (fun x h v99 n99 hs q => ?_)
      obtain ⟨rfl, y2_, b1_, b2_, b3_, qd1, qd2, qd3, ω3, hp, cq⟩ := q
      have cs := cs.tr cq
      have hw1 := hs.1
      have hT8 := (hp.2.1 j hj hT).2.1
      show B_R _ _ (130, [(0, .ref pl), (1, .ref (P.2.2.2.1 j)), (2, .ref (P.2.2.2.1 k))], []) _ _ _
      refine Z_go (f2 := (131, [(0, .ref pl), (1, .ref (P.2.2.2.1 j)), (2, .ref (P.2.2.2.1 k))], [.ref (P.2.2.2.1 j)])) (fun _ => rfl) ?_
      refine Z_go (f2 := (132, [(0, .ref pl), (1, .ref (P.2.2.2.1 j)), (2, .ref (P.2.2.2.1 k))], [.int (Zi 0), .ref (P.2.2.2.1 j)])) (fun _ => rfl) ?_
      refine C_pi rfl hs (hp.2.1 j hj hT).1 (by decide) (Nat.le_of_ble_eq_true rfl) (.inl rfl) rfl (by first | rfl | exact narrow_b01 (by omega)) (by first | rfl | exact fits_b01 (by omega)) (by first | exact hs.zF _ _ | exact Zor_r _ _ | exact hs.zA _ _ | assumption | exact zA _ _ | exact zS _ | exact Zr_not (hs.zA _ _) | exact hs.1.1 _ _ | exact ⟨by omega, by omega⟩) (fun h hs => ?_)
      refine Z_ret rfl rfl ?_
      try dsimp only
      have hp := hp.upE hw1 hj hT (v := 0) (.inl rfl)
      have cs := cs.tr (D_cs.flag (ω := ω3) (z := 0) (b := 0) hT8)
      obtain ⟨qw, rfl⟩ := hw.op (by omega)
      refine ⟨_, hs, rfl, _, ⟨_, hp, cs⟩, D_pv.ofi (q := (E_hs (F_im2 (fun t h => E_hd (t ++ h)) Av (V_H (.inr qw))), qw.2.1, F_both (F_both (V_C (.inl Av)) (V_C (.inr qw))) (F_least (F_im2 (fun t h => L_gr (t ++ h)) (V_T (.inl Av)) (V_H (.inr qw)))))) (by simp only [g_sr, g_sf, g_st, g_se, g_su]; repeat (first | rw [g_up_s] | rw [g_up_o (by omega)])) uv (D_pu.of (a := yh) (b := G2.1 (5 + 2 * k)) (c := y2_) (by simp only [g_sr, g_sf, g_st, g_se, g_su]; repeat (first | rw [g_up_s] | rw [g_up_o (by omega)])) (by simp only [g_sr, g_sf, g_st, g_se, g_su]; repeat (first | rw [g_up_s] | rw [g_up_o (by omega)])) (by simp only [g_sr, g_sf, g_st, g_se, g_su]; repeat (first | rw [g_up_s] | rw [g_up_o (by omega)])) ⟨qh1, qh2, pb3, pb4, qd1, qd2, qd3⟩), hw.congr ⟨(by simp only [g_sr, g_sf, g_st, g_se, g_su]; repeat (first | rw [g_up_s] | rw [g_up_o (by omega)])), (by simp only [g_sr, g_sf, g_st, g_se, g_su]; repeat (first | rw [g_up_s] | rw [g_up_o (by omega)])), (by simp only [g_sr, g_sf, g_st, g_se, g_su]; repeat (first | rw [g_up_s] | rw [g_up_o (by omega)])), rfl, (by simp only [g_sr, g_sf, g_st, g_se, g_su]; repeat (first | rw [g_up_s] | rw [g_up_o (by omega)])), rfl⟩, fun i h1 h2 => (hot i h1 h2).tr ⟨(by simp only [g_sr, g_sf, g_st, g_se, g_su]; repeat (first | rw [g_up_s] | rw [g_up_o (by omega)])), (by simp only [g_sr, g_sf, g_st, g_se, g_su]; repeat (first | rw [g_up_s] | rw [g_up_o (by omega)])), (by simp only [g_sr, g_sf, g_st, g_se, g_su]; repeat (first | rw [g_up_s] | rw [g_up_o (by omega)])), rfl, (by simp only [g_sr, g_sf, g_st, g_se, g_su]; repeat (first | rw [g_up_s] | rw [g_up_o (by omega)])), rfl⟩⟩
    · obtain ⟨Aw, rfl, hsoQ, hQ⟩ := hw.ex (by omega)
      refine Z_go (f2 := (84, [(0, .ref pl), (1, .ref (P.2.2.2.1 j)), (2, .ref (P.2.2.2.1 k))], [.ref pl])) (fun _ => rfl) ?_
      refine Z_go (f2 := (85, [(0, .ref pl), (1, .ref (P.2.2.2.1 j)), (2, .ref (P.2.2.2.1 k))], [.ref (P.2.2.2.1 j), .ref pl])) (fun _ => rfl) ?_
      refine Z_go (f2 := (86, [(0, .ref pl), (1, .ref (P.2.2.2.1 j)), (2, .ref (P.2.2.2.1 k))], [.ref (P.2.2.2.1 k), .ref (P.2.2.2.1 j), .ref pl])) (fun _ => rfl) ?_
      refine C_gr rfl hs (hp.2.1 k hk hT2).1 (by decide) (Nat.le_of_ble_eq_true rfl) rfl (hp.2.1 k hk hT2).2.2.1 ?_
      refine C_callV (As := [.ref (P.2.2.2.1 j), .ref (P.2.2.1 (1 + k))]) (rest := []) rfl (by decide) rfl (by decide) rfl rfl (by decide +kernel) (Nat.le_of_ble_eq_true rfl) hs hp.1.1.1 (C_jtails _ hp B0 B1 hj hT (tx := 1 + k) (Pl_h1 hk hT2) (xs := G2.2.2.1 (1 + k)) (by rfl) (hd := G2.1 (5 + 2 * j)) (by simp only [g_sr, g_sf, g_st, g_se, g_su]; repeat (first | rw [g_up_s] | rw [g_up_o (by omega)])) hQ pa3 pa4) (fun x h v100 n100 hs q => ?_)
      obtain ⟨rfl, yt, kt, st, qt1, qt2, ω3, hp, cq⟩ := q
      have cs := cs.tr cq
      show B_R _ _ (92, [(0, .ref pl), (1, .ref (P.2.2.2.1 j)), (2, .ref (P.2.2.2.1 k))], []) _ _ _
      refine Z_go (f2 := (106, [(0, .ref pl), (1, .ref (P.2.2.2.1 j)), (2, .ref (P.2.2.2.1 k))], [])) (fun _ => rfl) ?_
      refine Z_go (f2 := (107, [(0, .ref pl), (1, .ref (P.2.2.2.1 j)), (2, .ref (P.2.2.2.1 k))], [.ref pl])) (fun _ => rfl) ?_
      refine Z_go (f2 := (108, [(0, .ref pl), (1, .ref (P.2.2.2.1 j)), (2, .ref (P.2.2.2.1 k))], [.ref (P.2.2.2.1 j), .ref pl])) (fun _ => rfl) ?_
      refine C_gr rfl hs (hp.2.1 j hj hT).1 (by decide) (Nat.le_of_ble_eq_true rfl) rfl (hp.2.1 j hj hT).2.2.2.2.2.1 ?_
      refine Z_go (f2 := (112, [(0, .ref pl), (1, .ref (P.2.2.2.1 j)), (2, .ref (P.2.2.2.1 k))], [.ref (P.2.2.2.1 k), .ref (P.2.1 (2 + j)), .ref pl])) (fun _ => rfl) ?_
      refine C_gr rfl hs (hp.2.1 k hk hT2).1 (by decide) (Nat.le_of_ble_eq_true rfl) rfl (hp.2.1 k hk hT2).2.2.2.2.2.1 ?_
      refine C_callV (As := [.ref (P.2.1 (2 + j)), .ref (P.2.1 (2 + k))]) (rest := []) rfl (by decide) rfl (by decide) rfl rfl (by decide +kernel) (Nat.le_of_ble_eq_true rfl) hs hp.1.1.1 (C_both _ hp B0 B1 (a := 2 + j) (b := 2 + k) (Pl_h2 hj hT) (Pl_h2 hk hT2) (by omega) (by omega) (xp := G2.2.1 (2 + j)) (xq := G2.2.1 (2 + k)) (by simp only [g_sr, g_sf, g_st, g_se, g_su]; repeat (first | rw [g_up_s] | rw [g_up_o (by omega)])) (by simp only [g_sr, g_sf, g_st, g_se, g_su]; repeat (first | rw [g_up_s] | rw [g_up_o (by omega)])) pa5 pb5 pa6 pb6 (fun x hx y hy => lb1 x y ((pa5.2.2 x).mp hx) ((pb5.2.2 y).mp hy)) (fun x hx y hy => an1 x y ((pa5.2.2 x).mp hx) ((pa5.2.2 y).mp hy))) (fun x h v101 n101 hs q => ?_)
      obtain ⟨rfl, y1_, a1_, a2_, a3_, qb1, qb2, qb3, ω3, hp, cq⟩ := q
      have cs := cs.tr cq
      show B_R _ _ (118, [(0, .ref pl), (1, .ref (P.2.2.2.1 j)), (2, .ref (P.2.2.2.1 k))], []) _ _ _
      refine Z_go (f2 := (119, [(0, .ref pl), (1, .ref (P.2.2.2.1 j)), (2, .ref (P.2.2.2.1 k))], [.ref pl])) (fun _ => rfl) ?_
      refine Z_go (f2 := (120, [(0, .ref pl), (1, .ref (P.2.2.2.1 j)), (2, .ref (P.2.2.2.1 k))], [.ref (P.2.2.2.1 j), .ref pl])) (fun _ => rfl) ?_
      refine C_gr rfl hs (hp.2.1 j hj hT).1 (by decide) (Nat.le_of_ble_eq_true rfl) rfl (hp.2.1 j hj hT).2.2.2.2.2.1 ?_
      refine Z_go (f2 := (124, [(0, .ref pl), (1, .ref (P.2.2.2.1 j)), (2, .ref (P.2.2.2.1 k))], [.ref pl, .ref (P.2.1 (2 + j)), .ref pl])) (fun _ => rfl) ?_
      refine C_gr rfl hs hp.1.1.1 (by decide) (Nat.le_of_ble_eq_true rfl) rfl hp.1.1.2.2.2.2.2.1 ?_
      refine C_callV (As := [.ref (P.2.1 (2 + j)), .ref (P.2.1 1)]) (rest := []) rfl (by decide) rfl (by decide) rfl rfl (by decide +kernel) (Nat.le_of_ble_eq_true rfl) hs hp.1.1.1 (C_both _ hp B0 B1 (a := 2 + j) (b := 1) (Pl_h2 hj hT) (.inl (by omega)) (by omega) (by omega) (xp := y1_) (xq := yc) (by simp only [g_sr, g_sf, g_st, g_se, g_su]; repeat (first | rw [g_up_s] | rw [g_up_o (by omega)])) (by simp only [g_sr, g_sf, g_st, g_se, g_su]; repeat (first | rw [g_up_s] | rw [g_up_o (by omega)])) qb1 qc1 qb2 qc2 (fun x hx y hy => by have := lb2 x ((qb1.2.2 x).mp hx); have := qc3 y hy; omega) (fun x hx y hy => an2 x y ((qb1.2.2 x).mp hx) ((qb1.2.2 y).mp hy))) (fun x h v102 n102 hs q => ?_)
      obtain ⟨rfl, y2_, b1_, b2_, b3_, qd1, qd2, qd3, ω3, hp, cq⟩ := q
      have cs := cs.tr cq
      have hw1 := hs.1
      have hT8 := (hp.2.1 j hj hT).2.1
      show B_R _ _ (130, [(0, .ref pl), (1, .ref (P.2.2.2.1 j)), (2, .ref (P.2.2.2.1 k))], []) _ _ _
      refine Z_go (f2 := (131, [(0, .ref pl), (1, .ref (P.2.2.2.1 j)), (2, .ref (P.2.2.2.1 k))], [.ref (P.2.2.2.1 j)])) (fun _ => rfl) ?_
      refine Z_go (f2 := (132, [(0, .ref pl), (1, .ref (P.2.2.2.1 j)), (2, .ref (P.2.2.2.1 k))], [.int (Zi 0), .ref (P.2.2.2.1 j)])) (fun _ => rfl) ?_
      refine C_pi rfl hs (hp.2.1 j hj hT).1 (by decide) (Nat.le_of_ble_eq_true rfl) (.inl rfl) rfl (by first | rfl | exact narrow_b01 (by omega)) (by first | rfl | exact fits_b01 (by omega)) (by first | exact hs.zF _ _ | exact Zor_r _ _ | exact hs.zA _ _ | assumption | exact zA _ _ | exact zS _ | exact Zr_not (hs.zA _ _) | exact hs.1.1 _ _ | exact ⟨by omega, by omega⟩) (fun h hs => ?_)
      refine Z_ret rfl rfl ?_
      try dsimp only
      have hp := hp.upE hw1 hj hT (v := 0) (.inl rfl)
      have cs := cs.tr (D_cs.flag (ω := ω3) (z := 0) (b := 0) hT8)
      refine ⟨_, hs, rfl, _, ⟨_, hp, cs⟩, D_pv.ofi (q := (E_hs (F_im2 (fun t h => E_hd (t ++ h)) Av (V_H (.inl Aw))), E_ts (F_im2 (fun t u => E_tl (u ++ t)) Aw (V_T (.inl Av))), F_both (F_both (V_C (.inl Av)) (V_C (.inl Aw))) (F_least (F_im2 (fun t h => L_gr (t ++ h)) (V_T (.inl Av)) (V_H (.inl Aw)))))) (by simp only [g_sr, g_sf, g_st, g_se, g_su]; repeat (first | rw [g_up_s] | rw [g_up_o (by omega)])) uv (D_pu.of (a := yh) (b := yt) (c := y2_) (by simp only [g_sr, g_sf, g_st, g_se, g_su]; repeat (first | rw [g_up_s] | rw [g_up_o (by omega)])) (by simp only [g_sr, g_sf, g_st, g_se, g_su]; repeat (first | rw [g_up_s] | rw [g_up_o (by omega)])) (by simp only [g_sr, g_sf, g_st, g_se, g_su]; repeat (first | rw [g_up_s] | rw [g_up_o (by omega)])) ⟨qh1, qh2, qt1, qt2, qd1, qd2, qd3⟩), hw.congr ⟨(by simp only [g_sr, g_sf, g_st, g_se, g_su]; repeat (first | rw [g_up_s] | rw [g_up_o (by omega)])), (by simp only [g_sr, g_sf, g_st, g_se, g_su]; repeat (first | rw [g_up_s] | rw [g_up_o (by omega)])), (by simp only [g_sr, g_sf, g_st, g_se, g_su]; repeat (first | rw [g_up_s] | rw [g_up_o (by omega)])), rfl, (by simp only [g_sr, g_sf, g_st, g_se, g_su]; repeat (first | rw [g_up_s] | rw [g_up_o (by omega)])), rfl⟩, fun i h1 h2 => (hot i h1 h2).tr ⟨(by simp only [g_sr, g_sf, g_st, g_se, g_su]; repeat (first | rw [g_up_s] | rw [g_up_o (by omega)])), (by simp only [g_sr, g_sf, g_st, g_se, g_su]; repeat (first | rw [g_up_s] | rw [g_up_o (by omega)])), (by simp only [g_sr, g_sf, g_st, g_se, g_su]; repeat (first | rw [g_up_s] | rw [g_up_o (by omega)])), rfl, (by simp only [g_sr, g_sf, g_st, g_se, g_su]; repeat (first | rw [g_up_s] | rw [g_up_o (by omega)])), rfl⟩⟩
theorem C_join (d : Nat) {s : C_S} {pp : List Nat} {pl tr B : Nat} {G : G_t} {P : G_p} {ω : Nat → Nat} {j k : Nat} {v w : P_V} (hp : D_Pl s pp pl tr B G P ω) (B0 : 1280 ≤ B) (B1 : B ≤ 20000) (hj : j ≤ 38) (hT : P.2.2.2.2.1 j = true) (hk : k ≤ 38) (hT2 : P.2.2.2.2.1 k = true) (ne : j ≠ k) (hv : D_pv B G j v) (hw : D_pv B G k w) (an1 : ∀ x y, V_C v x → V_C v y → L_le x y → x = y) (an2 : ∀ x y, F_both (V_C v) (V_C w) x → F_both (V_C v) (V_C w) y → L_le x y → x = y) (lb1 : ∀ x y, V_C v x → V_C w y → 2 * (x.length + y.length) ≤ B) (lb2 : ∀ z, F_both (V_C v) (V_C w) z → 2 * (z.length + 2) ≤ B) : C_ok (d + 8) 65 [.ref pl, .ref (P.2.2.2.1 j), .ref (P.2.2.2.1 k)] s (fun x s2 n => x = none ∧ ∃ G2, D_ch pp pl tr B s P ω G2 s2 n ∧ D_pv B G2 j (V_beh v w) ∧ D_pv B G2 k w ∧ ∀ i, i ≠ j → i ≠ k → G_oth i G G2) := by
  refine C_enter (M := E_m65) rfl (Nat.le_of_ble_eq_true rfl) (fun h0 h hs => ?_)
  show B_R (d + 7) _ (0, [(0, .ref pl), (1, .ref (P.2.2.2.1 j)), (2, .ref (P.2.2.2.1 k))], []) _ _ _
  have cs := D_cs.refl pp s ω
  have cj := (hp.2.1 j hj hT).2.2.2.2.2.2.2.2.1
  have ck := (hp.2.1 k hk hT2).2.2.2.2.2.2.2.2.1
  have zej : Zr (G.2.2.2.1 j) := ⟨by omega, by omega⟩
  have zek : Zr (G.2.2.2.1 k) := ⟨by omega, by omega⟩
  have hjk : k ≠ j := fun e => ne e.symm
  refine Z_go (f2 := (1, [(0, .ref pl), (1, .ref (P.2.2.2.1 j)), (2, .ref (P.2.2.2.1 k))], [.ref (P.2.2.2.1 j)])) (fun _ => rfl) ?_
  refine C_gi rfl hs (hp.2.1 j hj hT).1 (by decide) (Nat.le_of_ble_eq_true rfl) rfl ?_
  rw [show C_F (s) (P.2.2.2.1 j) 0 = G.2.2.2.1 j from (by first | exact (hp.2.1 j hj hT).2.2.2.2.2.2.1 | exact (if_neg (fun e => absurd e.1 (by assumption))).trans (hp.2.1 j hj hT).2.2.2.2.2.2.1 | exact (if_neg (fun e => absurd e.2 (by decide))).trans (hp.2.1 j hj hT).2.2.2.2.2.2.1 | exact (if_neg (fun e => absurd e.2 (by decide))).trans ((if_neg (fun e => absurd e.2 (by decide))).trans (hp.2.1 j hj hT).2.2.2.2.2.2.1) | exact (if_neg (fun e => absurd e.2 (by decide))).trans ((if_neg (fun e => absurd e.2 (by decide))).trans ((if_neg (fun e => absurd e.2 (by decide))).trans (hp.2.1 j hj hT).2.2.2.2.2.2.1)))]
  show B_R _ _ (4, [(0, .ref pl), (1, .ref (P.2.2.2.1 j)), (2, .ref (P.2.2.2.1 k))], [.int (Zi (G.2.2.2.1 j))]) _ _ _
  refine Z_ieq rfl rfl (by first | exact hs.zF _ _ | exact Zor_r _ _ | exact hs.zA _ _ | assumption | exact zA _ _ | exact zS _ | exact Zr_not (hs.zA _ _) | exact hs.1.1 _ _ | exact ⟨by omega, by omega⟩) (fun y1 => ?_) (fun y1 => ?_)
  · refine B_loc (K := [(0, .ref pl), (1, .ref (P.2.2.2.1 j)), (2, .ref (P.2.2.2.1 k))]) (N_all_sub ⟨rfl, rfl, rfl, trivial⟩) (show ([0, 1, 2] : List Nat).Nodup by decide) ?_
    obtain ⟨qv, rfl⟩ := hv.op (by omega)
    have e9 : V_beh (.inr qv) (w) = V_beh2 (.inr qv) (w) := rfl
    rw [e9]
    exact C_join2 (s := s) (ω := ω) (G := G) (G0 := G) B0 B1 hj hT hk hT2 ne hv hw an1 an2 lb1 lb2 (fun i _ _ => G_oth.refl i G) _ h _ _ hs hp cs
  · refine Z_go (f2 := (8, [(0, .ref pl), (1, .ref (P.2.2.2.1 j)), (2, .ref (P.2.2.2.1 k))], [.ref (P.2.2.2.1 k)])) (fun _ => rfl) ?_
    refine C_gi rfl hs (hp.2.1 k hk hT2).1 (by decide) (Nat.le_of_ble_eq_true rfl) rfl ?_
    rw [show C_F (s) (P.2.2.2.1 k) 0 = G.2.2.2.1 k from (by first | exact (hp.2.1 k hk hT2).2.2.2.2.2.2.1 | exact (if_neg (fun e => absurd e.1 (by assumption))).trans (hp.2.1 k hk hT2).2.2.2.2.2.2.1 | exact (if_neg (fun e => absurd e.2 (by decide))).trans (hp.2.1 k hk hT2).2.2.2.2.2.2.1 | exact (if_neg (fun e => absurd e.2 (by decide))).trans ((if_neg (fun e => absurd e.2 (by decide))).trans (hp.2.1 k hk hT2).2.2.2.2.2.2.1) | exact (if_neg (fun e => absurd e.2 (by decide))).trans ((if_neg (fun e => absurd e.2 (by decide))).trans ((if_neg (fun e => absurd e.2 (by decide))).trans (hp.2.1 k hk hT2).2.2.2.2.2.2.1)))]
    show B_R _ _ (11, [(0, .ref pl), (1, .ref (P.2.2.2.1 j)), (2, .ref (P.2.2.2.1 k))], [.int (Zi (G.2.2.2.1 k))]) _ _ _
    refine Z_ieq rfl rfl (by first | exact hs.zF _ _ | exact Zor_r _ _ | exact hs.zA _ _ | assumption | exact zA _ _ | exact zS _ | exact Zr_not (hs.zA _ _) | exact hs.1.1 _ _ | exact ⟨by omega, by omega⟩) (fun y2 => ?_) (fun y2 => ?_)
    · refine B_loc (K := [(0, .ref pl), (1, .ref (P.2.2.2.1 j)), (2, .ref (P.2.2.2.1 k))]) (N_all_sub ⟨rfl, rfl, rfl, trivial⟩) (show ([0, 1, 2] : List Nat).Nodup by decide) ?_
      obtain ⟨qw, rfl⟩ := hw.op (by omega)
      have e9 : V_beh (v) (.inr qw) = V_beh2 (v) (.inr qw) := (by cases v <;> rfl)
      rw [e9]
      exact C_join2 (s := s) (ω := ω) (G := G) (G0 := G) B0 B1 hj hT hk hT2 ne hv hw an1 an2 lb1 lb2 (fun i _ _ => G_oth.refl i G) _ h _ _ hs hp cs
    · obtain ⟨Av, rfl, hsoA, hA⟩ := hv.ex (by omega)
      obtain ⟨Aw, rfl, hsoQ, hQ⟩ := hw.ex (by omega)
      refine Z_go (f2 := (15, [(0, .ref pl), (1, .ref (P.2.2.2.1 j)), (2, .ref (P.2.2.2.1 k))], [.ref pl])) (fun _ => rfl) ?_
      refine Z_go (f2 := (16, [(0, .ref pl), (1, .ref (P.2.2.2.1 j)), (2, .ref (P.2.2.2.1 k))], [.ref (P.2.2.2.1 j), .ref pl])) (fun _ => rfl) ?_
      refine C_gr rfl hs (hp.2.1 j hj hT).1 (by decide) (Nat.le_of_ble_eq_true rfl) rfl (hp.2.1 j hj hT).2.2.1 ?_
      refine Z_go (f2 := (20, [(0, .ref pl), (1, .ref (P.2.2.2.1 j)), (2, .ref (P.2.2.2.1 k))], [.ref (P.2.2.2.1 k), .ref (P.2.2.1 (1 + j)), .ref pl])) (fun _ => rfl) ?_
      refine C_gr rfl hs (hp.2.1 k hk hT2).1 (by decide) (Nat.le_of_ble_eq_true rfl) rfl (hp.2.1 k hk hT2).2.2.1 ?_
      refine C_callV (As := [.ref (P.2.2.1 (1 + j)), .ref (P.2.2.1 (1 + k))]) (rest := []) rfl (by decide) rfl (by decide) rfl rfl (by decide +kernel) (Nat.le_of_ble_eq_true rfl) hs hp.1.1.1 (C_mul _ hp B0 B1 (Pl_h1 hj hT) (Pl_h1 hk hT2) (by omega) (by omega) rfl rfl hA hQ) (fun x h v1 n1 hs q => ?_)
      obtain ⟨zm, rfl, zs, ⟨ω1, hp, cq⟩, hzm⟩ := q
      have cs := cs.tr cq
      have zzm : Zr zm := by rcases hzm with ⟨e, _⟩ | ⟨e, _⟩ <;> exact ⟨by omega, by omega⟩
      show B_R _ _ (26, [(0, .ref pl), (1, .ref (P.2.2.2.1 j)), (2, .ref (P.2.2.2.1 k))], [.int (Zi zm)]) _ _ _
      refine Z_ieq rfl rfl (by first | exact hs.zF _ _ | exact Zor_r _ _ | exact hs.zA _ _ | assumption | exact zA _ _ | exact zS _ | exact Zr_not (hs.zA _ _) | exact hs.1.1 _ _ | exact ⟨by omega, by omega⟩) (fun y3 => ?_) (fun y3 => ?_)
      · refine B_loc (K := [(0, .ref pl), (1, .ref (P.2.2.2.1 j)), (2, .ref (P.2.2.2.1 k))]) (N_all_sub ⟨rfl, rfl, rfl, trivial⟩) (show ([0, 1, 2] : List Nat).Nodup by decide) ?_
        have hnf : ¬ F_fit (F_im2 (fun a b => a ++ b) Av Aw) := by
          rcases hzm with ⟨e, _⟩ | ⟨_, e⟩
          · omega
          · exact e
        have e9 : V_beh (.inl Av) (.inl Aw) = V_beh2 (.inl Av) (.inl Aw) := by
            show c_if _ _ _ = _
            rw [c_neg hnf]
        rw [e9]
        exact C_join2 (s := s) (ω := ω) (G := g_st G 0 zs) (G0 := G) B0 B1 hj hT hk hT2 ne (hv.congr ⟨rfl, rfl, rfl, (by simp only [g_sr, g_sf, g_st, g_se, g_su]; repeat (first | rw [g_up_s] | rw [g_up_o (by omega)])), rfl, rfl⟩) (hw.congr ⟨rfl, rfl, rfl, (by simp only [g_sr, g_sf, g_st, g_se, g_su]; repeat (first | rw [g_up_s] | rw [g_up_o (by omega)])), rfl, rfl⟩) an1 an2 lb1 lb2 (fun i _ _ => ⟨rfl, rfl, rfl, (by simp only [g_sr, g_sf, g_st, g_se, g_su]; repeat (first | rw [g_up_s] | rw [g_up_o (by omega)])), rfl, rfl⟩) _ h _ _ hs hp cs
      · obtain ⟨hz1, hz2, hz3⟩ : F_fit (F_im2 (fun a b => a ++ b) Av Aw) ∧ X_so zs ∧ T_tel (F_im2 (fun a b => a ++ b) Av Aw) zs := by
          rcases hzm with ⟨_, e⟩ | ⟨e, _⟩
          · exact e
          · omega
        refine Z_go (f2 := (30, [(0, .ref pl), (1, .ref (P.2.2.2.1 j)), (2, .ref (P.2.2.2.1 k))], [.ref (P.2.2.2.1 j)])) (fun _ => rfl) ?_
        refine Z_go (f2 := (31, [(0, .ref pl), (1, .ref (P.2.2.2.1 j)), (2, .ref (P.2.2.2.1 k))], [.ref pl, .ref (P.2.2.2.1 j)])) (fun _ => rfl) ?_
        refine C_gr rfl hs hp.1.1.1 (by decide) (Nat.le_of_ble_eq_true rfl) rfl hp.1.1.2.2.2.2.2.2.2.2.2.2.1 ?_
        refine C_callV (As := [.ref (P.2.2.1 0)]) (rest := []) rfl (by decide) rfl (by decide) rfl rfl (by decide +kernel) (Nat.le_of_ble_eq_true rfl) hs (hp.2.1 j hj hT).1 (C_bex (A := F_im2 (fun a b => a ++ b) Av Aw) (xs := zs) _ hp B0 B1 hj hT (by simp only [g_sr, g_sf, g_st, g_se, g_su]; repeat (first | rw [g_up_s] | rw [g_up_o (by omega)])) hz2 hz3) (fun x h v2 n2 hs q => ?_)
        obtain ⟨rfl, G3, ⟨ω3, hp, cq⟩, hv3, ot3⟩ := q
        have cs := cs.tr cq
        show B_R _ _ (37, [(0, .ref pl), (1, .ref (P.2.2.2.1 j)), (2, .ref (P.2.2.2.1 k))], []) _ _ _
        refine Z_ret rfl rfl ⟨_, hs, ?_⟩
        try dsimp only
        have e9 : V_beh (.inl Av) (.inl Aw) = .inl (F_im2 (fun a b => a ++ b) Av Aw) := by
          show c_if _ _ _ = _
          rw [c_pos hz1]
        rw [e9]
        exact ⟨rfl, G3, ⟨_, hp, cs⟩, hv3, (hw.congr (G2 := g_st G 0 zs) ⟨rfl, rfl, rfl, (by simp only [g_sr, g_sf, g_st, g_se, g_su]; repeat (first | rw [g_up_s] | rw [g_up_o (by omega)])), rfl, rfl⟩).congr (ot3 k hjk), fun i h1 h2 => (show G_oth i G (g_st G 0 zs) from ⟨rfl, rfl, rfl, (by simp only [g_sr, g_sf, g_st, g_se, g_su]; repeat (first | rw [g_up_s] | rw [g_up_o (by omega)])), rfl, rfl⟩).tr (ot3 i h1)⟩
theorem C_alt2 {d : Nat} {h0 : E_H} {s : C_S} {pp : List Nat} {pl tr B : Nat} {G : G_t} {P : G_p} {ω : Nat → Nat} {j k : Nat} {v w : P_V} {G0 : G_t} (B0 : 1280 ≤ B) (B1 : B ≤ 20000) (hj : j ≤ 38) (hT : P.2.2.2.2.1 j = true) (hk : k ≤ 38) (hT2 : P.2.2.2.2.1 k = true) (ne : j ≠ k) (hv : D_pv B G j v) (hw : D_pv B G k w) (hg0 : ∀ i, i ≠ j → i ≠ k → G_oth i G0 G) : ∀ (u : C_S) (h : E_H) (sl : Nat) (ω2 : Nat → Nat), C_is h0 h u → D_Pl u pp pl tr B G P ω2 → D_cs pp s u ω ω2 sl → B_R (d + 7) E_m66 (38, [(0, .ref pl), (1, .ref (P.2.2.2.1 j)), (2, .ref (P.2.2.2.1 k))], []) h sl (fun x => ∃ s2 : C_S, C_is h0 x.2.1 s2 ∧ x.1 = none ∧ ∃ G2, D_ch pp pl tr B s P ω G2 s2 x.2.2 ∧ D_pv B G2 j (V_or2 v w) ∧ D_pv B G2 k w ∧ ∀ i, i ≠ j → i ≠ k → G_oth i G0 G2) := by
  intro u h sl ω2 hs hp cs
  have hjk : k ≠ j := fun e => ne e.symm
  refine Z_go (f2 := (39, [(0, .ref pl), (1, .ref (P.2.2.2.1 j)), (2, .ref (P.2.2.2.1 k))], [.ref pl])) (fun _ => rfl) ?_
  refine Z_go (f2 := (40, [(0, .ref pl), (1, .ref (P.2.2.2.1 j)), (2, .ref (P.2.2.2.1 k))], [.ref (P.2.2.2.1 j), .ref pl])) (fun _ => rfl) ?_
  refine C_callV (As := [.ref (P.2.2.2.1 j)]) (rest := []) rfl (by decide) rfl (by decide) rfl rfl (by decide +kernel) (Nat.le_of_ble_eq_true rfl) hs hp.1.1.1 (C_unf _ hp B0 B1 hj hT hv) (fun x h v103 n103 hs q => ?_)
  obtain ⟨rfl, G1, ⟨ω3, hp, cq⟩, hv, uv, ev, tv, ot1⟩ := q
  have cs := cs.tr cq
  have hw := hw.congr (ot1 k hjk)
  show B_R _ _ (43, [(0, .ref pl), (1, .ref (P.2.2.2.1 j)), (2, .ref (P.2.2.2.1 k))], []) _ _ _
  refine Z_go (f2 := (44, [(0, .ref pl), (1, .ref (P.2.2.2.1 j)), (2, .ref (P.2.2.2.1 k))], [.ref pl])) (fun _ => rfl) ?_
  refine Z_go (f2 := (45, [(0, .ref pl), (1, .ref (P.2.2.2.1 j)), (2, .ref (P.2.2.2.1 k))], [.ref (P.2.2.2.1 k), .ref pl])) (fun _ => rfl) ?_
  refine C_callV (As := [.ref (P.2.2.2.1 k)]) (rest := []) rfl (by decide) rfl (by decide) rfl rfl (by decide +kernel) (Nat.le_of_ble_eq_true rfl) hs hp.1.1.1 (C_unf _ hp B0 B1 hk hT2 hw) (fun x h v104 n104 hs q => ?_)
  obtain ⟨rfl, G2, ⟨ω3, hp, cq⟩, hw, uw, ew, tw, ot2⟩ := q
  have cs := cs.tr cq
  have hv := hv.congr (ot2 j ne)
  have uv : G2.2.2.2.2 j = 1 := ((ot2 j ne).2.2.2.2.2).trans uv
  obtain ⟨pa1, pa2, pa3, pa4, pa5, pa6, pa7⟩ := hv.u uv
  obtain ⟨pb1, pb2, pb3, pb4, pb5, pb6, pb7⟩ := hw.u uw
  have hot : ∀ i, i ≠ j → i ≠ k → G_oth i G0 G2 := fun i h1 h2 => ((hg0 i h1 h2).tr (ot1 i h1)).tr (ot2 i h2)
  have cj := (hp.2.1 j hj hT).2.2.2.2.2.2.2.2.1
  have ck := (hp.2.1 k hk hT2).2.2.2.2.2.2.2.2.1
  have zej : Zr (G2.2.2.2.1 j) := ⟨by omega, by omega⟩
  have zek : Zr (G2.2.2.2.1 k) := ⟨by omega, by omega⟩
  show B_R _ _ (48, [(0, .ref pl), (1, .ref (P.2.2.2.1 j)), (2, .ref (P.2.2.2.1 k))], []) _ _ _
  refine Z_go (f2 := (49, [(0, .ref pl), (1, .ref (P.2.2.2.1 j)), (2, .ref (P.2.2.2.1 k))], [.ref pl])) (fun _ => rfl) ?_
  refine C_gr rfl hs hp.1.1.1 (by decide) (Nat.le_of_ble_eq_true rfl) rfl hp.1.1.2.2.2.2.2.2.2.2.1 ?_
  refine Z_go (f2 := (53, [(0, .ref pl), (1, .ref (P.2.2.2.1 j)), (2, .ref (P.2.2.2.1 k))], [.ref (P.2.2.2.1 j), .ref (P.1 2)])) (fun _ => rfl) ?_
  refine C_gr rfl hs (hp.2.1 j hj hT).1 (by decide) (Nat.le_of_ble_eq_true rfl) rfl (hp.2.1 j hj hT).2.2.2.1 ?_
  refine Z_go (f2 := (57, [(0, .ref pl), (1, .ref (P.2.2.2.1 j)), (2, .ref (P.2.2.2.1 k))], [.ref (P.2.2.2.1 k), .ref (P.1 (4 + 2 * j)), .ref (P.1 2)])) (fun _ => rfl) ?_
  refine C_gr rfl hs (hp.2.1 k hk hT2).1 (by decide) (Nat.le_of_ble_eq_true rfl) rfl (hp.2.1 k hk hT2).2.2.2.1 ?_
  refine C_callV (As := [.ref (P.1 (4 + 2 * j)), .ref (P.1 (4 + 2 * k))]) (rest := []) rfl (by decide) rfl (by decide) rfl rfl (by decide +kernel) (Nat.le_of_ble_eq_true rfl) hs (hp.rK (.inl (by omega))) (o_fillR' _ hp (r := 2) (.inl (by omega)) (Pl_h4 hj hT) (Pl_h4 hk hT2) (ys := G2.1 (4 + 2 * j)) (ws := G2.1 (4 + 2 * k)) (by simp only [g_sr, g_sf, g_st, g_se, g_su]; repeat (first | rw [g_up_s] | rw [g_up_o (by omega)])) (by simp only [g_sr, g_sf, g_st, g_se, g_su]; repeat (first | rw [g_up_s] | rw [g_up_o (by omega)])) (by omega) (by omega) hs.1 pa1.1 pb1.1 (by omega) B1) (fun x h v105 n105 hs q => ?_)
  obtain ⟨rfl, ω3, hp, cq⟩ := q
  have cs := cs.tr cq
  have hun := L_un_lq (G2.1 (4 + 2 * j)) (G2.1 (4 + 2 * k))
  show B_R _ _ (63, [(0, .ref pl), (1, .ref (P.2.2.2.1 j)), (2, .ref (P.2.2.2.1 k))], []) _ _ _
  refine Z_go (f2 := (64, [(0, .ref pl), (1, .ref (P.2.2.2.1 j)), (2, .ref (P.2.2.2.1 k))], [.ref pl])) (fun _ => rfl) ?_
  refine Z_go (f2 := (65, [(0, .ref pl), (1, .ref (P.2.2.2.1 j)), (2, .ref (P.2.2.2.1 k))], [.ref (P.2.2.2.1 j), .ref pl])) (fun _ => rfl) ?_
  refine C_gr rfl hs (hp.2.1 j hj hT).1 (by decide) (Nat.le_of_ble_eq_true rfl) rfl (hp.2.1 j hj hT).2.2.2.1 ?_
  refine Z_go (f2 := (69, [(0, .ref pl), (1, .ref (P.2.2.2.1 j)), (2, .ref (P.2.2.2.1 k))], [.int (Zi 0), .ref (P.1 (4 + 2 * j)), .ref pl])) (fun _ => rfl) ?_
  refine C_callV (As := [.ref (P.1 (4 + 2 * j)), .int (Zi 0)]) (rest := []) rfl (by decide) rfl (by decide) rfl rfl (by decide +kernel) (Nat.le_of_ble_eq_true rfl) hs hp.1.1.1 (C_short _ (r := 4 + 2 * j) (b := 0) (ks := L_un (G2.1 (4 + 2 * j)) (G2.1 (4 + 2 * k))) hp B0 B1 (Pl_h4 hj hT) (by omega) (.inl rfl) (by simp only [g_sr, g_sf, g_st, g_se, g_su]; repeat (first | rw [g_up_s] | rw [g_up_o (by omega)])) (pa1.or pb1) (by omega)) (fun x h v106 n106 hs q => ?_)
  obtain ⟨rfl, y4, s4, q4a, q4b, ω3, hp, cq⟩ := q
  have cs := cs.tr cq
  rw [E_bb0] at q4a
  show B_R _ _ (72, [(0, .ref pl), (1, .ref (P.2.2.2.1 j)), (2, .ref (P.2.2.2.1 k))], []) _ _ _
  refine Z_go (f2 := (73, [(0, .ref pl), (1, .ref (P.2.2.2.1 j)), (2, .ref (P.2.2.2.1 k))], [.ref pl])) (fun _ => rfl) ?_
  refine C_gr rfl hs hp.1.1.1 (by decide) (Nat.le_of_ble_eq_true rfl) rfl hp.1.1.2.2.2.2.2.2.2.2.1 ?_
  refine Z_go (f2 := (77, [(0, .ref pl), (1, .ref (P.2.2.2.1 j)), (2, .ref (P.2.2.2.1 k))], [.ref (P.2.2.2.1 j), .ref (P.1 2)])) (fun _ => rfl) ?_
  refine C_gr rfl hs (hp.2.1 j hj hT).1 (by decide) (Nat.le_of_ble_eq_true rfl) rfl (hp.2.1 j hj hT).2.2.2.2.1 ?_
  refine Z_go (f2 := (81, [(0, .ref pl), (1, .ref (P.2.2.2.1 j)), (2, .ref (P.2.2.2.1 k))], [.ref (P.2.2.2.1 k), .ref (P.1 (5 + 2 * j)), .ref (P.1 2)])) (fun _ => rfl) ?_
  refine C_gr rfl hs (hp.2.1 k hk hT2).1 (by decide) (Nat.le_of_ble_eq_true rfl) rfl (hp.2.1 k hk hT2).2.2.2.2.1 ?_
  refine C_callV (As := [.ref (P.1 (5 + 2 * j)), .ref (P.1 (5 + 2 * k))]) (rest := []) rfl (by decide) rfl (by decide) rfl rfl (by decide +kernel) (Nat.le_of_ble_eq_true rfl) hs (hp.rK (.inl (by omega))) (o_fillR' _ hp (r := 2) (.inl (by omega)) (Pl_h5 hj hT) (Pl_h5 hk hT2) (ys := G2.1 (5 + 2 * j)) (ws := G2.1 (5 + 2 * k)) (by simp only [g_sr, g_sf, g_st, g_se, g_su]; repeat (first | rw [g_up_s] | rw [g_up_o (by omega)])) (by simp only [g_sr, g_sf, g_st, g_se, g_su]; repeat (first | rw [g_up_s] | rw [g_up_o (by omega)])) (by omega) (by omega) hs.1 pa3.1 pb3.1 (by omega) B1) (fun x h v107 n107 hs q => ?_)
  obtain ⟨rfl, ω3, hp, cq⟩ := q
  have cs := cs.tr cq
  have hun := L_un_lq (G2.1 (5 + 2 * j)) (G2.1 (5 + 2 * k))
  show B_R _ _ (87, [(0, .ref pl), (1, .ref (P.2.2.2.1 j)), (2, .ref (P.2.2.2.1 k))], []) _ _ _
  refine Z_go (f2 := (88, [(0, .ref pl), (1, .ref (P.2.2.2.1 j)), (2, .ref (P.2.2.2.1 k))], [.ref pl])) (fun _ => rfl) ?_
  refine Z_go (f2 := (89, [(0, .ref pl), (1, .ref (P.2.2.2.1 j)), (2, .ref (P.2.2.2.1 k))], [.ref (P.2.2.2.1 j), .ref pl])) (fun _ => rfl) ?_
  refine C_gr rfl hs (hp.2.1 j hj hT).1 (by decide) (Nat.le_of_ble_eq_true rfl) rfl (hp.2.1 j hj hT).2.2.2.2.1 ?_
  refine Z_go (f2 := (93, [(0, .ref pl), (1, .ref (P.2.2.2.1 j)), (2, .ref (P.2.2.2.1 k))], [.int (Zi 1), .ref (P.1 (5 + 2 * j)), .ref pl])) (fun _ => rfl) ?_
  refine C_callV (As := [.ref (P.1 (5 + 2 * j)), .int (Zi 1)]) (rest := []) rfl (by decide) rfl (by decide) rfl rfl (by decide +kernel) (Nat.le_of_ble_eq_true rfl) hs hp.1.1.1 (C_short _ (r := 5 + 2 * j) (b := 1) (ks := L_un (G2.1 (5 + 2 * j)) (G2.1 (5 + 2 * k))) hp B0 B1 (Pl_h5 hj hT) (by omega) (.inr rfl) (by simp only [g_sr, g_sf, g_st, g_se, g_su]; repeat (first | rw [g_up_s] | rw [g_up_o (by omega)])) (pa3.or pb3) (by omega)) (fun x h v108 n108 hs q => ?_)
  obtain ⟨rfl, y5, s5, q5a, q5b, ω3, hp, cq⟩ := q
  have cs := cs.tr cq
  rw [E_bb1] at q5a
  show B_R _ _ (96, [(0, .ref pl), (1, .ref (P.2.2.2.1 j)), (2, .ref (P.2.2.2.1 k))], []) _ _ _
  refine Z_go (f2 := (97, [(0, .ref pl), (1, .ref (P.2.2.2.1 j)), (2, .ref (P.2.2.2.1 k))], [.ref pl])) (fun _ => rfl) ?_
  refine C_gr rfl hs hp.1.1.1 (by decide) (Nat.le_of_ble_eq_true rfl) rfl hp.1.1.2.2.2.2.1 ?_
  refine C_callV (As := []) (rest := []) rfl (by decide) rfl (by decide) rfl rfl (by decide +kernel) (Nat.le_of_ble_eq_true rfl) hs (hp.fK (.inl (by omega))) (o_fclear _ hp (f := 0) (.inl (by omega)) hs.1) (fun x h v109 n109 hs q => ?_)
  obtain ⟨rfl, ω3, hp, cq⟩ := q
  have cs := cs.tr cq
  show B_R _ _ (103, [(0, .ref pl), (1, .ref (P.2.2.2.1 j)), (2, .ref (P.2.2.2.1 k))], []) _ _ _
  refine Z_go (f2 := (104, [(0, .ref pl), (1, .ref (P.2.2.2.1 j)), (2, .ref (P.2.2.2.1 k))], [.ref pl])) (fun _ => rfl) ?_
  refine C_gr rfl hs hp.1.1.1 (by decide) (Nat.le_of_ble_eq_true rfl) rfl hp.1.1.2.2.2.2.1 ?_
  refine Z_go (f2 := (108, [(0, .ref pl), (1, .ref (P.2.2.2.1 j)), (2, .ref (P.2.2.2.1 k))], [.ref (P.2.2.2.1 j), .ref (P.2.1 0)])) (fun _ => rfl) ?_
  refine C_gr rfl hs (hp.2.1 j hj hT).1 (by decide) (Nat.le_of_ble_eq_true rfl) rfl (hp.2.1 j hj hT).2.2.2.2.2.1 ?_
  refine C_callV (As := [.ref (P.2.1 (2 + j))]) (rest := []) rfl (by decide) rfl (by decide) rfl rfl (by decide +kernel) (Nat.le_of_ble_eq_true rfl) hs (hp.fK (.inl (by omega))) (o_offerAll' _ hp (f := 0) (f2 := 2 + j) (.inl (by omega)) (Pl_h2 hj hT) (xf := []) (yf := G2.2.1 (2 + j)) (by simp only [g_sr, g_sf, g_st, g_se, g_su]; repeat (first | rw [g_up_s] | rw [g_up_o (by omega)])) (by simp only [g_sr, g_sf, g_st, g_se, g_su]; repeat (first | rw [g_up_s] | rw [g_up_o (by omega)])) (by omega) hs.1 (by show 0 + _ ≤ 576; omega) B0 B1 pa7) (fun x h v110 n110 hs q => ?_)
  obtain ⟨rfl, ω3, hp, cq⟩ := q
  have cs := cs.tr cq
  rw [g_sf_i] at hp
  have hF1 := (F_fam.nil.offs (G2.2.1 (2 + j)) pa5.2.1)
  have hL1 := F_offs_len (G2.2.1 (2 + j)) []
  rw [List.length_nil] at hL1
  show B_R _ _ (114, [(0, .ref pl), (1, .ref (P.2.2.2.1 j)), (2, .ref (P.2.2.2.1 k))], []) _ _ _
  refine Z_go (f2 := (115, [(0, .ref pl), (1, .ref (P.2.2.2.1 j)), (2, .ref (P.2.2.2.1 k))], [.ref pl])) (fun _ => rfl) ?_
  refine C_gr rfl hs hp.1.1.1 (by decide) (Nat.le_of_ble_eq_true rfl) rfl hp.1.1.2.2.2.2.1 ?_
  refine Z_go (f2 := (119, [(0, .ref pl), (1, .ref (P.2.2.2.1 j)), (2, .ref (P.2.2.2.1 k))], [.ref (P.2.2.2.1 k), .ref (P.2.1 0)])) (fun _ => rfl) ?_
  refine C_gr rfl hs (hp.2.1 k hk hT2).1 (by decide) (Nat.le_of_ble_eq_true rfl) rfl (hp.2.1 k hk hT2).2.2.2.2.2.1 ?_
  refine C_callV (As := [.ref (P.2.1 (2 + k))]) (rest := []) rfl (by decide) rfl (by decide) rfl rfl (by decide +kernel) (Nat.le_of_ble_eq_true rfl) hs (hp.fK (.inl (by omega))) (o_offerAll' _ hp (f := 0) (f2 := 2 + k) (.inl (by omega)) (Pl_h2 hk hT2) (xf := F_offs [] (G2.2.1 (2 + j))) (yf := G2.2.1 (2 + k)) (by simp only [g_sr, g_sf, g_st, g_se, g_su]; repeat (first | rw [g_up_s] | rw [g_up_o (by omega)])) (by simp only [g_sr, g_sf, g_st, g_se, g_su]; repeat (first | rw [g_up_s] | rw [g_up_o (by omega)])) (by omega) hs.1 (by show _ + _ ≤ 576; omega) B0 B1 pb7) (fun x h v111 n111 hs q => ?_)
  obtain ⟨rfl, ω3, hp, cq⟩ := q
  have cs := cs.tr cq
  rw [g_sf_i] at hp
  have hF2 := (hF1.offs (G2.2.1 (2 + k)) pb5.2.1)
  have hF3 : F_fam (F_or (V_C v) (V_C w)) (F_offs (F_offs [] (G2.2.1 (2 + j))) (G2.2.1 (2 + k))) := hF2.ext (fun x => by show V_C v x ∨ V_C w x ↔ _; rw [← pa5.2.2 x, ← pb5.2.2 x]; exact ⟨fun e => e.elim (fun e => .inl (.inr e)) .inr, fun e => e.elim (fun e => e.elim (fun e => e.elim) .inl) .inr⟩)
  show B_R _ _ (125, [(0, .ref pl), (1, .ref (P.2.2.2.1 j)), (2, .ref (P.2.2.2.1 k))], []) _ _ _
  refine Z_go (f2 := (126, [(0, .ref pl), (1, .ref (P.2.2.2.1 j)), (2, .ref (P.2.2.2.1 k))], [.ref pl])) (fun _ => rfl) ?_
  refine Z_go (f2 := (127, [(0, .ref pl), (1, .ref (P.2.2.2.1 j)), (2, .ref (P.2.2.2.1 k))], [.ref (P.2.2.2.1 j), .ref pl])) (fun _ => rfl) ?_
  refine C_gr rfl hs (hp.2.1 j hj hT).1 (by decide) (Nat.le_of_ble_eq_true rfl) rfl (hp.2.1 j hj hT).2.2.2.2.2.1 ?_
  refine C_callV (As := [.ref (P.2.1 (2 + j))]) (rest := []) rfl (by decide) rfl (by decide) rfl rfl (by decide +kernel) (Nat.le_of_ble_eq_true rfl) hs hp.1.1.1 (C_least _ hp B0 B1 (f := 2 + j) (Pl_h2 hj hT) (by omega) (xf := F_offs (F_offs [] (G2.2.1 (2 + j))) (G2.2.1 (2 + k))) (by simp only [g_sr, g_sf, g_st, g_se, g_su]; repeat (first | rw [g_up_s] | rw [g_up_o (by omega)])) hF3 (fun c hc => by rcases hF3.2.1 c hc with e | e; exact pa7 c ((pa5.2.2 c).mpr e); exact pb7 c ((pb5.2.2 c).mpr e))) (fun x h v112 n112 hs q => ?_)
  obtain ⟨rfl, y2_, b1_, b2_, qd1, qd2, qd3, ω3, hp, cq⟩ := q
  have cs := cs.tr cq
  have hw1 := hs.1
  have hT8 := (hp.2.1 j hj hT).2.1
  show B_R _ _ (133, [(0, .ref pl), (1, .ref (P.2.2.2.1 j)), (2, .ref (P.2.2.2.1 k))], []) _ _ _
  refine Z_go (f2 := (134, [(0, .ref pl), (1, .ref (P.2.2.2.1 j)), (2, .ref (P.2.2.2.1 k))], [.ref (P.2.2.2.1 j)])) (fun _ => rfl) ?_
  refine Z_go (f2 := (135, [(0, .ref pl), (1, .ref (P.2.2.2.1 j)), (2, .ref (P.2.2.2.1 k))], [.int (Zi 0), .ref (P.2.2.2.1 j)])) (fun _ => rfl) ?_
  refine C_pi rfl hs (hp.2.1 j hj hT).1 (by decide) (Nat.le_of_ble_eq_true rfl) (.inl rfl) rfl (by first | rfl | exact narrow_b01 (by omega)) (by first | rfl | exact fits_b01 (by omega)) (by first | exact hs.zF _ _ | exact Zor_r _ _ | exact hs.zA _ _ | assumption | exact zA _ _ | exact zS _ | exact Zr_not (hs.zA _ _) | exact hs.1.1 _ _ | exact ⟨by omega, by omega⟩) (fun h hs => ?_)
  refine Z_ret rfl rfl ?_
  try dsimp only
  have hp := hp.upE hw1 hj hT (v := 0) (.inl rfl)
  have cs := cs.tr (D_cs.flag (ω := ω3) (z := 0) (b := 0) hT8)
  refine ⟨_, hs, rfl, _, ⟨_, hp, cs⟩, D_pv.ofi (q := (E_hs (F_or (V_H v) (V_H w)), E_ts (F_or (V_T v) (V_T w)), F_least (F_or (V_C v) (V_C w)))) (by simp only [g_sr, g_sf, g_st, g_se, g_su]; repeat (first | rw [g_up_s] | rw [g_up_o (by omega)])) uv (D_pu.of (a := y4) (b := y5) (c := y2_) (by simp only [g_sr, g_sf, g_st, g_se, g_su]; repeat (first | rw [g_up_s] | rw [g_up_o (by omega)])) (by simp only [g_sr, g_sf, g_st, g_se, g_su]; repeat (first | rw [g_up_s] | rw [g_up_o (by omega)])) (by simp only [g_sr, g_sf, g_st, g_se, g_su]; repeat (first | rw [g_up_s] | rw [g_up_o (by omega)])) ⟨q4a, q4b, q5a, q5b, qd1, qd2, qd3⟩), hw.congr ⟨(by simp only [g_sr, g_sf, g_st, g_se, g_su]; repeat (first | rw [g_up_s] | rw [g_up_o (by omega)])), (by simp only [g_sr, g_sf, g_st, g_se, g_su]; repeat (first | rw [g_up_s] | rw [g_up_o (by omega)])), (by simp only [g_sr, g_sf, g_st, g_se, g_su]; repeat (first | rw [g_up_s] | rw [g_up_o (by omega)])), rfl, (by simp only [g_sr, g_sf, g_st, g_se, g_su]; repeat (first | rw [g_up_s] | rw [g_up_o (by omega)])), rfl⟩, fun i h1 h2 => (hot i h1 h2).tr ⟨(by simp only [g_sr, g_sf, g_st, g_se, g_su]; repeat (first | rw [g_up_s] | rw [g_up_o (by omega)])), (by simp only [g_sr, g_sf, g_st, g_se, g_su]; repeat (first | rw [g_up_s] | rw [g_up_o (by omega)])), (by simp only [g_sr, g_sf, g_st, g_se, g_su]; repeat (first | rw [g_up_s] | rw [g_up_o (by omega)])), rfl, (by simp only [g_sr, g_sf, g_st, g_se, g_su]; repeat (first | rw [g_up_s] | rw [g_up_o (by omega)])), rfl⟩⟩
theorem C_altr (d : Nat) {s : C_S} {pp : List Nat} {pl tr B : Nat} {G : G_t} {P : G_p} {ω : Nat → Nat} {j k : Nat} {v w : P_V} (hp : D_Pl s pp pl tr B G P ω) (B0 : 1280 ≤ B) (B1 : B ≤ 20000) (hj : j ≤ 38) (hT : P.2.2.2.2.1 j = true) (hk : k ≤ 38) (hT2 : P.2.2.2.2.1 k = true) (ne : j ≠ k) (hv : D_pv B G j v) (hw : D_pv B G k w) : C_ok (d + 8) 66 [.ref pl, .ref (P.2.2.2.1 j), .ref (P.2.2.2.1 k)] s (fun x s2 n => x = none ∧ ∃ G2, D_ch pp pl tr B s P ω G2 s2 n ∧ D_pv B G2 j (V_or v w) ∧ D_pv B G2 k w ∧ ∀ i, i ≠ j → i ≠ k → G_oth i G G2) := by
  refine C_enter (M := E_m66) rfl (Nat.le_of_ble_eq_true rfl) (fun h0 h hs => ?_)
  show B_R (d + 7) _ (0, [(0, .ref pl), (1, .ref (P.2.2.2.1 j)), (2, .ref (P.2.2.2.1 k))], []) _ _ _
  have cs := D_cs.refl pp s ω
  have cj := (hp.2.1 j hj hT).2.2.2.2.2.2.2.2.1
  have ck := (hp.2.1 k hk hT2).2.2.2.2.2.2.2.2.1
  have zej : Zr (G.2.2.2.1 j) := ⟨by omega, by omega⟩
  have zek : Zr (G.2.2.2.1 k) := ⟨by omega, by omega⟩
  have hjk : k ≠ j := fun e => ne e.symm
  refine Z_go (f2 := (1, [(0, .ref pl), (1, .ref (P.2.2.2.1 j)), (2, .ref (P.2.2.2.1 k))], [.ref (P.2.2.2.1 j)])) (fun _ => rfl) ?_
  refine C_gi rfl hs (hp.2.1 j hj hT).1 (by decide) (Nat.le_of_ble_eq_true rfl) rfl ?_
  rw [show C_F (s) (P.2.2.2.1 j) 0 = G.2.2.2.1 j from (by first | exact (hp.2.1 j hj hT).2.2.2.2.2.2.1 | exact (if_neg (fun e => absurd e.1 (by assumption))).trans (hp.2.1 j hj hT).2.2.2.2.2.2.1 | exact (if_neg (fun e => absurd e.2 (by decide))).trans (hp.2.1 j hj hT).2.2.2.2.2.2.1 | exact (if_neg (fun e => absurd e.2 (by decide))).trans ((if_neg (fun e => absurd e.2 (by decide))).trans (hp.2.1 j hj hT).2.2.2.2.2.2.1) | exact (if_neg (fun e => absurd e.2 (by decide))).trans ((if_neg (fun e => absurd e.2 (by decide))).trans ((if_neg (fun e => absurd e.2 (by decide))).trans (hp.2.1 j hj hT).2.2.2.2.2.2.1)))]
  show B_R _ _ (4, [(0, .ref pl), (1, .ref (P.2.2.2.1 j)), (2, .ref (P.2.2.2.1 k))], [.int (Zi (G.2.2.2.1 j))]) _ _ _
  refine Z_ieq rfl rfl (by first | exact hs.zF _ _ | exact Zor_r _ _ | exact hs.zA _ _ | assumption | exact zA _ _ | exact zS _ | exact Zr_not (hs.zA _ _) | exact hs.1.1 _ _ | exact ⟨by omega, by omega⟩) (fun y1 => ?_) (fun y1 => ?_)
  · refine B_loc (K := [(0, .ref pl), (1, .ref (P.2.2.2.1 j)), (2, .ref (P.2.2.2.1 k))]) (N_all_sub ⟨rfl, rfl, rfl, trivial⟩) (show ([0, 1, 2] : List Nat).Nodup by decide) ?_
    obtain ⟨qv, rfl⟩ := hv.op (by omega)
    have e9 : V_or (.inr qv) (w) = V_or2 (.inr qv) (w) := rfl
    rw [e9]
    exact C_alt2 (s := s) (ω := ω) (G := G) (G0 := G) B0 B1 hj hT hk hT2 ne hv hw (fun i _ _ => G_oth.refl i G) _ h _ _ hs hp cs
  · refine Z_go (f2 := (8, [(0, .ref pl), (1, .ref (P.2.2.2.1 j)), (2, .ref (P.2.2.2.1 k))], [.ref (P.2.2.2.1 k)])) (fun _ => rfl) ?_
    refine C_gi rfl hs (hp.2.1 k hk hT2).1 (by decide) (Nat.le_of_ble_eq_true rfl) rfl ?_
    rw [show C_F (s) (P.2.2.2.1 k) 0 = G.2.2.2.1 k from (by first | exact (hp.2.1 k hk hT2).2.2.2.2.2.2.1 | exact (if_neg (fun e => absurd e.1 (by assumption))).trans (hp.2.1 k hk hT2).2.2.2.2.2.2.1 | exact (if_neg (fun e => absurd e.2 (by decide))).trans (hp.2.1 k hk hT2).2.2.2.2.2.2.1 | exact (if_neg (fun e => absurd e.2 (by decide))).trans ((if_neg (fun e => absurd e.2 (by decide))).trans (hp.2.1 k hk hT2).2.2.2.2.2.2.1) | exact (if_neg (fun e => absurd e.2 (by decide))).trans ((if_neg (fun e => absurd e.2 (by decide))).trans ((if_neg (fun e => absurd e.2 (by decide))).trans (hp.2.1 k hk hT2).2.2.2.2.2.2.1)))]
    show B_R _ _ (11, [(0, .ref pl), (1, .ref (P.2.2.2.1 j)), (2, .ref (P.2.2.2.1 k))], [.int (Zi (G.2.2.2.1 k))]) _ _ _
    refine Z_ieq rfl rfl (by first | exact hs.zF _ _ | exact Zor_r _ _ | exact hs.zA _ _ | assumption | exact zA _ _ | exact zS _ | exact Zr_not (hs.zA _ _) | exact hs.1.1 _ _ | exact ⟨by omega, by omega⟩) (fun y2 => ?_) (fun y2 => ?_)
    · refine B_loc (K := [(0, .ref pl), (1, .ref (P.2.2.2.1 j)), (2, .ref (P.2.2.2.1 k))]) (N_all_sub ⟨rfl, rfl, rfl, trivial⟩) (show ([0, 1, 2] : List Nat).Nodup by decide) ?_
      obtain ⟨qw, rfl⟩ := hw.op (by omega)
      have e9 : V_or (v) (.inr qw) = V_or2 (v) (.inr qw) := (by cases v <;> rfl)
      rw [e9]
      exact C_alt2 (s := s) (ω := ω) (G := G) (G0 := G) B0 B1 hj hT hk hT2 ne hv hw (fun i _ _ => G_oth.refl i G) _ h _ _ hs hp cs
    · obtain ⟨Av, rfl, hsoA, hA⟩ := hv.ex (by omega)
      obtain ⟨Aw, rfl, hsoQ, hQ⟩ := hw.ex (by omega)
      refine Z_go (f2 := (15, [(0, .ref pl), (1, .ref (P.2.2.2.1 j)), (2, .ref (P.2.2.2.1 k))], [.ref pl])) (fun _ => rfl) ?_
      refine Z_go (f2 := (16, [(0, .ref pl), (1, .ref (P.2.2.2.1 j)), (2, .ref (P.2.2.2.1 k))], [.ref (P.2.2.2.1 j), .ref pl])) (fun _ => rfl) ?_
      refine C_gr rfl hs (hp.2.1 j hj hT).1 (by decide) (Nat.le_of_ble_eq_true rfl) rfl (hp.2.1 j hj hT).2.2.1 ?_
      refine Z_go (f2 := (20, [(0, .ref pl), (1, .ref (P.2.2.2.1 j)), (2, .ref (P.2.2.2.1 k))], [.ref (P.2.2.2.1 k), .ref (P.2.2.1 (1 + j)), .ref pl])) (fun _ => rfl) ?_
      refine C_gr rfl hs (hp.2.1 k hk hT2).1 (by decide) (Nat.le_of_ble_eq_true rfl) rfl (hp.2.1 k hk hT2).2.2.1 ?_
      refine C_callV (As := [.ref (P.2.2.1 (1 + j)), .ref (P.2.2.1 (1 + k))]) (rest := []) rfl (by decide) rfl (by decide) rfl rfl (by decide +kernel) (Nat.le_of_ble_eq_true rfl) hs hp.1.1.1 (C_uni _ hp B0 B1 (Pl_h1 hj hT) (Pl_h1 hk hT2) (by omega) (by omega) rfl rfl hA hQ hsoA) (fun x h v1 n1 hs q => ?_)
      obtain ⟨zm, rfl, zs, ⟨ω1, hp, cq⟩, hzm⟩ := q
      have cs := cs.tr cq
      have zzm : Zr zm := by rcases hzm with ⟨e, _⟩ | ⟨e, _⟩ <;> exact ⟨by omega, by omega⟩
      show B_R _ _ (26, [(0, .ref pl), (1, .ref (P.2.2.2.1 j)), (2, .ref (P.2.2.2.1 k))], [.int (Zi zm)]) _ _ _
      refine Z_ieq rfl rfl (by first | exact hs.zF _ _ | exact Zor_r _ _ | exact hs.zA _ _ | assumption | exact zA _ _ | exact zS _ | exact Zr_not (hs.zA _ _) | exact hs.1.1 _ _ | exact ⟨by omega, by omega⟩) (fun y3 => ?_) (fun y3 => ?_)
      · refine B_loc (K := [(0, .ref pl), (1, .ref (P.2.2.2.1 j)), (2, .ref (P.2.2.2.1 k))]) (N_all_sub ⟨rfl, rfl, rfl, trivial⟩) (show ([0, 1, 2] : List Nat).Nodup by decide) ?_
        have hnf : ¬ F_fit (F_or Av Aw) := by
          rcases hzm with ⟨e, _⟩ | ⟨_, e⟩
          · omega
          · exact e
        have e9 : V_or (.inl Av) (.inl Aw) = V_or2 (.inl Av) (.inl Aw) := by
            show c_if _ _ _ = _
            rw [c_neg hnf]
        rw [e9]
        exact C_alt2 (s := s) (ω := ω) (G := g_st G 0 zs) (G0 := G) B0 B1 hj hT hk hT2 ne (hv.congr ⟨rfl, rfl, rfl, (by simp only [g_sr, g_sf, g_st, g_se, g_su]; repeat (first | rw [g_up_s] | rw [g_up_o (by omega)])), rfl, rfl⟩) (hw.congr ⟨rfl, rfl, rfl, (by simp only [g_sr, g_sf, g_st, g_se, g_su]; repeat (first | rw [g_up_s] | rw [g_up_o (by omega)])), rfl, rfl⟩) (fun i _ _ => ⟨rfl, rfl, rfl, (by simp only [g_sr, g_sf, g_st, g_se, g_su]; repeat (first | rw [g_up_s] | rw [g_up_o (by omega)])), rfl, rfl⟩) _ h _ _ hs hp cs
      · obtain ⟨hz1, hz2, hz3⟩ : F_fit (F_or Av Aw) ∧ X_so zs ∧ T_tel (F_or Av Aw) zs := by
          rcases hzm with ⟨_, e⟩ | ⟨e, _⟩
          · exact e
          · omega
        refine Z_go (f2 := (30, [(0, .ref pl), (1, .ref (P.2.2.2.1 j)), (2, .ref (P.2.2.2.1 k))], [.ref (P.2.2.2.1 j)])) (fun _ => rfl) ?_
        refine Z_go (f2 := (31, [(0, .ref pl), (1, .ref (P.2.2.2.1 j)), (2, .ref (P.2.2.2.1 k))], [.ref pl, .ref (P.2.2.2.1 j)])) (fun _ => rfl) ?_
        refine C_gr rfl hs hp.1.1.1 (by decide) (Nat.le_of_ble_eq_true rfl) rfl hp.1.1.2.2.2.2.2.2.2.2.2.2.1 ?_
        refine C_callV (As := [.ref (P.2.2.1 0)]) (rest := []) rfl (by decide) rfl (by decide) rfl rfl (by decide +kernel) (Nat.le_of_ble_eq_true rfl) hs (hp.2.1 j hj hT).1 (C_bex (A := F_or Av Aw) (xs := zs) _ hp B0 B1 hj hT (by simp only [g_sr, g_sf, g_st, g_se, g_su]; repeat (first | rw [g_up_s] | rw [g_up_o (by omega)])) hz2 hz3) (fun x h v2 n2 hs q => ?_)
        obtain ⟨rfl, G3, ⟨ω3, hp, cq⟩, hv3, ot3⟩ := q
        have cs := cs.tr cq
        show B_R _ _ (37, [(0, .ref pl), (1, .ref (P.2.2.2.1 j)), (2, .ref (P.2.2.2.1 k))], []) _ _ _
        refine Z_ret rfl rfl ⟨_, hs, ?_⟩
        try dsimp only
        have e9 : V_or (.inl Av) (.inl Aw) = .inl (F_or Av Aw) := by
          show c_if _ _ _ = _
          rw [c_pos hz1]
        rw [e9]
        exact ⟨rfl, G3, ⟨_, hp, cs⟩, hv3, (hw.congr (G2 := g_st G 0 zs) ⟨rfl, rfl, rfl, (by simp only [g_sr, g_sf, g_st, g_se, g_su]; repeat (first | rw [g_up_s] | rw [g_up_o (by omega)])), rfl, rfl⟩).congr (ot3 k hjk), fun i h1 h2 => (show G_oth i G (g_st G 0 zs) from ⟨rfl, rfl, rfl, (by simp only [g_sr, g_sf, g_st, g_se, g_su]; repeat (first | rw [g_up_s] | rw [g_up_o (by omega)])), rfl, rfl⟩).tr (ot3 i h1)⟩
