/-! the class: Planner: what tails and heads tell together; the least of what is gathered -/
theorem g_sf_i {G : G_t} {a : Nat} {x y : List (List Int)} : g_sf (g_sf G a x) a y = g_sf G a y := by
  unfold g_sf
  have e : g_up (g_up G.2.1 a x) a y = g_up G.2.1 a y := funext fun k => by
    unfold g_up
    by_cases c : k = a
    · rw [if_pos c, if_pos c]
    · rw [if_neg c, if_neg c, if_neg c]
  dsimp only
  rw [e]
theorem g_st_i {G : G_t} {a : Nat} {x y : List (List Int)} : g_st (g_st G a x) a y = g_st G a y := by
  unfold g_st
  have e : g_up (g_up G.2.2.1 a x) a y = g_up G.2.2.1 a y := funext fun k => by
    unfold g_up
    by_cases c : k = a
    · rw [if_pos c, if_pos c]
    · rw [if_neg c, if_neg c, if_neg c]
  dsimp only
  rw [e]
theorem g_sf_c {G : G_t} {a b : Nat} {x y : List (List Int)} (h : a ≠ b) : g_sf (g_sf G a x) b y = g_sf (g_sf G b y) a x := by
  unfold g_sf
  have e : g_up (g_up G.2.1 a x) b y = g_up (g_up G.2.1 b y) a x := funext fun k => by
    unfold g_up
    by_cases c : k = a
    · rw [if_pos c, if_neg (by omega), if_pos c]
    · rw [if_neg c, if_neg c]
  dsimp only
  rw [e]
theorem g_sr_sf {G : G_t} {a b : Nat} {x : List Int} {y : List (List Int)} : g_sr (g_sf G b y) a x = g_sf (g_sr G a x) b y := rfl
theorem g_sr_st {G : G_t} {a b : Nat} {x : List Int} {y : List (List Int)} : g_sr (g_st G b y) a x = g_st (g_sr G a x) b y := rfl
theorem g_sf_st {G : G_t} {a b : Nat} {x y : List (List Int)} : g_sf (g_st G b y) a x = g_st (g_sf G a x) b y := rfl
theorem g_sf_n (G : G_t) (a : Nat) : g_sf G a (G.2.1 a) = G := by
  unfold g_sf
  have e : g_up G.2.1 a (G.2.1 a) = G.2.1 := funext fun k => by
    unfold g_up
    by_cases c : k = a
    · rw [if_pos c, c]
    · rw [if_neg c]
  rw [e]
section OP2
variable {s : C_S} {pp : List Nat} {pl tr B : Nat} {G : G_t} {P : G_p} {ω : Nat → Nat} {xs : List Int} {xf yf : List (List Int)}
theorem o_offerR' (d : Nat) (h : D_Pl s pp pl tr B G P ω) {f r : Nat} (hf : Pl_hf P f) (hr : Pl_hr P r) (e1 : G.2.1 f = xf) (e2 : G.1 r = xs) (w : C_wf s) (sx : L_srt xs) (hm : xf.length < Pl_R f) (hB0 : 1280 ≤ B) (hB : B ≤ 20000) (m1 : 2 * xs.length ≤ B) : C_ok (d + 4) 6 [.ref (P.2.1 f), .ref (P.1 r)] s (fun x s2 n => x = none ∧ D_ch pp pl tr B s P ω (g_sf G f (F_off xf xs)) s2 n) := by
  subst e1; subst e2; exact o_offerR d h hf hr w sx hm (by omega) hB m1
theorem o_fcopy' (d : Nat) (h : D_Pl s pp pl tr B G P ω) {f f2 : Nat} (hf : Pl_hf P f) (hf2 : Pl_hf P f2) (e : G.2.1 f2 = yf) (ne : f ≠ f2) (w : C_wf s) (hm : yf.length ≤ Pl_R f) (hB0 : 1280 ≤ B) (hB : B ≤ 20000) (m1 : ∀ c ∈ yf, 2 * c.length ≤ B) : C_ok (d + 4) 8 [.ref (P.2.1 f), .ref (P.2.1 f2)] s (fun x s2 n => x = none ∧ D_ch pp pl tr B s P ω (g_sf G f yf) s2 n) := by
  subst e; exact o_fcopy d h hf hf2 ne w hm (by omega) hB m1
theorem o_offerAll' (d : Nat) (h : D_Pl s pp pl tr B G P ω) {f f2 : Nat} (hf : Pl_hf P f) (hf2 : Pl_hf P f2) (e1 : G.2.1 f = xf) (e : G.2.1 f2 = yf) (ne : f ≠ f2) (w : C_wf s) (hm : xf.length + yf.length ≤ Pl_R f) (hB0 : 1280 ≤ B) (hB : B ≤ 20000) (m1 : ∀ c ∈ yf, 2 * c.length ≤ B) : C_ok (d + 5) 7 [.ref (P.2.1 f), .ref (P.2.1 f2)] s (fun x s2 n => x = none ∧ D_ch pp pl tr B s P ω (g_sf G f (F_offs xf yf)) s2 n) := by
  subst e; subst e1; exact o_offerAll d h hf hf2 ne w hm (by omega) hB m1
theorem o_core' (d : Nat) (h : D_Pl s pp pl tr B G P ω) {f r : Nat} (hf : Pl_hf P f) (hr : Pl_hr P r) (e : G.2.1 f = xf) (w : C_wf s) (hB0 : 1280 ≤ B) (hB : B ≤ 20000) (m1 : ∀ c ∈ xf, 2 * c.length ≤ B) : C_ok (d + 4) 11 [.ref (P.2.1 f), .ref (P.1 r)] s (fun x s2 n => x = none ∧ ∃ ys, F_cl xf ys ∧ D_ch pp pl tr B s P ω (g_sr G r ys) s2 n) := by
  subst e; exact o_core d h hf hr w (by omega) hB m1
theorem o_frow' (d : Nat) (h : D_Pl s pp pl tr B G P ω) {f : Nat} (hf : Pl_hf P f) (e : G.2.1 f = xf) {i : Int} (i0 : 0 ≤ i) (i1 : i < xf.length) : C_rd (d + 1) 5 [.ref (P.2.1 f), .int (Zi i)] s (fun x => ∃ r a cap, x = some (.ref r) ∧ D_Row s (pp ++ [1, f] ++ [r]) r a cap (X_at xf i)) := by
  subst e; exact o_frow d h hf i0 i1
end OP2
theorem C_offC (d : Nat) {s : C_S} {pp : List Nat} {pl tr B : Nat} {G : G_t} {P : G_p} {ω : Nat → Nat} {u h9 : List Int} {xf : List (List Int)} (hp : D_Pl s pp pl tr B G P ω) (B0 : 1280 ≤ B) (B1 : B ≤ 20000) (hu : L_by2 u) (hh : L_by2 h9) (ef : G.2.1 0 = xf) (hm : xf.length < 576) : C_ok (d + 5) 77 [.ref pl, .int (Zi ((K_ky u))), .int (Zi ((K_ky h9)))] s (fun x s2 n => x = none ∧ D_ch pp pl tr B s P ω (g_sf (g_sr G 0 (L_gr (u ++ h9))) 0 (F_off xf (L_gr (u ++ h9)))) s2 n) := by
  refine C_enter (M := E_m77) rfl (Nat.le_of_ble_eq_true rfl) (fun h0 h hs => ?_)
  show B_R (d + 4) _ (0, [(0, .ref pl), (1, .int (Zi ((K_ky u)))), (2, .int (Zi ((K_ky h9))))], []) _ _ _
  have cs := D_cs.refl pp s ω
  obtain ⟨ku0, ku1⟩ := K_ky_r hu
  obtain ⟨kh0, kh1⟩ := K_ky_r hh
  have zu : Zr (K_ky u) := ⟨by omega, by omega⟩
  have zh : Zr (K_ky h9) := ⟨by omega, by omega⟩
  have hau := fun k => T_at_r hu.2 k
  have hah := fun k => T_at_r hh.2 k
  have hl := hau (u.length - 1)
  have hu0 := hau 0
  have hh0 := hah 0
  have hh1 := hah 1
  have hmu := K_md hu
  have hmh := K_md hh
  have hul := hu.1
  have hhl := hh.1
  have inu : ∀ {t : List Int} {k : Int}, (∀ x ∈ t, 0 ≤ x ∧ x < 256) → 0 ≤ k → k < t.length → 0 ≤ L_at t k := fun hb k0 k1 => (hb _ (L_at_mem.mpr ⟨_, k0, k1, rfl⟩)).1
  have outu : ∀ {t : List Int} {k : Int}, (k < 0 ∨ (t.length : Int) ≤ k) → L_at t k = -1 := fun h => L_at_out h
  have lu : 1 ≤ u.length → 0 ≤ L_at u (u.length - 1) := fun h => inu hu.2 (by omega) (by omega)
  have lu0 : 1 ≤ u.length → 0 ≤ L_at u 0 := fun h => inu hu.2 (by omega) (by omega)
  have lh0 : 1 ≤ h9.length → 0 ≤ L_at h9 0 := fun h => inu hh.2 (by omega) (by omega)
  have lh1 : h9.length = 2 → 0 ≤ L_at h9 1 := fun h => inu hh.2 (by omega) (by omega)
  have ou : u.length = 0 → L_at u (u.length - 1) = -1 := fun h => outu (by omega)
  have oh : h9.length = 0 → L_at h9 0 = -1 := fun h => outu (by omega)
  have zlu : Zr (L_at u (u.length - 1)) := ⟨by omega, by omega⟩
  have zh0 : Zr (L_at h9 0) := ⟨by omega, by omega⟩
  refine Z_go (f2 := (1, [(0, .ref pl), (1, .int (Zi ((K_ky u)))), (2, .int (Zi ((K_ky h9))))], [.int (Zi ((K_ky u)))])) (fun _ => rfl) ?_
  refine Z_callQ (vs := [.int (Zi ((K_ky u)))]) (rest := []) rfl (by decide) rfl rfl rfl (Nat.le_of_ble_eq_true rfl) (C_lastSign _ (a := K_ky u) zu ku0 (by omega)) (fun x q => ?_)
  obtain rfl := q
  rw [K_ls_t hu]
  show B_R _ _ (4, [(0, .ref pl), (1, .int (Zi ((K_ky u)))), (2, .int (Zi ((K_ky h9))))], [.int (Zi (L_at u (u.length - 1)))]) _ _ _
  refine Z_go (f2 := (5, [(3, .int (Zi (L_at u (u.length - 1)))), (0, .ref pl), (1, .int (Zi ((K_ky u)))), (2, .int (Zi ((K_ky h9))))], [])) (fun _ => rfl) ?_
  refine Z_go (f2 := (6, [(3, .int (Zi (L_at u (u.length - 1)))), (0, .ref pl), (1, .int (Zi ((K_ky u)))), (2, .int (Zi ((K_ky h9))))], [.int (Zi ((K_ky h9)))])) (fun _ => rfl) ?_
  refine Z_go (f2 := (7, [(3, .int (Zi (L_at u (u.length - 1)))), (0, .ref pl), (1, .int (Zi ((K_ky u)))), (2, .int (Zi ((K_ky h9))))], [.int (Zi 0), .int (Zi ((K_ky h9)))])) (fun _ => rfl) ?_
  refine Z_callQ (vs := [.int (Zi ((K_ky h9))), .int (Zi 0)]) (rest := []) rfl (by decide) rfl rfl rfl (Nat.le_of_ble_eq_true rfl) (C_keySign _ (a := K_ky h9) (k := 0) zh ⟨by omega, by omega⟩ kh0 (by omega)) (fun x q => ?_)
  obtain rfl := q
  rw [K_sg0 hh]
  show B_R _ _ (10, [(3, .int (Zi (L_at u (u.length - 1)))), (0, .ref pl), (1, .int (Zi ((K_ky u)))), (2, .int (Zi ((K_ky h9))))], [.int (Zi (L_at h9 0))]) _ _ _
  refine Z_go (f2 := (12, [(4, .int (Zi (L_at h9 0))), (3, .int (Zi (L_at u (u.length - 1)))), (0, .ref pl), (1, .int (Zi ((K_ky u)))), (2, .int (Zi ((K_ky h9))))], [])) (fun _ => rfl) ?_
  refine Z_go (f2 := (13, [(4, .int (Zi (L_at h9 0))), (3, .int (Zi (L_at u (u.length - 1)))), (0, .ref pl), (1, .int (Zi ((K_ky u)))), (2, .int (Zi ((K_ky h9))))], [.ref pl])) (fun _ => rfl) ?_
  refine C_gr rfl hs hp.1.1.1 (by decide) (Nat.le_of_ble_eq_true rfl) rfl hp.1.1.2.2.2.2.2.2.1 ?_
  refine C_callV (As := []) (rest := []) rfl (by decide) rfl (by decide) rfl rfl (by decide +kernel) (Nat.le_of_ble_eq_true rfl) hs (hp.rK (.inl (by omega))) (o_clear _ hp (r := 0) (.inl (by omega)) hs.1) (fun x h v1 n1 hs q => ?_)
  obtain ⟨rfl, ω1, hp, cq⟩ := q
  have cs := cs.tr cq
  obtain ⟨J0, eJ⟩ : ∃ J0 : List Int, J0 = [] := ⟨_, rfl⟩
  rw [← eJ] at hp
  have sJ : L_srt J0 := by rw [eJ]; trivial
  have lJ : J0.length ≤ 0 := by rw [eJ]; exact Nat.le_refl _
  show B_R _ _ (19, [(4, .int (Zi (L_at h9 0))), (3, .int (Zi (L_at u (u.length - 1)))), (0, .ref pl), (1, .int (Zi ((K_ky u)))), (2, .int (Zi ((K_ky h9))))], []) _ _ _
  refine Z_go (f2 := (20, [(4, .int (Zi (L_at h9 0))), (3, .int (Zi (L_at u (u.length - 1)))), (0, .ref pl), (1, .int (Zi ((K_ky u)))), (2, .int (Zi ((K_ky h9))))], [.int (Zi ((K_ky u)))])) (fun _ => rfl) ?_
  refine Z_go (f2 := (23, [(4, .int (Zi (L_at h9 0))), (3, .int (Zi (L_at u (u.length - 1)))), (0, .ref pl), (1, .int (Zi ((K_ky u)))), (2, .int (Zi ((K_ky h9))))], [.int (Zi 257), .int (Zi ((K_ky u)))])) (fun _ => rfl) ?_
  refine Z_irem rfl (by omega) (by omega) (by omega) (by omega) ?_
  refine Z_ieq rfl rfl (by first | exact hs.zF _ _ | exact Zor_r _ _ | exact hs.zA _ _ | assumption | exact zA _ _ | exact zS _ | exact Zr_not (hs.zA _ _) | exact hs.1.1 _ _ | exact ⟨by omega, by omega⟩) (fun y1 => ?_) (fun y1 => ?_)
  · refine Z_go (f2 := (52, [(4, .int (Zi (L_at h9 0))), (3, .int (Zi (L_at u (u.length - 1)))), (0, .ref pl), (1, .int (Zi ((K_ky u)))), (2, .int (Zi ((K_ky h9))))], [.int (Zi (L_at u (u.length - 1)))])) (fun _ => rfl) ?_
    refine Z_go (f2 := (53, [(4, .int (Zi (L_at h9 0))), (3, .int (Zi (L_at u (u.length - 1)))), (0, .ref pl), (1, .int (Zi ((K_ky u)))), (2, .int (Zi ((K_ky h9))))], [.int (Zi (-1)), .int (Zi (L_at u (u.length - 1)))])) (fun _ => rfl) ?_
    refine Z_ceq rfl rfl (by first | exact hs.zF _ _ | exact Zor_r _ _ | exact hs.zA _ _ | assumption | exact zA _ _ | exact zS _ | exact Zr_not (hs.zA _ _) | exact hs.1.1 _ _ | exact ⟨by omega, by omega⟩) (by first | exact hs.zF _ _ | exact Zor_r _ _ | exact hs.zA _ _ | assumption | exact zA _ _ | exact zS _ | exact Zr_not (hs.zA _ _) | exact hs.1.1 _ _ | exact ⟨by omega, by omega⟩) (fun y2 => ?_) (fun y2 => ?_)
    · refine Z_go (f2 := (83, [(4, .int (Zi (L_at h9 0))), (3, .int (Zi (L_at u (u.length - 1)))), (0, .ref pl), (1, .int (Zi ((K_ky u)))), (2, .int (Zi ((K_ky h9))))], [.ref pl])) (fun _ => rfl) ?_
      refine C_gr rfl hs hp.1.1.1 (by decide) (Nat.le_of_ble_eq_true rfl) rfl hp.1.1.2.2.2.2.1 ?_
      refine Z_go (f2 := (87, [(4, .int (Zi (L_at h9 0))), (3, .int (Zi (L_at u (u.length - 1)))), (0, .ref pl), (1, .int (Zi ((K_ky u)))), (2, .int (Zi ((K_ky h9))))], [.ref pl, .ref (P.2.1 0)])) (fun _ => rfl) ?_
      refine C_gr rfl hs hp.1.1.1 (by decide) (Nat.le_of_ble_eq_true rfl) rfl hp.1.1.2.2.2.2.2.2.1 ?_
      refine C_callV (As := [.ref (P.1 0)]) (rest := []) rfl (by decide) rfl (by decide) rfl rfl (by decide +kernel) (Nat.le_of_ble_eq_true rfl) hs (hp.fK (.inl (by omega))) (o_offerR' _ hp (f := 0) (.inl (by omega)) (r := 0) (.inl (by omega)) (xf := xf) (xs := J0) ef (by simp only [g_sr, g_sf, g_st, g_se, g_su]; repeat (first | rw [g_up_s] | rw [g_up_o (by omega)])) hs.1 sJ hm B0 B1 (by omega)) (fun x h v9 n9 hs q => ?_)
      obtain ⟨rfl, ω9, hp, cq⟩ := q
      have cs := cs.tr cq
      have eF : J0 = L_gr (u ++ h9) := by
        rw [L_gr_cr hu hh]
        rw [eJ]
        first | (rw [if_pos ⟨by omega, by omega⟩, if_pos (by omega)]; done) | (rw [if_pos ⟨by omega, by omega⟩, if_neg (by omega)]; done) | (rw [if_neg (by omega), if_pos ⟨by omega, by omega⟩]; done) | (rw [if_neg (by omega), if_neg (by omega)]; done)
      rw [eF] at hp
      show B_R _ _ (93, [(4, .int (Zi (L_at h9 0))), (3, .int (Zi (L_at u (u.length - 1)))), (0, .ref pl), (1, .int (Zi ((K_ky u)))), (2, .int (Zi ((K_ky h9))))], []) _ _ _
      refine Z_ret rfl rfl ⟨_, hs, ?_⟩
      try dsimp only
      exact ⟨rfl, ω9, hp, cs⟩
    · refine Z_go (f2 := (57, [(4, .int (Zi (L_at h9 0))), (3, .int (Zi (L_at u (u.length - 1)))), (0, .ref pl), (1, .int (Zi ((K_ky u)))), (2, .int (Zi ((K_ky h9))))], [.int (Zi ((K_ky h9)))])) (fun _ => rfl) ?_
      refine Z_go (f2 := (60, [(4, .int (Zi (L_at h9 0))), (3, .int (Zi (L_at u (u.length - 1)))), (0, .ref pl), (1, .int (Zi ((K_ky u)))), (2, .int (Zi ((K_ky h9))))], [.int (Zi 257), .int (Zi ((K_ky h9)))])) (fun _ => rfl) ?_
      refine Z_irem rfl (by omega) (by omega) (by omega) (by omega) ?_
      refine Z_ieq rfl rfl (by first | exact hs.zF _ _ | exact Zor_r _ _ | exact hs.zA _ _ | assumption | exact zA _ _ | exact zS _ | exact Zr_not (hs.zA _ _) | exact hs.1.1 _ _ | exact ⟨by omega, by omega⟩) (fun y3 => ?_) (fun y3 => ?_)
      · refine Z_go (f2 := (83, [(4, .int (Zi (L_at h9 0))), (3, .int (Zi (L_at u (u.length - 1)))), (0, .ref pl), (1, .int (Zi ((K_ky u)))), (2, .int (Zi ((K_ky h9))))], [.ref pl])) (fun _ => rfl) ?_
        refine C_gr rfl hs hp.1.1.1 (by decide) (Nat.le_of_ble_eq_true rfl) rfl hp.1.1.2.2.2.2.1 ?_
        refine Z_go (f2 := (87, [(4, .int (Zi (L_at h9 0))), (3, .int (Zi (L_at u (u.length - 1)))), (0, .ref pl), (1, .int (Zi ((K_ky u)))), (2, .int (Zi ((K_ky h9))))], [.ref pl, .ref (P.2.1 0)])) (fun _ => rfl) ?_
        refine C_gr rfl hs hp.1.1.1 (by decide) (Nat.le_of_ble_eq_true rfl) rfl hp.1.1.2.2.2.2.2.2.1 ?_
        refine C_callV (As := [.ref (P.1 0)]) (rest := []) rfl (by decide) rfl (by decide) rfl rfl (by decide +kernel) (Nat.le_of_ble_eq_true rfl) hs (hp.fK (.inl (by omega))) (o_offerR' _ hp (f := 0) (.inl (by omega)) (r := 0) (.inl (by omega)) (xf := xf) (xs := J0) ef (by simp only [g_sr, g_sf, g_st, g_se, g_su]; repeat (first | rw [g_up_s] | rw [g_up_o (by omega)])) hs.1 sJ hm B0 B1 (by omega)) (fun x h v9 n9 hs q => ?_)
        obtain ⟨rfl, ω9, hp, cq⟩ := q
        have cs := cs.tr cq
        have eF : J0 = L_gr (u ++ h9) := by
          rw [L_gr_cr hu hh]
          rw [eJ]
          first | (rw [if_pos ⟨by omega, by omega⟩, if_pos (by omega)]; done) | (rw [if_pos ⟨by omega, by omega⟩, if_neg (by omega)]; done) | (rw [if_neg (by omega), if_pos ⟨by omega, by omega⟩]; done) | (rw [if_neg (by omega), if_neg (by omega)]; done)
        rw [eF] at hp
        show B_R _ _ (93, [(4, .int (Zi (L_at h9 0))), (3, .int (Zi (L_at u (u.length - 1)))), (0, .ref pl), (1, .int (Zi ((K_ky u)))), (2, .int (Zi ((K_ky h9))))], []) _ _ _
        refine Z_ret rfl rfl ⟨_, hs, ?_⟩
        try dsimp only
        exact ⟨rfl, ω9, hp, cs⟩
      · refine Z_go (f2 := (65, [(4, .int (Zi (L_at h9 0))), (3, .int (Zi (L_at u (u.length - 1)))), (0, .ref pl), (1, .int (Zi ((K_ky u)))), (2, .int (Zi ((K_ky h9))))], [.ref pl])) (fun _ => rfl) ?_
        refine C_gr rfl hs hp.1.1.1 (by decide) (Nat.le_of_ble_eq_true rfl) rfl hp.1.1.2.2.2.2.2.2.1 ?_
        refine Z_go (f2 := (69, [(4, .int (Zi (L_at h9 0))), (3, .int (Zi (L_at u (u.length - 1)))), (0, .ref pl), (1, .int (Zi ((K_ky u)))), (2, .int (Zi ((K_ky h9))))], [.int (Zi (L_at u (u.length - 1))), .ref (P.1 0)])) (fun _ => rfl) ?_
        refine Z_go (f2 := (71, [(4, .int (Zi (L_at h9 0))), (3, .int (Zi (L_at u (u.length - 1)))), (0, .ref pl), (1, .int (Zi ((K_ky u)))), (2, .int (Zi ((K_ky h9))))], [.int (Zi (L_at h9 0)), .int (Zi (L_at u (u.length - 1))), .ref (P.1 0)])) (fun _ => rfl) ?_
        refine Z_go (f2 := (72, [(4, .int (Zi (L_at h9 0))), (3, .int (Zi (L_at u (u.length - 1)))), (0, .ref pl), (1, .int (Zi ((K_ky u)))), (2, .int (Zi ((K_ky h9))))], [.int (Zi ((K_ky h9))), .int (Zi (L_at h9 0)), .int (Zi (L_at u (u.length - 1))), .ref (P.1 0)])) (fun _ => rfl) ?_
        refine Z_go (f2 := (73, [(4, .int (Zi (L_at h9 0))), (3, .int (Zi (L_at u (u.length - 1)))), (0, .ref pl), (1, .int (Zi ((K_ky u)))), (2, .int (Zi ((K_ky h9))))], [.int (Zi 1), .int (Zi ((K_ky h9))), .int (Zi (L_at h9 0)), .int (Zi (L_at u (u.length - 1))), .ref (P.1 0)])) (fun _ => rfl) ?_
        refine Z_callQ (vs := [.int (Zi ((K_ky h9))), .int (Zi 1)]) (rest := [.int (Zi (L_at h9 0)), .int (Zi (L_at u (u.length - 1))), .ref (P.1 0)]) rfl (by decide) rfl rfl rfl (Nat.le_of_ble_eq_true rfl) (C_keySign _ (a := K_ky h9) (k := 1) zh ⟨by omega, by omega⟩ kh0 (by omega)) (fun x q => ?_)
        obtain rfl := q
        rw [K_sg1 hh]
        show B_R _ _ (76, [(4, .int (Zi (L_at h9 0))), (3, .int (Zi (L_at u (u.length - 1)))), (0, .ref pl), (1, .int (Zi ((K_ky u)))), (2, .int (Zi ((K_ky h9))))], [.int (Zi (L_at h9 1)), .int (Zi (L_at h9 0)), .int (Zi (L_at u (u.length - 1))), .ref (P.1 0)]) _ _ _
        refine Z_callQ (vs := [.int (Zi (L_at u (u.length - 1))), .int (Zi (L_at h9 0)), .int (Zi (L_at h9 1))]) (rest := [.ref (P.1 0)]) rfl (by decide) rfl rfl rfl (Nat.le_of_ble_eq_true rfl) (C_gramOf _ (a := L_at u (u.length - 1)) (b := L_at h9 0) (c := L_at h9 1) (by have := lu; have := lu0; omega) (by omega) (by omega) (by omega) (by omega) (by omega)) (fun x q => ?_)
        obtain rfl := q
        show B_R _ _ (79, [(4, .int (Zi (L_at h9 0))), (3, .int (Zi (L_at u (u.length - 1)))), (0, .ref pl), (1, .int (Zi ((K_ky u)))), (2, .int (Zi ((K_ky h9))))], [.int (Zi (65536 * (L_at u (u.length - 1)) + 256 * (L_at h9 0) + (L_at h9 1))), .ref (P.1 0)]) _ _ _
        refine C_callV (As := [.int (Zi (65536 * (L_at u (u.length - 1)) + 256 * (L_at h9 0) + (L_at h9 1)))]) (rest := []) rfl (by decide) rfl (by decide) rfl rfl (by decide +kernel) (Nat.le_of_ble_eq_true rfl) hs (hp.rK (.inl (by omega))) (o_insert' _ hp (r := 0) (.inl (by omega)) (xs := J0) (by simp only [g_sr, g_sf, g_st, g_se, g_su]; repeat (first | rw [g_up_s] | rw [g_up_o (by omega)])) hs.1 (v := 65536 * (L_at u (u.length - 1)) + 256 * (L_at h9 0) + (L_at h9 1)) sJ ⟨by omega, by omega⟩ (by omega) B1) (fun x h v81 n81 hs q => ?_)
        obtain ⟨rfl, ω1, hp, cq⟩ := q
        have cs := cs.tr cq
        rw [g_sr_i] at hp
        have sJ : L_srt (L_ins (65536 * (L_at u (u.length - 1)) + 256 * (L_at h9 0) + (L_at h9 1)) J0) := L_ins_srt sJ
        have lJ : (L_ins (65536 * (L_at u (u.length - 1)) + 256 * (L_at h9 0) + (L_at h9 1)) J0).length ≤ 1 := Nat.le_trans (L_ins_lq _ _) (by omega)
        show B_R _ _ (82, [(4, .int (Zi (L_at h9 0))), (3, .int (Zi (L_at u (u.length - 1)))), (0, .ref pl), (1, .int (Zi ((K_ky u)))), (2, .int (Zi ((K_ky h9))))], []) _ _ _
        refine Z_go (f2 := (83, [(4, .int (Zi (L_at h9 0))), (3, .int (Zi (L_at u (u.length - 1)))), (0, .ref pl), (1, .int (Zi ((K_ky u)))), (2, .int (Zi ((K_ky h9))))], [.ref pl])) (fun _ => rfl) ?_
        refine C_gr rfl hs hp.1.1.1 (by decide) (Nat.le_of_ble_eq_true rfl) rfl hp.1.1.2.2.2.2.1 ?_
        refine Z_go (f2 := (87, [(4, .int (Zi (L_at h9 0))), (3, .int (Zi (L_at u (u.length - 1)))), (0, .ref pl), (1, .int (Zi ((K_ky u)))), (2, .int (Zi ((K_ky h9))))], [.ref pl, .ref (P.2.1 0)])) (fun _ => rfl) ?_
        refine C_gr rfl hs hp.1.1.1 (by decide) (Nat.le_of_ble_eq_true rfl) rfl hp.1.1.2.2.2.2.2.2.1 ?_
        refine C_callV (As := [.ref (P.1 0)]) (rest := []) rfl (by decide) rfl (by decide) rfl rfl (by decide +kernel) (Nat.le_of_ble_eq_true rfl) hs (hp.fK (.inl (by omega))) (o_offerR' _ hp (f := 0) (.inl (by omega)) (r := 0) (.inl (by omega)) (xf := xf) (xs := (L_ins (65536 * (L_at u (u.length - 1)) + 256 * (L_at h9 0) + (L_at h9 1)) J0)) ef (by simp only [g_sr, g_sf, g_st, g_se, g_su]; repeat (first | rw [g_up_s] | rw [g_up_o (by omega)])) hs.1 sJ hm B0 B1 (by omega)) (fun x h v9 n9 hs q => ?_)
        obtain ⟨rfl, ω9, hp, cq⟩ := q
        have cs := cs.tr cq
        have eF : (L_ins (65536 * (L_at u (u.length - 1)) + 256 * (L_at h9 0) + (L_at h9 1)) J0) = L_gr (u ++ h9) := by
          rw [L_gr_cr hu hh]
          rw [eJ]
          first | (rw [if_pos ⟨by omega, by omega⟩, if_pos (by omega)]; done) | (rw [if_pos ⟨by omega, by omega⟩, if_neg (by omega)]; done) | (rw [if_neg (by omega), if_pos ⟨by omega, by omega⟩]; done) | (rw [if_neg (by omega), if_neg (by omega)]; done)
        rw [eF] at hp
        show B_R _ _ (93, [(4, .int (Zi (L_at h9 0))), (3, .int (Zi (L_at u (u.length - 1)))), (0, .ref pl), (1, .int (Zi ((K_ky u)))), (2, .int (Zi ((K_ky h9))))], []) _ _ _
        refine Z_ret rfl rfl ⟨_, hs, ?_⟩
        try dsimp only
        exact ⟨rfl, ω9, hp, cs⟩
  · refine Z_go (f2 := (29, [(4, .int (Zi (L_at h9 0))), (3, .int (Zi (L_at u (u.length - 1)))), (0, .ref pl), (1, .int (Zi ((K_ky u)))), (2, .int (Zi ((K_ky h9))))], [.int (Zi (L_at h9 0))])) (fun _ => rfl) ?_
    refine Z_go (f2 := (30, [(4, .int (Zi (L_at h9 0))), (3, .int (Zi (L_at u (u.length - 1)))), (0, .ref pl), (1, .int (Zi ((K_ky u)))), (2, .int (Zi ((K_ky h9))))], [.int (Zi (-1)), .int (Zi (L_at h9 0))])) (fun _ => rfl) ?_
    refine Z_ceq rfl rfl (by first | exact hs.zF _ _ | exact Zor_r _ _ | exact hs.zA _ _ | assumption | exact zA _ _ | exact zS _ | exact Zr_not (hs.zA _ _) | exact hs.1.1 _ _ | exact ⟨by omega, by omega⟩) (by first | exact hs.zF _ _ | exact Zor_r _ _ | exact hs.zA _ _ | assumption | exact zA _ _ | exact zS _ | exact Zr_not (hs.zA _ _) | exact hs.1.1 _ _ | exact ⟨by omega, by omega⟩) (fun y4 => ?_) (fun y4 => ?_)
    · refine Z_go (f2 := (52, [(4, .int (Zi (L_at h9 0))), (3, .int (Zi (L_at u (u.length - 1)))), (0, .ref pl), (1, .int (Zi ((K_ky u)))), (2, .int (Zi ((K_ky h9))))], [.int (Zi (L_at u (u.length - 1)))])) (fun _ => rfl) ?_
      refine Z_go (f2 := (53, [(4, .int (Zi (L_at h9 0))), (3, .int (Zi (L_at u (u.length - 1)))), (0, .ref pl), (1, .int (Zi ((K_ky u)))), (2, .int (Zi ((K_ky h9))))], [.int (Zi (-1)), .int (Zi (L_at u (u.length - 1)))])) (fun _ => rfl) ?_
      refine Z_ceq rfl rfl (by first | exact hs.zF _ _ | exact Zor_r _ _ | exact hs.zA _ _ | assumption | exact zA _ _ | exact zS _ | exact Zr_not (hs.zA _ _) | exact hs.1.1 _ _ | exact ⟨by omega, by omega⟩) (by first | exact hs.zF _ _ | exact Zor_r _ _ | exact hs.zA _ _ | assumption | exact zA _ _ | exact zS _ | exact Zr_not (hs.zA _ _) | exact hs.1.1 _ _ | exact ⟨by omega, by omega⟩) (fun y5 => ?_) (fun y5 => ?_)
      · refine Z_go (f2 := (83, [(4, .int (Zi (L_at h9 0))), (3, .int (Zi (L_at u (u.length - 1)))), (0, .ref pl), (1, .int (Zi ((K_ky u)))), (2, .int (Zi ((K_ky h9))))], [.ref pl])) (fun _ => rfl) ?_
        refine C_gr rfl hs hp.1.1.1 (by decide) (Nat.le_of_ble_eq_true rfl) rfl hp.1.1.2.2.2.2.1 ?_
        refine Z_go (f2 := (87, [(4, .int (Zi (L_at h9 0))), (3, .int (Zi (L_at u (u.length - 1)))), (0, .ref pl), (1, .int (Zi ((K_ky u)))), (2, .int (Zi ((K_ky h9))))], [.ref pl, .ref (P.2.1 0)])) (fun _ => rfl) ?_
        refine C_gr rfl hs hp.1.1.1 (by decide) (Nat.le_of_ble_eq_true rfl) rfl hp.1.1.2.2.2.2.2.2.1 ?_
        refine C_callV (As := [.ref (P.1 0)]) (rest := []) rfl (by decide) rfl (by decide) rfl rfl (by decide +kernel) (Nat.le_of_ble_eq_true rfl) hs (hp.fK (.inl (by omega))) (o_offerR' _ hp (f := 0) (.inl (by omega)) (r := 0) (.inl (by omega)) (xf := xf) (xs := J0) ef (by simp only [g_sr, g_sf, g_st, g_se, g_su]; repeat (first | rw [g_up_s] | rw [g_up_o (by omega)])) hs.1 sJ hm B0 B1 (by omega)) (fun x h v9 n9 hs q => ?_)
        obtain ⟨rfl, ω9, hp, cq⟩ := q
        have cs := cs.tr cq
        have eF : J0 = L_gr (u ++ h9) := by
          rw [L_gr_cr hu hh]
          rw [eJ]
          first | (rw [if_pos ⟨by omega, by omega⟩, if_pos (by omega)]; done) | (rw [if_pos ⟨by omega, by omega⟩, if_neg (by omega)]; done) | (rw [if_neg (by omega), if_pos ⟨by omega, by omega⟩]; done) | (rw [if_neg (by omega), if_neg (by omega)]; done)
        rw [eF] at hp
        show B_R _ _ (93, [(4, .int (Zi (L_at h9 0))), (3, .int (Zi (L_at u (u.length - 1)))), (0, .ref pl), (1, .int (Zi ((K_ky u)))), (2, .int (Zi ((K_ky h9))))], []) _ _ _
        refine Z_ret rfl rfl ⟨_, hs, ?_⟩
        try dsimp only
        exact ⟨rfl, ω9, hp, cs⟩
      · refine Z_go (f2 := (57, [(4, .int (Zi (L_at h9 0))), (3, .int (Zi (L_at u (u.length - 1)))), (0, .ref pl), (1, .int (Zi ((K_ky u)))), (2, .int (Zi ((K_ky h9))))], [.int (Zi ((K_ky h9)))])) (fun _ => rfl) ?_
        refine Z_go (f2 := (60, [(4, .int (Zi (L_at h9 0))), (3, .int (Zi (L_at u (u.length - 1)))), (0, .ref pl), (1, .int (Zi ((K_ky u)))), (2, .int (Zi ((K_ky h9))))], [.int (Zi 257), .int (Zi ((K_ky h9)))])) (fun _ => rfl) ?_
        refine Z_irem rfl (by omega) (by omega) (by omega) (by omega) ?_
        refine Z_ieq rfl rfl (by first | exact hs.zF _ _ | exact Zor_r _ _ | exact hs.zA _ _ | assumption | exact zA _ _ | exact zS _ | exact Zr_not (hs.zA _ _) | exact hs.1.1 _ _ | exact ⟨by omega, by omega⟩) (fun y6 => ?_) (fun y6 => ?_)
        · refine Z_go (f2 := (83, [(4, .int (Zi (L_at h9 0))), (3, .int (Zi (L_at u (u.length - 1)))), (0, .ref pl), (1, .int (Zi ((K_ky u)))), (2, .int (Zi ((K_ky h9))))], [.ref pl])) (fun _ => rfl) ?_
          refine C_gr rfl hs hp.1.1.1 (by decide) (Nat.le_of_ble_eq_true rfl) rfl hp.1.1.2.2.2.2.1 ?_
          refine Z_go (f2 := (87, [(4, .int (Zi (L_at h9 0))), (3, .int (Zi (L_at u (u.length - 1)))), (0, .ref pl), (1, .int (Zi ((K_ky u)))), (2, .int (Zi ((K_ky h9))))], [.ref pl, .ref (P.2.1 0)])) (fun _ => rfl) ?_
          refine C_gr rfl hs hp.1.1.1 (by decide) (Nat.le_of_ble_eq_true rfl) rfl hp.1.1.2.2.2.2.2.2.1 ?_
          refine C_callV (As := [.ref (P.1 0)]) (rest := []) rfl (by decide) rfl (by decide) rfl rfl (by decide +kernel) (Nat.le_of_ble_eq_true rfl) hs (hp.fK (.inl (by omega))) (o_offerR' _ hp (f := 0) (.inl (by omega)) (r := 0) (.inl (by omega)) (xf := xf) (xs := J0) ef (by simp only [g_sr, g_sf, g_st, g_se, g_su]; repeat (first | rw [g_up_s] | rw [g_up_o (by omega)])) hs.1 sJ hm B0 B1 (by omega)) (fun x h v9 n9 hs q => ?_)
          obtain ⟨rfl, ω9, hp, cq⟩ := q
          have cs := cs.tr cq
          have eF : J0 = L_gr (u ++ h9) := by
            rw [L_gr_cr hu hh]
            rw [eJ]
            first | (rw [if_pos ⟨by omega, by omega⟩, if_pos (by omega)]; done) | (rw [if_pos ⟨by omega, by omega⟩, if_neg (by omega)]; done) | (rw [if_neg (by omega), if_pos ⟨by omega, by omega⟩]; done) | (rw [if_neg (by omega), if_neg (by omega)]; done)
          rw [eF] at hp
          show B_R _ _ (93, [(4, .int (Zi (L_at h9 0))), (3, .int (Zi (L_at u (u.length - 1)))), (0, .ref pl), (1, .int (Zi ((K_ky u)))), (2, .int (Zi ((K_ky h9))))], []) _ _ _
          refine Z_ret rfl rfl ⟨_, hs, ?_⟩
          try dsimp only
          exact ⟨rfl, ω9, hp, cs⟩
        · refine Z_go (f2 := (65, [(4, .int (Zi (L_at h9 0))), (3, .int (Zi (L_at u (u.length - 1)))), (0, .ref pl), (1, .int (Zi ((K_ky u)))), (2, .int (Zi ((K_ky h9))))], [.ref pl])) (fun _ => rfl) ?_
          refine C_gr rfl hs hp.1.1.1 (by decide) (Nat.le_of_ble_eq_true rfl) rfl hp.1.1.2.2.2.2.2.2.1 ?_
          refine Z_go (f2 := (69, [(4, .int (Zi (L_at h9 0))), (3, .int (Zi (L_at u (u.length - 1)))), (0, .ref pl), (1, .int (Zi ((K_ky u)))), (2, .int (Zi ((K_ky h9))))], [.int (Zi (L_at u (u.length - 1))), .ref (P.1 0)])) (fun _ => rfl) ?_
          refine Z_go (f2 := (71, [(4, .int (Zi (L_at h9 0))), (3, .int (Zi (L_at u (u.length - 1)))), (0, .ref pl), (1, .int (Zi ((K_ky u)))), (2, .int (Zi ((K_ky h9))))], [.int (Zi (L_at h9 0)), .int (Zi (L_at u (u.length - 1))), .ref (P.1 0)])) (fun _ => rfl) ?_
          refine Z_go (f2 := (72, [(4, .int (Zi (L_at h9 0))), (3, .int (Zi (L_at u (u.length - 1)))), (0, .ref pl), (1, .int (Zi ((K_ky u)))), (2, .int (Zi ((K_ky h9))))], [.int (Zi ((K_ky h9))), .int (Zi (L_at h9 0)), .int (Zi (L_at u (u.length - 1))), .ref (P.1 0)])) (fun _ => rfl) ?_
          refine Z_go (f2 := (73, [(4, .int (Zi (L_at h9 0))), (3, .int (Zi (L_at u (u.length - 1)))), (0, .ref pl), (1, .int (Zi ((K_ky u)))), (2, .int (Zi ((K_ky h9))))], [.int (Zi 1), .int (Zi ((K_ky h9))), .int (Zi (L_at h9 0)), .int (Zi (L_at u (u.length - 1))), .ref (P.1 0)])) (fun _ => rfl) ?_
          refine Z_callQ (vs := [.int (Zi ((K_ky h9))), .int (Zi 1)]) (rest := [.int (Zi (L_at h9 0)), .int (Zi (L_at u (u.length - 1))), .ref (P.1 0)]) rfl (by decide) rfl rfl rfl (Nat.le_of_ble_eq_true rfl) (C_keySign _ (a := K_ky h9) (k := 1) zh ⟨by omega, by omega⟩ kh0 (by omega)) (fun x q => ?_)
          obtain rfl := q
          rw [K_sg1 hh]
          show B_R _ _ (76, [(4, .int (Zi (L_at h9 0))), (3, .int (Zi (L_at u (u.length - 1)))), (0, .ref pl), (1, .int (Zi ((K_ky u)))), (2, .int (Zi ((K_ky h9))))], [.int (Zi (L_at h9 1)), .int (Zi (L_at h9 0)), .int (Zi (L_at u (u.length - 1))), .ref (P.1 0)]) _ _ _
          refine Z_callQ (vs := [.int (Zi (L_at u (u.length - 1))), .int (Zi (L_at h9 0)), .int (Zi (L_at h9 1))]) (rest := [.ref (P.1 0)]) rfl (by decide) rfl rfl rfl (Nat.le_of_ble_eq_true rfl) (C_gramOf _ (a := L_at u (u.length - 1)) (b := L_at h9 0) (c := L_at h9 1) (by have := lu; have := lu0; omega) (by omega) (by omega) (by omega) (by omega) (by omega)) (fun x q => ?_)
          obtain rfl := q
          show B_R _ _ (79, [(4, .int (Zi (L_at h9 0))), (3, .int (Zi (L_at u (u.length - 1)))), (0, .ref pl), (1, .int (Zi ((K_ky u)))), (2, .int (Zi ((K_ky h9))))], [.int (Zi (65536 * (L_at u (u.length - 1)) + 256 * (L_at h9 0) + (L_at h9 1))), .ref (P.1 0)]) _ _ _
          refine C_callV (As := [.int (Zi (65536 * (L_at u (u.length - 1)) + 256 * (L_at h9 0) + (L_at h9 1)))]) (rest := []) rfl (by decide) rfl (by decide) rfl rfl (by decide +kernel) (Nat.le_of_ble_eq_true rfl) hs (hp.rK (.inl (by omega))) (o_insert' _ hp (r := 0) (.inl (by omega)) (xs := J0) (by simp only [g_sr, g_sf, g_st, g_se, g_su]; repeat (first | rw [g_up_s] | rw [g_up_o (by omega)])) hs.1 (v := 65536 * (L_at u (u.length - 1)) + 256 * (L_at h9 0) + (L_at h9 1)) sJ ⟨by omega, by omega⟩ (by omega) B1) (fun x h v82 n82 hs q => ?_)
          obtain ⟨rfl, ω1, hp, cq⟩ := q
          have cs := cs.tr cq
          rw [g_sr_i] at hp
          have sJ : L_srt (L_ins (65536 * (L_at u (u.length - 1)) + 256 * (L_at h9 0) + (L_at h9 1)) J0) := L_ins_srt sJ
          have lJ : (L_ins (65536 * (L_at u (u.length - 1)) + 256 * (L_at h9 0) + (L_at h9 1)) J0).length ≤ 1 := Nat.le_trans (L_ins_lq _ _) (by omega)
          show B_R _ _ (82, [(4, .int (Zi (L_at h9 0))), (3, .int (Zi (L_at u (u.length - 1)))), (0, .ref pl), (1, .int (Zi ((K_ky u)))), (2, .int (Zi ((K_ky h9))))], []) _ _ _
          refine Z_go (f2 := (83, [(4, .int (Zi (L_at h9 0))), (3, .int (Zi (L_at u (u.length - 1)))), (0, .ref pl), (1, .int (Zi ((K_ky u)))), (2, .int (Zi ((K_ky h9))))], [.ref pl])) (fun _ => rfl) ?_
          refine C_gr rfl hs hp.1.1.1 (by decide) (Nat.le_of_ble_eq_true rfl) rfl hp.1.1.2.2.2.2.1 ?_
          refine Z_go (f2 := (87, [(4, .int (Zi (L_at h9 0))), (3, .int (Zi (L_at u (u.length - 1)))), (0, .ref pl), (1, .int (Zi ((K_ky u)))), (2, .int (Zi ((K_ky h9))))], [.ref pl, .ref (P.2.1 0)])) (fun _ => rfl) ?_
          refine C_gr rfl hs hp.1.1.1 (by decide) (Nat.le_of_ble_eq_true rfl) rfl hp.1.1.2.2.2.2.2.2.1 ?_
          refine C_callV (As := [.ref (P.1 0)]) (rest := []) rfl (by decide) rfl (by decide) rfl rfl (by decide +kernel) (Nat.le_of_ble_eq_true rfl) hs (hp.fK (.inl (by omega))) (o_offerR' _ hp (f := 0) (.inl (by omega)) (r := 0) (.inl (by omega)) (xf := xf) (xs := (L_ins (65536 * (L_at u (u.length - 1)) + 256 * (L_at h9 0) + (L_at h9 1)) J0)) ef (by simp only [g_sr, g_sf, g_st, g_se, g_su]; repeat (first | rw [g_up_s] | rw [g_up_o (by omega)])) hs.1 sJ hm B0 B1 (by omega)) (fun x h v9 n9 hs q => ?_)
          obtain ⟨rfl, ω9, hp, cq⟩ := q
          have cs := cs.tr cq
          have eF : (L_ins (65536 * (L_at u (u.length - 1)) + 256 * (L_at h9 0) + (L_at h9 1)) J0) = L_gr (u ++ h9) := by
            rw [L_gr_cr hu hh]
            rw [eJ]
            first | (rw [if_pos ⟨by omega, by omega⟩, if_pos (by omega)]; done) | (rw [if_pos ⟨by omega, by omega⟩, if_neg (by omega)]; done) | (rw [if_neg (by omega), if_pos ⟨by omega, by omega⟩]; done) | (rw [if_neg (by omega), if_neg (by omega)]; done)
          rw [eF] at hp
          show B_R _ _ (93, [(4, .int (Zi (L_at h9 0))), (3, .int (Zi (L_at u (u.length - 1)))), (0, .ref pl), (1, .int (Zi ((K_ky u)))), (2, .int (Zi ((K_ky h9))))], []) _ _ _
          refine Z_ret rfl rfl ⟨_, hs, ?_⟩
          try dsimp only
          exact ⟨rfl, ω9, hp, cs⟩
    · refine Z_go (f2 := (34, [(4, .int (Zi (L_at h9 0))), (3, .int (Zi (L_at u (u.length - 1)))), (0, .ref pl), (1, .int (Zi ((K_ky u)))), (2, .int (Zi ((K_ky h9))))], [.ref pl])) (fun _ => rfl) ?_
      refine C_gr rfl hs hp.1.1.1 (by decide) (Nat.le_of_ble_eq_true rfl) rfl hp.1.1.2.2.2.2.2.2.1 ?_
      refine Z_go (f2 := (38, [(4, .int (Zi (L_at h9 0))), (3, .int (Zi (L_at u (u.length - 1)))), (0, .ref pl), (1, .int (Zi ((K_ky u)))), (2, .int (Zi ((K_ky h9))))], [.int (Zi ((K_ky u))), .ref (P.1 0)])) (fun _ => rfl) ?_
      refine Z_go (f2 := (39, [(4, .int (Zi (L_at h9 0))), (3, .int (Zi (L_at u (u.length - 1)))), (0, .ref pl), (1, .int (Zi ((K_ky u)))), (2, .int (Zi ((K_ky h9))))], [.int (Zi 0), .int (Zi ((K_ky u))), .ref (P.1 0)])) (fun _ => rfl) ?_
      refine Z_callQ (vs := [.int (Zi ((K_ky u))), .int (Zi 0)]) (rest := [.ref (P.1 0)]) rfl (by decide) rfl rfl rfl (Nat.le_of_ble_eq_true rfl) (C_keySign _ (a := K_ky u) (k := 0) zu ⟨by omega, by omega⟩ ku0 (by omega)) (fun x q => ?_)
      obtain rfl := q
      rw [K_sg0 hu]
      show B_R _ _ (42, [(4, .int (Zi (L_at h9 0))), (3, .int (Zi (L_at u (u.length - 1)))), (0, .ref pl), (1, .int (Zi ((K_ky u)))), (2, .int (Zi ((K_ky h9))))], [.int (Zi (L_at u 0)), .ref (P.1 0)]) _ _ _
      refine Z_go (f2 := (43, [(4, .int (Zi (L_at h9 0))), (3, .int (Zi (L_at u (u.length - 1)))), (0, .ref pl), (1, .int (Zi ((K_ky u)))), (2, .int (Zi ((K_ky h9))))], [.int (Zi (L_at u (u.length - 1))), .int (Zi (L_at u 0)), .ref (P.1 0)])) (fun _ => rfl) ?_
      refine Z_go (f2 := (45, [(4, .int (Zi (L_at h9 0))), (3, .int (Zi (L_at u (u.length - 1)))), (0, .ref pl), (1, .int (Zi ((K_ky u)))), (2, .int (Zi ((K_ky h9))))], [.int (Zi (L_at h9 0)), .int (Zi (L_at u (u.length - 1))), .int (Zi (L_at u 0)), .ref (P.1 0)])) (fun _ => rfl) ?_
      refine Z_callQ (vs := [.int (Zi (L_at u 0)), .int (Zi (L_at u (u.length - 1))), .int (Zi (L_at h9 0))]) (rest := [.ref (P.1 0)]) rfl (by decide) rfl rfl rfl (Nat.le_of_ble_eq_true rfl) (C_gramOf _ (a := L_at u 0) (b := L_at u (u.length - 1)) (c := L_at h9 0) (by have := lu; have := lu0; omega) (by omega) (by omega) (by omega) (by omega) (by omega)) (fun x q => ?_)
      obtain rfl := q
      show B_R _ _ (48, [(4, .int (Zi (L_at h9 0))), (3, .int (Zi (L_at u (u.length - 1)))), (0, .ref pl), (1, .int (Zi ((K_ky u)))), (2, .int (Zi ((K_ky h9))))], [.int (Zi (65536 * (L_at u 0) + 256 * (L_at u (u.length - 1)) + (L_at h9 0))), .ref (P.1 0)]) _ _ _
      refine C_callV (As := [.int (Zi (65536 * (L_at u 0) + 256 * (L_at u (u.length - 1)) + (L_at h9 0)))]) (rest := []) rfl (by decide) rfl (by decide) rfl rfl (by decide +kernel) (Nat.le_of_ble_eq_true rfl) hs (hp.rK (.inl (by omega))) (o_insert' _ hp (r := 0) (.inl (by omega)) (xs := J0) (by simp only [g_sr, g_sf, g_st, g_se, g_su]; repeat (first | rw [g_up_s] | rw [g_up_o (by omega)])) hs.1 (v := 65536 * (L_at u 0) + 256 * (L_at u (u.length - 1)) + (L_at h9 0)) sJ ⟨by omega, by omega⟩ (by omega) B1) (fun x h v83 n83 hs q => ?_)
      obtain ⟨rfl, ω1, hp, cq⟩ := q
      have cs := cs.tr cq
      rw [g_sr_i] at hp
      have sJ : L_srt (L_ins (65536 * (L_at u 0) + 256 * (L_at u (u.length - 1)) + (L_at h9 0)) J0) := L_ins_srt sJ
      have lJ : (L_ins (65536 * (L_at u 0) + 256 * (L_at u (u.length - 1)) + (L_at h9 0)) J0).length ≤ 1 := Nat.le_trans (L_ins_lq _ _) (by omega)
      show B_R _ _ (51, [(4, .int (Zi (L_at h9 0))), (3, .int (Zi (L_at u (u.length - 1)))), (0, .ref pl), (1, .int (Zi ((K_ky u)))), (2, .int (Zi ((K_ky h9))))], []) _ _ _
      refine Z_go (f2 := (52, [(4, .int (Zi (L_at h9 0))), (3, .int (Zi (L_at u (u.length - 1)))), (0, .ref pl), (1, .int (Zi ((K_ky u)))), (2, .int (Zi ((K_ky h9))))], [.int (Zi (L_at u (u.length - 1)))])) (fun _ => rfl) ?_
      refine Z_go (f2 := (53, [(4, .int (Zi (L_at h9 0))), (3, .int (Zi (L_at u (u.length - 1)))), (0, .ref pl), (1, .int (Zi ((K_ky u)))), (2, .int (Zi ((K_ky h9))))], [.int (Zi (-1)), .int (Zi (L_at u (u.length - 1)))])) (fun _ => rfl) ?_
      refine Z_ceq rfl rfl (by first | exact hs.zF _ _ | exact Zor_r _ _ | exact hs.zA _ _ | assumption | exact zA _ _ | exact zS _ | exact Zr_not (hs.zA _ _) | exact hs.1.1 _ _ | exact ⟨by omega, by omega⟩) (by first | exact hs.zF _ _ | exact Zor_r _ _ | exact hs.zA _ _ | assumption | exact zA _ _ | exact zS _ | exact Zr_not (hs.zA _ _) | exact hs.1.1 _ _ | exact ⟨by omega, by omega⟩) (fun y7 => ?_) (fun y7 => ?_)
      · refine Z_go (f2 := (83, [(4, .int (Zi (L_at h9 0))), (3, .int (Zi (L_at u (u.length - 1)))), (0, .ref pl), (1, .int (Zi ((K_ky u)))), (2, .int (Zi ((K_ky h9))))], [.ref pl])) (fun _ => rfl) ?_
        refine C_gr rfl hs hp.1.1.1 (by decide) (Nat.le_of_ble_eq_true rfl) rfl hp.1.1.2.2.2.2.1 ?_
        refine Z_go (f2 := (87, [(4, .int (Zi (L_at h9 0))), (3, .int (Zi (L_at u (u.length - 1)))), (0, .ref pl), (1, .int (Zi ((K_ky u)))), (2, .int (Zi ((K_ky h9))))], [.ref pl, .ref (P.2.1 0)])) (fun _ => rfl) ?_
        refine C_gr rfl hs hp.1.1.1 (by decide) (Nat.le_of_ble_eq_true rfl) rfl hp.1.1.2.2.2.2.2.2.1 ?_
        refine C_callV (As := [.ref (P.1 0)]) (rest := []) rfl (by decide) rfl (by decide) rfl rfl (by decide +kernel) (Nat.le_of_ble_eq_true rfl) hs (hp.fK (.inl (by omega))) (o_offerR' _ hp (f := 0) (.inl (by omega)) (r := 0) (.inl (by omega)) (xf := xf) (xs := (L_ins (65536 * (L_at u 0) + 256 * (L_at u (u.length - 1)) + (L_at h9 0)) J0)) ef (by simp only [g_sr, g_sf, g_st, g_se, g_su]; repeat (first | rw [g_up_s] | rw [g_up_o (by omega)])) hs.1 sJ hm B0 B1 (by omega)) (fun x h v9 n9 hs q => ?_)
        obtain ⟨rfl, ω9, hp, cq⟩ := q
        have cs := cs.tr cq
        have eF : (L_ins (65536 * (L_at u 0) + 256 * (L_at u (u.length - 1)) + (L_at h9 0)) J0) = L_gr (u ++ h9) := by
          rw [L_gr_cr hu hh]
          rw [eJ]
          first | (rw [if_pos ⟨by omega, by omega⟩, if_pos (by omega)]; done) | (rw [if_pos ⟨by omega, by omega⟩, if_neg (by omega)]; done) | (rw [if_neg (by omega), if_pos ⟨by omega, by omega⟩]; done) | (rw [if_neg (by omega), if_neg (by omega)]; done)
        rw [eF] at hp
        show B_R _ _ (93, [(4, .int (Zi (L_at h9 0))), (3, .int (Zi (L_at u (u.length - 1)))), (0, .ref pl), (1, .int (Zi ((K_ky u)))), (2, .int (Zi ((K_ky h9))))], []) _ _ _
        refine Z_ret rfl rfl ⟨_, hs, ?_⟩
        try dsimp only
        exact ⟨rfl, ω9, hp, cs⟩
      · refine Z_go (f2 := (57, [(4, .int (Zi (L_at h9 0))), (3, .int (Zi (L_at u (u.length - 1)))), (0, .ref pl), (1, .int (Zi ((K_ky u)))), (2, .int (Zi ((K_ky h9))))], [.int (Zi ((K_ky h9)))])) (fun _ => rfl) ?_
        refine Z_go (f2 := (60, [(4, .int (Zi (L_at h9 0))), (3, .int (Zi (L_at u (u.length - 1)))), (0, .ref pl), (1, .int (Zi ((K_ky u)))), (2, .int (Zi ((K_ky h9))))], [.int (Zi 257), .int (Zi ((K_ky h9)))])) (fun _ => rfl) ?_
        refine Z_irem rfl (by omega) (by omega) (by omega) (by omega) ?_
        refine Z_ieq rfl rfl (by first | exact hs.zF _ _ | exact Zor_r _ _ | exact hs.zA _ _ | assumption | exact zA _ _ | exact zS _ | exact Zr_not (hs.zA _ _) | exact hs.1.1 _ _ | exact ⟨by omega, by omega⟩) (fun y8 => ?_) (fun y8 => ?_)
        · refine Z_go (f2 := (83, [(4, .int (Zi (L_at h9 0))), (3, .int (Zi (L_at u (u.length - 1)))), (0, .ref pl), (1, .int (Zi ((K_ky u)))), (2, .int (Zi ((K_ky h9))))], [.ref pl])) (fun _ => rfl) ?_
          refine C_gr rfl hs hp.1.1.1 (by decide) (Nat.le_of_ble_eq_true rfl) rfl hp.1.1.2.2.2.2.1 ?_
          refine Z_go (f2 := (87, [(4, .int (Zi (L_at h9 0))), (3, .int (Zi (L_at u (u.length - 1)))), (0, .ref pl), (1, .int (Zi ((K_ky u)))), (2, .int (Zi ((K_ky h9))))], [.ref pl, .ref (P.2.1 0)])) (fun _ => rfl) ?_
          refine C_gr rfl hs hp.1.1.1 (by decide) (Nat.le_of_ble_eq_true rfl) rfl hp.1.1.2.2.2.2.2.2.1 ?_
          refine C_callV (As := [.ref (P.1 0)]) (rest := []) rfl (by decide) rfl (by decide) rfl rfl (by decide +kernel) (Nat.le_of_ble_eq_true rfl) hs (hp.fK (.inl (by omega))) (o_offerR' _ hp (f := 0) (.inl (by omega)) (r := 0) (.inl (by omega)) (xf := xf) (xs := (L_ins (65536 * (L_at u 0) + 256 * (L_at u (u.length - 1)) + (L_at h9 0)) J0)) ef (by simp only [g_sr, g_sf, g_st, g_se, g_su]; repeat (first | rw [g_up_s] | rw [g_up_o (by omega)])) hs.1 sJ hm B0 B1 (by omega)) (fun x h v9 n9 hs q => ?_)
          obtain ⟨rfl, ω9, hp, cq⟩ := q
          have cs := cs.tr cq
          have eF : (L_ins (65536 * (L_at u 0) + 256 * (L_at u (u.length - 1)) + (L_at h9 0)) J0) = L_gr (u ++ h9) := by
            rw [L_gr_cr hu hh]
            rw [eJ]
            first | (rw [if_pos ⟨by omega, by omega⟩, if_pos (by omega)]; done) | (rw [if_pos ⟨by omega, by omega⟩, if_neg (by omega)]; done) | (rw [if_neg (by omega), if_pos ⟨by omega, by omega⟩]; done) | (rw [if_neg (by omega), if_neg (by omega)]; done)
          rw [eF] at hp
          show B_R _ _ (93, [(4, .int (Zi (L_at h9 0))), (3, .int (Zi (L_at u (u.length - 1)))), (0, .ref pl), (1, .int (Zi ((K_ky u)))), (2, .int (Zi ((K_ky h9))))], []) _ _ _
          refine Z_ret rfl rfl ⟨_, hs, ?_⟩
          try dsimp only
          exact ⟨rfl, ω9, hp, cs⟩
        · refine Z_go (f2 := (65, [(4, .int (Zi (L_at h9 0))), (3, .int (Zi (L_at u (u.length - 1)))), (0, .ref pl), (1, .int (Zi ((K_ky u)))), (2, .int (Zi ((K_ky h9))))], [.ref pl])) (fun _ => rfl) ?_
          refine C_gr rfl hs hp.1.1.1 (by decide) (Nat.le_of_ble_eq_true rfl) rfl hp.1.1.2.2.2.2.2.2.1 ?_
          refine Z_go (f2 := (69, [(4, .int (Zi (L_at h9 0))), (3, .int (Zi (L_at u (u.length - 1)))), (0, .ref pl), (1, .int (Zi ((K_ky u)))), (2, .int (Zi ((K_ky h9))))], [.int (Zi (L_at u (u.length - 1))), .ref (P.1 0)])) (fun _ => rfl) ?_
          refine Z_go (f2 := (71, [(4, .int (Zi (L_at h9 0))), (3, .int (Zi (L_at u (u.length - 1)))), (0, .ref pl), (1, .int (Zi ((K_ky u)))), (2, .int (Zi ((K_ky h9))))], [.int (Zi (L_at h9 0)), .int (Zi (L_at u (u.length - 1))), .ref (P.1 0)])) (fun _ => rfl) ?_
          refine Z_go (f2 := (72, [(4, .int (Zi (L_at h9 0))), (3, .int (Zi (L_at u (u.length - 1)))), (0, .ref pl), (1, .int (Zi ((K_ky u)))), (2, .int (Zi ((K_ky h9))))], [.int (Zi ((K_ky h9))), .int (Zi (L_at h9 0)), .int (Zi (L_at u (u.length - 1))), .ref (P.1 0)])) (fun _ => rfl) ?_
          refine Z_go (f2 := (73, [(4, .int (Zi (L_at h9 0))), (3, .int (Zi (L_at u (u.length - 1)))), (0, .ref pl), (1, .int (Zi ((K_ky u)))), (2, .int (Zi ((K_ky h9))))], [.int (Zi 1), .int (Zi ((K_ky h9))), .int (Zi (L_at h9 0)), .int (Zi (L_at u (u.length - 1))), .ref (P.1 0)])) (fun _ => rfl) ?_
          refine Z_callQ (vs := [.int (Zi ((K_ky h9))), .int (Zi 1)]) (rest := [.int (Zi (L_at h9 0)), .int (Zi (L_at u (u.length - 1))), .ref (P.1 0)]) rfl (by decide) rfl rfl rfl (Nat.le_of_ble_eq_true rfl) (C_keySign _ (a := K_ky h9) (k := 1) zh ⟨by omega, by omega⟩ kh0 (by omega)) (fun x q => ?_)
          obtain rfl := q
          rw [K_sg1 hh]
          show B_R _ _ (76, [(4, .int (Zi (L_at h9 0))), (3, .int (Zi (L_at u (u.length - 1)))), (0, .ref pl), (1, .int (Zi ((K_ky u)))), (2, .int (Zi ((K_ky h9))))], [.int (Zi (L_at h9 1)), .int (Zi (L_at h9 0)), .int (Zi (L_at u (u.length - 1))), .ref (P.1 0)]) _ _ _
          refine Z_callQ (vs := [.int (Zi (L_at u (u.length - 1))), .int (Zi (L_at h9 0)), .int (Zi (L_at h9 1))]) (rest := [.ref (P.1 0)]) rfl (by decide) rfl rfl rfl (Nat.le_of_ble_eq_true rfl) (C_gramOf _ (a := L_at u (u.length - 1)) (b := L_at h9 0) (c := L_at h9 1) (by have := lu; have := lu0; omega) (by omega) (by omega) (by omega) (by omega) (by omega)) (fun x q => ?_)
          obtain rfl := q
          show B_R _ _ (79, [(4, .int (Zi (L_at h9 0))), (3, .int (Zi (L_at u (u.length - 1)))), (0, .ref pl), (1, .int (Zi ((K_ky u)))), (2, .int (Zi ((K_ky h9))))], [.int (Zi (65536 * (L_at u (u.length - 1)) + 256 * (L_at h9 0) + (L_at h9 1))), .ref (P.1 0)]) _ _ _
          refine C_callV (As := [.int (Zi (65536 * (L_at u (u.length - 1)) + 256 * (L_at h9 0) + (L_at h9 1)))]) (rest := []) rfl (by decide) rfl (by decide) rfl rfl (by decide +kernel) (Nat.le_of_ble_eq_true rfl) hs (hp.rK (.inl (by omega))) (o_insert' _ hp (r := 0) (.inl (by omega)) (xs := (L_ins (65536 * (L_at u 0) + 256 * (L_at u (u.length - 1)) + (L_at h9 0)) J0)) (by simp only [g_sr, g_sf, g_st, g_se, g_su]; repeat (first | rw [g_up_s] | rw [g_up_o (by omega)])) hs.1 (v := 65536 * (L_at u (u.length - 1)) + 256 * (L_at h9 0) + (L_at h9 1)) sJ ⟨by omega, by omega⟩ (by omega) B1) (fun x h v84 n84 hs q => ?_)
          obtain ⟨rfl, ω1, hp, cq⟩ := q
          have cs := cs.tr cq
          rw [g_sr_i] at hp
          have sJ : L_srt (L_ins (65536 * (L_at u (u.length - 1)) + 256 * (L_at h9 0) + (L_at h9 1)) (L_ins (65536 * (L_at u 0) + 256 * (L_at u (u.length - 1)) + (L_at h9 0)) J0)) := L_ins_srt sJ
          have lJ : (L_ins (65536 * (L_at u (u.length - 1)) + 256 * (L_at h9 0) + (L_at h9 1)) (L_ins (65536 * (L_at u 0) + 256 * (L_at u (u.length - 1)) + (L_at h9 0)) J0)).length ≤ 2 := Nat.le_trans (L_ins_lq _ _) (by omega)
          show B_R _ _ (82, [(4, .int (Zi (L_at h9 0))), (3, .int (Zi (L_at u (u.length - 1)))), (0, .ref pl), (1, .int (Zi ((K_ky u)))), (2, .int (Zi ((K_ky h9))))], []) _ _ _
          refine Z_go (f2 := (83, [(4, .int (Zi (L_at h9 0))), (3, .int (Zi (L_at u (u.length - 1)))), (0, .ref pl), (1, .int (Zi ((K_ky u)))), (2, .int (Zi ((K_ky h9))))], [.ref pl])) (fun _ => rfl) ?_
          refine C_gr rfl hs hp.1.1.1 (by decide) (Nat.le_of_ble_eq_true rfl) rfl hp.1.1.2.2.2.2.1 ?_
          refine Z_go (f2 := (87, [(4, .int (Zi (L_at h9 0))), (3, .int (Zi (L_at u (u.length - 1)))), (0, .ref pl), (1, .int (Zi ((K_ky u)))), (2, .int (Zi ((K_ky h9))))], [.ref pl, .ref (P.2.1 0)])) (fun _ => rfl) ?_
          refine C_gr rfl hs hp.1.1.1 (by decide) (Nat.le_of_ble_eq_true rfl) rfl hp.1.1.2.2.2.2.2.2.1 ?_
          refine C_callV (As := [.ref (P.1 0)]) (rest := []) rfl (by decide) rfl (by decide) rfl rfl (by decide +kernel) (Nat.le_of_ble_eq_true rfl) hs (hp.fK (.inl (by omega))) (o_offerR' _ hp (f := 0) (.inl (by omega)) (r := 0) (.inl (by omega)) (xf := xf) (xs := (L_ins (65536 * (L_at u (u.length - 1)) + 256 * (L_at h9 0) + (L_at h9 1)) (L_ins (65536 * (L_at u 0) + 256 * (L_at u (u.length - 1)) + (L_at h9 0)) J0))) ef (by simp only [g_sr, g_sf, g_st, g_se, g_su]; repeat (first | rw [g_up_s] | rw [g_up_o (by omega)])) hs.1 sJ hm B0 B1 (by omega)) (fun x h v9 n9 hs q => ?_)
          obtain ⟨rfl, ω9, hp, cq⟩ := q
          have cs := cs.tr cq
          have eF : (L_ins (65536 * (L_at u (u.length - 1)) + 256 * (L_at h9 0) + (L_at h9 1)) (L_ins (65536 * (L_at u 0) + 256 * (L_at u (u.length - 1)) + (L_at h9 0)) J0)) = L_gr (u ++ h9) := by
            rw [L_gr_cr hu hh]
            rw [eJ]
            first | (rw [if_pos ⟨by omega, by omega⟩, if_pos (by omega)]; done) | (rw [if_pos ⟨by omega, by omega⟩, if_neg (by omega)]; done) | (rw [if_neg (by omega), if_pos ⟨by omega, by omega⟩]; done) | (rw [if_neg (by omega), if_neg (by omega)]; done)
          rw [eF] at hp
          show B_R _ _ (93, [(4, .int (Zi (L_at h9 0))), (3, .int (Zi (L_at u (u.length - 1)))), (0, .ref pl), (1, .int (Zi ((K_ky u)))), (2, .int (Zi ((K_ky h9))))], []) _ _ _
          refine Z_ret rfl rfl ⟨_, hs, ?_⟩
          try dsimp only
          exact ⟨rfl, ω9, hp, cs⟩
theorem C_least (d : Nat) {s : C_S} {pp : List Nat} {pl tr B : Nat} {G : G_t} {P : G_p} {ω : Nat → Nat} {f : Nat} {S : P_X} {xf : List (List Int)} (hp : D_Pl s pp pl tr B G P ω) (B0 : 1280 ≤ B) (B1 : B ≤ 20000) (hf : Pl_hf P f) (f0 : f ≠ 0) (ef : G.2.1 0 = xf) (hF : F_fam S xf) (hm : ∀ c ∈ xf, 2 * c.length ≤ B) : C_ok (d + 5) 78 [.ref pl, .ref (P.2.1 f)] s (fun x s2 n => x = none ∧ ∃ ys k9 zf, F_tel (F_least S) ys ∧ ys.length ≤ 24 ∧ (∀ c ∈ ys, 2 * c.length ≤ B) ∧ D_ch pp pl tr B s P ω (g_sf (g_sf (g_sr G 1 k9) 0 zf) f ys) s2 n) := by
  refine C_enter (M := E_m78) rfl (Nat.le_of_ble_eq_true rfl) (fun h0 h hs => ?_)
  show B_R (d + 4) _ (0, [(0, .ref pl), (1, .ref (P.2.1 f))], []) _ _ _
  have cs := D_cs.refl pp s ω
  have fk := hp.fF' (f := 0) (.inl (by omega)) ef
  have hfl := (hp.fL (f := 0) (.inl (by omega))).1
  rw [ef] at hfl
  have hfl : xf.length ≤ 576 := hfl
  have zl : Zr (xf.length : Int) := ⟨by omega, by omega⟩
  have R24 : 24 ≤ Pl_R f := by unfold Pl_R; rw [if_neg f0]; exact Nat.le_refl _
  refine Z_go (f2 := (1, [(0, .ref pl), (1, .ref (P.2.1 f))], [.ref pl])) (fun _ => rfl) ?_
  refine C_gr rfl hs hp.1.1.1 (by decide) (Nat.le_of_ble_eq_true rfl) rfl hp.1.1.2.2.2.2.1 ?_
  refine C_gi rfl hs (hp.fK (.inl (by omega))) (by decide) (Nat.le_of_ble_eq_true rfl) rfl ?_
  rw [show C_F (s) (P.2.1 0) 2 = (xf.length : Int) from (by first | exact fk | exact (if_neg (fun e => absurd e.1 (by assumption))).trans fk | exact (if_neg (fun e => absurd e.2 (by decide))).trans fk | exact (if_neg (fun e => absurd e.2 (by decide))).trans ((if_neg (fun e => absurd e.2 (by decide))).trans fk) | exact (if_neg (fun e => absurd e.2 (by decide))).trans ((if_neg (fun e => absurd e.2 (by decide))).trans ((if_neg (fun e => absurd e.2 (by decide))).trans fk)))]
  show B_R _ _ (7, [(0, .ref pl), (1, .ref (P.2.1 f))], [.int (Zi ((xf.length : Int)))]) _ _ _
  refine Z_go (f2 := (9, [(0, .ref pl), (1, .ref (P.2.1 f))], [.int (Zi 24), .int (Zi ((xf.length : Int)))])) (fun _ => rfl) ?_
  refine Z_cle rfl rfl (by first | exact hs.zF _ _ | exact Zor_r _ _ | exact hs.zA _ _ | assumption | exact zA _ _ | exact zS _ | exact Zr_not (hs.zA _ _) | exact hs.1.1 _ _ | exact ⟨by omega, by omega⟩) (by first | exact hs.zF _ _ | exact Zor_r _ _ | exact hs.zA _ _ | assumption | exact zA _ _ | exact zS _ | exact Zr_not (hs.zA _ _) | exact hs.1.1 _ _ | exact ⟨by omega, by omega⟩) (fun y1 => ?_) (fun y1 => ?_)
  · refine Z_go (f2 := (42, [(0, .ref pl), (1, .ref (P.2.1 f))], [.ref (P.2.1 f)])) (fun _ => rfl) ?_
    refine Z_go (f2 := (43, [(0, .ref pl), (1, .ref (P.2.1 f))], [.ref pl, .ref (P.2.1 f)])) (fun _ => rfl) ?_
    refine C_gr rfl hs hp.1.1.1 (by decide) (Nat.le_of_ble_eq_true rfl) rfl hp.1.1.2.2.2.2.1 ?_
    refine C_callV (As := [.ref (P.2.1 0)]) (rest := []) rfl (by decide) rfl (by decide) rfl rfl (by decide +kernel) (Nat.le_of_ble_eq_true rfl) hs (hp.fK hf) (o_fcopy' _ hp hf (f2 := 0) (.inl (by omega)) (yf := xf) ef f0 hs.1 (by omega) B0 B1 hm) (fun x h v4 n4 hs q => ?_)
    obtain ⟨rfl, ω4, hp, cq⟩ := q
    have cs := cs.tr cq
    have hL := F_least_tel (ys := xf) hF (fun _ => rfl) (fun c => by omega)
    have hm2 := hm
    rw [← g_sr_n G 1, ← g_sf_n (g_sr G 1 (G.1 1)) 0] at hp
    show B_R _ _ (49, [(0, .ref pl), (1, .ref (P.2.1 f))], []) _ _ _
    refine Z_ret rfl rfl ⟨_, hs, ?_⟩
    try dsimp only
    exact ⟨rfl, _, _, _, hL.1, hL.2, hm2, _, hp, cs⟩
  · refine Z_go (f2 := (13, [(0, .ref pl), (1, .ref (P.2.1 f))], [.ref pl])) (fun _ => rfl) ?_
    refine C_gr rfl hs hp.1.1.1 (by decide) (Nat.le_of_ble_eq_true rfl) rfl hp.1.1.2.2.2.2.1 ?_
    refine Z_go (f2 := (17, [(0, .ref pl), (1, .ref (P.2.1 f))], [.ref pl, .ref (P.2.1 0)])) (fun _ => rfl) ?_
    refine C_gr rfl hs hp.1.1.1 (by decide) (Nat.le_of_ble_eq_true rfl) rfl hp.1.1.2.2.2.2.2.2.2.1 ?_
    refine C_callV (As := [.ref (P.1 1)]) (rest := []) rfl (by decide) rfl (by decide) rfl rfl (by decide +kernel) (Nat.le_of_ble_eq_true rfl) hs (hp.fK (.inl (by omega))) (o_core' _ hp (f := 0) (.inl (by omega)) (r := 1) (.inl (by omega)) ef hs.1 B0 B1 hm) (fun x h v1 n1 hs q => ?_)
    obtain ⟨rfl, k9, hcl, ω1, hp, cq⟩ := q
    have cs := cs.tr cq
    have hlk : 2 * k9.length ≤ B := by
      have hne : xf ≠ [] := fun e => by
        rw [e] at y1
        have : (24 : Int) < ((0 : Nat) : Int) := y1
        omega
      obtain ⟨c, hc⟩ := List.exists_mem_of_ne_nil _ hne
      have := hcl.2.2 c hc
      have := hm c hc
      omega
    show B_R _ _ (23, [(0, .ref pl), (1, .ref (P.2.1 f))], []) _ _ _
    refine Z_go (f2 := (24, [(0, .ref pl), (1, .ref (P.2.1 f))], [.ref pl])) (fun _ => rfl) ?_
    refine C_gr rfl hs hp.1.1.1 (by decide) (Nat.le_of_ble_eq_true rfl) rfl hp.1.1.2.2.2.2.1 ?_
    refine C_callV (As := []) (rest := []) rfl (by decide) rfl (by decide) rfl rfl (by decide +kernel) (Nat.le_of_ble_eq_true rfl) hs (hp.fK (.inl (by omega))) (o_fclear _ hp (f := 0) (.inl (by omega)) hs.1) (fun x h v2 n2 hs q => ?_)
    obtain ⟨rfl, ω2, hp, cq⟩ := q
    have cs := cs.tr cq
    show B_R _ _ (30, [(0, .ref pl), (1, .ref (P.2.1 f))], []) _ _ _
    refine Z_go (f2 := (31, [(0, .ref pl), (1, .ref (P.2.1 f))], [.ref pl])) (fun _ => rfl) ?_
    refine C_gr rfl hs hp.1.1.1 (by decide) (Nat.le_of_ble_eq_true rfl) rfl hp.1.1.2.2.2.2.1 ?_
    refine Z_go (f2 := (35, [(0, .ref pl), (1, .ref (P.2.1 f))], [.ref pl, .ref (P.2.1 0)])) (fun _ => rfl) ?_
    refine C_gr rfl hs hp.1.1.1 (by decide) (Nat.le_of_ble_eq_true rfl) rfl hp.1.1.2.2.2.2.2.2.2.1 ?_
    refine C_callV (As := [.ref (P.1 1)]) (rest := []) rfl (by decide) rfl (by decide) rfl rfl (by decide +kernel) (Nat.le_of_ble_eq_true rfl) hs (hp.fK (.inl (by omega))) (o_offerR' _ hp (f := 0) (.inl (by omega)) (r := 1) (.inl (by omega)) (xf := []) (xs := k9) (by simp only [g_sr, g_sf, g_st, g_se, g_su]; repeat (first | rw [g_up_s] | rw [g_up_o (by omega)])) (by simp only [g_sr, g_sf, g_st, g_se, g_su]; repeat (first | rw [g_up_s] | rw [g_up_o (by omega)])) hs.1 hcl.1 (by show (0 : Nat) < _; unfold Pl_R; rw [if_pos rfl]; omega) B0 B1 hlk) (fun x h v3 n3 hs q => ?_)
    obtain ⟨rfl, ω3, hp, cq⟩ := q
    have cs := cs.tr cq
    rw [g_sf_i, F_off_nil] at hp
    show B_R _ _ (41, [(0, .ref pl), (1, .ref (P.2.1 f))], []) _ _ _
    refine Z_go (f2 := (42, [(0, .ref pl), (1, .ref (P.2.1 f))], [.ref (P.2.1 f)])) (fun _ => rfl) ?_
    refine Z_go (f2 := (43, [(0, .ref pl), (1, .ref (P.2.1 f))], [.ref pl, .ref (P.2.1 f)])) (fun _ => rfl) ?_
    refine C_gr rfl hs hp.1.1.1 (by decide) (Nat.le_of_ble_eq_true rfl) rfl hp.1.1.2.2.2.2.1 ?_
    refine C_callV (As := [.ref (P.2.1 0)]) (rest := []) rfl (by decide) rfl (by decide) rfl rfl (by decide +kernel) (Nat.le_of_ble_eq_true rfl) hs (hp.fK hf) (o_fcopy' _ hp hf (f2 := 0) (.inl (by omega)) (yf := [k9]) (by simp only [g_sr, g_sf, g_st, g_se, g_su]; repeat (first | rw [g_up_s] | rw [g_up_o (by omega)])) f0 hs.1 (by show 1 ≤ _; omega) B0 B1 (fun c hc => by rw [List.mem_singleton.mp hc]; exact hlk)) (fun x h v4 n4 hs q => ?_)
    obtain ⟨rfl, ω4, hp, cq⟩ := q
    have cs := cs.tr cq
    have hL := F_least_tel (ys := [k9]) hF (fun c => by omega) (fun _ => ⟨k9, hcl, rfl⟩)
    have hm2 : ∀ c ∈ [k9], 2 * c.length ≤ B := fun c hc => by rw [List.mem_singleton.mp hc]; exact hlk
    show B_R _ _ (49, [(0, .ref pl), (1, .ref (P.2.1 f))], []) _ _ _
    refine Z_ret rfl rfl ⟨_, hs, ?_⟩
    try dsimp only
    exact ⟨rfl, _, _, _, hL.1, hL.2, hm2, _, hp, cs⟩
