/-! the class: Planner: nothing, shut, bytes -/
theorem C_nil (d : Nat) {s : C_S} {pp : List Nat} {pl tr B : Nat} {G : G_t} {P : G_p} {ω : Nat → Nat} {j : Nat} (hp : D_Pl s pp pl tr B G P ω) (B0 : 1280 ≤ B) (B1 : B ≤ 20000) (hj : j ≤ 38) (hT : P.2.2.2.2.1 j = true) : C_ok (d + 6) 58 [.ref pl, .ref (P.2.2.2.1 j)] s (fun x s2 n => x = none ∧ ∃ G2, D_ch pp pl tr B s P ω G2 s2 n ∧ D_pv B G2 j V_nil ∧ ∀ i, i ≠ j → G_oth i G G2) := by
  refine C_enter (M := E_m58) rfl (Nat.le_of_ble_eq_true rfl) (fun h0 h hs => ?_)
  show B_R (d + 5) _ (0, [(0, .ref pl), (1, .ref (P.2.2.2.1 j))], []) _ _ _
  have cs := D_cs.refl pp s ω
  refine Z_go (f2 := (1, [(0, .ref pl), (1, .ref (P.2.2.2.1 j))], [.ref pl])) (fun _ => rfl) ?_
  refine C_gr rfl hs hp.1.1.1 (by decide) (Nat.le_of_ble_eq_true rfl) rfl hp.1.1.2.2.2.2.2.2.2.2.2.2.1 ?_
  refine C_callV (As := []) (rest := []) rfl (by decide) rfl (by decide) rfl rfl (by decide +kernel) (Nat.le_of_ble_eq_true rfl) hs (hp.tK (.inl rfl)) (o_tclear _ hp (t := 0) (.inl rfl) hs.1) (fun x h v1 n1 hs q => ?_)
  obtain ⟨rfl, ω1, hp, cq⟩ := q
  have cs := cs.tr cq
  show B_R _ _ (7, [(0, .ref pl), (1, .ref (P.2.2.2.1 j))], []) _ _ _
  refine Z_go (f2 := (8, [(0, .ref pl), (1, .ref (P.2.2.2.1 j))], [.ref pl])) (fun _ => rfl) ?_
  refine C_gr rfl hs hp.1.1.1 (by decide) (Nat.le_of_ble_eq_true rfl) rfl hp.1.1.2.2.2.2.2.2.2.2.2.2.1 ?_
  refine Z_go (f2 := (12, [(0, .ref pl), (1, .ref (P.2.2.2.1 j))], [.ref pl, .ref (P.2.2.1 0)])) (fun _ => rfl) ?_
  refine C_gr rfl hs hp.1.1.1 (by decide) (Nat.le_of_ble_eq_true rfl) rfl hp.1.1.2.2.2.2.2.2.2.2.2.2.2.1 ?_
  refine Z_go (f2 := (16, [(0, .ref pl), (1, .ref (P.2.2.2.1 j))], [.int (Zi 0), .ref P.2.2.2.2.2.2, .ref (P.2.2.1 0)])) (fun _ => rfl) ?_
  refine C_callV (As := [.ref P.2.2.2.2.2.2, .int (Zi 0)]) (rest := []) rfl (by decide) rfl (by decide) rfl rfl (by decide +kernel) (Nat.le_of_ble_eq_true rfl) hs (hp.tK (.inl rfl)) (o_put' _ hp (t := 0) (.inl rfl) (xs := []) (by simp only [g_sr, g_sf, g_st, g_se, g_su]; repeat (first | rw [g_up_s] | rw [g_up_o (by omega)])) hs.1 hp.by0 X_so_nil (L := 0) rfl) (fun x h v2 n2 hs q => ?_)
  obtain ⟨zp, rfl, zs2, ⟨ω2, hp, cq⟩, hso2, hzp⟩ := q
  have cs := cs.tr cq
  rw [g_st_i] at hp
  have htl : T_tel (F_one []) zs2 := fun x => by
    rcases hzp with ⟨_, e⟩ | ⟨_, _, _, e⟩
    · rw [e]; exact ⟨fun q => q.elim (fun q => absurd q List.not_mem_nil) (fun q => q), .inr⟩
    · cases e
  show B_R _ _ (19, [(0, .ref pl), (1, .ref (P.2.2.2.1 j))], [.int (Zi zp)]) _ _ _
  refine Z_go (f2 := (20, [(0, .ref pl), (1, .ref (P.2.2.2.1 j))], [])) (fun _ => rfl) ?_
  refine Z_go (f2 := (21, [(0, .ref pl), (1, .ref (P.2.2.2.1 j))], [.ref (P.2.2.2.1 j)])) (fun _ => rfl) ?_
  refine Z_go (f2 := (22, [(0, .ref pl), (1, .ref (P.2.2.2.1 j))], [.ref pl, .ref (P.2.2.2.1 j)])) (fun _ => rfl) ?_
  refine C_gr rfl hs hp.1.1.1 (by decide) (Nat.le_of_ble_eq_true rfl) rfl hp.1.1.2.2.2.2.2.2.2.2.2.2.1 ?_
  refine C_callV (As := [.ref (P.2.2.1 0)]) (rest := []) rfl (by decide) rfl (by decide) rfl rfl (by decide +kernel) (Nat.le_of_ble_eq_true rfl) hs (hp.2.1 j hj hT).1 (C_bex (A := F_one []) (xs := zs2) _ hp B0 B1 hj hT (by simp only [g_sr, g_sf, g_st, g_se, g_su]; repeat (first | rw [g_up_s] | rw [g_up_o (by omega)])) hso2 htl) (fun x h v3 n3 hs q => ?_)
  obtain ⟨rfl, G3, ⟨ω3, hp, cq⟩, hv3, ot3⟩ := q
  have cs := cs.tr cq
  show B_R _ _ (28, [(0, .ref pl), (1, .ref (P.2.2.2.1 j))], []) _ _ _
  refine Z_ret rfl rfl ⟨_, hs, ?_⟩
  try dsimp only
  exact ⟨rfl, G3, ⟨_, hp, cs⟩, hv3, fun i hi => (show G_oth i G (g_st G 0 zs2) from ⟨rfl, rfl, rfl, (by simp only [g_sr, g_sf, g_st, g_se, g_su]; repeat (first | rw [g_up_s] | rw [g_up_o (by omega)])), rfl, rfl⟩).tr (ot3 i hi)⟩
theorem C_sht (d : Nat) {s : C_S} {pp : List Nat} {pl tr B : Nat} {G : G_t} {P : G_p} {ω : Nat → Nat} {j : Nat} (hp : D_Pl s pp pl tr B G P ω) (B0 : 1280 ≤ B) (B1 : B ≤ 20000) (hj : j ≤ 38) (hT : P.2.2.2.2.1 j = true) : C_ok (d + 6) 59 [.ref pl, .ref (P.2.2.2.1 j)] s (fun x s2 n => x = none ∧ ∃ G2, D_ch pp pl tr B s P ω G2 s2 n ∧ D_pv B G2 j V_shut ∧ ∀ i, i ≠ j → G_oth i G G2) := by
  refine C_enter (M := E_m59) rfl (Nat.le_of_ble_eq_true rfl) (fun h0 h hs => ?_)
  show B_R (d + 5) _ (0, [(0, .ref pl), (1, .ref (P.2.2.2.1 j))], []) _ _ _
  have cs := D_cs.refl pp s ω
  refine Z_go (f2 := (1, [(0, .ref pl), (1, .ref (P.2.2.2.1 j))], [.ref pl])) (fun _ => rfl) ?_
  refine C_gr rfl hs hp.1.1.1 (by decide) (Nat.le_of_ble_eq_true rfl) rfl hp.1.1.2.2.2.2.2.2.1 ?_
  refine C_callV (As := []) (rest := []) rfl (by decide) rfl (by decide) rfl rfl (by decide +kernel) (Nat.le_of_ble_eq_true rfl) hs (hp.rK (.inl (by omega))) (o_clear _ hp (r := 0) (.inl (by omega)) hs.1) (fun x h v1 n1 hs q => ?_)
  obtain ⟨rfl, ω1, hp, cq⟩ := q
  have cs := cs.tr cq
  show B_R _ _ (7, [(0, .ref pl), (1, .ref (P.2.2.2.1 j))], []) _ _ _
  refine Z_go (f2 := (8, [(0, .ref pl), (1, .ref (P.2.2.2.1 j))], [.ref (P.2.2.2.1 j)])) (fun _ => rfl) ?_
  refine Z_go (f2 := (9, [(0, .ref pl), (1, .ref (P.2.2.2.1 j))], [.ref pl, .ref (P.2.2.2.1 j)])) (fun _ => rfl) ?_
  refine C_gr rfl hs hp.1.1.1 (by decide) (Nat.le_of_ble_eq_true rfl) rfl hp.1.1.2.2.2.2.2.2.1 ?_
  refine C_callV (As := [.ref (P.1 0)]) (rest := []) rfl (by decide) rfl (by decide) rfl rfl (by decide +kernel) (Nat.le_of_ble_eq_true rfl) hs (hp.2.1 j hj hT).1 (C_bsh _ hp B0 B1 hj hT (by simp only [g_sr, g_sf, g_st, g_se, g_su]; repeat (first | rw [g_up_s] | rw [g_up_o (by omega)]))) (fun x h v3 n3 hs q => ?_)
  obtain ⟨rfl, G3, ⟨ω3, hp, cq⟩, hv3, ot3⟩ := q
  have cs := cs.tr cq
  show B_R _ _ (15, [(0, .ref pl), (1, .ref (P.2.2.2.1 j))], []) _ _ _
  refine Z_ret rfl rfl ⟨_, hs, ?_⟩
  try dsimp only
  exact ⟨rfl, G3, ⟨_, hp, cs⟩, hv3, fun i hi => (show G_oth i G (g_sr G 0 []) from ⟨(by simp only [g_sr, g_sf, g_st, g_se, g_su]; repeat (first | rw [g_up_s] | rw [g_up_o (by omega)])), (by simp only [g_sr, g_sf, g_st, g_se, g_su]; repeat (first | rw [g_up_s] | rw [g_up_o (by omega)])), rfl, rfl, rfl, rfl⟩).tr (ot3 i hi)⟩
theorem X_len_s {zs ys : List (List Int)} {x : List Int} (h1 : X_so zs) (h2 : X_so ys) (hx : x ∉ zs) (h : ∀ y, y ∈ ys ↔ y ∈ zs ∨ y = x) : ys.length = zs.length + 1 := by
  have a := S_card_of (A := fun y => y ∈ ys) (X_so_nd h2) (fun y => Iff.rfl)
  have b := S_card_of (A := fun y => y ∈ ys) (l := zs ++ [x]) (List.nodup_append.mpr ⟨X_so_nd h1, List.nodup_cons.mpr ⟨List.not_mem_nil, List.nodup_nil⟩, fun p hp q hq e => by rw [List.mem_singleton] at hq; rw [hq] at e; rw [e] at hp; exact hx hp⟩) (fun y => by rw [List.mem_append, List.mem_singleton]; exact (h y).symm)
  have e1 := (b ys.length).mp ((a ys.length).mpr (Nat.le_refl _))
  have e2 := (a (zs ++ [x]).length).mp ((b _).mpr (Nat.le_refl _))
  rw [List.length_append] at e1 e2
  have e3 : [x].length = 1 := rfl
  omega
def X_by (Q : Int → Prop) (f : Int) : P_X := fun t => ∃ b, Q b ∧ 0 ≤ b ∧ b < 256 ∧ b < f ∧ t = [b]
theorem T_has_r {β : Int → Int64} {c b : Int} (h : T_has β c b) : 0 ≤ b ∧ b < 256 := ⟨h.2.1, by have := h.2.2.1; omega⟩
theorem V_set_shut {Q : Int → Prop} {zs : List (List Int)} {f z : Int} (hT : T_tel (X_by Q f) zs) (hso : X_so zs) (hl : zs.length = 8) (hz : Q z) (z0 : 0 ≤ z) (z1 : z < 256) (hf : f ≤ z) : V_set Q = V_shut := by
  unfold V_set
  refine c_neg (fun ⟨l, l8, hl2⟩ => ?_)
  refine F_fit_no (S := fun t => ∃ b, Q b ∧ 0 ≤ b ∧ b < 256 ∧ t = [b]) (zs := zs) (x := [z]) (X_so_nd hso) (fun t ht => ?_) ⟨z, hz, z0, z1, rfl⟩ (fun e => ?_) hl ⟨⟨l.map (fun b => [b]), by rw [List.length_map]; exact l8, fun t ⟨b, hb, b0, b1, e⟩ => ?_⟩, fun t ⟨b, _, _, _, e⟩ => by rw [e]; show 1 ≤ 60; omega⟩
  · obtain ⟨b, h1, h2, h3, _, e⟩ := (hT t).mp ht
    exact ⟨b, h1, h2, h3, e⟩
  · obtain ⟨b, h1, h2, h3, h4, e⟩ := (hT [z]).mp e
    injection e with e
    omega
  · rw [e]
    exact List.mem_map.mpr ⟨b, hl2 b ⟨hb, b0, b1⟩, rfl⟩
theorem V_set_ex {Q : Int → Prop} {zs : List (List Int)} {f : Int} (hT : T_tel (X_by Q f) zs) (hl : zs.length ≤ 8) (hall : ∀ b, Q b → 0 ≤ b → b < 256 → b < f) : ∃ A, V_set Q = .inl A ∧ T_tel A zs := by
  refine ⟨fun t => ∃ b, Q b ∧ 0 ≤ b ∧ b < 256 ∧ t = [b], ?_, fun t => ?_⟩
  · unfold V_set
    refine c_pos ⟨zs.map (fun t => L_at t 0), by rw [List.length_map]; exact hl, fun b ⟨hb, b0, b1⟩ => ?_⟩
    exact List.mem_map.mpr ⟨[b], (hT [b]).mpr ⟨b, hb, b0, b1, hall b hb b0 b1, rfl⟩, rfl⟩
  · rw [hT]
    constructor
    · rintro ⟨b, h1, h2, h3, _, e⟩; exact ⟨b, h1, h2, h3, e⟩
    · rintro ⟨b, h1, h2, h3, e⟩; exact ⟨b, h1, h2, h3, hall b h1 h2 h3, e⟩
theorem C_wby1 {d : Nat} {h0 : E_H} {s : C_S} {pp : List Nat} {pl tr B : Nat} {G : G_t} {P : G_p} {ω : Nat → Nat} {j : Nat} {p2 : List Nat} {A2 : Nat → Nat} {m2 sm : Int} {τ : Nat → Int → Int} {β : Int → Int64} {c : Int} (sw : C_wf s) (B0 : 1280 ≤ B) (B1 : B ≤ 20000) (hj : j ≤ 38) (hT : P.2.2.2.2.1 j = true) (htr : D_Tr s p2 tr A2 m2 sm τ β) (np : ¬ pp <+: p2) (c0 : 0 ≤ c) (c1 : c < 80) : ∀ (t : Nat) (tn z f : Int) (u : C_S) (h : E_H) (sl : Nat) (ω2 : Nat → Nat) (zs : List (List Int)), 10 - tn < t → 0 ≤ tn → C_is h0 h u → D_Pl u pp pl tr B (g_st G 0 zs) P ω2 → D_cs pp s u ω ω2 sl → X_so zs → T_tel (X_by (fun b => T_has β c b) f) zs → (zs.length : Int) = tn → 0 ≤ f → f ≤ 256 → T_nx β c f z → B_R (d + 6) E_m64 (20, [(4, .int (Zi tn)), (3, .int (Zi z)), (0, .ref pl), (1, .int (Zi c)), (2, .ref (P.2.2.2.1 j))], []) h sl (fun x => ∃ s2 : C_S, C_is h0 x.2.1 s2 ∧ x.1 = none ∧ ∃ G2, D_ch pp pl tr B s P ω G2 s2 x.2.2 ∧ D_pv B G2 j (V_set (fun b => T_has β c b)) ∧ ∀ i, i ≠ j → G_oth i G G2) := by
  intro t
  induction t with
  | zero =>
    intro tn z f u h sl ω2 zs ht9 t0 hs hp cs hso hTl hl f0 f1 hz
    have h8 := (hp.tL (t := 0) (.inl rfl)).1
    rw [show (g_st G 0 zs).2.2.1 0 = zs from (g_up_s : g_up G.2.2.1 0 zs 0 = zs)] at h8
    omega
  | succ t ih =>
    intro tn z f u h sl ω2 zs ht9 t0 hs hp cs hso hTl hl f0 f1 hz
    have ez2 : (g_st G 0 zs).2.2.1 0 = zs := (g_up_s : g_up G.2.2.1 0 zs 0 = zs)
    have h8 := (hp.tL (t := 0) (.inl rfl)).1
    rw [ez2] at h8
    have zt : Zr tn := ⟨by omega, by omega⟩
    have zc : Zr c := ⟨by omega, by omega⟩
    have hzr : -1 ≤ z ∧ z < 256 := by
      rcases hz with ⟨z0, _, z2, _⟩ | ⟨e, _⟩
      · exact ⟨by omega, (T_has_r z2).2⟩
      · omega
    obtain ⟨hzr0, hzr1⟩ := hzr
    have zz : Zr z := ⟨by omega, by omega⟩
    have htu := htr.fr sw cs.2.2 np
    have hsu := hs.1
    have tbk := hp.1.2.2.1.1
    refine Z_go (f2 := (22, [(4, .int (Zi tn)), (3, .int (Zi z)), (0, .ref pl), (1, .int (Zi c)), (2, .ref (P.2.2.2.1 j))], [.int (Zi tn)])) (fun _ => rfl) ?_
    refine Z_go (f2 := (24, [(4, .int (Zi tn)), (3, .int (Zi z)), (0, .ref pl), (1, .int (Zi c)), (2, .ref (P.2.2.2.1 j))], [.int (Zi 8), .int (Zi tn)])) (fun _ => rfl) ?_
    refine Z_cgt rfl rfl (by first | exact hs.zF _ _ | exact Zor_r _ _ | exact hs.zA _ _ | assumption | exact zA _ _ | exact zS _ | exact Zr_not (hs.zA _ _) | exact hs.1.1 _ _ | exact ⟨by omega, by omega⟩) (by first | exact hs.zF _ _ | exact Zor_r _ _ | exact hs.zA _ _ | assumption | exact zA _ _ | exact zS _ | exact Zr_not (hs.zA _ _) | exact hs.1.1 _ _ | exact ⟨by omega, by omega⟩) (fun y1 => ?_) (fun y1 => ?_)
    · exfalso; omega
    · refine Z_go (f2 := (28, [(4, .int (Zi tn)), (3, .int (Zi z)), (0, .ref pl), (1, .int (Zi c)), (2, .ref (P.2.2.2.1 j))], [.int (Zi z)])) (fun _ => rfl) ?_
      refine Z_go (f2 := (29, [(4, .int (Zi tn)), (3, .int (Zi z)), (0, .ref pl), (1, .int (Zi c)), (2, .ref (P.2.2.2.1 j))], [.int (Zi (-1)), .int (Zi z)])) (fun _ => rfl) ?_
      refine Z_ceq rfl rfl (by first | exact hs.zF _ _ | exact Zor_r _ _ | exact hs.zA _ _ | assumption | exact zA _ _ | exact zS _ | exact Zr_not (hs.zA _ _) | exact hs.1.1 _ _ | exact ⟨by omega, by omega⟩) (by first | exact hs.zF _ _ | exact Zor_r _ _ | exact hs.zA _ _ | assumption | exact zA _ _ | exact zS _ | exact Zr_not (hs.zA _ _) | exact hs.1.1 _ _ | exact ⟨by omega, by omega⟩) (fun y2 => ?_) (fun y2 => ?_)
      · obtain ⟨Av, eA, hA⟩ := V_set_ex hTl (by omega) (fun b hb b0 b1 => by
          rcases hz with ⟨z0, _⟩ | ⟨_, e⟩
          · omega
          · by_cases cb : b < f
            · exact cb
            · exact absurd hb (e b b0 (by omega)))
        refine Z_go (f2 := (80, [(4, .int (Zi tn)), (3, .int (Zi z)), (0, .ref pl), (1, .int (Zi c)), (2, .ref (P.2.2.2.1 j))], [.ref (P.2.2.2.1 j)])) (fun _ => rfl) ?_
        refine Z_go (f2 := (81, [(4, .int (Zi tn)), (3, .int (Zi z)), (0, .ref pl), (1, .int (Zi c)), (2, .ref (P.2.2.2.1 j))], [.ref pl, .ref (P.2.2.2.1 j)])) (fun _ => rfl) ?_
        refine C_gr rfl hs hp.1.1.1 (by decide) (Nat.le_of_ble_eq_true rfl) rfl hp.1.1.2.2.2.2.2.2.2.2.2.2.1 ?_
        refine C_callV (As := [.ref (P.2.2.1 0)]) (rest := []) rfl (by decide) rfl (by decide) rfl rfl (by decide +kernel) (Nat.le_of_ble_eq_true rfl) hs (hp.2.1 j hj hT).1 (C_bex (A := Av) (xs := zs) _ hp B0 B1 hj hT ez2 hso hA) (fun x h v3 n3 hs q => ?_)
        obtain ⟨rfl, G3, ⟨ω3, hp, cq⟩, hv3, ot3⟩ := q
        have cs := cs.tr cq
        show B_R _ _ (87, [(4, .int (Zi tn)), (3, .int (Zi z)), (0, .ref pl), (1, .int (Zi c)), (2, .ref (P.2.2.2.1 j))], []) _ _ _
        refine Z_ret rfl rfl ?_
        try dsimp only
        rw [eA]
        exact ⟨_, hs, rfl, G3, ⟨_, hp, cs⟩, hv3, fun i hi => (show G_oth i G (g_st G 0 zs) from ⟨rfl, rfl, rfl, (by simp only [g_sr, g_sf, g_st, g_se, g_su]; repeat (first | rw [g_up_s] | rw [g_up_o (by omega)])), rfl, rfl⟩).tr (ot3 i hi)⟩
      · obtain ⟨hz0, hz1, hz3, hz4⟩ : 0 ≤ z ∧ f ≤ z ∧ T_has β c z ∧ ∀ j, 0 ≤ j → f ≤ j → j < z → ¬ T_has β c j := by
          rcases hz with e | ⟨e, _⟩
          · exact e
          · omega
        refine Z_go (f2 := (33, [(4, .int (Zi tn)), (3, .int (Zi z)), (0, .ref pl), (1, .int (Zi c)), (2, .ref (P.2.2.2.1 j))], [.ref pl])) (fun _ => rfl) ?_
        refine C_gr rfl hs hp.1.1.1 (by decide) (Nat.le_of_ble_eq_true rfl) rfl hp.1.1.2.2.2.2.2.2.2.2.2.2.2.1 ?_
        refine Z_go (f2 := (37, [(4, .int (Zi tn)), (3, .int (Zi z)), (0, .ref pl), (1, .int (Zi c)), (2, .ref (P.2.2.2.1 j))], [.int (Zi 0), .ref P.2.2.2.2.2.2])) (fun _ => rfl) ?_
        refine Z_go (f2 := (38, [(4, .int (Zi tn)), (3, .int (Zi z)), (0, .ref pl), (1, .int (Zi c)), (2, .ref (P.2.2.2.1 j))], [.int (Zi z), .int (Zi 0), .ref P.2.2.2.2.2.2])) (fun _ => rfl) ?_
        refine Z_i2b rfl ?_
        refine C_bs rfl hs hp.1.2.2.1.1 (by omega) (by omega) (C_nar_b (by omega)) (by omega) (fun h hs => ?_)
        have hT9 := hp.1.2.2.1.2
        have hby : D_by (C_sA u P.2.2.2.2.2.2 0 ((z + 128) % 256 - 128)) P.2.2.2.2.2.2 60 [z] := ⟨tbk, by show 1 ≤ 60; omega, fun x hx => by rw [List.mem_singleton.mp hx]; exact ⟨hz0, hzr1⟩, fun k k0 k1 => by
          have k1 : k < ((1 : Nat) : Int) := k1
          obtain rfl : k = 0 := by omega
          rw [show C_A (C_sA u P.2.2.2.2.2.2 0 ((z + 128) % 256 - 128)) P.2.2.2.2.2.2 0 = (z + 128) % 256 - 128 from if_pos ⟨rfl, rfl⟩]
          show _ = z
          omega⟩
        obtain ⟨ω2, hp, cq⟩ := hp.upB hsu (s2 := C_sA u P.2.2.2.2.2.2 0 ((z + 128) % 256 - 128)) ((C_fr.refl _ _).sA hT9) rfl
        have cs := cs.tr cq
        refine Z_go (f2 := (41, [(4, .int (Zi tn)), (3, .int (Zi z)), (0, .ref pl), (1, .int (Zi c)), (2, .ref (P.2.2.2.1 j))], [.ref pl])) (fun _ => rfl) ?_
        refine C_gr rfl hs hp.1.1.1 (by decide) (Nat.le_of_ble_eq_true rfl) rfl hp.1.1.2.2.2.2.2.2.2.2.2.2.1 ?_
        refine Z_go (f2 := (45, [(4, .int (Zi tn)), (3, .int (Zi z)), (0, .ref pl), (1, .int (Zi c)), (2, .ref (P.2.2.2.1 j))], [.ref pl, .ref (P.2.2.1 0)])) (fun _ => rfl) ?_
        refine C_gr rfl hs hp.1.1.1 (by decide) (Nat.le_of_ble_eq_true rfl) rfl hp.1.1.2.2.2.2.2.2.2.2.2.2.2.1 ?_
        refine Z_go (f2 := (49, [(4, .int (Zi tn)), (3, .int (Zi z)), (0, .ref pl), (1, .int (Zi c)), (2, .ref (P.2.2.2.1 j))], [.int (Zi 1), .ref P.2.2.2.2.2.2, .ref (P.2.2.1 0)])) (fun _ => rfl) ?_
        refine C_callV (As := [.ref P.2.2.2.2.2.2, .int (Zi 1)]) (rest := []) rfl (by decide) rfl (by decide) rfl rfl (by decide +kernel) (Nat.le_of_ble_eq_true rfl) hs (hp.tK (.inl rfl)) (o_put' _ hp (t := 0) (.inl rfl) ez2 hs.1 hby hso (L := 1) rfl) (fun x h v2 n2 hs q => ?_)
        obtain ⟨zp, rfl, zs2, ⟨ω3, hp, cq⟩, hso2, hzp⟩ := q
        have cs := cs.tr cq
        rw [g_st_i] at hp
        have zzp : Zr zp := by rcases hzp with ⟨e, _⟩ | ⟨e, _⟩ <;> exact ⟨by omega, by omega⟩
        have htv := htr.fr sw cs.2.2 np
        show B_R _ _ (52, [(4, .int (Zi tn)), (3, .int (Zi z)), (0, .ref pl), (1, .int (Zi c)), (2, .ref (P.2.2.2.1 j))], [.int (Zi zp)]) _ _ _
        refine Z_ine rfl rfl (by first | exact hs.zF _ _ | exact Zor_r _ _ | exact hs.zA _ _ | assumption | exact zA _ _ | exact zS _ | exact Zr_not (hs.zA _ _) | exact hs.1.1 _ _ | exact ⟨by omega, by omega⟩) (fun y3 => ?_) (fun y3 => ?_)
        · refine Z_go (f2 := (62, [(4, .int (Zi tn)), (3, .int (Zi z)), (0, .ref pl), (1, .int (Zi c)), (2, .ref (P.2.2.2.1 j))], [.ref pl])) (fun _ => rfl) ?_
          refine C_gr rfl hs hp.1.1.1 (by decide) (Nat.le_of_ble_eq_true rfl) rfl hp.1.1.2.2.1 ?_
          refine Z_go (f2 := (66, [(4, .int (Zi tn)), (3, .int (Zi z)), (0, .ref pl), (1, .int (Zi c)), (2, .ref (P.2.2.2.1 j))], [.int (Zi c), .ref tr])) (fun _ => rfl) ?_
          refine Z_go (f2 := (67, [(4, .int (Zi tn)), (3, .int (Zi z)), (0, .ref pl), (1, .int (Zi c)), (2, .ref (P.2.2.2.1 j))], [.int (Zi z), .int (Zi c), .ref tr])) (fun _ => rfl) ?_
          refine Z_go (f2 := (68, [(4, .int (Zi tn)), (3, .int (Zi z)), (0, .ref pl), (1, .int (Zi c)), (2, .ref (P.2.2.2.1 j))], [.int (Zi 1), .int (Zi z), .int (Zi c), .ref tr])) (fun _ => rfl) ?_
          refine Z_iadd rfl ?_
          refine C_callVR (As := [.int (Zi c), .int (Zi (z + 1))]) (rest := []) rfl (by decide) rfl (by decide) rfl rfl (by decide +kernel) (Nat.le_of_ble_eq_true rfl) hs htv.1.1 (C_nextIn _ htv (c := c) (f := z + 1) ⟨by omega, by omega⟩ (by omega) c1) (fun x q => ?_)
          obtain ⟨z2, rfl, hz2⟩ := q
          show B_R _ _ (72, [(4, .int (Zi tn)), (3, .int (Zi z)), (0, .ref pl), (1, .int (Zi c)), (2, .ref (P.2.2.2.1 j))], [.int (Zi z2)]) _ _ _
          refine Z_go (f2 := (73, [(3, .int (Zi z2)), (4, .int (Zi tn)), (0, .ref pl), (1, .int (Zi c)), (2, .ref (P.2.2.2.1 j))], [])) (fun _ => rfl) ?_
          refine Z_iinc (L2 := [(4, .int (Zi (tn + 1))), (3, .int (Zi z2)), (0, .ref pl), (1, .int (Zi c)), (2, .ref (P.2.2.2.1 j))]) rfl rfl (by decide) rfl ?_
          refine Z_go (f2 := (20, [(4, .int (Zi (tn + 1))), (3, .int (Zi z2)), (0, .ref pl), (1, .int (Zi c)), (2, .ref (P.2.2.2.1 j))], [])) (fun _ => rfl) ?_
          refine B_loc (K := [(4, .int (Zi (tn + 1))), (3, .int (Zi z2)), (0, .ref pl), (1, .int (Zi c)), (2, .ref (P.2.2.2.1 j))]) (N_all_sub ⟨rfl, rfl, rfl, rfl, rfl, trivial⟩) (show ([4, 3, 0, 1, 2] : List Nat).Nodup by decide) ?_
          have hzp2 : ∀ y, y ∈ zs2 ↔ y ∈ zs ∨ y = [z] := by rcases hzp with ⟨_, e⟩ | ⟨e, _⟩; exact e; omega
          have hnz : [z] ∉ zs := fun e => by
            obtain ⟨b, _, _, _, h4, e⟩ := (hTl [z]).mp e
            injection e with e
            omega
          have hlz := X_len_s hso hso2 hnz hzp2
          refine ih _ z2 (z + 1) _ h _ _ zs2 (by omega) (by omega) hs hp cs hso2 (fun y => ?_) (by omega) (by omega) (by omega) hz2
          rw [hzp2, hTl y]
          constructor
          · rintro (⟨b, a1, a2, a3, a4, e⟩ | e)
            · exact ⟨b, a1, a2, a3, by omega, e⟩
            · exact ⟨z, hz3, hz0, by omega, by omega, e⟩
          · rintro ⟨b, a1, a2, a3, a4, e⟩
            by_cases cb : b < f
            · exact .inl ⟨b, a1, a2, a3, cb, e⟩
            · by_cases cz : b = z
              · exact .inr (by rw [e, cz])
              · exact absurd a1 (hz4 b a2 (by omega) (by omega))
        · refine Z_go (f2 := (56, [(4, .int (Zi tn)), (3, .int (Zi z)), (0, .ref pl), (1, .int (Zi c)), (2, .ref (P.2.2.2.1 j))], [.ref pl])) (fun _ => rfl) ?_
          refine Z_go (f2 := (57, [(4, .int (Zi tn)), (3, .int (Zi z)), (0, .ref pl), (1, .int (Zi c)), (2, .ref (P.2.2.2.1 j))], [.ref (P.2.2.2.1 j), .ref pl])) (fun _ => rfl) ?_
          refine C_callV (As := [.ref (P.2.2.2.1 j)]) (rest := []) rfl (by decide) rfl (by decide) rfl rfl (by decide +kernel) (Nat.le_of_ble_eq_true rfl) hs hp.1.1.1 (C_sht _ hp B0 B1 hj hT) (fun x h v3 n3 hs q => ?_)
          obtain ⟨rfl, G3, ⟨ω3, hp, cq⟩, hv3, ot3⟩ := q
          have cs := cs.tr cq
          show B_R _ _ (60, [(4, .int (Zi tn)), (3, .int (Zi z)), (0, .ref pl), (1, .int (Zi c)), (2, .ref (P.2.2.2.1 j))], []) _ _ _
          refine Z_ret rfl rfl ?_
          try dsimp only
          rcases hzp with ⟨e, _⟩ | ⟨_, e1, e2, e3⟩
          · omega
          · rw [V_set_shut hTl hso e3 hz3 hz0 hzr1 hz1]
            exact ⟨_, hs, rfl, G3, ⟨_, hp, cs⟩, hv3, fun i hi => (show G_oth i G (g_st G 0 zs2) from ⟨rfl, rfl, rfl, (by simp only [g_sr, g_sf, g_st, g_se, g_su]; repeat (first | rw [g_up_s] | rw [g_up_o (by omega)])), rfl, rfl⟩).tr (ot3 i hi)⟩
theorem C_wby (d : Nat) {s : C_S} {pp : List Nat} {pl tr B : Nat} {G : G_t} {P : G_p} {ω : Nat → Nat} {j : Nat} {p2 : List Nat} {A2 : Nat → Nat} {m2 sm : Int} {τ : Nat → Int → Int} {β : Int → Int64} {c : Int} (hp : D_Pl s pp pl tr B G P ω) (B0 : 1280 ≤ B) (B1 : B ≤ 20000) (hj : j ≤ 38) (hT : P.2.2.2.2.1 j = true) (htr : D_Tr s p2 tr A2 m2 sm τ β) (np : ¬ pp <+: p2) (c0 : 0 ≤ c) (c1 : c < 80) : C_ok (d + 7) 64 [.ref pl, .int (Zi c), .ref (P.2.2.2.1 j)] s (fun x s2 n => x = none ∧ ∃ G2, D_ch pp pl tr B s P ω G2 s2 n ∧ D_pv B G2 j (V_set (fun b => T_has β c b)) ∧ ∀ i, i ≠ j → G_oth i G G2) := by
  refine C_enter (M := E_m64) rfl (Nat.le_of_ble_eq_true rfl) (fun h0 h hs => ?_)
  show B_R (d + 6) _ (0, [(0, .ref pl), (1, .int (Zi c)), (2, .ref (P.2.2.2.1 j))], []) _ _ _
  have cs := D_cs.refl pp s ω
  have sw := hs.1
  have zc : Zr c := ⟨by omega, by omega⟩
  refine Z_go (f2 := (1, [(0, .ref pl), (1, .int (Zi c)), (2, .ref (P.2.2.2.1 j))], [.ref pl])) (fun _ => rfl) ?_
  refine C_gr rfl hs hp.1.1.1 (by decide) (Nat.le_of_ble_eq_true rfl) rfl hp.1.1.2.2.2.2.2.2.2.2.2.2.1 ?_
  refine C_callV (As := []) (rest := []) rfl (by decide) rfl (by decide) rfl rfl (by decide +kernel) (Nat.le_of_ble_eq_true rfl) hs (hp.tK (.inl rfl)) (o_tclear _ hp (t := 0) (.inl rfl) hs.1) (fun x h v1 n1 hs q => ?_)
  obtain ⟨rfl, ω1, hp, cq⟩ := q
  have cs := cs.tr cq
  have htv := htr.fr sw cs.2.2 np
  show B_R _ _ (7, [(0, .ref pl), (1, .int (Zi c)), (2, .ref (P.2.2.2.1 j))], []) _ _ _
  refine Z_go (f2 := (8, [(0, .ref pl), (1, .int (Zi c)), (2, .ref (P.2.2.2.1 j))], [.ref pl])) (fun _ => rfl) ?_
  refine C_gr rfl hs hp.1.1.1 (by decide) (Nat.le_of_ble_eq_true rfl) rfl hp.1.1.2.2.1 ?_
  refine Z_go (f2 := (12, [(0, .ref pl), (1, .int (Zi c)), (2, .ref (P.2.2.2.1 j))], [.int (Zi c), .ref tr])) (fun _ => rfl) ?_
  refine Z_go (f2 := (13, [(0, .ref pl), (1, .int (Zi c)), (2, .ref (P.2.2.2.1 j))], [.int (Zi 0), .int (Zi c), .ref tr])) (fun _ => rfl) ?_
  refine C_callVR (As := [.int (Zi c), .int (Zi 0)]) (rest := []) rfl (by decide) rfl (by decide) rfl rfl (by decide +kernel) (Nat.le_of_ble_eq_true rfl) hs htv.1.1 (C_nextIn _ htv (c := c) (f := 0) ⟨by omega, by omega⟩ (by omega) c1) (fun x q => ?_)
  obtain ⟨z2, rfl, hz2⟩ := q
  show B_R _ _ (16, [(0, .ref pl), (1, .int (Zi c)), (2, .ref (P.2.2.2.1 j))], [.int (Zi z2)]) _ _ _
  refine Z_go (f2 := (17, [(3, .int (Zi z2)), (0, .ref pl), (1, .int (Zi c)), (2, .ref (P.2.2.2.1 j))], [])) (fun _ => rfl) ?_
  refine Z_go (f2 := (18, [(3, .int (Zi z2)), (0, .ref pl), (1, .int (Zi c)), (2, .ref (P.2.2.2.1 j))], [.int (Zi 0)])) (fun _ => rfl) ?_
  refine Z_go (f2 := (20, [(4, .int (Zi 0)), (3, .int (Zi z2)), (0, .ref pl), (1, .int (Zi c)), (2, .ref (P.2.2.2.1 j))], [])) (fun _ => rfl) ?_
  refine B_loc (K := [(4, .int (Zi 0)), (3, .int (Zi z2)), (0, .ref pl), (1, .int (Zi c)), (2, .ref (P.2.2.2.1 j))]) (N_all_sub ⟨rfl, rfl, rfl, rfl, rfl, trivial⟩) (show ([4, 3, 0, 1, 2] : List Nat).Nodup by decide) ?_
  exact C_wby1 sw B0 B1 hj hT htr np c0 c1 12 0 z2 0 _ h _ _ [] (by omega) (by omega) hs hp cs X_so_nil (fun y => ⟨fun e => absurd e List.not_mem_nil, fun ⟨b, _, b0, _, b2, _⟩ => by omega⟩) rfl (by omega) (by omega) hz2
