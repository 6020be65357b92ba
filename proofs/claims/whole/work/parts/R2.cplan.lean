/-! the class: Planner: the whole; plan -/
theorem L_lt_lx : ∀ xs ys : List Int, L_lt xs ys ↔ L_lx xs ys
  | [], [] => ⟨fun h => absurd h (L_lt_irr _), fun h => h.elim⟩
  | [], _ :: _ => ⟨fun _ => trivial, fun _ => L_lt_nil⟩
  | a :: as, [] => ⟨fun h => absurd h (L_lt_asym L_lt_nil), fun h => h.elim⟩
  | a :: as, b :: bs => by
    rw [L_lt_cons, L_lt_lx as bs]
    rfl
theorem X_srt_lt : ∀ {L L2 : List (List Int)} {C : P_X}, X_srt L C → X_srt L2 C → L = L2
  | [], [], _, _, _ => rfl
  | [], b :: bs, C, h, g => absurd ((h.2 b).mp ((g.2 b).mpr (List.mem_cons_self ..))) List.not_mem_nil
  | a :: as, [], C, h, g => absurd ((g.2 a).mp ((h.2 a).mpr (List.mem_cons_self ..))) List.not_mem_nil
  | a :: as, b :: bs, C, ⟨h1, h2⟩, ⟨g1, g2⟩ => by
    obtain ⟨ha, has⟩ := List.pairwise_cons.mp h1
    obtain ⟨gb, gbs⟩ := List.pairwise_cons.mp g1
    have e : a = b := by
      rcases L_lx_tot a b with q | q | q
      · exact q
      · have := (g2 a).mp ((h2 a).mpr (List.mem_cons_self ..))
        rcases List.mem_cons.mp this with q2 | q2
        · exact q2
        · exact absurd (L_lx_tr (gb a q2) q) (L_lx_irr _)
      · have := (h2 b).mp ((g2 b).mpr (List.mem_cons_self ..))
        rcases List.mem_cons.mp this with q2 | q2
        · exact q2.symm
        · exact absurd (L_lx_tr (ha b q2) q) (L_lx_irr _)
    subst e
    have : as = bs := X_srt_lt (C := fun x => C x ∧ x ≠ a) ⟨has, fun x => ⟨fun ⟨c, ne⟩ => by
        rcases List.mem_cons.mp ((h2 x).mp c) with q | q
        · exact absurd q ne
        · exact q, fun hx => ⟨(h2 x).mpr (List.mem_cons_of_mem _ hx), fun e => by rw [e] at hx; exact L_lx_irr _ (ha a hx)⟩⟩⟩ ⟨gbs, fun x => ⟨fun ⟨c, ne⟩ => by
        rcases List.mem_cons.mp ((g2 x).mp c) with q | q
        · exact absurd q ne
        · exact q, fun hx => ⟨(g2 x).mpr (List.mem_cons_of_mem _ hx), fun e => by rw [e] at hx; exact L_lx_irr _ (gb a hx)⟩⟩⟩
    rw [this]
theorem F_li_g {m : Nat} {φ : Int → List Int} {i : Nat} (h : i < (F_li m φ).length) : (F_li m φ)[i] = φ (i : Int) := by
  simp [F_li]
theorem F_li_n {m : Nat} {φ : Int → List Int} : (F_li m φ).length = m := by
  unfold F_li
  rw [List.length_map, List.length_range]
theorem F_li_inj {m : Nat} {φ : Int → List Int} (h : (F_li m φ).Nodup) (a b : Int) (a0 : 0 ≤ a) (a1 : a < m) (b0 : 0 ≤ b) (b1 : b < m) (e : φ a = φ b) : a = b := by
  obtain ⟨x, rfl⟩ := Int.eq_ofNat_of_zero_le a0
  obtain ⟨y, rfl⟩ := Int.eq_ofNat_of_zero_le b0
  have hx : x < (F_li m φ).length := by rw [F_li_n]; omega
  have hy : y < (F_li m φ).length := by rw [F_li_n]; omega
  rw [List.nodup_iff_pairwise_ne, List.pairwise_iff_getElem] at h
  rcases Nat.lt_trichotomy x y with c | c | c
  · exact absurd (by rw [F_li_g, F_li_g]; exact e) (h x y hx hy c)
  · rw [c]
  · exact absurd (by rw [F_li_g, F_li_g]; exact e.symm) (h y x hy hx c)
theorem o_order (d : Nat) {s : C_S} {pp : List Nat} {pl tr B : Nat} {G : G_t} {P : G_p} {ω : Nat → Nat} (h : D_Pl s pp pl tr B G P ω) {f : Nat} (hf : Pl_hf P f) (w : C_wf s) : C_ok (d + 3) 12 [.ref (P.2.1 f)] s (fun x s2 n => x = none ∧ ∃ fam, D_ch pp pl tr B s P ω (g_sf G f fam) s2 n ∧ (∀ x, x ∈ fam ↔ x ∈ G.2.1 f) ∧ fam.length = (G.2.1 f).length ∧ ((G.2.1 f).Nodup → fam.Pairwise L_lx)) := by
  obtain ⟨qa, ma, m, ψ, h1, h2, h3⟩ := h.fam hf
  refine (C_order d h1).weak (fun x s2 n q => ?_)
  obtain ⟨rfl, rfl, q1, q2, q3, χ, q4, q5, q6⟩ := q
  refine ⟨rfl, F_li m χ, h.upF w hf q4 q3 h3 (by omega) (by omega) rfl, by rw [← h2]; exact q5.1, by rw [← h2, F_li_n, F_li_n], fun nd => ?_⟩
  rw [← h2] at nd
  have inj := q5.2 (F_li_inj nd)
  rw [List.pairwise_iff_getElem]
  intro i j hi hj hij
  rw [F_li_g, F_li_g]
  rw [F_li_n] at hi hj
  have n1 := q6 i j (by omega) (by omega) (by omega)
  rcases L_lt_tri (χ i) (χ j) with c | c | c
  · exact (L_lt_lx _ _).mp c
  · have := inj i j (by omega) (by omega) (by omega) (by omega) c
    omega
  · exact absurd c n1
theorem C_whl (d : Nat) {s : C_S} {pp : List Nat} {pl tr B : Nat} {G : G_t} {P : G_p} {ω : Nat → Nat} (hp : D_Pl s pp pl tr B G P ω) (B0 : 1280 ≤ B) (B1 : B ≤ 20000) : C_ok (d + 4) 55 [.ref pl] s (fun x s2 n => ∃ P2 G2 ω2, x = some (.ref (P2.2.2.2.1 0)) ∧ D_Pl s2 pp pl tr B G2 P2 ω2 ∧ D_cs pp s s2 ω ω2 n ∧ Pl_le P P2 ∧ P2.2.2.2.2.1 0 = true ∧ ∀ j, P.2.2.2.2.1 j = true → G_oth j G G2) := by
  refine C_enter (M := E_m55) rfl (Nat.le_of_ble_eq_true rfl) (fun h0 h hs => ?_)
  show B_R (d + 3) _ (0, [(0, .ref pl)], []) _ _ _
  have cs := D_cs.refl pp s ω
  refine Z_go (f2 := (1, [(0, .ref pl)], [.ref pl])) (fun _ => rfl) ?_
  refine Z_go (f2 := (2, [(0, .ref pl)], [.int (Zi 0), .ref pl])) (fun _ => rfl) ?_
  refine C_callV (As := [.int (Zi 0)]) (rest := []) rfl (by decide) rfl (by decide) rfl rfl (by decide +kernel) (Nat.le_of_ble_eq_true rfl) hs hp.1.1.1 (C_prt _ hp B0 B1 (l := 0) (lv := 0) (by omega) rfl) (fun x h v1 n1 hs q => ?_)
  obtain ⟨P1, G1, ω1, rfl, hp, cq, le1, th1, ot1⟩ := q
  have cs := cs.tr cq
  show B_R _ _ (5, [(0, .ref pl)], [.ref (P1.2.2.2.1 0)]) _ _ _
  refine C_aret rfl (by first | exact .inl ⟨_, rfl⟩ | exact .inr ⟨_, rfl⟩) ⟨_, hs, ?_⟩
  try dsimp only
  exact ⟨P1, G1, ω1, rfl, hp, cs, le1, th1, ot1⟩
/-- the whole that is wanted stands, its choices in order -/
def D_wh (B : Nat) (G : G_t) (v : P_V) : Prop := D_pv B G 0 v ∧ D_pu B G 0 v ∧ X_srt (G.2.1 2) (V_C v)
theorem D_pv.ord {B : Nat} {G : G_t} {v : P_V} {fam : List (List Int)} (h : D_pv B G 0 v) (hm : ∀ x, x ∈ fam ↔ x ∈ G.2.1 2) (hl : fam.length = (G.2.1 2).length) (hs : (G.2.1 2).Nodup → fam.Pairwise L_lx) (hu : G.2.2.2.2 0 = 1) : D_wh B (g_sf G 2 fam) v := by
  have u := h.u hu
  have e : (g_sf G 2 fam).2.1 2 = fam := (show g_up G.2.1 2 fam 2 = fam from g_up_s)
  obtain ⟨u1, u2, u3, u4, u5, u6, u7⟩ := u
  have hp := hs u5.1
  have nd : fam.Nodup := hp.imp (fun q e => by rw [e] at q; exact L_lx_irr _ q)
  have hu2 : D_pu B (g_sf G 2 fam) 0 v := by
    refine ⟨u1, u2, u3, u4, ?_, ?_, ?_⟩
    · show F_tel (V_C v) ((g_sf G 2 fam).2.1 2)
      rw [e]
      exact ⟨nd, fun c hc => u5.2.1 c ((hm c).mp hc), fun x => (hm x).trans (u5.2.2 x)⟩
    · show ((g_sf G 2 fam).2.1 2).length ≤ 24
      rw [e, hl]; exact u6
    · show ∀ c ∈ (g_sf G 2 fam).2.1 2, 2 * c.length ≤ B
      rw [e]; exact fun c hc => u7 c ((hm c).mp hc)
  refine ⟨?_, hu2, ?_⟩
  · match v, h, hu2 with
    | .inl A, h, hu2 => exact ⟨h.1, h.2.1, h.2.2.1, .inr ⟨hu, hu2⟩⟩
    | .inr q, h, hu2 => exact ⟨h.1, h.2.1, hu2⟩
  · rw [e]
    exact ⟨hp, fun x => ((hm x).trans (u5.2.2 x)).symm⟩
theorem C_plan (d : Nat) {s : C_S} {pp : List Nat} {pl tr B : Nat} {G : G_t} {P : G_p} {ω : Nat → Nat} {p2 : List Nat} {A2 : Nat → Nat} {m2 sm : Int} {τ : Nat → Int → Int} {β : Int → Int64} {t : P_T} (hp : D_Pl s pp pl tr B G P ω) (B0 : 1280 ≤ B) (B1 : B ≤ 20000) (htr : D_Tr s p2 tr A2 m2 sm τ β) (np : ¬ pp <+: p2) (hn : N_is τ (T_has β) sm 48 2 0 m2 0 t) (hby : T_by t ≤ 80) : C_ok (d + 200) 56 [.ref pl] s (fun x s2 n => x = none ∧ ∃ P2 G2 ω2, D_Pl s2 pp pl tr B G2 P2 ω2 ∧ D_cs pp s s2 ω ω2 n ∧ P2.2.2.2.2.1 0 = true ∧ D_wh B G2 (P_plan t)) := by
  refine C_enter (M := E_m56) rfl (Nat.le_of_ble_eq_true rfl) (fun h0 h hs => ?_)
  show B_R (d + 199) _ (0, [(0, .ref pl)], []) _ _ _
  have cs := D_cs.refl pp s ω
  have th380 : P.2.2.2.2.1 38 = true := hp.1.2.2.2.2
  have hs0 := hs
  obtain ⟨_, _, _, _, _, hm168, _, hsm⟩ := htr.1
  refine Z_go (f2 := (1, [(0, .ref pl)], [.ref pl])) (fun _ => rfl) ?_
  refine Z_go (f2 := (2, [(0, .ref pl)], [.ref pl, .ref pl])) (fun _ => rfl) ?_
  refine C_gr rfl hs hp.1.1.1 (by decide) (Nat.le_of_ble_eq_true rfl) rfl hp.1.1.2.2.2.2.2.2.2.2.2.2.2.2 ?_
  refine C_callV (As := [.ref (P.2.2.2.1 38)]) (rest := []) rfl (by decide) rfl (by decide) rfl rfl (by decide +kernel) (Nat.le_of_ble_eq_true rfl) hs hp.1.1.1 (C_nil _ hp B0 B1 (j := 38) (by omega) th380) (fun x h v0 n0 hs q => ?_)
  obtain ⟨rfl, G0, ⟨ω0, hp, cq⟩, hv0, ot0⟩ := q
  have cs := cs.tr cq
  have htv := htr.fr hs0.1 cs.2.2 np
  show B_R _ _ (8, [(0, .ref pl)], []) _ _ _
  refine Z_go (f2 := (9, [(0, .ref pl)], [.ref pl])) (fun _ => rfl) ?_
  refine Z_go (f2 := (10, [(0, .ref pl)], [.ref pl, .ref pl])) (fun _ => rfl) ?_
  refine C_gr rfl hs hp.1.1.1 (by decide) (Nat.le_of_ble_eq_true rfl) rfl hp.1.1.2.2.1 ?_
  refine C_callVR (As := []) (rest := [.ref pl]) rfl (by decide) rfl (by decide) rfl rfl (by decide +kernel) (Nat.le_of_ble_eq_true rfl) hs htv.1.1 (C_root _ htv) (fun x q => ?_)
  obtain rfl := q
  show B_R _ _ (16, [(0, .ref pl)], [.int (Zi 0), .ref pl]) _ _ _
  refine Z_go (f2 := (17, [(0, .ref pl)], [.int (Zi 0), .int (Zi 0), .ref pl])) (fun _ => rfl) ?_
  refine C_callV (As := [.int (Zi 0), .int (Zi 0)]) (rest := []) rfl (by decide) rfl (by decide) rfl rfl (by decide +kernel) (Nat.le_of_ble_eq_true rfl) hs hp.1.1.1 ((show W_BN (d + 199) 48 from C_work 48 (d + 94)) v0 pp pl tr B G0 P ω0 p2 A2 m2 sm τ β 2 0 m2 0 t 0 0 hp B0 B1 htv np hv0 hn (by omega) (by omega) hby (by rw [if_pos rfl]; omega) (by omega) rfl) (fun x h v1 n1 hs q => ?_)
  obtain ⟨rfl, P1, G1, ω1, hp, cq, le1, th1, hv, hn1, ot1⟩ := q
  have cs := cs.tr cq
  show B_R _ _ (20, [(0, .ref pl)], []) _ _ _
  refine Z_go (f2 := (21, [(0, .ref pl)], [.ref pl])) (fun _ => rfl) ?_
  refine Z_go (f2 := (22, [(0, .ref pl)], [.ref pl, .ref pl])) (fun _ => rfl) ?_
  refine C_callV (As := []) (rest := [.ref pl]) rfl (by decide) rfl (by decide) rfl rfl (by decide +kernel) (Nat.le_of_ble_eq_true rfl) hs hp.1.1.1 (C_whl _ hp B0 B1) (fun x h v2 n2 hs q => ?_)
  obtain ⟨P2, G2, ω2, rfl, hp, cq, le2, th2, ot2⟩ := q
  have cs := cs.tr cq
  have hv := hv.congr (ot2 0 th1)
  show B_R _ _ (25, [(0, .ref pl)], [.ref (P2.2.2.2.1 0), .ref pl]) _ _ _
  refine C_callV (As := [.ref (P2.2.2.2.1 0)]) (rest := []) rfl (by decide) rfl (by decide) rfl rfl (by decide +kernel) (Nat.le_of_ble_eq_true rfl) hs hp.1.1.1 (C_unf _ hp B0 B1 (j := 0) (by omega) th2 hv) (fun x h v3 n3 hs q => ?_)
  obtain ⟨rfl, G3, ⟨ω3, hp, cq⟩, hv, hu3, _⟩ := q
  have cs := cs.tr cq
  show B_R _ _ (28, [(0, .ref pl)], []) _ _ _
  refine Z_go (f2 := (29, [(0, .ref pl)], [.ref pl])) (fun _ => rfl) ?_
  refine C_callV (As := []) (rest := []) rfl (by decide) rfl (by decide) rfl rfl (by decide +kernel) (Nat.le_of_ble_eq_true rfl) hs hp.1.1.1 (C_whl _ hp B0 B1) (fun x h v4 n4 hs q => ?_)
  obtain ⟨P4, G4, ω4, rfl, hp, cq, le4, th4, ot4⟩ := q
  have cs := cs.tr cq
  have hv := hv.congr (ot4 0 th2)
  have hu4 := ((ot4 0 th2).2.2.2.2.2).trans hu3
  show B_R _ _ (32, [(0, .ref pl)], [.ref (P4.2.2.2.1 0)]) _ _ _
  refine C_gr rfl hs (hp.2.1 0 (by omega) th4).1 (by decide) (Nat.le_of_ble_eq_true rfl) rfl (hp.2.1 0 (by omega) th4).2.2.2.2.2.1 ?_
  refine C_callV (As := []) (rest := []) rfl (by decide) rfl (by decide) rfl rfl (by decide +kernel) (Nat.le_of_ble_eq_true rfl) hs (hp.fK (f := 2) (.inr ⟨by omega, th4⟩)) (o_order _ hp (f := 2) (.inr ⟨by omega, th4⟩) hs.1) (fun x h v5 n5 hs q => ?_)
  obtain ⟨rfl, fam, ⟨ω5, hp, cq⟩, fm, fl, fs⟩ := q
  have cs := cs.tr cq
  show B_R _ _ (38, [(0, .ref pl)], []) _ _ _
  refine Z_ret rfl rfl ⟨_, hs, ?_⟩
  try dsimp only
  exact ⟨rfl, P4, _, ω5, hp, cs, th4, hv.ord fm fl fs hu4⟩
