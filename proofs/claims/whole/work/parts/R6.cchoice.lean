/-! the class: choice, gram -/
theorem J_q.whl {G G2 : G_t} {P P2 : G_p} {Q : Option P_T} (h : J_q G P Q) (ot : ∀ j, P.2.2.2.2.1 j = true → G_oth j G G2) (hT : P2.2.2.2.2.1 0 = true) : J_q G2 P2 Q := by
  cases Q with
  | none => trivial
  | some t => exact ⟨hT, h.2.congr (ot 0 h.1)⟩
/-- what choice tells -/
def J_chz (Q : Option P_T) (c z : Int) : Prop := match Q with
  | none => z = -1
  | some t => ∃ L, X_srt L (V_C (P_plan t)) ∧ z = if c = -1 then (L.length : Int) else if 0 ≤ c ∧ c < L.length then ((X_at L c).length : Int) else -1
/-- what gram tells -/
def J_grz (Q : Option P_T) (c k z : Int) : Prop := match Q with
  | none => z = -1
  | some t => ∃ L, X_srt L (V_C (P_plan t)) ∧ z = if 0 ≤ c ∧ c < L.length then L_at (X_at L c) k else -1
theorem C_choice (d : Nat) {s : C_S} {g tb sh pa pl ma re : Nat} {X : List Int} {fs : Int → Option (List Int)} {ca th tg f0 pq0 : Int} {Q : Option P_T} {O : List Int} {H : List (List Int)} {n3 n4 n5 n6 : Int} {W : Nat} {c : Int} (hJ : J_c s g tb sh pa pl ma re X fs ca th tg f0 pq0 Q O H n3 n4 n5 n6 W) (h3 : 0 ≤ n3 ∧ n3 ≤ 1000000) (hQ3 : Q = none ↔ n3 = 0) (zc : Zr c) : C_ok (d + 6) 157 [.ref g, .int (Zi c)] s (fun x s2 n => (∃ W2, n + 2 * W ≤ 2 * W2 ∧ 8 * C_n s2 + W ≤ 8 * C_n s + W2 ∧ J_c s2 g tb sh pa pl ma re X fs ca th tg f0 pq0 Q O H n3 n4 n5 n6 W2) ∧ ∃ z : Int, x = some (.int (Zi z)) ∧ J_chz Q c z) := by
  refine C_enter (M := E_m157) rfl (Nat.le_of_ble_eq_true rfl) (fun h0 h hs => ?_)
  show B_R (d + 5) _ (0, [(0, .ref g), (1, .int (Zi c))], []) _ _ _
  have w := hs.1
  obtain ⟨ea, u, v, tr, A2, m2, sm, τ, β, G, P, ω, Am, ru, rv, hg, hby, hd, hq, htr, hzb, hp, hQ, hm, e0, hr, eW⟩ := hJ
  obtain ⟨gk, gt, g0, tk, tt, g2, g3, g4, g5, g6, gm, m0, m1⟩ := id hg
  have hps : D_ps s sh = D_ps s sh := rfl
  have hpr : D_pr s re = D_pr s re := rfl
  have z3 : Zr n3 := ⟨by omega, by omega⟩
  cases Q with
  | none =>
    have e3 : n3 = 0 := hQ3.mp rfl
    refine Z_go (f2 := (1, [(0, .ref g), (1, .int (Zi c))], [.ref g])) (fun _ => rfl) ?_
    refine C_gr rfl hs gk (by decide) (Nat.le_of_ble_eq_true rfl) rfl g6 ?_
    refine C_gi rfl hs hr.1.1 (by decide) (Nat.le_of_ble_eq_true rfl) rfl ?_
    rw [show C_F (s) re 3 = n3 from (by first | exact hr.1.2.2.2.2.2.1 | exact (if_neg (fun e => absurd e.1 (by assumption))).trans hr.1.2.2.2.2.2.1 | exact (if_neg (fun e => absurd e.2 (by decide))).trans hr.1.2.2.2.2.2.1 | exact (if_neg (fun e => absurd e.2 (by decide))).trans ((if_neg (fun e => absurd e.2 (by decide))).trans hr.1.2.2.2.2.2.1) | exact (if_neg (fun e => absurd e.2 (by decide))).trans ((if_neg (fun e => absurd e.2 (by decide))).trans ((if_neg (fun e => absurd e.2 (by decide))).trans hr.1.2.2.2.2.2.1)))]
    show B_R _ _ (7, [(0, .ref g), (1, .int (Zi c))], [.int (Zi n3)]) _ _ _
    refine Z_ine rfl rfl (by first | exact hs.zF _ _ | exact Zor_r _ _ | exact hs.zA _ _ | assumption | exact zA _ _ | exact zS _ | exact Zr_not (hs.zA _ _) | exact hs.1.1 _ _ | exact ⟨by omega, by omega⟩) (fun y1 => ?_) (fun y1 => ?_)
    · exfalso; omega
    · refine Z_go (f2 := (11, [(0, .ref g), (1, .int (Zi c))], [.int (Zi (-1))])) (fun _ => rfl) ?_
      refine Z_iret rfl rfl (by first | rfl | decide | exact narrow_b01 (by omega)) ⟨_, hs, ?_⟩
      try dsimp only
      exact ⟨⟨W, by omega, by omega, ea, u, v, tr, A2, m2, sm, τ, β, G, P, ω, Am, ru, rv, hg, hby, hd, hq, htr, hzb, hp, hQ, hm, e0, hr, eW⟩, -1, rfl, rfl⟩
  | some t =>
    have e3 : n3 ≠ 0 := fun e => by have := hQ3.mpr e; cases this
    refine Z_go (f2 := (1, [(0, .ref g), (1, .int (Zi c))], [.ref g])) (fun _ => rfl) ?_
    refine C_gr rfl hs gk (by decide) (Nat.le_of_ble_eq_true rfl) rfl g6 ?_
    refine C_gi rfl hs hr.1.1 (by decide) (Nat.le_of_ble_eq_true rfl) rfl ?_
    rw [show C_F (s) re 3 = n3 from (by first | exact hr.1.2.2.2.2.2.1 | exact (if_neg (fun e => absurd e.1 (by assumption))).trans hr.1.2.2.2.2.2.1 | exact (if_neg (fun e => absurd e.2 (by decide))).trans hr.1.2.2.2.2.2.1 | exact (if_neg (fun e => absurd e.2 (by decide))).trans ((if_neg (fun e => absurd e.2 (by decide))).trans hr.1.2.2.2.2.2.1) | exact (if_neg (fun e => absurd e.2 (by decide))).trans ((if_neg (fun e => absurd e.2 (by decide))).trans ((if_neg (fun e => absurd e.2 (by decide))).trans hr.1.2.2.2.2.2.1)))]
    show B_R _ _ (7, [(0, .ref g), (1, .int (Zi c))], [.int (Zi n3)]) _ _ _
    refine Z_ine rfl rfl (by first | exact hs.zF _ _ | exact Zor_r _ _ | exact hs.zA _ _ | assumption | exact zA _ _ | exact zS _ | exact Zr_not (hs.zA _ _) | exact hs.1.1 _ _ | exact ⟨by omega, by omega⟩) (fun y1 => ?_) (fun y1 => ?_)
    · refine Z_go (f2 := (13, [(0, .ref g), (1, .int (Zi c))], [.ref g])) (fun _ => rfl) ?_
      refine C_gr rfl hs gk (by decide) (Nat.le_of_ble_eq_true rfl) rfl g4 ?_
      refine C_callV (As := []) (rest := []) rfl (by decide) rfl (by decide) rfl rfl (by decide +kernel) (Nat.le_of_ble_eq_true rfl) hs hp.1.1.1 (C_whl _ hp (by omega) (by omega)) (fun x h v1 k1 hs q => ?_)
      obtain ⟨P1, G1, ω1, rfl, hp, cq, le1, hT1, ot1⟩ := q
      have pf := cq.2.2
      have hQ := hQ.whl ot1 hT1
      have hby := hby.fr w pf (by rw [tt]; exact L_pr0)
      have hg := hg.fr w pf L_pr0
      have hdx := hd.fr w pf (fun t h e => by have := L_pr1 h e; omega)
      obtain ⟨hd, eps⟩ := hdx
      have hps := eps.trans hps
      have hq := hq.fr w pf (fun e => by have := L_pr1 (a := 2) (L_pre_self _) e; omega)
      have htr := htr.fr w pf (fun e => by have := L_pr1 (a := 2) ⟨[tr], rfl⟩ e; omega)
      have e0 : C_P _ ma 0 = some tr := (D_M0.p0 hm w pf (fun e => by have := L_pr1 (a := 4) (L_pre_self _) e; omega)).trans e0
      have hm := hm.fr w pf (fun e => by have := L_pr1 (a := 4) (L_pre_self _) e; omega)
      have hrx := hr.fr w pf (fun t h e => by have := L_pr1 h e; omega)
      obtain ⟨hr, epr⟩ := hrx
      have hpr := epr.trans hpr
      obtain ⟨gk, gt, g0, tk, tt, g2, g3, g4, g5, g6, gm, m0, m1⟩ := id hg
      have lF := (hp.fL (f := 2) (.inr ⟨by omega, hT1⟩)).1
      have lF24 : (G1.2.1 2).length ≤ 24 := by unfold Pl_R at lF; exact lF
      have zlF : Zr ((G1.2.1 2).length : Int) := ⟨by omega, by omega⟩
      show B_R _ _ (19, [(0, .ref g), (1, .int (Zi c))], [.ref (P1.2.2.2.1 0)]) _ _ _
      refine C_gr rfl hs (hp.2.1 0 (by omega) hT1).1 (by decide) (Nat.le_of_ble_eq_true rfl) rfl (hp.2.1 0 (by omega) hT1).2.2.2.2.2.1 ?_
      refine Z_go (f2 := (23, [(2, .ref (P1.2.1 2)), (0, .ref g), (1, .int (Zi c))], [])) (fun _ => rfl) ?_
      refine Z_go (f2 := (24, [(2, .ref (P1.2.1 2)), (0, .ref g), (1, .int (Zi c))], [.int (Zi c)])) (fun _ => rfl) ?_
      refine Z_go (f2 := (25, [(2, .ref (P1.2.1 2)), (0, .ref g), (1, .int (Zi c))], [.int (Zi (-1)), .int (Zi c)])) (fun _ => rfl) ?_
      refine Z_cne rfl rfl (by first | exact hs.zF _ _ | exact Zor_r _ _ | exact hs.zA _ _ | assumption | exact zA _ _ | exact zS _ | exact Zr_not (hs.zA _ _) | exact hs.1.1 _ _ | exact ⟨by omega, by omega⟩) (by first | exact hs.zF _ _ | exact Zor_r _ _ | exact hs.zA _ _ | assumption | exact zA _ _ | exact zS _ | exact Zr_not (hs.zA _ _) | exact hs.1.1 _ _ | exact ⟨by omega, by omega⟩) (fun y2 => ?_) (fun y2 => ?_)
      · refine Z_go (f2 := (34, [(2, .ref (P1.2.1 2)), (0, .ref g), (1, .int (Zi c))], [.int (Zi c)])) (fun _ => rfl) ?_
        refine Z_ilt rfl rfl (by first | exact hs.zF _ _ | exact Zor_r _ _ | exact hs.zA _ _ | assumption | exact zA _ _ | exact zS _ | exact Zr_not (hs.zA _ _) | exact hs.1.1 _ _ | exact ⟨by omega, by omega⟩) (fun y3 => ?_) (fun y3 => ?_)
        · refine Z_go (f2 := (46, [(2, .ref (P1.2.1 2)), (0, .ref g), (1, .int (Zi c))], [.int (Zi (-1))])) (fun _ => rfl) ?_
          refine Z_go (f2 := (57, [(2, .ref (P1.2.1 2)), (0, .ref g), (1, .int (Zi c))], [.int (Zi (-1))])) (fun _ => rfl) ?_
          refine Z_iret rfl rfl (by first | rfl | decide | exact narrow_b01 (by omega)) ⟨_, hs, ?_⟩
          try dsimp only
          exact ⟨⟨Pl_w ω1 + D_ps v1 sh + D_pr v1 re, by have := cq.1; omega, by have := cq.2.1; omega, ea, u, v, tr, A2, m2, sm, τ, β, G1, P1, ω1, Am, ru, rv, hg, hby, hd, hq, htr, hzb, hp, hQ, hm, e0, hr, rfl⟩, _, rfl, G1.2.1 2, hQ.2.2.2, by rw [if_neg (by omega), if_neg (by omega)]⟩
        · refine Z_go (f2 := (38, [(2, .ref (P1.2.1 2)), (0, .ref g), (1, .int (Zi c))], [.int (Zi c)])) (fun _ => rfl) ?_
          refine Z_go (f2 := (39, [(2, .ref (P1.2.1 2)), (0, .ref g), (1, .int (Zi c))], [.ref (P1.2.1 2), .int (Zi c)])) (fun _ => rfl) ?_
          refine C_gi rfl hs (hp.fK (f := 2) (.inr ⟨by omega, hT1⟩)) (by decide) (Nat.le_of_ble_eq_true rfl) rfl ?_
          rw [show C_F (v1) (P1.2.1 2) 2 = ((G1.2.1 2).length : Int) from (by first | exact (hp.fF (f := 2) (.inr ⟨by omega, hT1⟩)) | exact (if_neg (fun e => absurd e.1 (by assumption))).trans (hp.fF (f := 2) (.inr ⟨by omega, hT1⟩)) | exact (if_neg (fun e => absurd e.2 (by decide))).trans (hp.fF (f := 2) (.inr ⟨by omega, hT1⟩)) | exact (if_neg (fun e => absurd e.2 (by decide))).trans ((if_neg (fun e => absurd e.2 (by decide))).trans (hp.fF (f := 2) (.inr ⟨by omega, hT1⟩))) | exact (if_neg (fun e => absurd e.2 (by decide))).trans ((if_neg (fun e => absurd e.2 (by decide))).trans ((if_neg (fun e => absurd e.2 (by decide))).trans (hp.fF (f := 2) (.inr ⟨by omega, hT1⟩)))))]
          show B_R _ _ (42, [(2, .ref (P1.2.1 2)), (0, .ref g), (1, .int (Zi c))], [.int (Zi (((G1.2.1 2).length : Int))), .int (Zi c)]) _ _ _
          refine Z_clt rfl rfl (by first | exact hs.zF _ _ | exact Zor_r _ _ | exact hs.zA _ _ | assumption | exact zA _ _ | exact zS _ | exact Zr_not (hs.zA _ _) | exact hs.1.1 _ _ | exact ⟨by omega, by omega⟩) (by first | exact hs.zF _ _ | exact Zor_r _ _ | exact hs.zA _ _ | assumption | exact zA _ _ | exact zS _ | exact Zr_not (hs.zA _ _) | exact hs.1.1 _ _ | exact ⟨by omega, by omega⟩) (fun y4 => ?_) (fun y4 => ?_)
          · refine Z_go (f2 := (50, [(2, .ref (P1.2.1 2)), (0, .ref g), (1, .int (Zi c))], [.ref (P1.2.1 2)])) (fun _ => rfl) ?_
            refine Z_go (f2 := (51, [(2, .ref (P1.2.1 2)), (0, .ref g), (1, .int (Zi c))], [.int (Zi c), .ref (P1.2.1 2)])) (fun _ => rfl) ?_
            refine C_callVR (As := [.int (Zi c)]) (rest := []) rfl (by decide) rfl (by decide) rfl rfl (by decide +kernel) (Nat.le_of_ble_eq_true rfl) hs (hp.fK (f := 2) (.inr ⟨by omega, hT1⟩)) (o_frow _ hp (f := 2) (.inr ⟨by omega, hT1⟩) (i := c) (by omega) (by omega)) (fun x q => ?_)
            obtain ⟨r9, a9, cap9, rfl, hr9⟩ := q
            show B_R _ _ (54, [(2, .ref (P1.2.1 2)), (0, .ref g), (1, .int (Zi c))], [.ref r9]) _ _ _
            refine C_gi rfl hs hr9.1 (by decide) (Nat.le_of_ble_eq_true rfl) rfl ?_
            rw [show C_F (v1) r9 1 = ((X_at (G1.2.1 2) c).length : Int) from (by first | exact hr9.2.2.2.2.2.1 | exact (if_neg (fun e => absurd e.1 (by assumption))).trans hr9.2.2.2.2.2.1 | exact (if_neg (fun e => absurd e.2 (by decide))).trans hr9.2.2.2.2.2.1 | exact (if_neg (fun e => absurd e.2 (by decide))).trans ((if_neg (fun e => absurd e.2 (by decide))).trans hr9.2.2.2.2.2.1) | exact (if_neg (fun e => absurd e.2 (by decide))).trans ((if_neg (fun e => absurd e.2 (by decide))).trans ((if_neg (fun e => absurd e.2 (by decide))).trans hr9.2.2.2.2.2.1)))]
            show B_R _ _ (57, [(2, .ref (P1.2.1 2)), (0, .ref g), (1, .int (Zi c))], [.int (Zi (((X_at (G1.2.1 2) c).length : Int)))]) _ _ _
            refine Z_iret rfl rfl (by first | rfl | decide | exact narrow_b01 (by omega)) ⟨_, hs, ?_⟩
            try dsimp only
            exact ⟨⟨Pl_w ω1 + D_ps v1 sh + D_pr v1 re, by have := cq.1; omega, by have := cq.2.1; omega, ea, u, v, tr, A2, m2, sm, τ, β, G1, P1, ω1, Am, ru, rv, hg, hby, hd, hq, htr, hzb, hp, hQ, hm, e0, hr, rfl⟩, _, rfl, G1.2.1 2, hQ.2.2.2, by rw [if_neg (by omega), if_pos (by omega)]⟩
          · refine Z_go (f2 := (46, [(2, .ref (P1.2.1 2)), (0, .ref g), (1, .int (Zi c))], [.int (Zi (-1))])) (fun _ => rfl) ?_
            refine Z_go (f2 := (57, [(2, .ref (P1.2.1 2)), (0, .ref g), (1, .int (Zi c))], [.int (Zi (-1))])) (fun _ => rfl) ?_
            refine Z_iret rfl rfl (by first | rfl | decide | exact narrow_b01 (by omega)) ⟨_, hs, ?_⟩
            try dsimp only
            exact ⟨⟨Pl_w ω1 + D_ps v1 sh + D_pr v1 re, by have := cq.1; omega, by have := cq.2.1; omega, ea, u, v, tr, A2, m2, sm, τ, β, G1, P1, ω1, Am, ru, rv, hg, hby, hd, hq, htr, hzb, hp, hQ, hm, e0, hr, rfl⟩, _, rfl, G1.2.1 2, hQ.2.2.2, by rw [if_neg (by omega), if_neg (by omega)]⟩
      · refine Z_go (f2 := (29, [(2, .ref (P1.2.1 2)), (0, .ref g), (1, .int (Zi c))], [.ref (P1.2.1 2)])) (fun _ => rfl) ?_
        refine C_gi rfl hs (hp.fK (f := 2) (.inr ⟨by omega, hT1⟩)) (by decide) (Nat.le_of_ble_eq_true rfl) rfl ?_
        rw [show C_F (v1) (P1.2.1 2) 2 = ((G1.2.1 2).length : Int) from (by first | exact (hp.fF (f := 2) (.inr ⟨by omega, hT1⟩)) | exact (if_neg (fun e => absurd e.1 (by assumption))).trans (hp.fF (f := 2) (.inr ⟨by omega, hT1⟩)) | exact (if_neg (fun e => absurd e.2 (by decide))).trans (hp.fF (f := 2) (.inr ⟨by omega, hT1⟩)) | exact (if_neg (fun e => absurd e.2 (by decide))).trans ((if_neg (fun e => absurd e.2 (by decide))).trans (hp.fF (f := 2) (.inr ⟨by omega, hT1⟩))) | exact (if_neg (fun e => absurd e.2 (by decide))).trans ((if_neg (fun e => absurd e.2 (by decide))).trans ((if_neg (fun e => absurd e.2 (by decide))).trans (hp.fF (f := 2) (.inr ⟨by omega, hT1⟩)))))]
        show B_R _ _ (32, [(2, .ref (P1.2.1 2)), (0, .ref g), (1, .int (Zi c))], [.int (Zi (((G1.2.1 2).length : Int)))]) _ _ _
        refine Z_iret rfl rfl (by first | rfl | decide | exact narrow_b01 (by omega)) ⟨_, hs, ?_⟩
        try dsimp only
        exact ⟨⟨Pl_w ω1 + D_ps v1 sh + D_pr v1 re, by have := cq.1; omega, by have := cq.2.1; omega, ea, u, v, tr, A2, m2, sm, τ, β, G1, P1, ω1, Am, ru, rv, hg, hby, hd, hq, htr, hzb, hp, hQ, hm, e0, hr, rfl⟩, _, rfl, G1.2.1 2, hQ.2.2.2, by rw [if_pos (by omega)]⟩
    · exfalso; omega
theorem C_gram (d : Nat) {s : C_S} {g tb sh pa pl ma re : Nat} {X : List Int} {fs : Int → Option (List Int)} {ca th tg f0 pq0 : Int} {Q : Option P_T} {O : List Int} {H : List (List Int)} {n3 n4 n5 n6 : Int} {W : Nat} {c k : Int} (hJ : J_c s g tb sh pa pl ma re X fs ca th tg f0 pq0 Q O H n3 n4 n5 n6 W) (h3 : 0 ≤ n3 ∧ n3 ≤ 1000000) (hQ3 : Q = none ↔ n3 = 0) (zc : Zr c) (zk : Zr k) : C_ok (d + 6) 158 [.ref g, .int (Zi c), .int (Zi k)] s (fun x s2 n => (∃ W2, n + 2 * W ≤ 2 * W2 ∧ 8 * C_n s2 + W ≤ 8 * C_n s + W2 ∧ J_c s2 g tb sh pa pl ma re X fs ca th tg f0 pq0 Q O H n3 n4 n5 n6 W2) ∧ ∃ z : Int, x = some (.int (Zi z)) ∧ J_grz Q c k z) := by
  refine C_enter (M := E_m158) rfl (Nat.le_of_ble_eq_true rfl) (fun h0 h hs => ?_)
  show B_R (d + 5) _ (0, [(0, .ref g), (1, .int (Zi c)), (2, .int (Zi k))], []) _ _ _
  have w := hs.1
  obtain ⟨ea, u, v, tr, A2, m2, sm, τ, β, G, P, ω, Am, ru, rv, hg, hby, hd, hq, htr, hzb, hp, hQ, hm, e0, hr, eW⟩ := hJ
  obtain ⟨gk, gt, g0, tk, tt, g2, g3, g4, g5, g6, gm, m0, m1⟩ := id hg
  have hps : D_ps s sh = D_ps s sh := rfl
  have hpr : D_pr s re = D_pr s re := rfl
  have z3 : Zr n3 := ⟨by omega, by omega⟩
  cases Q with
  | none =>
    have e3 : n3 = 0 := hQ3.mp rfl
    refine Z_go (f2 := (1, [(0, .ref g), (1, .int (Zi c)), (2, .int (Zi k))], [.ref g])) (fun _ => rfl) ?_
    refine C_gr rfl hs gk (by decide) (Nat.le_of_ble_eq_true rfl) rfl g4 ?_
    refine C_callV (As := []) (rest := []) rfl (by decide) rfl (by decide) rfl rfl (by decide +kernel) (Nat.le_of_ble_eq_true rfl) hs hp.1.1.1 (C_whl _ hp (by omega) (by omega)) (fun x h v1 k1 hs q => ?_)
    obtain ⟨P1, G1, ω1, rfl, hp, cq, le1, hT1, ot1⟩ := q
    have pf := cq.2.2
    have hQ := hQ.whl ot1 hT1
    have hby := hby.fr w pf (by rw [tt]; exact L_pr0)
    have hg := hg.fr w pf L_pr0
    have hdx := hd.fr w pf (fun t h e => by have := L_pr1 h e; omega)
    obtain ⟨hd, eps⟩ := hdx
    have hps := eps.trans hps
    have hq := hq.fr w pf (fun e => by have := L_pr1 (a := 2) (L_pre_self _) e; omega)
    have htr := htr.fr w pf (fun e => by have := L_pr1 (a := 2) ⟨[tr], rfl⟩ e; omega)
    have e0 : C_P _ ma 0 = some tr := (D_M0.p0 hm w pf (fun e => by have := L_pr1 (a := 4) (L_pre_self _) e; omega)).trans e0
    have hm := hm.fr w pf (fun e => by have := L_pr1 (a := 4) (L_pre_self _) e; omega)
    have hrx := hr.fr w pf (fun t h e => by have := L_pr1 h e; omega)
    obtain ⟨hr, epr⟩ := hrx
    have hpr := epr.trans hpr
    obtain ⟨gk, gt, g0, tk, tt, g2, g3, g4, g5, g6, gm, m0, m1⟩ := id hg
    have lF := (hp.fL (f := 2) (.inr ⟨by omega, hT1⟩)).1
    have lF24 : (G1.2.1 2).length ≤ 24 := by unfold Pl_R at lF; exact lF
    have zlF : Zr ((G1.2.1 2).length : Int) := ⟨by omega, by omega⟩
    show B_R _ _ (7, [(0, .ref g), (1, .int (Zi c)), (2, .int (Zi k))], [.ref (P1.2.2.2.1 0)]) _ _ _
    refine C_gr rfl hs (hp.2.1 0 (by omega) hT1).1 (by decide) (Nat.le_of_ble_eq_true rfl) rfl (hp.2.1 0 (by omega) hT1).2.2.2.2.2.1 ?_
    refine Z_go (f2 := (11, [(3, .ref (P1.2.1 2)), (0, .ref g), (1, .int (Zi c)), (2, .int (Zi k))], [])) (fun _ => rfl) ?_
    refine Z_go (f2 := (12, [(3, .ref (P1.2.1 2)), (0, .ref g), (1, .int (Zi c)), (2, .int (Zi k))], [.ref g])) (fun _ => rfl) ?_
    refine C_gr rfl hs gk (by decide) (Nat.le_of_ble_eq_true rfl) rfl g6 ?_
    refine C_gi rfl hs hr.1.1 (by decide) (Nat.le_of_ble_eq_true rfl) rfl ?_
    rw [show C_F (v1) re 3 = n3 from (by first | exact hr.1.2.2.2.2.2.1 | exact (if_neg (fun e => absurd e.1 (by assumption))).trans hr.1.2.2.2.2.2.1 | exact (if_neg (fun e => absurd e.2 (by decide))).trans hr.1.2.2.2.2.2.1 | exact (if_neg (fun e => absurd e.2 (by decide))).trans ((if_neg (fun e => absurd e.2 (by decide))).trans hr.1.2.2.2.2.2.1) | exact (if_neg (fun e => absurd e.2 (by decide))).trans ((if_neg (fun e => absurd e.2 (by decide))).trans ((if_neg (fun e => absurd e.2 (by decide))).trans hr.1.2.2.2.2.2.1)))]
    show B_R _ _ (18, [(3, .ref (P1.2.1 2)), (0, .ref g), (1, .int (Zi c)), (2, .int (Zi k))], [.int (Zi n3)]) _ _ _
    refine Z_ieq rfl rfl (by first | exact hs.zF _ _ | exact Zor_r _ _ | exact hs.zA _ _ | assumption | exact zA _ _ | exact zS _ | exact Zr_not (hs.zA _ _) | exact hs.1.1 _ _ | exact ⟨by omega, by omega⟩) (fun y1 => ?_) (fun y1 => ?_)
    · refine Z_go (f2 := (34, [(3, .ref (P1.2.1 2)), (0, .ref g), (1, .int (Zi c)), (2, .int (Zi k))], [.int (Zi (-1))])) (fun _ => rfl) ?_
      refine Z_iret rfl rfl (by first | rfl | decide | exact narrow_b01 (by omega)) ⟨_, hs, ?_⟩
      try dsimp only
      exact ⟨⟨Pl_w ω1 + D_ps v1 sh + D_pr v1 re, by have := cq.1; omega, by have := cq.2.1; omega, ea, u, v, tr, A2, m2, sm, τ, β, G1, P1, ω1, Am, ru, rv, hg, hby, hd, hq, htr, hzb, hp, hQ, hm, e0, hr, rfl⟩, -1, rfl, rfl⟩
    · exfalso; omega
  | some t =>
    have e3 : n3 ≠ 0 := fun e => by have := hQ3.mpr e; cases this
    refine Z_go (f2 := (1, [(0, .ref g), (1, .int (Zi c)), (2, .int (Zi k))], [.ref g])) (fun _ => rfl) ?_
    refine C_gr rfl hs gk (by decide) (Nat.le_of_ble_eq_true rfl) rfl g4 ?_
    refine C_callV (As := []) (rest := []) rfl (by decide) rfl (by decide) rfl rfl (by decide +kernel) (Nat.le_of_ble_eq_true rfl) hs hp.1.1.1 (C_whl _ hp (by omega) (by omega)) (fun x h v1 k1 hs q => ?_)
    obtain ⟨P1, G1, ω1, rfl, hp, cq, le1, hT1, ot1⟩ := q
    have pf := cq.2.2
    have hQ := hQ.whl ot1 hT1
    have hby := hby.fr w pf (by rw [tt]; exact L_pr0)
    have hg := hg.fr w pf L_pr0
    have hdx := hd.fr w pf (fun t h e => by have := L_pr1 h e; omega)
    obtain ⟨hd, eps⟩ := hdx
    have hps := eps.trans hps
    have hq := hq.fr w pf (fun e => by have := L_pr1 (a := 2) (L_pre_self _) e; omega)
    have htr := htr.fr w pf (fun e => by have := L_pr1 (a := 2) ⟨[tr], rfl⟩ e; omega)
    have e0 : C_P _ ma 0 = some tr := (D_M0.p0 hm w pf (fun e => by have := L_pr1 (a := 4) (L_pre_self _) e; omega)).trans e0
    have hm := hm.fr w pf (fun e => by have := L_pr1 (a := 4) (L_pre_self _) e; omega)
    have hrx := hr.fr w pf (fun t h e => by have := L_pr1 h e; omega)
    obtain ⟨hr, epr⟩ := hrx
    have hpr := epr.trans hpr
    obtain ⟨gk, gt, g0, tk, tt, g2, g3, g4, g5, g6, gm, m0, m1⟩ := id hg
    have lF := (hp.fL (f := 2) (.inr ⟨by omega, hT1⟩)).1
    have lF24 : (G1.2.1 2).length ≤ 24 := by unfold Pl_R at lF; exact lF
    have zlF : Zr ((G1.2.1 2).length : Int) := ⟨by omega, by omega⟩
    show B_R _ _ (7, [(0, .ref g), (1, .int (Zi c)), (2, .int (Zi k))], [.ref (P1.2.2.2.1 0)]) _ _ _
    refine C_gr rfl hs (hp.2.1 0 (by omega) hT1).1 (by decide) (Nat.le_of_ble_eq_true rfl) rfl (hp.2.1 0 (by omega) hT1).2.2.2.2.2.1 ?_
    refine Z_go (f2 := (11, [(3, .ref (P1.2.1 2)), (0, .ref g), (1, .int (Zi c)), (2, .int (Zi k))], [])) (fun _ => rfl) ?_
    refine Z_go (f2 := (12, [(3, .ref (P1.2.1 2)), (0, .ref g), (1, .int (Zi c)), (2, .int (Zi k))], [.ref g])) (fun _ => rfl) ?_
    refine C_gr rfl hs gk (by decide) (Nat.le_of_ble_eq_true rfl) rfl g6 ?_
    refine C_gi rfl hs hr.1.1 (by decide) (Nat.le_of_ble_eq_true rfl) rfl ?_
    rw [show C_F (v1) re 3 = n3 from (by first | exact hr.1.2.2.2.2.2.1 | exact (if_neg (fun e => absurd e.1 (by assumption))).trans hr.1.2.2.2.2.2.1 | exact (if_neg (fun e => absurd e.2 (by decide))).trans hr.1.2.2.2.2.2.1 | exact (if_neg (fun e => absurd e.2 (by decide))).trans ((if_neg (fun e => absurd e.2 (by decide))).trans hr.1.2.2.2.2.2.1) | exact (if_neg (fun e => absurd e.2 (by decide))).trans ((if_neg (fun e => absurd e.2 (by decide))).trans ((if_neg (fun e => absurd e.2 (by decide))).trans hr.1.2.2.2.2.2.1)))]
    show B_R _ _ (18, [(3, .ref (P1.2.1 2)), (0, .ref g), (1, .int (Zi c)), (2, .int (Zi k))], [.int (Zi n3)]) _ _ _
    refine Z_ieq rfl rfl (by first | exact hs.zF _ _ | exact Zor_r _ _ | exact hs.zA _ _ | assumption | exact zA _ _ | exact zS _ | exact Zr_not (hs.zA _ _) | exact hs.1.1 _ _ | exact ⟨by omega, by omega⟩) (fun y1 => ?_) (fun y1 => ?_)
    · exfalso; omega
    · refine Z_go (f2 := (22, [(3, .ref (P1.2.1 2)), (0, .ref g), (1, .int (Zi c)), (2, .int (Zi k))], [.int (Zi c)])) (fun _ => rfl) ?_
      refine Z_ilt rfl rfl (by first | exact hs.zF _ _ | exact Zor_r _ _ | exact hs.zA _ _ | assumption | exact zA _ _ | exact zS _ | exact Zr_not (hs.zA _ _) | exact hs.1.1 _ _ | exact ⟨by omega, by omega⟩) (fun y2 => ?_) (fun y2 => ?_)
      · refine Z_go (f2 := (34, [(3, .ref (P1.2.1 2)), (0, .ref g), (1, .int (Zi c)), (2, .int (Zi k))], [.int (Zi (-1))])) (fun _ => rfl) ?_
        refine Z_iret rfl rfl (by first | rfl | decide | exact narrow_b01 (by omega)) ⟨_, hs, ?_⟩
        try dsimp only
        exact ⟨⟨Pl_w ω1 + D_ps v1 sh + D_pr v1 re, by have := cq.1; omega, by have := cq.2.1; omega, ea, u, v, tr, A2, m2, sm, τ, β, G1, P1, ω1, Am, ru, rv, hg, hby, hd, hq, htr, hzb, hp, hQ, hm, e0, hr, rfl⟩, _, rfl, G1.2.1 2, hQ.2.2.2, by rw [if_neg (by omega)]⟩
      · refine Z_go (f2 := (26, [(3, .ref (P1.2.1 2)), (0, .ref g), (1, .int (Zi c)), (2, .int (Zi k))], [.int (Zi c)])) (fun _ => rfl) ?_
        refine Z_go (f2 := (27, [(3, .ref (P1.2.1 2)), (0, .ref g), (1, .int (Zi c)), (2, .int (Zi k))], [.ref (P1.2.1 2), .int (Zi c)])) (fun _ => rfl) ?_
        refine C_gi rfl hs (hp.fK (f := 2) (.inr ⟨by omega, hT1⟩)) (by decide) (Nat.le_of_ble_eq_true rfl) rfl ?_
        rw [show C_F (v1) (P1.2.1 2) 2 = ((G1.2.1 2).length : Int) from (by first | exact (hp.fF (f := 2) (.inr ⟨by omega, hT1⟩)) | exact (if_neg (fun e => absurd e.1 (by assumption))).trans (hp.fF (f := 2) (.inr ⟨by omega, hT1⟩)) | exact (if_neg (fun e => absurd e.2 (by decide))).trans (hp.fF (f := 2) (.inr ⟨by omega, hT1⟩)) | exact (if_neg (fun e => absurd e.2 (by decide))).trans ((if_neg (fun e => absurd e.2 (by decide))).trans (hp.fF (f := 2) (.inr ⟨by omega, hT1⟩))) | exact (if_neg (fun e => absurd e.2 (by decide))).trans ((if_neg (fun e => absurd e.2 (by decide))).trans ((if_neg (fun e => absurd e.2 (by decide))).trans (hp.fF (f := 2) (.inr ⟨by omega, hT1⟩)))))]
        show B_R _ _ (30, [(3, .ref (P1.2.1 2)), (0, .ref g), (1, .int (Zi c)), (2, .int (Zi k))], [.int (Zi (((G1.2.1 2).length : Int))), .int (Zi c)]) _ _ _
        refine Z_clt rfl rfl (by first | exact hs.zF _ _ | exact Zor_r _ _ | exact hs.zA _ _ | assumption | exact zA _ _ | exact zS _ | exact Zr_not (hs.zA _ _) | exact hs.1.1 _ _ | exact ⟨by omega, by omega⟩) (by first | exact hs.zF _ _ | exact Zor_r _ _ | exact hs.zA _ _ | assumption | exact zA _ _ | exact zS _ | exact Zr_not (hs.zA _ _) | exact hs.1.1 _ _ | exact ⟨by omega, by omega⟩) (fun y3 => ?_) (fun y3 => ?_)
        · refine Z_go (f2 := (36, [(3, .ref (P1.2.1 2)), (0, .ref g), (1, .int (Zi c)), (2, .int (Zi k))], [.ref (P1.2.1 2)])) (fun _ => rfl) ?_
          refine Z_go (f2 := (37, [(3, .ref (P1.2.1 2)), (0, .ref g), (1, .int (Zi c)), (2, .int (Zi k))], [.int (Zi c), .ref (P1.2.1 2)])) (fun _ => rfl) ?_
          refine C_callVR (As := [.int (Zi c)]) (rest := []) rfl (by decide) rfl (by decide) rfl rfl (by decide +kernel) (Nat.le_of_ble_eq_true rfl) hs (hp.fK (f := 2) (.inr ⟨by omega, hT1⟩)) (o_frow _ hp (f := 2) (.inr ⟨by omega, hT1⟩) (i := c) (by omega) (by omega)) (fun x q => ?_)
          obtain ⟨r9, a9, cap9, rfl, hr9⟩ := q
          show B_R _ _ (40, [(3, .ref (P1.2.1 2)), (0, .ref g), (1, .int (Zi c)), (2, .int (Zi k))], [.ref r9]) _ _ _
          refine Z_go (f2 := (41, [(3, .ref (P1.2.1 2)), (0, .ref g), (1, .int (Zi c)), (2, .int (Zi k))], [.int (Zi k), .ref r9])) (fun _ => rfl) ?_
          refine C_callVR (As := [.int (Zi k)]) (rest := []) rfl (by decide) rfl (by decide) rfl rfl (by decide +kernel) (Nat.le_of_ble_eq_true rfl) hs hr9.1 (C_at_ _ hr9 zk) (fun x q => ?_)
          obtain rfl := q
          show B_R _ _ (44, [(3, .ref (P1.2.1 2)), (0, .ref g), (1, .int (Zi c)), (2, .int (Zi k))], [.int (Zi (L_at (X_at (G1.2.1 2) c) k))]) _ _ _
          refine Z_iret rfl rfl (by first | rfl | decide | exact narrow_b01 (by omega)) ⟨_, hs, ?_⟩
          try dsimp only
          exact ⟨⟨Pl_w ω1 + D_ps v1 sh + D_pr v1 re, by have := cq.1; omega, by have := cq.2.1; omega, ea, u, v, tr, A2, m2, sm, τ, β, G1, P1, ω1, Am, ru, rv, hg, hby, hd, hq, htr, hzb, hp, hQ, hm, e0, hr, rfl⟩, _, rfl, G1.2.1 2, hQ.2.2.2, by rw [if_pos (by omega)]⟩
        · refine Z_go (f2 := (34, [(3, .ref (P1.2.1 2)), (0, .ref g), (1, .int (Zi c)), (2, .int (Zi k))], [.int (Zi (-1))])) (fun _ => rfl) ?_
          refine Z_iret rfl rfl (by first | rfl | decide | exact narrow_b01 (by omega)) ⟨_, hs, ?_⟩
          try dsimp only
          exact ⟨⟨Pl_w ω1 + D_ps v1 sh + D_pr v1 re, by have := cq.1; omega, by have := cq.2.1; omega, ea, u, v, tr, A2, m2, sm, τ, β, G1, P1, ω1, Am, ru, rv, hg, hby, hd, hq, htr, hzb, hp, hQ, hm, e0, hr, rfl⟩, _, rfl, G1.2.1 2, hQ.2.2.2, by rw [if_neg (by omega)]⟩
