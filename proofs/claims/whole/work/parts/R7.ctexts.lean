/-! the class: texts, text -/
theorem K_lt_lx {t u : List Int} (h : L_by2 t) (g : L_by2 u) (e : K_ky t < K_ky u) : L_lx t u := by
  rcases L_by2_cases h with rfl | ⟨a, rfl, h1, h2⟩ | ⟨a, b, rfl, h1, h2, h3, h4⟩ <;> rcases L_by2_cases g with rfl | ⟨c, rfl, g1, g2⟩ | ⟨c, d, rfl, g1, g2, g3, g4⟩
  · rw [K_ky0] at e; omega
  · trivial
  · trivial
  · rw [K_ky0, K_ky1] at e; omega
  · rw [K_ky1, K_ky1] at e; exact .inl (by omega)
  · rw [K_ky1, K_ky2] at e
    by_cases c1 : a < c
    · exact .inl c1
    · exact .inr ⟨by omega, trivial⟩
  · rw [K_ky0, K_ky2] at e; omega
  · rw [K_ky1, K_ky2] at e; exact .inl (by omega)
  · rw [K_ky2, K_ky2] at e
    by_cases c1 : a < c
    · exact .inl c1
    · exact .inr ⟨by omega, .inl (by omega)⟩
theorem L_srt_pw2 : ∀ {l : List Int}, L_srt l → l.Pairwise (· < ·)
  | [], _ => List.Pairwise.nil
  | a :: l, h => List.pairwise_cons.mpr ⟨fun y hy => h.1 y hy, L_srt_pw2 h.2⟩
theorem X_keys {S : P_X} {ks : List Int} (h : K_is S ks) : X_srt (ks.map K_tx) S := by
  refine ⟨?_, fun t => ⟨fun ht => ?_, fun ht => ?_⟩⟩
  · rw [List.pairwise_map]
    refine (L_srt_pw2 h.1).imp_of_mem (fun {a b} ha hb q => ?_)
    obtain ⟨_, a2, a3⟩ := h.at ha
    obtain ⟨_, b2, b3⟩ := h.at hb
    exact K_lt_lx a2 b2 (by rw [a3, b3]; exact q)
  · obtain ⟨q1, q2⟩ := h.of ht
    rw [← q2]
    exact List.mem_map.mpr ⟨_, q1, rfl⟩
  · obtain ⟨k, hk, rfl⟩ := List.mem_map.mp ht
    exact (h.at hk).1
theorem X_at_g {xs : List (List Int)} {i : Nat} (h : i < xs.length) : X_at xs (i : Int) = xs[i] := by
  unfold X_at
  rw [show ((i : Nat) : Int).toNat = i by omega, List.getD_eq_getElem?_getD, List.getElem?_eq_getElem h]
  rfl
theorem X_texts {A : P_X} {xs : List (List Int)} (h : X_so xs) (g : T_tel A xs) : X_srt xs A := by
  refine ⟨?_, fun t => (g t).symm⟩
  rw [List.pairwise_iff_getElem]
  intro i j hi hj hij
  have := h (i : Int) (j : Int) (by omega) (by omega) (by omega)
  rw [X_at_g hi, X_at_g hj] at this
  exact (L_lt_lx _ _).mp this
theorem X_at_map {ks : List Int} {i : Int} (i0 : 0 ≤ i) (i1 : i < ks.length) : X_at (ks.map K_tx) i = K_tx (L_at ks i) ∧ L_at ks i ∈ ks := by
  obtain ⟨n, rfl⟩ := Int.eq_ofNat_of_zero_le i0
  have hn : n < ks.length := by omega
  rw [X_at_g (by rw [List.length_map]; exact hn), L_at_get hn, List.getElem_map]
  exact ⟨rfl, List.getElem_mem hn⟩
theorem K_sg_tx {S : P_X} {ks : List Int} (h : K_is S ks) {a : Int} (ha : a ∈ ks) (k : Int) : K_sg a k = L_at (K_tx a) k ∧ 0 ≤ a ∧ a < 66049 := by
  obtain ⟨_, a2, a3⟩ := h.at ha
  have r := K_ky_r a2
  rw [a3] at r
  refine ⟨?_, r⟩
  by_cases k0 : k = 0
  · subst k0; rw [← a3, K_sg0 a2, a3]
  · by_cases k1 : k = 1
    · subst k1; rw [← a3, K_sg1 a2, a3]
    · unfold K_sg
      rw [if_neg k0, if_neg k1]
      by_cases kn : k < 0
      · unfold L_at; rw [if_neg (by omega)]
      · exact (L_at_end (by have := a2.1; omega)).symm
/-- the texts, by what is asked -/
def J_tx (v : P_V) (w : Int) : P_X := if w = 0 then V_X v else if w = 1 then V_H v else V_T v
def J_txz (Q : Option P_T) (w z : Int) : Prop := match Q with
  | none => z = -1
  | some t => if 0 ≤ w ∧ w < 3 then ∃ L, X_srt L (J_tx (P_plan t) w) ∧ z = (L.length : Int) else z = -1
def J_tez (Q : Option P_T) (w i k z : Int) : Prop := match Q with
  | none => z = -1
  | some t => if 0 ≤ w ∧ w < 3 then ∃ L, X_srt L (J_tx (P_plan t) w) ∧ z = (if 0 ≤ i ∧ i < L.length then L_at (X_at L i) k else -1) else z = -1
theorem D_wh.x0 {B : Nat} {G : G_t} {v : P_V} (h : D_wh B G v) (e : G.2.2.2.1 0 ≠ 0) : X_srt (G.2.2.1 1) (V_X v) := by
  obtain ⟨A, rfl, h1, h2⟩ := h.1.ex e
  exact X_texts h1 h2
theorem D_wh.x9 {B : Nat} {G : G_t} {v : P_V} (h : D_wh B G v) (e : G.2.2.2.1 0 = 0) : X_srt [] (V_X v) := by
  obtain ⟨q, rfl⟩ := h.1.op e
  exact ⟨List.Pairwise.nil, fun t => ⟨fun e => e.elim, fun e => absurd e List.not_mem_nil⟩⟩
theorem D_wh.x1 {B : Nat} {G : G_t} {v : P_V} (h : D_wh B G v) : X_srt ((G.1 4).map K_tx) (V_H v) := X_keys h.2.1.1
theorem D_wh.x2 {B : Nat} {G : G_t} {v : P_V} (h : D_wh B G v) : X_srt ((G.1 5).map K_tx) (V_T v) := X_keys h.2.1.2.2.1
theorem J_c.k {s : C_S} {g tb sh pa pl ma re : Nat} {X : List Int} {fs : Int → Option (List Int)} {ca th tg f0 pq0 : Int} {Q : Option P_T} {O : List Int} {H : List (List Int)} {n3 n4 n5 n6 : Int} {W : Nat} (hJ : J_c s g tb sh pa pl ma re X fs ca th tg f0 pq0 Q O H n3 n4 n5 n6 W) : C_K s g = (19, 0) := by
  obtain ⟨ea, u, v, tr, A2, m2, sm, τ, β, G, P, ω, Am, ru, rv, hg, _⟩ := hJ
  exact hg.1
theorem C_texts (d : Nat) {s : C_S} {g tb sh pa pl ma re : Nat} {X : List Int} {fs : Int → Option (List Int)} {ca th tg f0 pq0 : Int} {Q : Option P_T} {O : List Int} {H : List (List Int)} {n3 n4 n5 n6 : Int} {W : Nat} {k : Int} (hJ : J_c s g tb sh pa pl ma re X fs ca th tg f0 pq0 Q O H n3 n4 n5 n6 W) (h3 : 0 ≤ n3 ∧ n3 ≤ 1000000) (hQ3 : Q = none ↔ n3 = 0) (zk : Zr k) : C_ok (d + 6) 159 [.ref g, .int (Zi k)] s (fun x s2 n => (∃ W2, n + 2 * W ≤ 2 * W2 ∧ 8 * C_n s2 + W ≤ 8 * C_n s + W2 ∧ J_c s2 g tb sh pa pl ma re X fs ca th tg f0 pq0 Q O H n3 n4 n5 n6 W2) ∧ ∃ z : Int, x = some (.int (Zi z)) ∧ J_txz Q k z) := by
  refine C_enter (M := E_m159) rfl (Nat.le_of_ble_eq_true rfl) (fun h0 h hs => ?_)
  show B_R (d + 5) _ (0, [(0, .ref g), (1, .int (Zi k))], []) _ _ _
  have w := hs.1
  obtain ⟨ea, u, v, tr, A2, m2, sm, τ, β, G, P, ω, Am, ru, rv, hg, hby, hd, hq, htr, hzb, hp, hQ, hm, e0, hr, eW⟩ := hJ
  obtain ⟨gk, gt, g0, tk, tt, g2, g3, g4, g5, g6, gm, m0, m1⟩ := id hg
  have hps : D_ps s sh = D_ps s sh := rfl
  have hpr : D_pr s re = D_pr s re := rfl
  have z3 : Zr n3 := ⟨by omega, by omega⟩
  cases Q with
  | none =>
    have e3 : n3 = 0 := hQ3.mp rfl
    refine Z_go (f2 := (1, [(0, .ref g), (1, .int (Zi k))], [.ref g])) (fun _ => rfl) ?_
    refine C_gr rfl hs gk (by decide) (Nat.le_of_ble_eq_true rfl) rfl g6 ?_
    refine C_gi rfl hs hr.1.1 (by decide) (Nat.le_of_ble_eq_true rfl) rfl ?_
    rw [show C_F (s) re 3 = n3 from (by first | exact hr.1.2.2.2.2.2.1 | exact (if_neg (fun e => absurd e.1 (by assumption))).trans hr.1.2.2.2.2.2.1 | exact (if_neg (fun e => absurd e.2 (by decide))).trans hr.1.2.2.2.2.2.1 | exact (if_neg (fun e => absurd e.2 (by decide))).trans ((if_neg (fun e => absurd e.2 (by decide))).trans hr.1.2.2.2.2.2.1) | exact (if_neg (fun e => absurd e.2 (by decide))).trans ((if_neg (fun e => absurd e.2 (by decide))).trans ((if_neg (fun e => absurd e.2 (by decide))).trans hr.1.2.2.2.2.2.1)))]
    show B_R _ _ (7, [(0, .ref g), (1, .int (Zi k))], [.int (Zi n3)]) _ _ _
    refine Z_ine rfl rfl (by first | exact hs.zF _ _ | exact Zor_r _ _ | exact hs.zA _ _ | assumption | exact zA _ _ | exact zS _ | exact Zr_not (hs.zA _ _) | exact hs.1.1 _ _ | exact ⟨by omega, by omega⟩) (fun y1 => ?_) (fun y1 => ?_)
    · exfalso; omega
    · refine Z_go (f2 := (11, [(0, .ref g), (1, .int (Zi k))], [.int (Zi (-1))])) (fun _ => rfl) ?_
      refine Z_iret rfl rfl (by first | rfl | decide | exact narrow_b01 (by omega)) ⟨_, hs, ?_⟩
      try dsimp only
      exact ⟨⟨W, by omega, by omega, ea, u, v, tr, A2, m2, sm, τ, β, G, P, ω, Am, ru, rv, hg, hby, hd, hq, htr, hzb, hp, hQ, hm, e0, hr, eW⟩, -1, rfl, rfl⟩
  | some t =>
    have e3 : n3 ≠ 0 := fun e => by have := hQ3.mpr e; cases this
    refine Z_go (f2 := (1, [(0, .ref g), (1, .int (Zi k))], [.ref g])) (fun _ => rfl) ?_
    refine C_gr rfl hs gk (by decide) (Nat.le_of_ble_eq_true rfl) rfl g6 ?_
    refine C_gi rfl hs hr.1.1 (by decide) (Nat.le_of_ble_eq_true rfl) rfl ?_
    rw [show C_F (s) re 3 = n3 from (by first | exact hr.1.2.2.2.2.2.1 | exact (if_neg (fun e => absurd e.1 (by assumption))).trans hr.1.2.2.2.2.2.1 | exact (if_neg (fun e => absurd e.2 (by decide))).trans hr.1.2.2.2.2.2.1 | exact (if_neg (fun e => absurd e.2 (by decide))).trans ((if_neg (fun e => absurd e.2 (by decide))).trans hr.1.2.2.2.2.2.1) | exact (if_neg (fun e => absurd e.2 (by decide))).trans ((if_neg (fun e => absurd e.2 (by decide))).trans ((if_neg (fun e => absurd e.2 (by decide))).trans hr.1.2.2.2.2.2.1)))]
    show B_R _ _ (7, [(0, .ref g), (1, .int (Zi k))], [.int (Zi n3)]) _ _ _
    refine Z_ine rfl rfl (by first | exact hs.zF _ _ | exact Zor_r _ _ | exact hs.zA _ _ | assumption | exact zA _ _ | exact zS _ | exact Zr_not (hs.zA _ _) | exact hs.1.1 _ _ | exact ⟨by omega, by omega⟩) (fun y1 => ?_) (fun y1 => ?_)
    · refine Z_go (f2 := (13, [(0, .ref g), (1, .int (Zi k))], [.ref g])) (fun _ => rfl) ?_
      refine C_gr rfl hs gk (by decide) (Nat.le_of_ble_eq_true rfl) rfl g4 ?_
      refine C_callV (As := []) (rest := []) rfl (by decide) rfl (by decide) rfl rfl (by decide +kernel) (Nat.le_of_ble_eq_true rfl) hs hp.1.1.1 (C_whl _ hp (by omega) (by omega)) (fun x h v1 k1 hs q => ?_)
      obtain ⟨P1, G1, ω1, rfl, hp, cq, le1, hT1, ot1⟩ := q
      have pf := cq.2.2
      have hQ := hQ.whl ot1 hT1
      have hby := hby.fr w pf (by rw [tt]; exact L_pr0)
      have hg := hg.fr w pf L_pr0
      have hdx := hd.fr w pf (fun t h e => by have := L_pr1 h e; omega)
      obtain ⟨hd, eps⟩ := hdx
      have hps := eps.trans hps
      have hq := hq.fr w pf (fun e => by have := L_pr1 (a := 2) (L_pre_self _) e; omega)
      have htr := htr.fr w pf (fun e => by have := L_pr1 (a := 2) ⟨[tr], rfl⟩ e; omega)
      have e0 : C_P _ ma 0 = some tr := (D_M0.p0 hm w pf (fun e => by have := L_pr1 (a := 4) (L_pre_self _) e; omega)).trans e0
      have hm := hm.fr w pf (fun e => by have := L_pr1 (a := 4) (L_pre_self _) e; omega)
      have hrx := hr.fr w pf (fun t h e => by have := L_pr1 h e; omega)
      obtain ⟨hr, epr⟩ := hrx
      have hpr := epr.trans hpr
      obtain ⟨gk, gt, g0, tk, tt, g2, g3, g4, g5, g6, gm, m0, m1⟩ := id hg
      have lF := (hp.fL (f := 2) (.inr ⟨by omega, hT1⟩)).1
      have lF24 : (G1.2.1 2).length ≤ 24 := by unfold Pl_R at lF; exact lF
      have zlF : Zr ((G1.2.1 2).length : Int) := ⟨by omega, by omega⟩
      have zfl : Zr (G1.2.2.2.1 0) := by rcases (hp.2.1 0 (by omega) hT1).2.2.2.2.2.2.2.2.1 with e | e <;> exact ⟨by omega, by omega⟩
      show B_R _ _ (19, [(0, .ref g), (1, .int (Zi k))], [.ref (P1.2.2.2.1 0)]) _ _ _
      refine Z_go (f2 := (20, [(2, .ref (P1.2.2.2.1 0)), (0, .ref g), (1, .int (Zi k))], [])) (fun _ => rfl) ?_
      refine Z_go (f2 := (21, [(2, .ref (P1.2.2.2.1 0)), (0, .ref g), (1, .int (Zi k))], [.int (Zi k)])) (fun _ => rfl) ?_
      rcases (by omega : k = 0 ∨ k = 1 ∨ k = 2 ∨ (k < 0 ∨ 2 < k)) with y2 | y2 | y2 | y2
      · refine Z_swk (f2 := (48, [(2, .ref (P1.2.2.2.1 0)), (0, .ref g), (1, .int (Zi k))], [])) y2 (fun _ => rfl) ?_
        refine Z_go (f2 := (49, [(2, .ref (P1.2.2.2.1 0)), (0, .ref g), (1, .int (Zi k))], [.ref (P1.2.2.2.1 0)])) (fun _ => rfl) ?_
        refine C_gi rfl hs (hp.2.1 0 (by omega) hT1).1 (by decide) (Nat.le_of_ble_eq_true rfl) rfl ?_
        rw [show C_F (v1) (P1.2.2.2.1 0) 0 = (G1.2.2.2.1 0) from (by first | exact (hp.2.1 0 (by omega) hT1).2.2.2.2.2.2.1 | exact (if_neg (fun e => absurd e.1 (by assumption))).trans (hp.2.1 0 (by omega) hT1).2.2.2.2.2.2.1 | exact (if_neg (fun e => absurd e.2 (by decide))).trans (hp.2.1 0 (by omega) hT1).2.2.2.2.2.2.1 | exact (if_neg (fun e => absurd e.2 (by decide))).trans ((if_neg (fun e => absurd e.2 (by decide))).trans (hp.2.1 0 (by omega) hT1).2.2.2.2.2.2.1) | exact (if_neg (fun e => absurd e.2 (by decide))).trans ((if_neg (fun e => absurd e.2 (by decide))).trans ((if_neg (fun e => absurd e.2 (by decide))).trans (hp.2.1 0 (by omega) hT1).2.2.2.2.2.2.1)))]
        show B_R _ _ (52, [(2, .ref (P1.2.2.2.1 0)), (0, .ref g), (1, .int (Zi k))], [.int (Zi ((G1.2.2.2.1 0)))]) _ _ _
        refine Z_ieq rfl rfl (by first | exact hs.zF _ _ | exact Zor_r _ _ | exact hs.zA _ _ | assumption | exact zA _ _ | exact zS _ | exact Zr_not (hs.zA _ _) | exact hs.1.1 _ _ | exact ⟨by omega, by omega⟩) (fun y3 => ?_) (fun y3 => ?_)
        · refine Z_go (f2 := (66, [(2, .ref (P1.2.2.2.1 0)), (0, .ref g), (1, .int (Zi k))], [.int (Zi 0)])) (fun _ => rfl) ?_
          refine Z_iret rfl rfl (by first | rfl | decide | exact narrow_b01 (by omega)) ⟨_, hs, ?_⟩
          try dsimp only
          have hz : J_txz (some t) k (0) := by
            show if _ then _ else _
            rw [if_pos (by omega)]
            exact ⟨[], by rw [show k = 0 by omega]; exact hQ.2.x9 (by omega), rfl⟩
          exact ⟨⟨Pl_w ω1 + D_ps v1 sh + D_pr v1 re, by have := cq.1; omega, by have := cq.2.1; omega, ea, u, v, tr, A2, m2, sm, τ, β, G1, P1, ω1, Am, ru, rv, hg, hby, hd, hq, htr, hzb, hp, hQ, hm, e0, hr, rfl⟩, _, rfl, hz⟩
        · refine Z_go (f2 := (56, [(2, .ref (P1.2.2.2.1 0)), (0, .ref g), (1, .int (Zi k))], [.ref (P1.2.2.2.1 0)])) (fun _ => rfl) ?_
          refine C_gr rfl hs (hp.2.1 0 (by omega) hT1).1 (by decide) (Nat.le_of_ble_eq_true rfl) rfl (hp.2.1 0 (by omega) hT1).2.2.1 ?_
          refine C_gi rfl hs (hp.tK (t := 1) (.inr ⟨by omega, hT1⟩)) (by decide) (Nat.le_of_ble_eq_true rfl) rfl ?_
          rw [show C_F (v1) (P1.2.2.1 1) 2 = ((G1.2.2.1 1).length : Int) from (by first | exact (hp.tF (t := 1) (.inr ⟨by omega, hT1⟩)) | exact (if_neg (fun e => absurd e.1 (by assumption))).trans (hp.tF (t := 1) (.inr ⟨by omega, hT1⟩)) | exact (if_neg (fun e => absurd e.2 (by decide))).trans (hp.tF (t := 1) (.inr ⟨by omega, hT1⟩)) | exact (if_neg (fun e => absurd e.2 (by decide))).trans ((if_neg (fun e => absurd e.2 (by decide))).trans (hp.tF (t := 1) (.inr ⟨by omega, hT1⟩))) | exact (if_neg (fun e => absurd e.2 (by decide))).trans ((if_neg (fun e => absurd e.2 (by decide))).trans ((if_neg (fun e => absurd e.2 (by decide))).trans (hp.tF (t := 1) (.inr ⟨by omega, hT1⟩)))))]
          show B_R _ _ (62, [(2, .ref (P1.2.2.2.1 0)), (0, .ref g), (1, .int (Zi k))], [.int (Zi (((G1.2.2.1 1).length : Int)))]) _ _ _
          refine Z_go (f2 := (66, [(2, .ref (P1.2.2.2.1 0)), (0, .ref g), (1, .int (Zi k))], [.int (Zi (((G1.2.2.1 1).length : Int)))])) (fun _ => rfl) ?_
          refine Z_iret rfl rfl (by first | rfl | decide | exact narrow_b01 (by omega)) ⟨_, hs, ?_⟩
          try dsimp only
          have hz : J_txz (some t) k (((G1.2.2.1 1).length : Int)) := by
            show if _ then _ else _
            rw [if_pos (by omega)]
            exact ⟨_, by rw [show k = 0 by omega]; exact hQ.2.x0 (by omega), rfl⟩
          exact ⟨⟨Pl_w ω1 + D_ps v1 sh + D_pr v1 re, by have := cq.1; omega, by have := cq.2.1; omega, ea, u, v, tr, A2, m2, sm, τ, β, G1, P1, ω1, Am, ru, rv, hg, hby, hd, hq, htr, hzb, hp, hQ, hm, e0, hr, rfl⟩, _, rfl, hz⟩
      · refine Z_swk (f2 := (67, [(2, .ref (P1.2.2.2.1 0)), (0, .ref g), (1, .int (Zi k))], [])) y2 (fun _ => rfl) ?_
        refine Z_go (f2 := (68, [(2, .ref (P1.2.2.2.1 0)), (0, .ref g), (1, .int (Zi k))], [.ref (P1.2.2.2.1 0)])) (fun _ => rfl) ?_
        refine C_gr rfl hs (hp.2.1 0 (by omega) hT1).1 (by decide) (Nat.le_of_ble_eq_true rfl) rfl (hp.2.1 0 (by omega) hT1).2.2.2.1 ?_
        refine C_gi rfl hs (hp.rK (r := 4) (.inr ⟨by omega, hT1⟩)) (by decide) (Nat.le_of_ble_eq_true rfl) rfl ?_
        rw [show C_F (v1) (P1.1 4) 1 = ((G1.1 4).length : Int) from (by first | exact (hp.rF (r := 4) (.inr ⟨by omega, hT1⟩)) | exact (if_neg (fun e => absurd e.1 (by assumption))).trans (hp.rF (r := 4) (.inr ⟨by omega, hT1⟩)) | exact (if_neg (fun e => absurd e.2 (by decide))).trans (hp.rF (r := 4) (.inr ⟨by omega, hT1⟩)) | exact (if_neg (fun e => absurd e.2 (by decide))).trans ((if_neg (fun e => absurd e.2 (by decide))).trans (hp.rF (r := 4) (.inr ⟨by omega, hT1⟩))) | exact (if_neg (fun e => absurd e.2 (by decide))).trans ((if_neg (fun e => absurd e.2 (by decide))).trans ((if_neg (fun e => absurd e.2 (by decide))).trans (hp.rF (r := 4) (.inr ⟨by omega, hT1⟩)))))]
        show B_R _ _ (74, [(2, .ref (P1.2.2.2.1 0)), (0, .ref g), (1, .int (Zi k))], [.int (Zi (((G1.1 4).length : Int)))]) _ _ _
        refine Z_iret rfl rfl (by first | rfl | decide | exact narrow_b01 (by omega)) ⟨_, hs, ?_⟩
        try dsimp only
        have hz : J_txz (some t) k (((G1.1 4).length : Int)) := by
          show if _ then _ else _
          rw [if_pos (by omega)]
          exact ⟨_, by rw [show k = 1 by omega]; exact hQ.2.x1, by rw [List.length_map]⟩
        exact ⟨⟨Pl_w ω1 + D_ps v1 sh + D_pr v1 re, by have := cq.1; omega, by have := cq.2.1; omega, ea, u, v, tr, A2, m2, sm, τ, β, G1, P1, ω1, Am, ru, rv, hg, hby, hd, hq, htr, hzb, hp, hQ, hm, e0, hr, rfl⟩, _, rfl, hz⟩
      · refine Z_swk (f2 := (75, [(2, .ref (P1.2.2.2.1 0)), (0, .ref g), (1, .int (Zi k))], [])) y2 (fun _ => rfl) ?_
        refine Z_go (f2 := (76, [(2, .ref (P1.2.2.2.1 0)), (0, .ref g), (1, .int (Zi k))], [.ref (P1.2.2.2.1 0)])) (fun _ => rfl) ?_
        refine C_gr rfl hs (hp.2.1 0 (by omega) hT1).1 (by decide) (Nat.le_of_ble_eq_true rfl) rfl (hp.2.1 0 (by omega) hT1).2.2.2.2.1 ?_
        refine C_gi rfl hs (hp.rK (r := 5) (.inr ⟨by omega, hT1⟩)) (by decide) (Nat.le_of_ble_eq_true rfl) rfl ?_
        rw [show C_F (v1) (P1.1 5) 1 = ((G1.1 5).length : Int) from (by first | exact (hp.rF (r := 5) (.inr ⟨by omega, hT1⟩)) | exact (if_neg (fun e => absurd e.1 (by assumption))).trans (hp.rF (r := 5) (.inr ⟨by omega, hT1⟩)) | exact (if_neg (fun e => absurd e.2 (by decide))).trans (hp.rF (r := 5) (.inr ⟨by omega, hT1⟩)) | exact (if_neg (fun e => absurd e.2 (by decide))).trans ((if_neg (fun e => absurd e.2 (by decide))).trans (hp.rF (r := 5) (.inr ⟨by omega, hT1⟩))) | exact (if_neg (fun e => absurd e.2 (by decide))).trans ((if_neg (fun e => absurd e.2 (by decide))).trans ((if_neg (fun e => absurd e.2 (by decide))).trans (hp.rF (r := 5) (.inr ⟨by omega, hT1⟩)))))]
        show B_R _ _ (82, [(2, .ref (P1.2.2.2.1 0)), (0, .ref g), (1, .int (Zi k))], [.int (Zi (((G1.1 5).length : Int)))]) _ _ _
        refine Z_iret rfl rfl (by first | rfl | decide | exact narrow_b01 (by omega)) ⟨_, hs, ?_⟩
        try dsimp only
        have hz : J_txz (some t) k (((G1.1 5).length : Int)) := by
          show if _ then _ else _
          rw [if_pos (by omega)]
          exact ⟨_, by rw [show k = 2 by omega]; exact hQ.2.x2, by rw [List.length_map]⟩
        exact ⟨⟨Pl_w ω1 + D_ps v1 sh + D_pr v1 re, by have := cq.1; omega, by have := cq.2.1; omega, ea, u, v, tr, A2, m2, sm, τ, β, G1, P1, ω1, Am, ru, rv, hg, hby, hd, hq, htr, hzb, hp, hQ, hm, e0, hr, rfl⟩, _, rfl, hz⟩
      · refine Z_tswd rfl (by first | exact hs.zF _ _ | exact Zor_r _ _ | exact hs.zA _ _ | assumption | exact zA _ _ | exact zS _ | exact Zr_not (hs.zA _ _) | exact hs.1.1 _ _ | exact ⟨by omega, by omega⟩) y2 (by rfl) ?_
        show B_R _ _ (83, [(2, .ref (P1.2.2.2.1 0)), (0, .ref g), (1, .int (Zi k))], []) _ _ _
        refine Z_go (f2 := (84, [(2, .ref (P1.2.2.2.1 0)), (0, .ref g), (1, .int (Zi k))], [.int (Zi (-1))])) (fun _ => rfl) ?_
        refine Z_iret rfl rfl (by first | rfl | decide | exact narrow_b01 (by omega)) ⟨_, hs, ?_⟩
        try dsimp only
        have hz : J_txz (some t) k (-1) := by
          show if _ then _ else _
          rw [if_neg (by omega)]
        exact ⟨⟨Pl_w ω1 + D_ps v1 sh + D_pr v1 re, by have := cq.1; omega, by have := cq.2.1; omega, ea, u, v, tr, A2, m2, sm, τ, β, G1, P1, ω1, Am, ru, rv, hg, hby, hd, hq, htr, hzb, hp, hQ, hm, e0, hr, rfl⟩, _, rfl, hz⟩
    · exfalso; omega
theorem J_txz.zr {s : C_S} {g tb sh pa pl ma re : Nat} {X : List Int} {fs : Int → Option (List Int)} {ca th tg f0 pq0 : Int} {Q : Option P_T} {O : List Int} {H : List (List Int)} {n3 n4 n5 n6 : Int} {W : Nat} {w z : Int} (h : J_txz Q w z) (hJ : J_c s g tb sh pa pl ma re X fs ca th tg f0 pq0 Q O H n3 n4 n5 n6 W) : Zr z := by
  cases Q with
  | none => have h : z = -1 := h; exact ⟨by omega, by omega⟩
  | some t =>
    have h : if 0 ≤ w ∧ w < 3 then ∃ L, X_srt L (J_tx (P_plan t) w) ∧ z = (L.length : Int) else z = -1 := h
    by_cases c : 0 ≤ w ∧ w < 3
    · rw [if_pos c] at h
      obtain ⟨L, hL, rfl⟩ := h
      obtain ⟨ea, u, v, tr, A2, m2, sm, τ, β, G, P, ω, Am, ru, rv, hg, hby, hd, hq, htr, hzb, hp, hQ, hm, e0, hr, eW⟩ := hJ
      have l1 := hQ.2.2.1.2.1
      have l2 := hQ.2.2.1.2.2.2.1
      have l3 := (hp.tL (t := 1) (.inr ⟨by omega, hQ.1⟩)).1
      unfold J_tx at hL
      have : L.length ≤ 12 := by
        split at hL
        · by_cases e : G.2.2.2.1 0 = 0
          · rw [X_srt_lt hL (hQ.2.x9 e)]; exact Nat.zero_le _
          · rw [X_srt_lt hL (hQ.2.x0 e)]; omega
        · split at hL
          · rw [X_srt_lt hL hQ.2.x1, List.length_map]; exact l1
          · rw [X_srt_lt hL hQ.2.x2, List.length_map]; exact l2
      exact ⟨by omega, by omega⟩
    · rw [if_neg c] at h
      exact ⟨by omega, by omega⟩
theorem J_q.ls {s : C_S} {g tb sh pa pl ma re : Nat} {X : List Int} {fs : Int → Option (List Int)} {ca th tg f0 pq0 : Int} {t : P_T} {O : List Int} {H : List (List Int)} {n3 n4 n5 n6 : Int} {W : Nat} {w : Int} (hJ : J_c s g tb sh pa pl ma re X fs ca th tg f0 pq0 (some t) O H n3 n4 n5 n6 W) (_ : 0 ≤ n3 ∧ n3 ≤ 1000000) (_ : (some t : Option P_T) = none ↔ n3 = 0) (_ : 0 ≤ w ∧ w < 3) : ∃ L, X_srt L (J_tx (P_plan t) w) := by
  obtain ⟨ea, u, v, tr, A2, m2, sm, τ, β, G, P, ω, Am, ru, rv, hg, hby, hd, hq, htr, hzb, hp, hQ, hm, e0, hr, eW⟩ := hJ
  unfold J_tx
  split
  · by_cases e : G.2.2.2.1 0 = 0
    · exact ⟨_, hQ.2.x9 e⟩
    · exact ⟨_, hQ.2.x0 e⟩
  · split
    · exact ⟨_, hQ.2.x1⟩
    · exact ⟨_, hQ.2.x2⟩
theorem C_text (d : Nat) {s : C_S} {g tb sh pa pl ma re : Nat} {X : List Int} {fs : Int → Option (List Int)} {ca th tg f0 pq0 : Int} {Q : Option P_T} {O : List Int} {H : List (List Int)} {n3 n4 n5 n6 : Int} {W : Nat} {c i k : Int} (hJ : J_c s g tb sh pa pl ma re X fs ca th tg f0 pq0 Q O H n3 n4 n5 n6 W) (h3 : 0 ≤ n3 ∧ n3 ≤ 1000000) (hQ3 : Q = none ↔ n3 = 0) (zc : Zr c) (zi : Zr i) (zk : Zr k) : C_ok (d + 7) 160 [.ref g, .int (Zi c), .int (Zi i), .int (Zi k)] s (fun x s2 n => (∃ W2, n + 2 * W ≤ 2 * W2 ∧ 8 * C_n s2 + W ≤ 8 * C_n s + W2 ∧ J_c s2 g tb sh pa pl ma re X fs ca th tg f0 pq0 Q O H n3 n4 n5 n6 W2) ∧ ∃ z : Int, x = some (.int (Zi z)) ∧ J_tez Q c i k z) := by
  refine C_enter (M := E_m160) rfl (Nat.le_of_ble_eq_true rfl) (fun h0 h hs => ?_)
  show B_R (d + 6) _ (0, [(0, .ref g), (1, .int (Zi c)), (2, .int (Zi i)), (3, .int (Zi k))], []) _ _ _
  cases Q with
  | none =>
    have e3 : n3 = 0 := hQ3.mp rfl
    refine Z_go (f2 := (1, [(0, .ref g), (1, .int (Zi c)), (2, .int (Zi i)), (3, .int (Zi k))], [.int (Zi i)])) (fun _ => rfl) ?_
    refine Z_ilt rfl rfl (by first | exact hs.zF _ _ | exact Zor_r _ _ | exact hs.zA _ _ | assumption | exact zA _ _ | exact zS _ | exact Zr_not (hs.zA _ _) | exact hs.1.1 _ _ | exact ⟨by omega, by omega⟩) (fun y1 => ?_) (fun y1 => ?_)
    · refine Z_go (f2 := (14, [(0, .ref g), (1, .int (Zi c)), (2, .int (Zi i)), (3, .int (Zi k))], [.int (Zi (-1))])) (fun _ => rfl) ?_
      refine Z_iret rfl rfl (by first | rfl | decide | exact narrow_b01 (by omega)) ⟨_, hs, ?_⟩
      try dsimp only
      exact ⟨⟨W, by omega, by omega, hJ⟩, -1, rfl, rfl⟩
    · refine Z_go (f2 := (5, [(0, .ref g), (1, .int (Zi c)), (2, .int (Zi i)), (3, .int (Zi k))], [.int (Zi i)])) (fun _ => rfl) ?_
      refine Z_go (f2 := (6, [(0, .ref g), (1, .int (Zi c)), (2, .int (Zi i)), (3, .int (Zi k))], [.ref g, .int (Zi i)])) (fun _ => rfl) ?_
      refine Z_go (f2 := (7, [(0, .ref g), (1, .int (Zi c)), (2, .int (Zi i)), (3, .int (Zi k))], [.int (Zi c), .ref g, .int (Zi i)])) (fun _ => rfl) ?_
      refine C_callV (As := [.int (Zi c)]) (rest := [.int (Zi i)]) rfl (by decide) rfl (by decide) rfl rfl (by decide +kernel) (Nat.le_of_ble_eq_true rfl) hs hJ.k (C_texts _ hJ h3 hQ3 zc) (fun x h v0 k0 hs q => ?_)
      obtain ⟨⟨W0, a1, a2, hJ⟩, z, rfl, hz⟩ := q
      have hJ0 := hJ
      have w := hs.1
      obtain ⟨ea, u, v, tr, A2, m2, sm, τ, β, G, P, ω, Am, ru, rv, hg, hby, hd, hq, htr, hzb, hp, hQ, hm, e0, hr, eW⟩ := hJ
      obtain ⟨gk, gt, g0, tk, tt, g2, g3, g4, g5, g6, gm, m0, m1⟩ := id hg
      have hps : D_ps v0 sh = D_ps v0 sh := rfl
      have hpr : D_pr v0 re = D_pr v0 re := rfl
      have zz : Zr z := J_txz.zr hz hJ0
      obtain rfl : z = -1 := hz
      show B_R _ _ (10, [(0, .ref g), (1, .int (Zi c)), (2, .int (Zi i)), (3, .int (Zi k))], [.int (Zi ((-1))), .int (Zi i)]) _ _ _
      refine Z_clt rfl rfl (by first | exact hs.zF _ _ | exact Zor_r _ _ | exact hs.zA _ _ | assumption | exact zA _ _ | exact zS _ | exact Zr_not (hs.zA _ _) | exact hs.1.1 _ _ | exact ⟨by omega, by omega⟩) (by first | exact hs.zF _ _ | exact Zor_r _ _ | exact hs.zA _ _ | assumption | exact zA _ _ | exact zS _ | exact Zr_not (hs.zA _ _) | exact hs.1.1 _ _ | exact ⟨by omega, by omega⟩) (fun y2 => ?_) (fun y2 => ?_)
      · exfalso; omega
      · refine Z_go (f2 := (14, [(0, .ref g), (1, .int (Zi c)), (2, .int (Zi i)), (3, .int (Zi k))], [.int (Zi (-1))])) (fun _ => rfl) ?_
        refine Z_iret rfl rfl (by first | rfl | decide | exact narrow_b01 (by omega)) ⟨_, hs, ?_⟩
        try dsimp only
        exact ⟨⟨W0, by omega, by omega, hJ0⟩, -1, rfl, rfl⟩
  | some t =>
    by_cases hw : 0 ≤ c ∧ c < 3
    · refine Z_go (f2 := (1, [(0, .ref g), (1, .int (Zi c)), (2, .int (Zi i)), (3, .int (Zi k))], [.int (Zi i)])) (fun _ => rfl) ?_
      refine Z_ilt rfl rfl (by first | exact hs.zF _ _ | exact Zor_r _ _ | exact hs.zA _ _ | assumption | exact zA _ _ | exact zS _ | exact Zr_not (hs.zA _ _) | exact hs.1.1 _ _ | exact ⟨by omega, by omega⟩) (fun y1 => ?_) (fun y1 => ?_)
      · refine Z_go (f2 := (14, [(0, .ref g), (1, .int (Zi c)), (2, .int (Zi i)), (3, .int (Zi k))], [.int (Zi (-1))])) (fun _ => rfl) ?_
        refine Z_iret rfl rfl (by first | rfl | decide | exact narrow_b01 (by omega)) ⟨_, hs, ?_⟩
        try dsimp only
        obtain ⟨L, hL⟩ := J_q.ls hJ h3 hQ3 hw
        exact ⟨⟨W, by omega, by omega, hJ⟩, -1, rfl, by show if _ then _ else _; rw [if_pos hw]; exact ⟨L, hL, by rw [if_neg (by omega)]⟩⟩
      · refine Z_go (f2 := (5, [(0, .ref g), (1, .int (Zi c)), (2, .int (Zi i)), (3, .int (Zi k))], [.int (Zi i)])) (fun _ => rfl) ?_
        refine Z_go (f2 := (6, [(0, .ref g), (1, .int (Zi c)), (2, .int (Zi i)), (3, .int (Zi k))], [.ref g, .int (Zi i)])) (fun _ => rfl) ?_
        refine Z_go (f2 := (7, [(0, .ref g), (1, .int (Zi c)), (2, .int (Zi i)), (3, .int (Zi k))], [.int (Zi c), .ref g, .int (Zi i)])) (fun _ => rfl) ?_
        refine C_callV (As := [.int (Zi c)]) (rest := [.int (Zi i)]) rfl (by decide) rfl (by decide) rfl rfl (by decide +kernel) (Nat.le_of_ble_eq_true rfl) hs hJ.k (C_texts _ hJ h3 hQ3 zc) (fun x h v0 k0 hs q => ?_)
        obtain ⟨⟨W0, a1, a2, hJ⟩, z, rfl, hz⟩ := q
        have hJ0 := hJ
        have w := hs.1
        obtain ⟨ea, u, v, tr, A2, m2, sm, τ, β, G, P, ω, Am, ru, rv, hg, hby, hd, hq, htr, hzb, hp, hQ, hm, e0, hr, eW⟩ := hJ
        obtain ⟨gk, gt, g0, tk, tt, g2, g3, g4, g5, g6, gm, m0, m1⟩ := id hg
        have hps : D_ps v0 sh = D_ps v0 sh := rfl
        have hpr : D_pr v0 re = D_pr v0 re := rfl
        have zz : Zr z := J_txz.zr hz hJ0
        obtain ⟨L, hL, rfl⟩ : ∃ L, X_srt L (J_tx (P_plan t) c) ∧ z = (L.length : Int) := by have hz : if _ then _ else _ := hz; rw [if_pos hw] at hz; exact hz
        show B_R _ _ (10, [(0, .ref g), (1, .int (Zi c)), (2, .int (Zi i)), (3, .int (Zi k))], [.int (Zi ((L.length : Int))), .int (Zi i)]) _ _ _
        refine Z_clt rfl rfl (by first | exact hs.zF _ _ | exact Zor_r _ _ | exact hs.zA _ _ | assumption | exact zA _ _ | exact zS _ | exact Zr_not (hs.zA _ _) | exact hs.1.1 _ _ | exact ⟨by omega, by omega⟩) (by first | exact hs.zF _ _ | exact Zor_r _ _ | exact hs.zA _ _ | assumption | exact zA _ _ | exact zS _ | exact Zr_not (hs.zA _ _) | exact hs.1.1 _ _ | exact ⟨by omega, by omega⟩) (fun y2 => ?_) (fun y2 => ?_)
        · refine Z_go (f2 := (16, [(0, .ref g), (1, .int (Zi c)), (2, .int (Zi i)), (3, .int (Zi k))], [.ref g])) (fun _ => rfl) ?_
          refine C_gr rfl hs gk (by decide) (Nat.le_of_ble_eq_true rfl) rfl g4 ?_
          refine C_callV (As := []) (rest := []) rfl (by decide) rfl (by decide) rfl rfl (by decide +kernel) (Nat.le_of_ble_eq_true rfl) hs hp.1.1.1 (C_whl _ hp (by omega) (by omega)) (fun x h v1 k1 hs q => ?_)
          obtain ⟨P1, G1, ω1, rfl, hp, cq, le1, hT1, ot1⟩ := q
          have pf := cq.2.2
          have hQ := hQ.whl ot1 hT1
          have hby := hby.fr w pf (by rw [tt]; exact L_pr0)
          have hg := hg.fr w pf L_pr0
          have hdx := hd.fr w pf (fun t h e => by have := L_pr1 h e; omega)
          obtain ⟨hd, eps⟩ := hdx
          have hps := eps.trans hps
          have hq := hq.fr w pf (fun e => by have := L_pr1 (a := 2) (L_pre_self _) e; omega)
          have htr := htr.fr w pf (fun e => by have := L_pr1 (a := 2) ⟨[tr], rfl⟩ e; omega)
          have e0 : C_P _ ma 0 = some tr := (D_M0.p0 hm w pf (fun e => by have := L_pr1 (a := 4) (L_pre_self _) e; omega)).trans e0
          have hm := hm.fr w pf (fun e => by have := L_pr1 (a := 4) (L_pre_self _) e; omega)
          have hrx := hr.fr w pf (fun t h e => by have := L_pr1 h e; omega)
          obtain ⟨hr, epr⟩ := hrx
          have hpr := epr.trans hpr
          obtain ⟨gk, gt, g0, tk, tt, g2, g3, g4, g5, g6, gm, m0, m1⟩ := id hg
          have lF := (hp.fL (f := 2) (.inr ⟨by omega, hT1⟩)).1
          have lF24 : (G1.2.1 2).length ≤ 24 := by unfold Pl_R at lF; exact lF
          have zlF : Zr ((G1.2.1 2).length : Int) := ⟨by omega, by omega⟩
          show B_R _ _ (22, [(0, .ref g), (1, .int (Zi c)), (2, .int (Zi i)), (3, .int (Zi k))], [.ref (P1.2.2.2.1 0)]) _ _ _
          refine Z_go (f2 := (24, [(4, .ref (P1.2.2.2.1 0)), (0, .ref g), (1, .int (Zi c)), (2, .int (Zi i)), (3, .int (Zi k))], [])) (fun _ => rfl) ?_
          refine Z_go (f2 := (25, [(4, .ref (P1.2.2.2.1 0)), (0, .ref g), (1, .int (Zi c)), (2, .int (Zi i)), (3, .int (Zi k))], [.int (Zi c)])) (fun _ => rfl) ?_
          refine Z_ine rfl rfl (by first | exact hs.zF _ _ | exact Zor_r _ _ | exact hs.zA _ _ | assumption | exact zA _ _ | exact zS _ | exact Zr_not (hs.zA _ _) | exact hs.1.1 _ _ | exact ⟨by omega, by omega⟩) (fun y3 => ?_) (fun y3 => ?_)
          · refine Z_go (f2 := (40, [(4, .ref (P1.2.2.2.1 0)), (0, .ref g), (1, .int (Zi c)), (2, .int (Zi i)), (3, .int (Zi k))], [.int (Zi c)])) (fun _ => rfl) ?_
            refine Z_go (f2 := (41, [(4, .ref (P1.2.2.2.1 0)), (0, .ref g), (1, .int (Zi c)), (2, .int (Zi i)), (3, .int (Zi k))], [.int (Zi 1), .int (Zi c)])) (fun _ => rfl) ?_
            refine Z_cne rfl rfl (by first | exact hs.zF _ _ | exact Zor_r _ _ | exact hs.zA _ _ | assumption | exact zA _ _ | exact zS _ | exact Zr_not (hs.zA _ _) | exact hs.1.1 _ _ | exact ⟨by omega, by omega⟩) (by first | exact hs.zF _ _ | exact Zor_r _ _ | exact hs.zA _ _ | assumption | exact zA _ _ | exact zS _ | exact Zr_not (hs.zA _ _) | exact hs.1.1 _ _ | exact ⟨by omega, by omega⟩) (fun y4 => ?_) (fun y4 => ?_)
            · have eL : L = (G1.1 5).map K_tx := X_srt_lt (show X_srt L (V_T (P_plan t)) from by unfold J_tx at hL; rw [if_neg (by omega), if_neg (by omega)] at hL; exact hL) hQ.2.x2
              have il : i < (G1.1 5).length := by rw [eL, List.length_map] at y2; exact y2
              obtain ⟨xm, xk⟩ := X_at_map (ks := G1.1 5) (i := i) (by omega) il
              obtain ⟨sg1, sg2, sg3⟩ := K_sg_tx hQ.2.2.1.2.2.1 xk k
              have eA : K_sg (L_at (G1.1 5) i) k = L_at (X_at L i) k := by rw [eL, xm]; exact sg1
              refine Z_go (f2 := (58, [(4, .ref (P1.2.2.2.1 0)), (0, .ref g), (1, .int (Zi c)), (2, .int (Zi i)), (3, .int (Zi k))], [.ref (P1.2.2.2.1 0)])) (fun _ => rfl) ?_
              refine C_gr rfl hs (hp.2.1 0 (by omega) hT1).1 (by decide) (Nat.le_of_ble_eq_true rfl) rfl (hp.2.1 0 (by omega) hT1).2.2.2.2.1 ?_
              refine Z_go (f2 := (62, [(4, .ref (P1.2.2.2.1 0)), (0, .ref g), (1, .int (Zi c)), (2, .int (Zi i)), (3, .int (Zi k))], [.int (Zi i), .ref (P1.1 5)])) (fun _ => rfl) ?_
              refine C_callVR (As := [.int (Zi i)]) (rest := []) rfl (by decide) rfl (by decide) rfl rfl (by decide +kernel) (Nat.le_of_ble_eq_true rfl) hs (hp.rK (r := 5) (.inr ⟨by omega, hT1⟩)) (o_at _ hp (r := 5) (.inr ⟨by omega, hT1⟩) zi) (fun x q => ?_)
              obtain rfl := q
              show B_R _ _ (65, [(4, .ref (P1.2.2.2.1 0)), (0, .ref g), (1, .int (Zi c)), (2, .int (Zi i)), (3, .int (Zi k))], [.int (Zi (L_at (G1.1 5) i))]) _ _ _
              refine Z_go (f2 := (66, [(4, .ref (P1.2.2.2.1 0)), (0, .ref g), (1, .int (Zi c)), (2, .int (Zi i)), (3, .int (Zi k))], [.int (Zi k), .int (Zi (L_at (G1.1 5) i))])) (fun _ => rfl) ?_
              refine Z_callQ (vs := [.int (Zi (L_at (G1.1 5) i)), .int (Zi k)]) (rest := []) rfl (by decide) rfl rfl rfl (Nat.le_of_ble_eq_true rfl) (C_keySign _ (a := L_at (G1.1 5) i) (k := k) ⟨by omega, by omega⟩ zk sg2 (by omega)) (fun x q => ?_)
              obtain rfl := q
              show B_R _ _ (69, [(4, .ref (P1.2.2.2.1 0)), (0, .ref g), (1, .int (Zi c)), (2, .int (Zi i)), (3, .int (Zi k))], [.int (Zi (K_sg (L_at (G1.1 5) i) k))]) _ _ _
              refine Z_iret rfl rfl (by first | rfl | decide | exact narrow_b01 (by omega)) ⟨_, hs, ?_⟩
              try dsimp only
              exact ⟨⟨Pl_w ω1 + D_ps v1 sh + D_pr v1 re, by have := cq.1; omega, by have := cq.2.1; omega, ea, u, v, tr, A2, m2, sm, τ, β, G1, P1, ω1, Am, ru, rv, hg, hby, hd, hq, htr, hzb, hp, hQ, hm, e0, hr, rfl⟩, _, rfl, by show if _ then _ else _; rw [if_pos hw]; exact ⟨L, hL, by rw [if_pos (by omega)]; exact eA⟩⟩
            · have eL : L = (G1.1 4).map K_tx := X_srt_lt (show X_srt L (V_H (P_plan t)) from by unfold J_tx at hL; rw [if_neg (by omega), if_pos (by omega)] at hL; exact hL) hQ.2.x1
              have il : i < (G1.1 4).length := by rw [eL, List.length_map] at y2; exact y2
              obtain ⟨xm, xk⟩ := X_at_map (ks := G1.1 4) (i := i) (by omega) il
              obtain ⟨sg1, sg2, sg3⟩ := K_sg_tx hQ.2.2.1.1 xk k
              have eA : K_sg (L_at (G1.1 4) i) k = L_at (X_at L i) k := by rw [eL, xm]; exact sg1
              refine Z_go (f2 := (46, [(4, .ref (P1.2.2.2.1 0)), (0, .ref g), (1, .int (Zi c)), (2, .int (Zi i)), (3, .int (Zi k))], [.ref (P1.2.2.2.1 0)])) (fun _ => rfl) ?_
              refine C_gr rfl hs (hp.2.1 0 (by omega) hT1).1 (by decide) (Nat.le_of_ble_eq_true rfl) rfl (hp.2.1 0 (by omega) hT1).2.2.2.1 ?_
              refine Z_go (f2 := (50, [(4, .ref (P1.2.2.2.1 0)), (0, .ref g), (1, .int (Zi c)), (2, .int (Zi i)), (3, .int (Zi k))], [.int (Zi i), .ref (P1.1 4)])) (fun _ => rfl) ?_
              refine C_callVR (As := [.int (Zi i)]) (rest := []) rfl (by decide) rfl (by decide) rfl rfl (by decide +kernel) (Nat.le_of_ble_eq_true rfl) hs (hp.rK (r := 4) (.inr ⟨by omega, hT1⟩)) (o_at _ hp (r := 4) (.inr ⟨by omega, hT1⟩) zi) (fun x q => ?_)
              obtain rfl := q
              show B_R _ _ (53, [(4, .ref (P1.2.2.2.1 0)), (0, .ref g), (1, .int (Zi c)), (2, .int (Zi i)), (3, .int (Zi k))], [.int (Zi (L_at (G1.1 4) i))]) _ _ _
              refine Z_go (f2 := (65, [(4, .ref (P1.2.2.2.1 0)), (0, .ref g), (1, .int (Zi c)), (2, .int (Zi i)), (3, .int (Zi k))], [.int (Zi (L_at (G1.1 4) i))])) (fun _ => rfl) ?_
              refine Z_go (f2 := (66, [(4, .ref (P1.2.2.2.1 0)), (0, .ref g), (1, .int (Zi c)), (2, .int (Zi i)), (3, .int (Zi k))], [.int (Zi k), .int (Zi (L_at (G1.1 4) i))])) (fun _ => rfl) ?_
              refine Z_callQ (vs := [.int (Zi (L_at (G1.1 4) i)), .int (Zi k)]) (rest := []) rfl (by decide) rfl rfl rfl (Nat.le_of_ble_eq_true rfl) (C_keySign _ (a := L_at (G1.1 4) i) (k := k) ⟨by omega, by omega⟩ zk sg2 (by omega)) (fun x q => ?_)
              obtain rfl := q
              show B_R _ _ (69, [(4, .ref (P1.2.2.2.1 0)), (0, .ref g), (1, .int (Zi c)), (2, .int (Zi i)), (3, .int (Zi k))], [.int (Zi (K_sg (L_at (G1.1 4) i) k))]) _ _ _
              refine Z_iret rfl rfl (by first | rfl | decide | exact narrow_b01 (by omega)) ⟨_, hs, ?_⟩
              try dsimp only
              exact ⟨⟨Pl_w ω1 + D_ps v1 sh + D_pr v1 re, by have := cq.1; omega, by have := cq.2.1; omega, ea, u, v, tr, A2, m2, sm, τ, β, G1, P1, ω1, Am, ru, rv, hg, hby, hd, hq, htr, hzb, hp, hQ, hm, e0, hr, rfl⟩, _, rfl, by show if _ then _ else _; rw [if_pos hw]; exact ⟨L, hL, by rw [if_pos (by omega)]; exact eA⟩⟩
          · have i0 : 0 ≤ i := by omega
            have eX : X_srt L (V_X (P_plan t)) := by unfold J_tx at hL; rw [if_pos (by omega)] at hL; exact hL
            have eL : L = G1.2.2.1 1 := by
              by_cases e : G1.2.2.2.1 0 = 0
              · have := X_srt_lt eX (hQ.2.x9 e); rw [this] at y2; have y2 : i < ((0 : Nat) : Int) := y2; omega
              · exact X_srt_lt eX (hQ.2.x0 e)
            have il : i < (G1.2.2.1 1).length := by rw [eL] at y2; exact y2
            have eA : L_at (X_at (G1.2.2.1 1) i) k = L_at (X_at L i) k := by rw [eL]
            refine Z_go (f2 := (30, [(4, .ref (P1.2.2.2.1 0)), (0, .ref g), (1, .int (Zi c)), (2, .int (Zi i)), (3, .int (Zi k))], [.ref (P1.2.2.2.1 0)])) (fun _ => rfl) ?_
            refine C_gr rfl hs (hp.2.1 0 (by omega) hT1).1 (by decide) (Nat.le_of_ble_eq_true rfl) rfl (hp.2.1 0 (by omega) hT1).2.2.1 ?_
            refine Z_go (f2 := (34, [(4, .ref (P1.2.2.2.1 0)), (0, .ref g), (1, .int (Zi c)), (2, .int (Zi i)), (3, .int (Zi k))], [.int (Zi i), .ref (P1.2.2.1 1)])) (fun _ => rfl) ?_
            refine Z_go (f2 := (35, [(4, .ref (P1.2.2.2.1 0)), (0, .ref g), (1, .int (Zi c)), (2, .int (Zi i)), (3, .int (Zi k))], [.int (Zi k), .int (Zi i), .ref (P1.2.2.1 1)])) (fun _ => rfl) ?_
            refine C_callVR (As := [.int (Zi i), .int (Zi k)]) (rest := []) rfl (by decide) rfl (by decide) rfl rfl (by decide +kernel) (Nat.le_of_ble_eq_true rfl) hs (hp.tK (t := 1) (.inr ⟨by omega, hT1⟩)) (o_sgn _ hp (t := 1) (.inr ⟨by omega, hT1⟩) i0 il zk) (fun x q => ?_)
            obtain rfl := q
            show B_R _ _ (38, [(4, .ref (P1.2.2.2.1 0)), (0, .ref g), (1, .int (Zi c)), (2, .int (Zi i)), (3, .int (Zi k))], [.int (Zi (L_at (X_at (G1.2.2.1 1) i) k))]) _ _ _
            refine Z_iret rfl rfl (by first | rfl | decide | exact narrow_b01 (by omega)) ⟨_, hs, ?_⟩
            try dsimp only
            exact ⟨⟨Pl_w ω1 + D_ps v1 sh + D_pr v1 re, by have := cq.1; omega, by have := cq.2.1; omega, ea, u, v, tr, A2, m2, sm, τ, β, G1, P1, ω1, Am, ru, rv, hg, hby, hd, hq, htr, hzb, hp, hQ, hm, e0, hr, rfl⟩, _, rfl, by show if _ then _ else _; rw [if_pos hw]; exact ⟨L, hL, by rw [if_pos (by omega)]; exact eA⟩⟩
        · refine Z_go (f2 := (14, [(0, .ref g), (1, .int (Zi c)), (2, .int (Zi i)), (3, .int (Zi k))], [.int (Zi (-1))])) (fun _ => rfl) ?_
          refine Z_iret rfl rfl (by first | rfl | decide | exact narrow_b01 (by omega)) ⟨_, hs, ?_⟩
          try dsimp only
          exact ⟨⟨W0, by omega, by omega, hJ0⟩, -1, rfl, by show if _ then _ else _; rw [if_pos hw]; exact ⟨L, hL, by rw [if_neg (by omega)]⟩⟩
    · refine Z_go (f2 := (1, [(0, .ref g), (1, .int (Zi c)), (2, .int (Zi i)), (3, .int (Zi k))], [.int (Zi i)])) (fun _ => rfl) ?_
      refine Z_ilt rfl rfl (by first | exact hs.zF _ _ | exact Zor_r _ _ | exact hs.zA _ _ | assumption | exact zA _ _ | exact zS _ | exact Zr_not (hs.zA _ _) | exact hs.1.1 _ _ | exact ⟨by omega, by omega⟩) (fun y1 => ?_) (fun y1 => ?_)
      · refine Z_go (f2 := (14, [(0, .ref g), (1, .int (Zi c)), (2, .int (Zi i)), (3, .int (Zi k))], [.int (Zi (-1))])) (fun _ => rfl) ?_
        refine Z_iret rfl rfl (by first | rfl | decide | exact narrow_b01 (by omega)) ⟨_, hs, ?_⟩
        try dsimp only
        exact ⟨⟨W, by omega, by omega, hJ⟩, -1, rfl, by show if _ then _ else _; rw [if_neg hw]⟩
      · refine Z_go (f2 := (5, [(0, .ref g), (1, .int (Zi c)), (2, .int (Zi i)), (3, .int (Zi k))], [.int (Zi i)])) (fun _ => rfl) ?_
        refine Z_go (f2 := (6, [(0, .ref g), (1, .int (Zi c)), (2, .int (Zi i)), (3, .int (Zi k))], [.ref g, .int (Zi i)])) (fun _ => rfl) ?_
        refine Z_go (f2 := (7, [(0, .ref g), (1, .int (Zi c)), (2, .int (Zi i)), (3, .int (Zi k))], [.int (Zi c), .ref g, .int (Zi i)])) (fun _ => rfl) ?_
        refine C_callV (As := [.int (Zi c)]) (rest := [.int (Zi i)]) rfl (by decide) rfl (by decide) rfl rfl (by decide +kernel) (Nat.le_of_ble_eq_true rfl) hs hJ.k (C_texts _ hJ h3 hQ3 zc) (fun x h v0 k0 hs q => ?_)
        obtain ⟨⟨W0, a1, a2, hJ⟩, z, rfl, hz⟩ := q
        have hJ0 := hJ
        have w := hs.1
        obtain ⟨ea, u, v, tr, A2, m2, sm, τ, β, G, P, ω, Am, ru, rv, hg, hby, hd, hq, htr, hzb, hp, hQ, hm, e0, hr, eW⟩ := hJ
        obtain ⟨gk, gt, g0, tk, tt, g2, g3, g4, g5, g6, gm, m0, m1⟩ := id hg
        have hps : D_ps v0 sh = D_ps v0 sh := rfl
        have hpr : D_pr v0 re = D_pr v0 re := rfl
        have zz : Zr z := J_txz.zr hz hJ0
        obtain rfl : z = -1 := by have hz : if _ then _ else _ := hz; rw [if_neg hw] at hz; exact hz
        show B_R _ _ (10, [(0, .ref g), (1, .int (Zi c)), (2, .int (Zi i)), (3, .int (Zi k))], [.int (Zi ((-1))), .int (Zi i)]) _ _ _
        refine Z_clt rfl rfl (by first | exact hs.zF _ _ | exact Zor_r _ _ | exact hs.zA _ _ | assumption | exact zA _ _ | exact zS _ | exact Zr_not (hs.zA _ _) | exact hs.1.1 _ _ | exact ⟨by omega, by omega⟩) (by first | exact hs.zF _ _ | exact Zor_r _ _ | exact hs.zA _ _ | assumption | exact zA _ _ | exact zS _ | exact Zr_not (hs.zA _ _) | exact hs.1.1 _ _ | exact ⟨by omega, by omega⟩) (fun y2 => ?_) (fun y2 => ?_)
        · exfalso; omega
        · refine Z_go (f2 := (14, [(0, .ref g), (1, .int (Zi c)), (2, .int (Zi i)), (3, .int (Zi k))], [.int (Zi (-1))])) (fun _ => rfl) ?_
          refine Z_iret rfl rfl (by first | rfl | decide | exact narrow_b01 (by omega)) ⟨_, hs, ?_⟩
          try dsimp only
          exact ⟨⟨W0, by omega, by omega, hJ0⟩, -1, rfl, by show if _ then _ else _; rw [if_neg hw]⟩
