/-! the class: its state; search -/
theorem J_by0 {s : C_S} {g tb sh pa pl ma re : Nat} {m : Int} (hg : D_G s g tb sh pa pl ma re m) : D_by s tb 1000 [] := ⟨hg.2.2.2.1, Nat.zero_le _, fun x hx => absurd hx List.not_mem_nil, fun k k0 k1 => by have : k < ((0 : Nat) : Int) := k1; omega⟩
theorem D_wh.congr {B : Nat} {G G2 : G_t} {v : P_V} (h : D_wh B G v) (e : G_oth 0 G G2) : D_wh B G2 v := ⟨h.1.congr e, h.2.1.congr e, by have := e.2.2.1; rw [show G2.2.1 2 = G.2.1 2 from this]; exact h.2.2⟩
theorem D_M0.p0 {X : List Nat → Prop} {s s2 : C_S} {p : List Nat} {o : Nat} {A : Nat → Nat} (h : D_M0 s p o A) (w : C_wf s) (k : C_fr X s s2) (hX : ¬ X p) : C_P s2 o 0 = C_P s o 0 := by
  have lo := C_lt w h.1 (show 10 < 20 by decide)
  rw [(k.2.2.1 o lo (by rw [h.2.1]; exact hX)).2.1]
/-- what the planner holds of the latest good search -/
def J_q (G : G_t) (P : G_p) (Q : Option P_T) : Prop := match Q with
  | none => True
  | some t => P.2.2.2.2.1 0 = true ∧ D_wh 1280 G (P_plan t)
/-- the class between calls: tape, files, fault, the latest good search, its hits and files, counts, room -/
def J_c (s : C_S) (g tb sh pa pl ma re : Nat) (X : List Int) (fs : Int → Option (List Int)) (ca th tg f pq : Int) (Q : Option P_T) (O : List Int) (H : List (List Int)) (n3 n4 n5 n6 : Int) (W : Nat) : Prop := ∃ (ea u v tr : Nat) (A2 : Nat → Nat) (m2 sm : Int) (τ : Nat → Int → Int) (β : Int → Int64) (G : G_t) (P : G_p) (ω : Nat → Nat) (Am : Nat → Nat) (u2 v2 : Nat), D_G s g tb sh pa pl ma re X.length ∧ D_by s tb 1000 X ∧ D_Sh s [1] sh ea u v fs ca th tg ∧ D_Pq s [2] pa tr f pq ∧ D_Tr s [2, tr] tr A2 m2 sm τ β ∧ T_zb τ ∧ D_Pl s [3] pl tr 1280 G P ω ∧ J_q G P Q ∧ D_M0 s [4] ma Am ∧ C_P s ma 0 = some tr ∧ D_Rp s [5] re u2 v2 O H.flatten H.length n3 n4 n5 n6 ∧ W = Pl_w ω + D_ps s sh + D_pr s re
theorem D_rd.ok {S : Int → Int} {fo : Prop} {n f pl m sm : Int} {τ : Nat → Int → Int} {β : Int → Int64} (h : D_rd (P_reads S fo n) n f pl m sm τ β) (f0 : f = 0) : ∃ t b, P_reads S fo n = .inr (t, b) ∧ T_sz t ≤ 200 ∧ pl = -1 ∧ N_is τ (T_has β) sm 48 2 0 m 0 t ∧ T_gs τ 0 = T_sz t := by
  generalize P_reads S fo n = R at *
  match R, h with
  | .inl (k, w), h => have h : f = k ∧ pl = w ∧ k ≠ 0 := h; omega
  | .inr (t, b), h =>
    rcases h with ⟨_, h2, _⟩ | ⟨h1, h2, h3, h4, h5⟩
    · omega
    · exact ⟨t, b, rfl, h1, h3, h4, h5⟩
theorem D_rd.bad {S : Int → Int} {fo : Prop} {n f pl m sm : Int} {τ : Nat → Int → Int} {β : Int → Int64} (h : D_rd (P_reads S fo n) n f pl m sm τ β) (f0 : f ≠ 0) : P_srch S fo n = .inl (f, pl) := by
  cases e : P_reads S fo n with
  | inl q =>
    obtain ⟨k, w⟩ := q
    rw [e] at h
    have h : f = k ∧ pl = w ∧ k ≠ 0 := h
    rw [P_srch_bad e, h.1, h.2.1]
  | inr q =>
    obtain ⟨t, b⟩ := q
    rw [e] at h
    rcases h with ⟨h1, h2, h3⟩ | ⟨h1, h2, _⟩
    · rw [P_srch_big e h1, h2, h3]
    · omega
theorem L_at_end {X : List Int} {k : Int} (h : (X.length : Int) ≤ k) : L_at X k = -1 := by
  unfold L_at
  rw [if_pos (by omega), List.getD_eq_getElem?_getD, List.getElem?_eq_none (by omega)]
  rfl
theorem L_at_by {X : List Int} (h : ∀ x ∈ X, 0 ≤ x ∧ x < 256) {k : Int} (k0 : 0 ≤ k) (k1 : k < X.length) : 0 ≤ L_at X k ∧ L_at X k < 256 := by
  have e : L_at X k = X[k.toNat]'(by omega) := by
    unfold L_at
    rw [if_pos k0, List.getD_eq_getElem?_getD, List.getElem?_eq_getElem (by omega)]
    rfl
  rw [e]
  exact h _ (List.getElem_mem _)
theorem C_search (d : Nat) {s : C_S} {g tb sh pa pl ma re : Nat} {X : List Int} {fs : Int → Option (List Int)} {ca th tg f0 pq0 fo : Int} {Q : Option P_T} {O : List Int} {H : List (List Int)} {n3 n4 n5 n6 : Int} {W : Nat} {S : Int → Int} (hJ : J_c s g tb sh pa pl ma re X fs ca th tg f0 pq0 Q O H n3 n4 n5 n6 W) (f01 : fo = 0 ∨ fo = 1) (hcn : D_cn (fun f => ∃ X, fs f = some X) ca th) (th40 : th ≤ 40) (h3 : 0 ≤ n3 ∧ n3 ≤ 1000000) (h4 : 0 ≤ n4 ∧ n4 ≤ 1000000) (h5 : 0 ≤ n5 ∧ n5 ≤ 1000000) (hS0 : ∀ k : Int, 0 ≤ k → k < X.length → S k = L_at X k) (hS1 : ∀ k : Int, (X.length : Int) ≤ k → S k = -1) : C_ok (d + 201) 153 [.ref g, .int (Zi fo)] s (fun x s2 n => match P_srch S (fo ≠ 0) X.length with | .inl (k, wh) => x = some (.int (Zi (-1))) ∧ n = 0 ∧ C_n s2 = C_n s ∧ J_c s2 g tb sh pa pl ma re [] fs ca th tg k wh Q O H n3 n4 n5 n6 W | .inr (t, _) => ∃ L O2 H2 W2, x = some (.int (Zi (H2.length))) ∧ X_srt L (V_C (P_plan t)) ∧ Y_sl fs t L ca O2 H2 ∧ n + 2 * W ≤ 2 * W2 ∧ 8 * C_n s2 + W ≤ 8 * C_n s + W2 ∧ J_c s2 g tb sh pa pl ma re [] fs ca th tg 0 (-1) (some t) O2 H2 (n3 + 1) (n4 + O2.length) (n5 + H2.length) (T_sz t) W2) := by
  refine C_enter (M := E_m153) rfl (Nat.le_of_ble_eq_true rfl) (fun h0 h hs => ?_)
  show B_R (d + 200) _ (0, [(0, .ref g), (1, .int (Zi fo))], []) _ _ _
  have w := hs.1
  obtain ⟨ea, u, v, tr, A2, m2, sm, τ, β, G, P, ω, Am, ru, rv, hg, hby, hd, hq, htr, hzb, hp, hQ, hm, e0, hr, eW⟩ := hJ
  obtain ⟨gk, gt, g0, tk, tt, g2, g3, g4, g5, g6, gm, m0, m1⟩ := id hg
  have zm : Zr (X.length : Int) := ⟨by omega, by omega⟩
  have zfo : Zr fo := ⟨by omega, by omega⟩
  have hbX : ∀ k : Int, 0 ≤ k → k < X.length → C_A s tb k % 256 = S k ∧ 0 ≤ S k ∧ S k < 256 := fun k k0 k1 => by rw [hS0 k k0 k1]; exact ⟨hby.2.2.2 k k0 k1, L_at_by hby.2.2.1 k0 k1⟩
  have tR := hd.1.2.2.2.2.2.2.2.2.2.2
  refine Z_go (f2 := (1, [(0, .ref g), (1, .int (Zi fo))], [.ref g])) (fun _ => rfl) ?_
  refine C_gi rfl hs gk (by decide) (Nat.le_of_ble_eq_true rfl) rfl ?_
  rw [show C_F (s) g 1 = (X.length : Int) from (by first | exact gm | exact (if_neg (fun e => absurd e.1 (by assumption))).trans gm | exact (if_neg (fun e => absurd e.2 (by decide))).trans gm | exact (if_neg (fun e => absurd e.2 (by decide))).trans ((if_neg (fun e => absurd e.2 (by decide))).trans gm) | exact (if_neg (fun e => absurd e.2 (by decide))).trans ((if_neg (fun e => absurd e.2 (by decide))).trans ((if_neg (fun e => absurd e.2 (by decide))).trans gm)))]
  show B_R _ _ (4, [(0, .ref g), (1, .int (Zi fo))], [.int (Zi ((X.length : Int)))]) _ _ _
  refine Z_go (f2 := (5, [(2, .int (Zi ((X.length : Int)))), (0, .ref g), (1, .int (Zi fo))], [])) (fun _ => rfl) ?_
  refine Z_go (f2 := (6, [(2, .int (Zi ((X.length : Int)))), (0, .ref g), (1, .int (Zi fo))], [.ref g])) (fun _ => rfl) ?_
  refine Z_go (f2 := (7, [(2, .int (Zi ((X.length : Int)))), (0, .ref g), (1, .int (Zi fo))], [.int (Zi 0), .ref g])) (fun _ => rfl) ?_
  refine C_pi rfl hs gk (by decide) (Nat.le_of_ble_eq_true rfl) (.inl rfl) rfl rfl rfl (by first | exact hs.zF _ _ | exact Zor_r _ _ | exact hs.zA _ _ | assumption | exact zA _ _ | exact zS _ | exact Zr_not (hs.zA _ _) | exact hs.1.1 _ _ | exact ⟨by omega, by omega⟩) (fun h hs => ?_)
  have q0 : C_fr (fun q => q = []) s (C_sF s g 1 0) := (C_fr.refl _ _).sF gt
  have hps : D_ps (C_sF s g 1 0) sh = D_ps s sh := (hd.fr w q0 (fun t h e => by rw [e] at h; exact L_pr0 h)).2
  have hpr : D_pr (C_sF s g 1 0) re = D_pr s re := (hr.fr w q0 (fun t h e => by rw [e] at h; exact L_pr0 h)).2
  have hd := (hd.fr w q0 (fun t h e => by rw [e] at h; exact L_pr0 h)).1
  have hr := (hr.fr w q0 (fun t h e => by rw [e] at h; exact L_pr0 h)).1
  have hq := hq.fr w q0 (fun e => by cases e)
  have htr := htr.fr w q0 (fun e => by cases e)
  have hp := hp.fr w q0 (fun t h e => by rw [e] at h; exact L_pr0 h)
  have e0 : C_P (C_sF s g 1 0) ma 0 = some tr := e0
  have hm := hm.fr w q0 (fun e => by cases e)
  have w0 := hs.1
  have hg0 : D_G (C_sF s g 1 0) g tb sh pa pl ma re 0 := ⟨gk, gt, g0, tk, tt, g2, g3, g4, g5, g6, if_pos ⟨rfl, rfl⟩, by omega, by omega⟩
  have zX := hg
  have hg := hg0
  refine Z_go (f2 := (11, [(2, .int (Zi ((X.length : Int)))), (0, .ref g), (1, .int (Zi fo))], [.ref g])) (fun _ => rfl) ?_
  refine C_gr rfl hs gk (by decide) (Nat.le_of_ble_eq_true rfl) rfl g3 ?_
  refine Z_go (f2 := (15, [(2, .int (Zi ((X.length : Int)))), (0, .ref g), (1, .int (Zi fo))], [.ref g, .ref pa])) (fun _ => rfl) ?_
  refine C_gr rfl hs gk (by decide) (Nat.le_of_ble_eq_true rfl) rfl g0 ?_
  refine Z_go (f2 := (19, [(2, .int (Zi ((X.length : Int)))), (0, .ref g), (1, .int (Zi fo))], [.int (Zi ((X.length : Int))), .ref tb, .ref pa])) (fun _ => rfl) ?_
  refine Z_go (f2 := (20, [(2, .int (Zi ((X.length : Int)))), (0, .ref g), (1, .int (Zi fo))], [.int (Zi fo), .int (Zi ((X.length : Int))), .ref tb, .ref pa])) (fun _ => rfl) ?_
  refine C_callV (As := [.ref tb, .int (Zi ((X.length : Int))), .int (Zi fo)]) (rest := []) rfl (by decide) rfl (by decide) rfl rfl (by decide +kernel) (Nat.le_of_ble_eq_true rfl) hs hq.1 (C_read (S := S) _ hq htr hzb tk (by show ¬ [2] <+: C_T s tb; rw [tt]; exact L_pr0) hbX hS1 m0 m1 f01) (fun x h v1 k1 hs q => ?_)
  obtain ⟨rfl, rfl, ⟨q1, qn⟩, f2, pq2, m2, sm, τ, β, hq, htr, hzb, hrd⟩ := q
  have hg := hg.fr w0 q1 L_pr0
  have hdx := hd.fr w0 q1 (fun t h e => by have := L_pr1 h e; omega)
  obtain ⟨hd, eps⟩ := hdx
  have hps := eps.trans hps
  have hp := hp.fr w0 q1 (fun t h e => by have := L_pr1 h e; omega)
  have e0 : C_P _ ma 0 = some tr := (D_M0.p0 hm w0 q1 (fun e => by have := L_pr1 (a := 4) (L_pre_self _) e; omega)).trans e0
  have hm := hm.fr w0 q1 (fun e => by have := L_pr1 (a := 4) (L_pre_self _) e; omega)
  have hrx := hr.fr w0 q1 (fun t h e => by have := L_pr1 h e; omega)
  obtain ⟨hr, epr⟩ := hrx
  have hpr := epr.trans hpr
  have w1 := hs.1
  have zf2 : Zr f2 := by rw [← hq.2.2.2.1]; exact hs.1.1 pa 1
  obtain ⟨gk, gt, g0, tk, tt, g2, g3, g4, g5, g6, gm, m0, m1⟩ := id hg
  show B_R _ _ (23, [(2, .int (Zi ((X.length : Int)))), (0, .ref g), (1, .int (Zi fo))], []) _ _ _
  refine Z_go (f2 := (24, [(2, .int (Zi ((X.length : Int)))), (0, .ref g), (1, .int (Zi fo))], [.ref g])) (fun _ => rfl) ?_
  refine C_gr rfl hs gk (by decide) (Nat.le_of_ble_eq_true rfl) rfl g3 ?_
  refine C_gi rfl hs hq.1 (by decide) (Nat.le_of_ble_eq_true rfl) rfl ?_
  rw [show C_F (v1) pa 1 = f2 from (by first | exact hq.2.2.2.1 | exact (if_neg (fun e => absurd e.1 (by assumption))).trans hq.2.2.2.1 | exact (if_neg (fun e => absurd e.2 (by decide))).trans hq.2.2.2.1 | exact (if_neg (fun e => absurd e.2 (by decide))).trans ((if_neg (fun e => absurd e.2 (by decide))).trans hq.2.2.2.1) | exact (if_neg (fun e => absurd e.2 (by decide))).trans ((if_neg (fun e => absurd e.2 (by decide))).trans ((if_neg (fun e => absurd e.2 (by decide))).trans hq.2.2.2.1)))]
  show B_R _ _ (30, [(2, .int (Zi ((X.length : Int)))), (0, .ref g), (1, .int (Zi fo))], [.int (Zi f2)]) _ _ _
  refine Z_ieq rfl rfl (by first | exact hs.zF _ _ | exact Zor_r _ _ | exact hs.zA _ _ | assumption | exact zA _ _ | exact zS _ | exact Zr_not (hs.zA _ _) | exact hs.1.1 _ _ | exact ⟨by omega, by omega⟩) (fun y1 => ?_) (fun y1 => ?_)
  · obtain ⟨t, b9, hR, hsz, rfl, hN, hgs⟩ := hrd.ok (by omega)
    obtain rfl : f2 = 0 := by omega
    have his := N_is.is _ _ _ _ _ _ hN
    have szp := T_sz_pos his
    have hb80 : T_by t ≤ 80 := by
      have := P_reads_ok hS1 (by omega) hR
      omega
    refine Z_go (f2 := (36, [(2, .int (Zi ((X.length : Int)))), (0, .ref g), (1, .int (Zi fo))], [.ref g])) (fun _ => rfl) ?_
    refine C_gr rfl hs gk (by decide) (Nat.le_of_ble_eq_true rfl) rfl g4 ?_
    refine C_callV (As := []) (rest := []) rfl (by decide) rfl (by decide) rfl rfl (by decide +kernel) (Nat.le_of_ble_eq_true rfl) hs hp.1.1.1 (C_plan _ hp (by omega) (by omega) htr (by intro e; have := L_pr1 (a := 2) ⟨[tr], rfl⟩ e; omega) hN hb80) (fun x h v2 k2 hs q => ?_)
    obtain ⟨rfl, P2, G2, ω2, hp, cq, hT, hwh⟩ := q
    have pf := cq.2.2
    have hg := hg.fr w1 pf L_pr0
    have hdx := hd.fr w1 pf (fun t h e => by have := L_pr1 h e; omega)
    obtain ⟨hd, eps⟩ := hdx
    have hps := eps.trans hps
    have hq := hq.fr w1 pf (fun e => by have := L_pr1 (a := 2) (L_pre_self _) e; omega)
    have htr := htr.fr w1 pf (fun e => by have := L_pr1 (a := 2) ⟨[tr], rfl⟩ e; omega)
    have e0 : C_P _ ma 0 = some tr := (D_M0.p0 hm w1 pf (fun e => by have := L_pr1 (a := 4) (L_pre_self _) e; omega)).trans e0
    have hm := hm.fr w1 pf (fun e => by have := L_pr1 (a := 4) (L_pre_self _) e; omega)
    have hrx := hr.fr w1 pf (fun t h e => by have := L_pr1 h e; omega)
    obtain ⟨hr, epr⟩ := hrx
    have hpr := epr.trans hpr
    have w2 := hs.1
    obtain ⟨gk, gt, g0, tk, tt, g2, g3, g4, g5, g6, gm, m0, m1⟩ := id hg
    show B_R _ _ (42, [(2, .int (Zi ((X.length : Int)))), (0, .ref g), (1, .int (Zi fo))], []) _ _ _
    refine Z_go (f2 := (43, [(2, .int (Zi ((X.length : Int)))), (0, .ref g), (1, .int (Zi fo))], [.ref g])) (fun _ => rfl) ?_
    refine C_gr rfl hs gk (by decide) (Nat.le_of_ble_eq_true rfl) rfl g5 ?_
    refine C_callV (As := []) (rest := []) rfl (by decide) rfl (by decide) rfl rfl (by decide +kernel) (Nat.le_of_ble_eq_true rfl) hs hm.1 (C_build _ hm e0 htr (by intro e; injection e with e _; omega) hN hsz) (fun x h v3 k3 hs q => ?_)
    obtain ⟨rfl, rfl, bf, bn, bP, hM⟩ := q
    have hg := hg.fr w2 bf (fun e => by cases e)
    have hdx := hd.fr w2 bf (fun t h e => by rw [e] at h; have := L_pr1 h (L_pre_self _); omega)
    obtain ⟨hd, eps⟩ := hdx
    have hps := eps.trans hps
    have hq := hq.fr w2 bf (fun e => by cases e)
    have htr := htr.fr w2 bf (fun e => by cases e)
    have hp := hp.fr w2 bf (fun t h e => by rw [e] at h; have := L_pr1 h (L_pre_self _); omega)
    have hrx := hr.fr w2 bf (fun t h e => by rw [e] at h; have := L_pr1 h (L_pre_self _); omega)
    obtain ⟨hr, epr⟩ := hrx
    have hpr := epr.trans hpr
    have e0 := (bP 0).trans e0
    have w3 := hs.1
    obtain ⟨gk, gt, g0, tk, tt, g2, g3, g4, g5, g6, gm, m0, m1⟩ := id hg
    show B_R _ _ (49, [(2, .int (Zi ((X.length : Int)))), (0, .ref g), (1, .int (Zi fo))], []) _ _ _
    refine Z_go (f2 := (50, [(2, .int (Zi ((X.length : Int)))), (0, .ref g), (1, .int (Zi fo))], [.ref g])) (fun _ => rfl) ?_
    refine C_gr rfl hs gk (by decide) (Nat.le_of_ble_eq_true rfl) rfl g6 ?_
    refine Z_go (f2 := (54, [(2, .int (Zi ((X.length : Int)))), (0, .ref g), (1, .int (Zi fo))], [.ref g, .ref re])) (fun _ => rfl) ?_
    refine C_gr rfl hs gk (by decide) (Nat.le_of_ble_eq_true rfl) rfl g3 ?_
    refine C_gr rfl hs hq.1 (by decide) (Nat.le_of_ble_eq_true rfl) rfl hq.2.2.1 ?_
    refine Z_go (f2 := (61, [(2, .int (Zi ((X.length : Int)))), (0, .ref g), (1, .int (Zi fo))], [.ref g, .ref tr, .ref re])) (fun _ => rfl) ?_
    refine C_gr rfl hs gk (by decide) (Nat.le_of_ble_eq_true rfl) rfl g3 ?_
    refine C_gr rfl hs hq.1 (by decide) (Nat.le_of_ble_eq_true rfl) rfl hq.2.2.1 ?_
    refine C_callVR (As := []) (rest := [.ref tr, .ref re]) rfl (by decide) rfl (by decide) rfl rfl (by decide +kernel) (Nat.le_of_ble_eq_true rfl) hs htr.1.1 (C_root _ htr) (fun x q => ?_)
    obtain rfl := q
    show B_R _ _ (70, [(2, .int (Zi ((X.length : Int)))), (0, .ref g), (1, .int (Zi fo))], [.int (Zi 0), .ref tr, .ref re]) _ _ _
    refine C_callVR (As := [.int (Zi 0)]) (rest := [.ref re]) rfl (by decide) rfl (by decide) rfl rfl (by decide +kernel) (Nat.le_of_ble_eq_true rfl) hs htr.1.1 (C_t8 _ htr (i := 0) ⟨by omega, by omega⟩) (fun x q => ?_)
    obtain rfl := q
    show B_R _ _ (73, [(2, .int (Zi ((X.length : Int)))), (0, .ref g), (1, .int (Zi fo))], [.int (Zi (T_gs τ 0)), .ref re]) _ _ _
    refine C_callV (As := [.int (Zi (T_gs τ 0))]) (rest := []) rfl (by decide) rfl (by decide) rfl rfl (by decide +kernel) (Nat.le_of_ble_eq_true rfl) hs hr.1.1 (C_begin _ hr ⟨by omega, by omega⟩ ⟨by omega, by omega⟩) (fun x h v4 k4 hs q => ?_)
    obtain ⟨rfl, rfl, en, ef, ep, hr⟩ := q
    have hg := hg.fr w3 ef L_pr0
    have hdx := hd.fr w3 ef (fun t h e => by have := L_pr1 h e; omega)
    obtain ⟨hd, eps⟩ := hdx
    have hps := eps.trans hps
    have hq := hq.fr w3 ef (fun e => by have := L_pr1 (a := 2) (L_pre_self _) e; omega)
    have htr := htr.fr w3 ef (fun e => by have := L_pr1 (a := 2) ⟨[tr], rfl⟩ e; omega)
    have hp := hp.fr w3 ef (fun t h e => by have := L_pr1 h e; omega)
    obtain ⟨hM, hPm⟩ := hM.fr w3 ef (fun e => by have := L_pr1 (a := 4) (L_pre_self _) e; omega)
    have e0 := (hPm 0).trans e0
    have hpr := ep.trans hpr
    have w4 := hs.1
    obtain ⟨gk, gt, g0, tk, tt, g2, g3, g4, g5, g6, gm, m0, m1⟩ := id hg
    show B_R _ _ (76, [(2, .int (Zi ((X.length : Int)))), (0, .ref g), (1, .int (Zi fo))], []) _ _ _
    refine Z_go (f2 := (77, [(2, .int (Zi ((X.length : Int)))), (0, .ref g), (1, .int (Zi fo))], [.ref g])) (fun _ => rfl) ?_
    refine C_gr rfl hs gk (by decide) (Nat.le_of_ble_eq_true rfl) rfl g4 ?_
    refine C_callV (As := []) (rest := []) rfl (by decide) rfl (by decide) rfl rfl (by decide +kernel) (Nat.le_of_ble_eq_true rfl) hs hp.1.1.1 (C_whl _ hp (by omega) (by omega)) (fun x h v5 k5 hs q => ?_)
    obtain ⟨P5, G5, ω5, rfl, hp, cq5, le5, hT5, ot5⟩ := q
    have pf := cq5.2.2
    have hwh := hwh.congr (ot5 0 hT)
    have hg := hg.fr w4 pf L_pr0
    have hdx := hd.fr w4 pf (fun t h e => by have := L_pr1 h e; omega)
    obtain ⟨hd, eps⟩ := hdx
    have hps := eps.trans hps
    have hq := hq.fr w4 pf (fun e => by have := L_pr1 (a := 2) (L_pre_self _) e; omega)
    have htr := htr.fr w4 pf (fun e => by have := L_pr1 (a := 2) ⟨[tr], rfl⟩ e; omega)
    obtain ⟨hM, hPm⟩ := hM.fr w4 pf (fun e => by have := L_pr1 (a := 4) (L_pre_self _) e; omega)
    have e0 := (hPm 0).trans e0
    have hrx := hr.fr w4 pf (fun t h e => by have := L_pr1 h e; omega)
    obtain ⟨hr, epr⟩ := hrx
    have hpr := epr.trans hpr
    have w5 := hs.1
    obtain ⟨gk, gt, g0, tk, tt, g2, g3, g4, g5, g6, gm, m0, m1⟩ := id hg
    show B_R _ _ (83, [(2, .int (Zi ((X.length : Int)))), (0, .ref g), (1, .int (Zi fo))], [.ref (P5.2.2.2.1 0)]) _ _ _
    refine C_gr rfl hs (hp.2.1 0 (by omega) hT5).1 (by decide) (Nat.le_of_ble_eq_true rfl) rfl (hp.2.1 0 (by omega) hT5).2.2.2.2.2.1 ?_
    refine Z_go (f2 := (87, [(3, .ref (P5.2.1 2)), (2, .int (Zi ((X.length : Int)))), (0, .ref g), (1, .int (Zi fo))], [])) (fun _ => rfl) ?_
    refine Z_go (f2 := (88, [(3, .ref (P5.2.1 2)), (2, .int (Zi ((X.length : Int)))), (0, .ref g), (1, .int (Zi fo))], [.int (Zi 0)])) (fun _ => rfl) ?_
    refine Z_go (f2 := (90, [(4, .int (Zi 0)), (3, .ref (P5.2.1 2)), (2, .int (Zi ((X.length : Int)))), (0, .ref g), (1, .int (Zi fo))], [])) (fun _ => rfl) ?_
    refine B_loc (K := [(4, .int (Zi 0)), (0, .ref g), (1, .int (Zi fo)), (2, .int (Zi ((X.length : Int)))), (3, .ref (P5.2.1 2))]) (N_all_sub ⟨rfl, rfl, rfl, rfl, rfl, trivial⟩) (show ([4, 0, 1, 2, 3] : List Nat).Nodup by decide) ?_
    refine C_se_lp (s := v5) (z := k2 + k5) (L := G5.2.1 2) hg hd hp hT5 rfl htr w5 his hcn th40 h4 h5 (fun u9 h9 sl9 O2 H2 hs iv => ?_) (ca - 0).toNat 0 v5 h _ [] [] rfl (by omega) (by omega) hs ⟨C_fr.refl _ _, hM, e0, by rw [show ((([] : List Int).length : Nat) : Int) = 0 from rfl, show ((([] : List (List Int)).length : Nat) : Int) = 0 from rfl, Int.add_zero, Int.add_zero]; exact hr, by omega, by omega, Y_sl_0 fs t _⟩
    obtain ⟨iv1, iv2, iv3, hr, iv5, iv6, iv7⟩ := iv
    have hg := hg.fr w5 iv1 (fun e => by rcases e with e | e; exact L_pr0 e; cases e)
    have hdx := hd.fr w5 iv1 (fun t h e => by rcases e with e | e; have := L_pr1 h e; omega; rw [e] at h; have := L_pr1 h (L_pre_self _); omega)
    obtain ⟨hd, eps⟩ := hdx
    have hps := eps.trans hps
    have hq := hq.fr w5 iv1 (fun e => by rcases e with e | e; have := L_pr1 (a := 2) (L_pre_self _) e; omega; cases e)
    have htr := htr.fr w5 iv1 (fun e => by rcases e with e | e; have := L_pr1 (a := 2) ⟨[tr], rfl⟩ e; omega; cases e)
    have hp := hp.fr w5 iv1 (fun t h e => by rcases e with e | e; have := L_pr1 h e; omega; rw [e] at h; have := L_pr1 h (L_pre_self _); omega)
    have w6 := hs.1
    obtain ⟨gk, gt, g0, tk, tt, g2, g3, g4, g5, g6, gm, m0, m1⟩ := id hg
    refine Z_go (f2 := (204, [(0, .ref g), (1, .int (Zi fo)), (2, .int (Zi ((X.length : Int)))), (3, .ref (P5.2.1 2))], [.ref g])) (fun _ => rfl) ?_
    refine C_gr rfl hs gk (by decide) (Nat.le_of_ble_eq_true rfl) rfl g6 ?_
    refine C_gi rfl hs hr.1.1 (by decide) (Nat.le_of_ble_eq_true rfl) rfl ?_
    rw [show C_F (u9) re 2 = (H2.length : Int) from (by first | exact hr.1.2.2.2.2.1 | exact (if_neg (fun e => absurd e.1 (by assumption))).trans hr.1.2.2.2.2.1 | exact (if_neg (fun e => absurd e.2 (by decide))).trans hr.1.2.2.2.2.1 | exact (if_neg (fun e => absurd e.2 (by decide))).trans ((if_neg (fun e => absurd e.2 (by decide))).trans hr.1.2.2.2.2.1) | exact (if_neg (fun e => absurd e.2 (by decide))).trans ((if_neg (fun e => absurd e.2 (by decide))).trans ((if_neg (fun e => absurd e.2 (by decide))).trans hr.1.2.2.2.2.1)))]
    show B_R _ _ (210, [(0, .ref g), (1, .int (Zi fo)), (2, .int (Zi ((X.length : Int)))), (3, .ref (P5.2.1 2))], [.int (Zi ((H2.length : Int)))]) _ _ _
    refine Z_iret rfl rfl (by first | rfl | decide | exact narrow_b01 (by omega)) ⟨_, hs, ?_⟩
    try dsimp only
    rw [P_srch_ok hR (by omega)]
    exact ⟨G5.2.1 2, O2, H2, Pl_w ω5 + D_ps u9 sh + D_pr u9 re, rfl, hwh.2.2, iv7, by have := cq.1; have := cq5.1; omega, by have := cq.2.1; have := cq5.2.1; have : C_n (C_sF s g 1 0) = C_n s := rfl; omega, ea, u, v, tr, A2, m2, sm, τ, β, G5, P5, ω5, Am, ru, rv, hg, J_by0 hg, hd, hq, htr, hzb, hp, ⟨hT5, hwh⟩, iv2.1, iv3, by rw [← hgs]; exact hr, rfl⟩
  · refine Z_go (f2 := (34, [(2, .int (Zi ((X.length : Int)))), (0, .ref g), (1, .int (Zi fo))], [.int (Zi (-1))])) (fun _ => rfl) ?_
    refine Z_iret rfl rfl (by first | rfl | decide | exact narrow_b01 (by omega)) ⟨_, hs, ?_⟩
    try dsimp only
    rw [hrd.bad (by omega)]
    exact ⟨rfl, rfl, qn, ea, u, v, tr, A2, m2, sm, τ, β, G, P, ω, Am, ru, rv, hg, J_by0 hg, hd, hq, htr, hzb, hp, hQ, hm, e0, hr, by omega⟩
