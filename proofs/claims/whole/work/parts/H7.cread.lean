/-! the class: Parser: read -/
/-- the parser between readings -/
def D_Pq (s : C_S) (p : List Nat) (o tr : Nat) (f pl : Int) : Prop := C_K s o = (11, 0) ∧ C_T s o = p ∧ C_P s o 0 = some tr ∧ C_F s o 1 = f ∧ C_F s o 2 = pl
theorem D_Pq.fr {X : List Nat → Prop} {s u : C_S} {p : List Nat} {o tr : Nat} {f pl : Int} (h : D_Pq s p o tr f pl) (w : C_wf s) (k : C_fr X s u) (hX : ¬ X p) : D_Pq u p o tr f pl := by
  obtain ⟨h1, h2, h3, h4, h5⟩ := h
  have lo := C_lt w h1 (show 11 < 20 by decide)
  obtain ⟨e1, e2, e3, e4, e5⟩ := k.2.2.1 o lo (by rw [h2]; exact hX)
  exact ⟨by rw [(k.2.1 o lo).1]; exact h1, by rw [(k.2.1 o lo).2]; exact h2, by rw [e2]; exact h3, by rw [e1]; exact h4, by rw [e1]; exact h5⟩
theorem D_P0.q {s : C_S} {p : List Nat} {o tr src N : Nat} {S : Int → Int} {nn fo f pl a : Int} (hp : D_P0 s p o tr src N S nn fo f pl a) : D_Pq s p o tr f pl := ⟨hp.1.1, hp.1.2.1, hp.1.2.2.1, hp.1.2.2.2.2.2.2.1, hp.1.2.2.2.2.2.2.2.1⟩
/-- what a reading leaves -/
def D_rd (R : P_R P_T) (n f pl m sm : Int) (τ : Nat → Int → Int) (β : Int → Int64) : Prop := match R with
  | .inl (k, w) => f = k ∧ pl = w ∧ k ≠ 0
  | .inr (t, _) => 200 < T_sz t ∧ f = 3 ∧ pl = n ∨ T_sz t ≤ 200 ∧ f = 0 ∧ pl = -1 ∧ N_is τ (T_has β) sm 48 2 0 m 0 t ∧ T_gs τ 0 = T_sz t
theorem D_Tr.oP {s : C_S} {q : List Nat} {tr o : Nat} {A : Nat → Nat} {m sm : Int} {τ : Nat → Int → Int} {β : Int → Int64} (h : D_Tr s q tr A m sm τ β) (ne : tr ≠ o) {b : Nat} {z : Option Nat} : D_Tr (C_sP s o b z) q tr A m sm τ β := by
  obtain ⟨h1, g1, g⟩ := h
  exact ⟨h1, fun f hf => ⟨(if_neg (fun e => ne e.1)).trans (g1 f hf).1, (g1 f hf).2⟩, g⟩
/-- a fault where there is none yet, by what stands there -/
theorem C_failz (d : Nat) {s : C_S} {o : Nat} (ok : C_K s o = (11, 0)) (of_ : C_F s o 1 = 0) {kd wh : Int} (zk : Zr kd) (zw : Zr wh) : C_ok (d + 1) 33 [.ref o, .int (Zi kd), .int (Zi wh)] s (fun x s2 n => x = none ∧ n = 0 ∧ s2 = C_sF (C_sF s o 1 kd) o 2 wh) := by
  refine C_enter (M := E_m33) rfl (Nat.le_of_ble_eq_true rfl) (fun h0 h hs => ?_)
  show B_R (d + 0) _ (0, [(0, .ref o), (1, .int (Zi kd)), (2, .int (Zi wh))], []) _ _ _
  refine Z_go (f2 := (1, [(0, .ref o), (1, .int (Zi kd)), (2, .int (Zi wh))], [.ref o])) (fun _ => rfl) ?_
  refine C_gi rfl hs ok (by decide) (Nat.le_of_ble_eq_true rfl) rfl ?_
  rw [show C_F (s) o 1 = 0 from (by first | exact of_ | exact (if_neg (fun e => absurd e.1 (by assumption))).trans of_ | exact (if_neg (fun e => absurd e.2 (by decide))).trans of_ | exact (if_neg (fun e => absurd e.2 (by decide))).trans ((if_neg (fun e => absurd e.2 (by decide))).trans of_) | exact (if_neg (fun e => absurd e.2 (by decide))).trans ((if_neg (fun e => absurd e.2 (by decide))).trans ((if_neg (fun e => absurd e.2 (by decide))).trans of_)))]
  show B_R _ _ (4, [(0, .ref o), (1, .int (Zi kd)), (2, .int (Zi wh))], [.int (Zi 0)]) _ _ _
  refine Z_ine rfl rfl (by first | exact hs.zF _ _ | exact Zor_r _ _ | exact hs.zA _ _ | assumption | exact zA _ _ | exact zS _ | exact Zr_not (hs.zA _ _) | exact hs.1.1 _ _ | exact ⟨by omega, by omega⟩) (fun c1 => ?_) (fun c1 => ?_)
  · exfalso; omega
  · refine Z_go (f2 := (8, [(0, .ref o), (1, .int (Zi kd)), (2, .int (Zi wh))], [.ref o])) (fun _ => rfl) ?_
    refine Z_go (f2 := (9, [(0, .ref o), (1, .int (Zi kd)), (2, .int (Zi wh))], [.int (Zi kd), .ref o])) (fun _ => rfl) ?_
    refine C_pi rfl hs ok (by decide) (Nat.le_of_ble_eq_true rfl) (.inl rfl) rfl rfl rfl (by first | exact hs.zF _ _ | exact Zor_r _ _ | exact hs.zA _ _ | assumption | exact zA _ _ | exact zS _ | exact Zr_not (hs.zA _ _) | exact hs.1.1 _ _ | exact ⟨by omega, by omega⟩) (fun h hs => ?_)
    refine Z_go (f2 := (13, [(0, .ref o), (1, .int (Zi kd)), (2, .int (Zi wh))], [.ref o])) (fun _ => rfl) ?_
    refine Z_go (f2 := (14, [(0, .ref o), (1, .int (Zi kd)), (2, .int (Zi wh))], [.int (Zi wh), .ref o])) (fun _ => rfl) ?_
    refine C_pi rfl hs ok (by decide) (Nat.le_of_ble_eq_true rfl) (.inl rfl) rfl rfl rfl (by first | exact hs.zF _ _ | exact Zor_r _ _ | exact hs.zA _ _ | assumption | exact zA _ _ | exact zS _ | exact Zr_not (hs.zA _ _) | exact hs.1.1 _ _ | exact ⟨by omega, by omega⟩) (fun h hs => ?_)
    refine Z_ret rfl rfl ⟨_, hs, ?_⟩
    try dsimp only
    exact ⟨rfl, rfl, rfl⟩
theorem C_read (d : Nat) {s : C_S} {p : List Nat} {o tr src N : Nat} {S : Int → Int} {f0 pl0 nn fo : Int} {A : Nat → Nat} {m sm : Int} {τ : Nat → Int → Int} {β : Int → Int64} (hq : D_Pq s p o tr f0 pl0) (hd : D_Tr s (p ++ [tr]) tr A m sm τ β) (hz : T_zb τ) (sk : C_K s src = (1, N)) (st_ : ¬ p <+: C_T s src) (hb : ∀ k : Int, 0 ≤ k → k < nn → C_A s src k % 256 = S k ∧ 0 ≤ S k ∧ S k < 256) (hn : ∀ k, nn ≤ k → S k = -1) (n0 : 0 ≤ nn) (n1 : nn ≤ N) (f01 : fo = 0 ∨ fo = 1) : C_ok (d + 66) 32 [.ref o, .ref src, .int (Zi nn), .int (Zi fo)] s (fun x s2 n => x = none ∧ n = 0 ∧ D_Pf p s s2 ∧ ∃ (f2 pl2 m2 sm2 : Int) (τ2 : Nat → Int → Int) (β2 : Int → Int64), D_Pq s2 p o tr f2 pl2 ∧ D_Tr s2 (p ++ [tr]) tr A m2 sm2 τ2 β2 ∧ T_zb τ2 ∧ D_rd (P_reads S (fo ≠ 0) nn) nn f2 pl2 m2 sm2 τ2 β2) := by
  refine C_enter (M := E_m32) rfl (Nat.le_of_ble_eq_true rfl) (fun h0 h hs => ?_)
  show B_R (d + 65) _ (0, [(0, .ref o), (1, .ref src), (2, .int (Zi nn)), (3, .int (Zi fo))], []) _ _ _
  have zN := (hs.len (show 1 < 20 by decide) sk).1
  have w := hs.1
  have hne : tr ≠ o := fun e => by have h1 := hd.1.1; rw [e, hq.1] at h1; cases h1
  obtain ⟨qk, qt, qp, qf, ql⟩ := id hq
  refine Z_go (f2 := (1, [(0, .ref o), (1, .ref src), (2, .int (Zi nn)), (3, .int (Zi fo))], [.ref o])) (fun _ => rfl) ?_
  refine C_gr rfl hs qk (by decide) (Nat.le_of_ble_eq_true rfl) rfl (by first | exact qp | exact hq1.2.2.1) ?_
  refine C_callV (As := []) (rest := []) rfl (by decide) rfl (by decide) rfl rfl (by decide +kernel) (Nat.le_of_ble_eq_true rfl) hs hd.1.1 (C_trclear _ hd) (fun x h v1 n1 hs q => ?_)
  obtain ⟨rfl, rfl, hd1, fr1, en1⟩ := q
  have hq1 := hq.fr w fr1 (fun e => L_app_ne p tr e)
  have wv1 := hs.1
  have hs1 : C_A v1 src = C_A s src ∧ C_K v1 src = (1, N) ∧ C_T v1 src = C_T s src := by
    have ls := C_lt w sk (show 1 < 20 by decide)
    have k1 := fr1.2.1 src ls
    exact ⟨(fr1.2.2.1 src ls (fun e => st_ (by rw [e]; exact L_pre_one p tr))).2.2.1, k1.1.trans sk, k1.2⟩
  show B_R _ _ (7, [(0, .ref o), (1, .ref src), (2, .int (Zi nn)), (3, .int (Zi fo))], []) _ _ _
  have hto : p <+: C_T v1 o := by rw [hq1.2.1]; exact L_pre_self p
  refine Z_go (f2 := (8, [(0, .ref o), (1, .ref src), (2, .int (Zi nn)), (3, .int (Zi fo))], [.ref o])) (fun _ => rfl) ?_
  refine Z_go (f2 := (9, [(0, .ref o), (1, .ref src), (2, .int (Zi nn)), (3, .int (Zi fo))], [.int (Zi 0), .ref o])) (fun _ => rfl) ?_
  refine C_pi rfl hs hq1.1 (by decide) (Nat.le_of_ble_eq_true rfl) (.inl rfl) rfl rfl rfl (by first | exact hs.zF _ _ | exact Zor_r _ _ | exact hs.zA _ _ | assumption | exact zA _ _ | exact zS _ | exact Zr_not (hs.zA _ _) | exact hs.1.1 _ _ | exact ⟨by omega, by omega⟩) (fun h hs => ?_)
  refine Z_go (f2 := (13, [(0, .ref o), (1, .ref src), (2, .int (Zi nn)), (3, .int (Zi fo))], [.ref o])) (fun _ => rfl) ?_
  refine Z_go (f2 := (14, [(0, .ref o), (1, .ref src), (2, .int (Zi nn)), (3, .int (Zi fo))], [.int (Zi (-1)), .ref o])) (fun _ => rfl) ?_
  refine C_pi rfl hs hq1.1 (by decide) (Nat.le_of_ble_eq_true rfl) (.inl rfl) rfl rfl rfl (by first | exact hs.zF _ _ | exact Zor_r _ _ | exact hs.zA _ _ | assumption | exact zA _ _ | exact zS _ | exact Zr_not (hs.zA _ _) | exact hs.1.1 _ _ | exact ⟨by omega, by omega⟩) (fun h hs => ?_)
  refine Z_go (f2 := (18, [(0, .ref o), (1, .ref src), (2, .int (Zi nn)), (3, .int (Zi fo))], [.ref o])) (fun _ => rfl) ?_
  refine Z_go (f2 := (19, [(0, .ref o), (1, .ref src), (2, .int (Zi nn)), (3, .int (Zi fo))], [.ref src, .ref o])) (fun _ => rfl) ?_
  refine C_pr rfl hs (r := some src) rfl hq1.1 (by decide) (Nat.le_of_ble_eq_true rfl) (.inl rfl) rfl (fun h hs => ?_)
  refine Z_go (f2 := (23, [(0, .ref o), (1, .ref src), (2, .int (Zi nn)), (3, .int (Zi fo))], [.ref o])) (fun _ => rfl) ?_
  refine Z_go (f2 := (24, [(0, .ref o), (1, .ref src), (2, .int (Zi nn)), (3, .int (Zi fo))], [.int (Zi nn), .ref o])) (fun _ => rfl) ?_
  refine C_pi rfl hs hq1.1 (by decide) (Nat.le_of_ble_eq_true rfl) (.inl rfl) rfl rfl rfl (by first | exact hs.zF _ _ | exact Zor_r _ _ | exact hs.zA _ _ | assumption | exact zA _ _ | exact zS _ | exact Zr_not (hs.zA _ _) | exact hs.1.1 _ _ | exact ⟨by omega, by omega⟩) (fun h hs => ?_)
  refine Z_go (f2 := (28, [(0, .ref o), (1, .ref src), (2, .int (Zi nn)), (3, .int (Zi fo))], [.ref o])) (fun _ => rfl) ?_
  refine Z_go (f2 := (29, [(0, .ref o), (1, .ref src), (2, .int (Zi nn)), (3, .int (Zi fo))], [.int (Zi 0), .ref o])) (fun _ => rfl) ?_
  refine C_pi rfl hs hq1.1 (by decide) (Nat.le_of_ble_eq_true rfl) (.inl rfl) rfl rfl rfl (by first | exact hs.zF _ _ | exact Zor_r _ _ | exact hs.zA _ _ | assumption | exact zA _ _ | exact zS _ | exact Zr_not (hs.zA _ _) | exact hs.1.1 _ _ | exact ⟨by omega, by omega⟩) (fun h hs => ?_)
  refine Z_go (f2 := (33, [(0, .ref o), (1, .ref src), (2, .int (Zi nn)), (3, .int (Zi fo))], [.ref o])) (fun _ => rfl) ?_
  refine Z_go (f2 := (34, [(0, .ref o), (1, .ref src), (2, .int (Zi nn)), (3, .int (Zi fo))], [.int (Zi fo), .ref o])) (fun _ => rfl) ?_
  refine C_pi rfl hs hq1.1 (by decide) (Nat.le_of_ble_eq_true rfl) (.inl rfl) rfl (by first | rfl | exact narrow_b01 (by omega)) (by first | rfl | exact fits_b01 (by omega)) (by first | exact hs.zF _ _ | exact Zor_r _ _ | exact hs.zA _ _ | assumption | exact zA _ _ | exact zS _ | exact Zr_not (hs.zA _ _) | exact hs.1.1 _ _ | exact ⟨by omega, by omega⟩) (fun h hs => ?_)
  have hd6 : D_Tr (C_sF (C_sF (C_sF (C_sP (C_sF (C_sF v1 o 1 0) o 2 (-1)) o 3 (some src)) o 4 nn) o 5 0) o 6 fo) (p ++ [tr]) tr A 0 0 τ β := ((((((hd1.oF hne).oF hne).oP hne).oF hne).oF hne).oF hne)
  have pf6 : D_Pf p s (C_sF (C_sF (C_sF (C_sP (C_sF (C_sF v1 o 1 0) o 2 (-1)) o 3 (some src)) o 4 nn) o 5 0) o 6 fo) := ⟨((((((((C_fr.refl (fun t => p <+: t) s).tr (fr1.weak (fun t e => by rw [e]; exact L_pre_one p tr))).sF hto).sF hto).sP hto).sF hto).sF hto).sF hto), en1⟩
  refine Z_go (f2 := (38, [(0, .ref o), (1, .ref src), (2, .int (Zi nn)), (3, .int (Zi fo))], [.ref o])) (fun _ => rfl) ?_
  refine C_gi rfl hs hq1.1 (by decide) (Nat.le_of_ble_eq_true rfl) rfl ?_
  rw [show C_F (C_sF (C_sF (C_sF (C_sP (C_sF (C_sF v1 o 1 0) o 2 (-1)) o 3 (some src)) o 4 nn) o 5 0) o 6 fo) o 4 = nn from (by first | rfl | (simp only [C_F, C_P, C_A, C_L, C_Q, C_K, C_T, C_n, C_sF, C_sP, C_sA, C_sL, C_sQ, C_sAf, C_sQf]; simp [*]; done) | (simp only [C_F, C_P, C_A, C_L, C_Q, C_K, C_T, C_n, C_sF, C_sP, C_sA, C_sL, C_sQ, C_sAf, C_sQf]; simp; omega))]; show B_R _ _ (41, [(0, .ref o), (1, .ref src), (2, .int (Zi nn)), (3, .int (Zi fo))], [.int (Zi nn)]) _ _ _
  refine Z_go (f2 := (43, [(0, .ref o), (1, .ref src), (2, .int (Zi nn)), (3, .int (Zi fo))], [.int (Zi 80), .int (Zi nn)])) (fun _ => rfl) ?_
  refine Z_cle rfl rfl (by first | exact hs.zF _ _ | exact Zor_r _ _ | exact hs.zA _ _ | assumption | exact zA _ _ | exact zS _ | exact Zr_not (hs.zA _ _) | exact hs.1.1 _ _ | exact ⟨by omega, by omega⟩) (by first | exact hs.zF _ _ | exact Zor_r _ _ | exact hs.zA _ _ | assumption | exact zA _ _ | exact zS _ | exact Zr_not (hs.zA _ _) | exact hs.1.1 _ _ | exact ⟨by omega, by omega⟩) (fun c1 => ?_) (fun c1 => ?_)
  · have hp6 : D_P0 (C_sF (C_sF (C_sF (C_sP (C_sF (C_sF v1 o 1 0) o 2 (-1)) o 3 (some src)) o 4 nn) o 5 0) o 6 fo) p o tr src N S nn fo 0 (-1) 0 := ⟨⟨hq1.1, hq1.2.1, (if_neg (by omega)).trans hq1.2.2.1, if_pos ⟨rfl, rfl⟩, hs1.2.1, by rw [show C_T (C_sF (C_sF (C_sF (C_sP (C_sF (C_sF v1 o 1 0) o 2 (-1)) o 3 (some src)) o 4 nn) o 5 0) o 6 fo) src = C_T s src from hs1.2.2]; exact st_, (if_neg (by omega)).trans ((if_neg (by omega)).trans ((if_neg (by omega)).trans ((if_neg (by omega)).trans ((if_pos ⟨rfl, rfl⟩))))), (if_neg (by omega)).trans ((if_neg (by omega)).trans ((if_neg (by omega)).trans ((if_pos ⟨rfl, rfl⟩)))), (if_neg (by omega)).trans ((if_neg (by omega)).trans ((if_pos ⟨rfl, rfl⟩))), (if_neg (by omega)).trans ((if_pos ⟨rfl, rfl⟩)), (if_pos ⟨rfl, rfl⟩), fun _ => rfl⟩, fun k k0 k1 => by rw [show C_A (C_sF (C_sF (C_sF (C_sP (C_sF (C_sF v1 o 1 0) o 2 (-1)) o 3 (some src)) o 4 nn) o 5 0) o 6 fo) src = C_A s src from hs1.1]; exact hb k k0 k1, hn, n1, n0, by omega⟩
    refine Z_go (f2 := (55, [(0, .ref o), (1, .ref src), (2, .int (Zi nn)), (3, .int (Zi fo))], [.ref o])) (fun _ => rfl) ?_
    refine Z_go (f2 := (56, [(0, .ref o), (1, .ref src), (2, .int (Zi nn)), (3, .int (Zi fo))], [.int (Zi 0), .ref o])) (fun _ => rfl) ?_
    have wf164 := hs.1
    refine C_callV (As := [.int (Zi 0)]) (rest := []) rfl (by decide) rfl (by decide) rfl rfl (by decide +kernel) (Nat.le_of_ble_eq_true rfl) hs hq1.1 (C_alts (d + 5) 10 0 (by omega) (by omega) (by omega) hp6 hd6 hz (by omega) (by omega) (by omega) (by omega) (st := []) rfl (F := 82) rfl (by omega)) (fun x h v164 n164 hs q => ?_)
    obtain ⟨rfl, pg164, f164, pl164, a164, m164, sm164, i164, τ164, β164, rfl, ia164, ib164, hp164, hd164, hz164, ga164, gb164, sy164⟩ := q
    have zi164 : Zr i164 := ⟨by omega, by omega⟩
    have pf164 := pf6.tr pg164
    have hne := hp164.ne hd164
    obtain ⟨zzf164, zzp164, zza164, _⟩ := hp164.z hs
    show B_R _ _ (59, [(0, .ref o), (1, .ref src), (2, .int (Zi nn)), (3, .int (Zi fo))], [.int (Zi i164)]) _ _ _
    refine Z_go (f2 := (61, [(4, .int (Zi i164)), (0, .ref o), (1, .ref src), (2, .int (Zi nn)), (3, .int (Zi fo))], [])) (fun _ => rfl) ?_
    refine Z_go (f2 := (62, [(4, .int (Zi i164)), (0, .ref o), (1, .ref src), (2, .int (Zi nn)), (3, .int (Zi fo))], [.ref o])) (fun _ => rfl) ?_
    refine C_gi rfl hs hp164.1.1 (by decide) (Nat.le_of_ble_eq_true rfl) rfl ?_
    rw [show C_F (v164) o 5 = a164 from (by first | exact hp164.1.2.2.2.2.2.2.2.2.2.1 | exact (if_neg (fun e => absurd e.1 (by assumption))).trans hp164.1.2.2.2.2.2.2.2.2.2.1 | exact (if_neg (fun e => absurd e.2 (by decide))).trans hp164.1.2.2.2.2.2.2.2.2.2.1 | exact (if_neg (fun e => absurd e.2 (by decide))).trans ((if_neg (fun e => absurd e.2 (by decide))).trans hp164.1.2.2.2.2.2.2.2.2.2.1) | exact (if_neg (fun e => absurd e.2 (by decide))).trans ((if_neg (fun e => absurd e.2 (by decide))).trans ((if_neg (fun e => absurd e.2 (by decide))).trans hp164.1.2.2.2.2.2.2.2.2.2.1)))]
    show B_R _ _ (65, [(4, .int (Zi i164)), (0, .ref o), (1, .ref src), (2, .int (Zi nn)), (3, .int (Zi fo))], [.int (Zi a164)]) _ _ _
    refine Z_go (f2 := (66, [(4, .int (Zi i164)), (0, .ref o), (1, .ref src), (2, .int (Zi nn)), (3, .int (Zi fo))], [.ref o, .int (Zi a164)])) (fun _ => rfl) ?_
    refine C_gi rfl hs hp164.1.1 (by decide) (Nat.le_of_ble_eq_true rfl) rfl ?_
    rw [show C_F (v164) o 4 = nn from (by first | exact hp164.1.2.2.2.2.2.2.2.2.1 | exact (if_neg (fun e => absurd e.1 (by assumption))).trans hp164.1.2.2.2.2.2.2.2.2.1 | exact (if_neg (fun e => absurd e.2 (by decide))).trans hp164.1.2.2.2.2.2.2.2.2.1 | exact (if_neg (fun e => absurd e.2 (by decide))).trans ((if_neg (fun e => absurd e.2 (by decide))).trans hp164.1.2.2.2.2.2.2.2.2.1) | exact (if_neg (fun e => absurd e.2 (by decide))).trans ((if_neg (fun e => absurd e.2 (by decide))).trans ((if_neg (fun e => absurd e.2 (by decide))).trans hp164.1.2.2.2.2.2.2.2.2.1)))]
    show B_R _ _ (69, [(4, .int (Zi i164)), (0, .ref o), (1, .ref src), (2, .int (Zi nn)), (3, .int (Zi fo))], [.int (Zi nn), .int (Zi a164)]) _ _ _
    refine Z_cge rfl rfl (by first | exact hs.zF _ _ | exact Zor_r _ _ | exact hs.zA _ _ | assumption | exact zA _ _ | exact zS _ | exact Zr_not (hs.zA _ _) | exact hs.1.1 _ _ | exact ⟨by omega, by omega⟩) (by first | exact hs.zF _ _ | exact Zor_r _ _ | exact hs.zA _ _ | assumption | exact zA _ _ | exact zS _ | exact Zr_not (hs.zA _ _) | exact hs.1.1 _ _ | exact ⟨by omega, by omega⟩) (fun c2 => ?_) (fun c2 => ?_)
    · refine Z_go (f2 := (82, [(4, .int (Zi i164)), (0, .ref o), (1, .ref src), (2, .int (Zi nn)), (3, .int (Zi fo))], [.ref o])) (fun _ => rfl) ?_
      refine C_gr rfl hs hp164.1.1 (by decide) (Nat.le_of_ble_eq_true rfl) rfl hp164.1.2.2.1 ?_
      refine Z_go (f2 := (87, [(4, .int (Zi i164)), (0, .ref o), (1, .ref src), (2, .int (Zi nn)), (3, .int (Zi fo))], [.int (Zi i164), .ref tr])) (fun _ => rfl) ?_
      refine C_callVR (As := [.int (Zi i164)]) (rest := []) rfl (by decide) rfl (by decide) rfl rfl (by decide +kernel) (Nat.le_of_ble_eq_true rfl) hs hd164.1.1 (C_t8 _ hd164 (i := i164) (by first | exact hs.zF _ _ | exact Zor_r _ _ | exact hs.zA _ _ | assumption | exact zA _ _ | exact zS _ | exact Zr_not (hs.zA _ _) | exact hs.1.1 _ _ | exact ⟨by omega, by omega⟩)) (fun x q => ?_)
      obtain rfl := q
      have hgs165 := T_gs_b hz164 i164
      show B_R _ _ (90, [(4, .int (Zi i164)), (0, .ref o), (1, .ref src), (2, .int (Zi nn)), (3, .int (Zi fo))], [.int (Zi (T_gs τ164 i164))]) _ _ _
      refine Z_go (f2 := (93, [(4, .int (Zi i164)), (0, .ref o), (1, .ref src), (2, .int (Zi nn)), (3, .int (Zi fo))], [.int (Zi 200), .int (Zi (T_gs τ164 i164))])) (fun _ => rfl) ?_
      refine Z_cle rfl rfl (by first | exact hs.zF _ _ | exact Zor_r _ _ | exact hs.zA _ _ | assumption | exact zA _ _ | exact zS _ | exact Zr_not (hs.zA _ _) | exact hs.1.1 _ _ | exact ⟨by omega, by omega⟩) (by first | exact hs.zF _ _ | exact Zor_r _ _ | exact hs.zA _ _ | assumption | exact zA _ _ | exact zS _ | exact Zr_not (hs.zA _ _) | exact hs.1.1 _ _ | exact ⟨by omega, by omega⟩) (fun c3 => ?_) (fun c3 => ?_)
      · refine Z_ret rfl rfl ⟨_, hs, ?_⟩
        try dsimp only
        refine ⟨rfl, rfl, pf164, _, _, _, _, _, _, (hp164).q, hd164, hz164, ?_⟩
        unfold P_reads
        rw [if_neg (by omega)]
        rcases sy164 with ⟨hf, hE⟩ | ⟨hf, g1, g2, g3, g4, o2, c2, F2, g5, g6, g7, g8, g9⟩
        · rw [hE]
          exact ⟨by omega, by omega, hf⟩
        · obtain ⟨F2, rfl⟩ : ∃ F3, F2 = F3 + 1 := ⟨F2 - 1, by omega⟩
          have hra2 := hp164.r a164 (by omega)
          have hpl := hp164.1.2.2.2.2.2.2.2.2.2.2.2
          have hmb := hd164.1.2.2.2.2.2.1
          have h0 := g5
          have hir : i164 = 0 := by
            have e9 : 48 - 4 * (0 : Int).toNat = 47 + 1 := rfl
            rw [e9] at h0
            obtain ⟨_, _, h0⟩ := h0
            rw [if_neg (by decide), if_neg (by decide)] at h0
            exact h0.1
          have hgs := N_is.gs g5 (Int.le_refl 0) hmb
          have htis := N_is.is _ _ _ _ _ _ g5
          have hsp := T_sz_pos htis
          rw [g7]
          rcases g9 with g9 | g9
          · rw [P_run_done g9]
            rw [hir] at g5 hgs
            have g5 : N_is τ164 (T_has β164) sm164 48 2 0 m164 0 (P_orj o2 c2) := g5
            have hsz : T_gs τ164 i164 = T_mn (T_sz (P_orj o2 c2)) := by rw [hir]; exact hgs
            unfold T_mn at hsz hgs
            by_cases c200 : 200 < T_sz (P_orj o2 c2)
            · exact .inl ⟨c200, by omega, by omega⟩
            · exact .inr ⟨by omega, by omega, by omega, g5, by rw [hgs]; omega⟩
          · rw [P_run_close0 g9]
            exact ⟨by omega, by omega, by omega⟩
      · refine Z_go (f2 := (97, [(4, .int (Zi i164)), (0, .ref o), (1, .ref src), (2, .int (Zi nn)), (3, .int (Zi fo))], [.ref o])) (fun _ => rfl) ?_
        refine Z_go (f2 := (98, [(4, .int (Zi i164)), (0, .ref o), (1, .ref src), (2, .int (Zi nn)), (3, .int (Zi fo))], [.int (Zi 3), .ref o])) (fun _ => rfl) ?_
        refine Z_go (f2 := (99, [(4, .int (Zi i164)), (0, .ref o), (1, .ref src), (2, .int (Zi nn)), (3, .int (Zi fo))], [.ref o, .int (Zi 3), .ref o])) (fun _ => rfl) ?_
        refine C_gi rfl hs hp164.1.1 (by decide) (Nat.le_of_ble_eq_true rfl) rfl ?_
        rw [show C_F (v164) o 4 = nn from (by first | exact hp164.1.2.2.2.2.2.2.2.2.1 | exact (if_neg (fun e => absurd e.1 (by assumption))).trans hp164.1.2.2.2.2.2.2.2.2.1 | exact (if_neg (fun e => absurd e.2 (by decide))).trans hp164.1.2.2.2.2.2.2.2.2.1 | exact (if_neg (fun e => absurd e.2 (by decide))).trans ((if_neg (fun e => absurd e.2 (by decide))).trans hp164.1.2.2.2.2.2.2.2.2.1) | exact (if_neg (fun e => absurd e.2 (by decide))).trans ((if_neg (fun e => absurd e.2 (by decide))).trans ((if_neg (fun e => absurd e.2 (by decide))).trans hp164.1.2.2.2.2.2.2.2.2.1)))]
        show B_R _ _ (102, [(4, .int (Zi i164)), (0, .ref o), (1, .ref src), (2, .int (Zi nn)), (3, .int (Zi fo))], [.int (Zi nn), .int (Zi 3), .ref o]) _ _ _
        have wf166 := hs.1
        refine C_callV (As := [.int (Zi 3), .int (Zi nn)]) (rest := []) rfl (by decide) rfl (by decide) rfl rfl (by decide +kernel) (Nat.le_of_ble_eq_true rfl) hs hp164.1.1 (C_fail _ hp164 (kd := 3) (wh := nn) (by first | exact hs.zF _ _ | exact Zor_r _ _ | exact hs.zA _ _ | assumption | exact zA _ _ | exact zS _ | exact Zr_not (hs.zA _ _) | exact hs.1.1 _ _ | exact ⟨by omega, by omega⟩) (by first | exact hs.zF _ _ | exact Zor_r _ _ | exact hs.zA _ _ | assumption | exact zA _ _ | exact zS _ | exact Zr_not (hs.zA _ _) | exact hs.1.1 _ _ | exact ⟨by omega, by omega⟩) (by decide)) (fun x h v166 n166 hs q => ?_)
        obtain ⟨rfl, rfl, pq166, hp166⟩ := q
        have pf166 := pf164.trO pq166
        have hd166 := hd164.po wf166 pq166
        have hne := hp166.ne hd166
        obtain ⟨fg166, efg166⟩ : ∃ z : Int, z = (if f164 = 0 then 3 else f164) := ⟨_, rfl⟩
        obtain ⟨pg166, epg166⟩ : ∃ z : Int, z = (if f164 = 0 then nn else pl164) := ⟨_, rfl⟩
        rw [← efg166, ← epg166] at hp166
        obtain ⟨zzf166, zzp166, zza166, _⟩ := hp166.z hs
        show B_R _ _ (105, [(4, .int (Zi i164)), (0, .ref o), (1, .ref src), (2, .int (Zi nn)), (3, .int (Zi fo))], []) _ _ _
        refine Z_ret rfl rfl ⟨_, hs, ?_⟩
        try dsimp only
        refine ⟨rfl, rfl, pf166, _, _, _, _, _, _, (hp166).q, hd166, hz164, ?_⟩
        unfold P_reads
        rw [if_neg (by omega)]
        rcases sy164 with ⟨hf, hE⟩ | ⟨hf, g1, g2, g3, g4, o2, c2, F2, g5, g6, g7, g8, g9⟩
        · rw [hE]
          exact ⟨by omega, by omega, hf⟩
        · obtain ⟨F2, rfl⟩ : ∃ F3, F2 = F3 + 1 := ⟨F2 - 1, by omega⟩
          have hra2 := hp164.r a164 (by omega)
          have hpl := hp164.1.2.2.2.2.2.2.2.2.2.2.2
          have hmb := hd164.1.2.2.2.2.2.1
          have h0 := g5
          have hir : i164 = 0 := by
            have e9 : 48 - 4 * (0 : Int).toNat = 47 + 1 := rfl
            rw [e9] at h0
            obtain ⟨_, _, h0⟩ := h0
            rw [if_neg (by decide), if_neg (by decide)] at h0
            exact h0.1
          have hgs := N_is.gs g5 (Int.le_refl 0) hmb
          have htis := N_is.is _ _ _ _ _ _ g5
          have hsp := T_sz_pos htis
          rw [g7]
          rcases g9 with g9 | g9
          · rw [P_run_done g9]
            rw [hir] at g5 hgs
            have g5 : N_is τ164 (T_has β164) sm164 48 2 0 m164 0 (P_orj o2 c2) := g5
            have hsz : T_gs τ164 i164 = T_mn (T_sz (P_orj o2 c2)) := by rw [hir]; exact hgs
            unfold T_mn at hsz hgs
            by_cases c200 : 200 < T_sz (P_orj o2 c2)
            · exact .inl ⟨c200, by omega, by omega⟩
            · exact .inr ⟨by omega, by omega, by omega, g5, by rw [hgs]; omega⟩
          · rw [P_run_close0 g9]
            exact ⟨by omega, by omega, by omega⟩
    · refine Z_go (f2 := (73, [(4, .int (Zi i164)), (0, .ref o), (1, .ref src), (2, .int (Zi nn)), (3, .int (Zi fo))], [.ref o])) (fun _ => rfl) ?_
      refine Z_go (f2 := (74, [(4, .int (Zi i164)), (0, .ref o), (1, .ref src), (2, .int (Zi nn)), (3, .int (Zi fo))], [.int (Zi 1), .ref o])) (fun _ => rfl) ?_
      refine Z_go (f2 := (75, [(4, .int (Zi i164)), (0, .ref o), (1, .ref src), (2, .int (Zi nn)), (3, .int (Zi fo))], [.ref o, .int (Zi 1), .ref o])) (fun _ => rfl) ?_
      refine C_gi rfl hs hp164.1.1 (by decide) (Nat.le_of_ble_eq_true rfl) rfl ?_
      rw [show C_F (v164) o 5 = a164 from (by first | exact hp164.1.2.2.2.2.2.2.2.2.2.1 | exact (if_neg (fun e => absurd e.1 (by assumption))).trans hp164.1.2.2.2.2.2.2.2.2.2.1 | exact (if_neg (fun e => absurd e.2 (by decide))).trans hp164.1.2.2.2.2.2.2.2.2.2.1 | exact (if_neg (fun e => absurd e.2 (by decide))).trans ((if_neg (fun e => absurd e.2 (by decide))).trans hp164.1.2.2.2.2.2.2.2.2.2.1) | exact (if_neg (fun e => absurd e.2 (by decide))).trans ((if_neg (fun e => absurd e.2 (by decide))).trans ((if_neg (fun e => absurd e.2 (by decide))).trans hp164.1.2.2.2.2.2.2.2.2.2.1)))]
      show B_R _ _ (78, [(4, .int (Zi i164)), (0, .ref o), (1, .ref src), (2, .int (Zi nn)), (3, .int (Zi fo))], [.int (Zi a164), .int (Zi 1), .ref o]) _ _ _
      have wf167 := hs.1
      refine C_callV (As := [.int (Zi 1), .int (Zi a164)]) (rest := []) rfl (by decide) rfl (by decide) rfl rfl (by decide +kernel) (Nat.le_of_ble_eq_true rfl) hs hp164.1.1 (C_fail _ hp164 (kd := 1) (wh := a164) (by first | exact hs.zF _ _ | exact Zor_r _ _ | exact hs.zA _ _ | assumption | exact zA _ _ | exact zS _ | exact Zr_not (hs.zA _ _) | exact hs.1.1 _ _ | exact ⟨by omega, by omega⟩) (by first | exact hs.zF _ _ | exact Zor_r _ _ | exact hs.zA _ _ | assumption | exact zA _ _ | exact zS _ | exact Zr_not (hs.zA _ _) | exact hs.1.1 _ _ | exact ⟨by omega, by omega⟩) (by decide)) (fun x h v167 n167 hs q => ?_)
      obtain ⟨rfl, rfl, pq167, hp167⟩ := q
      have pf167 := pf164.trO pq167
      have hd167 := hd164.po wf167 pq167
      have hne := hp167.ne hd167
      obtain ⟨fg167, efg167⟩ : ∃ z : Int, z = (if f164 = 0 then 1 else f164) := ⟨_, rfl⟩
      obtain ⟨pg167, epg167⟩ : ∃ z : Int, z = (if f164 = 0 then a164 else pl164) := ⟨_, rfl⟩
      rw [← efg167, ← epg167] at hp167
      obtain ⟨zzf167, zzp167, zza167, _⟩ := hp167.z hs
      show B_R _ _ (81, [(4, .int (Zi i164)), (0, .ref o), (1, .ref src), (2, .int (Zi nn)), (3, .int (Zi fo))], []) _ _ _
      refine Z_go (f2 := (82, [(4, .int (Zi i164)), (0, .ref o), (1, .ref src), (2, .int (Zi nn)), (3, .int (Zi fo))], [.ref o])) (fun _ => rfl) ?_
      refine C_gr rfl hs hp167.1.1 (by decide) (Nat.le_of_ble_eq_true rfl) rfl hp167.1.2.2.1 ?_
      refine Z_go (f2 := (87, [(4, .int (Zi i164)), (0, .ref o), (1, .ref src), (2, .int (Zi nn)), (3, .int (Zi fo))], [.int (Zi i164), .ref tr])) (fun _ => rfl) ?_
      refine C_callVR (As := [.int (Zi i164)]) (rest := []) rfl (by decide) rfl (by decide) rfl rfl (by decide +kernel) (Nat.le_of_ble_eq_true rfl) hs hd167.1.1 (C_t8 _ hd167 (i := i164) (by first | exact hs.zF _ _ | exact Zor_r _ _ | exact hs.zA _ _ | assumption | exact zA _ _ | exact zS _ | exact Zr_not (hs.zA _ _) | exact hs.1.1 _ _ | exact ⟨by omega, by omega⟩)) (fun x q => ?_)
      obtain rfl := q
      have hgs168 := T_gs_b hz164 i164
      show B_R _ _ (90, [(4, .int (Zi i164)), (0, .ref o), (1, .ref src), (2, .int (Zi nn)), (3, .int (Zi fo))], [.int (Zi (T_gs τ164 i164))]) _ _ _
      refine Z_go (f2 := (93, [(4, .int (Zi i164)), (0, .ref o), (1, .ref src), (2, .int (Zi nn)), (3, .int (Zi fo))], [.int (Zi 200), .int (Zi (T_gs τ164 i164))])) (fun _ => rfl) ?_
      refine Z_cle rfl rfl (by first | exact hs.zF _ _ | exact Zor_r _ _ | exact hs.zA _ _ | assumption | exact zA _ _ | exact zS _ | exact Zr_not (hs.zA _ _) | exact hs.1.1 _ _ | exact ⟨by omega, by omega⟩) (by first | exact hs.zF _ _ | exact Zor_r _ _ | exact hs.zA _ _ | assumption | exact zA _ _ | exact zS _ | exact Zr_not (hs.zA _ _) | exact hs.1.1 _ _ | exact ⟨by omega, by omega⟩) (fun c4 => ?_) (fun c4 => ?_)
      · refine Z_ret rfl rfl ⟨_, hs, ?_⟩
        try dsimp only
        refine ⟨rfl, rfl, pf167, _, _, _, _, _, _, (hp167).q, hd167, hz164, ?_⟩
        unfold P_reads
        rw [if_neg (by omega)]
        rcases sy164 with ⟨hf, hE⟩ | ⟨hf, g1, g2, g3, g4, o2, c2, F2, g5, g6, g7, g8, g9⟩
        · rw [hE]
          exact ⟨by omega, by omega, hf⟩
        · obtain ⟨F2, rfl⟩ : ∃ F3, F2 = F3 + 1 := ⟨F2 - 1, by omega⟩
          have hra2 := hp164.r a164 (by omega)
          have hpl := hp164.1.2.2.2.2.2.2.2.2.2.2.2
          have hmb := hd164.1.2.2.2.2.2.1
          have h0 := g5
          have hir : i164 = 0 := by
            have e9 : 48 - 4 * (0 : Int).toNat = 47 + 1 := rfl
            rw [e9] at h0
            obtain ⟨_, _, h0⟩ := h0
            rw [if_neg (by decide), if_neg (by decide)] at h0
            exact h0.1
          have hgs := N_is.gs g5 (Int.le_refl 0) hmb
          have htis := N_is.is _ _ _ _ _ _ g5
          have hsp := T_sz_pos htis
          rw [g7]
          rcases g9 with g9 | g9
          · rw [P_run_done g9]
            rw [hir] at g5 hgs
            have g5 : N_is τ164 (T_has β164) sm164 48 2 0 m164 0 (P_orj o2 c2) := g5
            have hsz : T_gs τ164 i164 = T_mn (T_sz (P_orj o2 c2)) := by rw [hir]; exact hgs
            unfold T_mn at hsz hgs
            by_cases c200 : 200 < T_sz (P_orj o2 c2)
            · exact .inl ⟨c200, by omega, by omega⟩
            · exact .inr ⟨by omega, by omega, by omega, g5, by rw [hgs]; omega⟩
          · rw [P_run_close0 g9]
            exact ⟨by omega, by omega, by omega⟩
      · refine Z_go (f2 := (97, [(4, .int (Zi i164)), (0, .ref o), (1, .ref src), (2, .int (Zi nn)), (3, .int (Zi fo))], [.ref o])) (fun _ => rfl) ?_
        refine Z_go (f2 := (98, [(4, .int (Zi i164)), (0, .ref o), (1, .ref src), (2, .int (Zi nn)), (3, .int (Zi fo))], [.int (Zi 3), .ref o])) (fun _ => rfl) ?_
        refine Z_go (f2 := (99, [(4, .int (Zi i164)), (0, .ref o), (1, .ref src), (2, .int (Zi nn)), (3, .int (Zi fo))], [.ref o, .int (Zi 3), .ref o])) (fun _ => rfl) ?_
        refine C_gi rfl hs hp167.1.1 (by decide) (Nat.le_of_ble_eq_true rfl) rfl ?_
        rw [show C_F (v167) o 4 = nn from (by first | exact hp167.1.2.2.2.2.2.2.2.2.1 | exact (if_neg (fun e => absurd e.1 (by assumption))).trans hp167.1.2.2.2.2.2.2.2.2.1 | exact (if_neg (fun e => absurd e.2 (by decide))).trans hp167.1.2.2.2.2.2.2.2.2.1 | exact (if_neg (fun e => absurd e.2 (by decide))).trans ((if_neg (fun e => absurd e.2 (by decide))).trans hp167.1.2.2.2.2.2.2.2.2.1) | exact (if_neg (fun e => absurd e.2 (by decide))).trans ((if_neg (fun e => absurd e.2 (by decide))).trans ((if_neg (fun e => absurd e.2 (by decide))).trans hp167.1.2.2.2.2.2.2.2.2.1)))]
        show B_R _ _ (102, [(4, .int (Zi i164)), (0, .ref o), (1, .ref src), (2, .int (Zi nn)), (3, .int (Zi fo))], [.int (Zi nn), .int (Zi 3), .ref o]) _ _ _
        have wf169 := hs.1
        refine C_callV (As := [.int (Zi 3), .int (Zi nn)]) (rest := []) rfl (by decide) rfl (by decide) rfl rfl (by decide +kernel) (Nat.le_of_ble_eq_true rfl) hs hp167.1.1 (C_fail _ hp167 (kd := 3) (wh := nn) (by first | exact hs.zF _ _ | exact Zor_r _ _ | exact hs.zA _ _ | assumption | exact zA _ _ | exact zS _ | exact Zr_not (hs.zA _ _) | exact hs.1.1 _ _ | exact ⟨by omega, by omega⟩) (by first | exact hs.zF _ _ | exact Zor_r _ _ | exact hs.zA _ _ | assumption | exact zA _ _ | exact zS _ | exact Zr_not (hs.zA _ _) | exact hs.1.1 _ _ | exact ⟨by omega, by omega⟩) (by decide)) (fun x h v169 n169 hs q => ?_)
        obtain ⟨rfl, rfl, pq169, hp169⟩ := q
        have pf169 := pf167.trO pq169
        have hd169 := hd167.po wf169 pq169
        have hne := hp169.ne hd169
        obtain ⟨fg169, efg169⟩ : ∃ z : Int, z = (if fg167 = 0 then 3 else fg167) := ⟨_, rfl⟩
        obtain ⟨pg169, epg169⟩ : ∃ z : Int, z = (if fg167 = 0 then nn else pg167) := ⟨_, rfl⟩
        rw [← efg169, ← epg169] at hp169
        obtain ⟨zzf169, zzp169, zza169, _⟩ := hp169.z hs
        show B_R _ _ (105, [(4, .int (Zi i164)), (0, .ref o), (1, .ref src), (2, .int (Zi nn)), (3, .int (Zi fo))], []) _ _ _
        refine Z_ret rfl rfl ⟨_, hs, ?_⟩
        try dsimp only
        refine ⟨rfl, rfl, pf169, _, _, _, _, _, _, (hp169).q, hd169, hz164, ?_⟩
        unfold P_reads
        rw [if_neg (by omega)]
        rcases sy164 with ⟨hf, hE⟩ | ⟨hf, g1, g2, g3, g4, o2, c2, F2, g5, g6, g7, g8, g9⟩
        · rw [hE]
          exact ⟨by omega, by omega, hf⟩
        · obtain ⟨F2, rfl⟩ : ∃ F3, F2 = F3 + 1 := ⟨F2 - 1, by omega⟩
          have hra2 := hp164.r a164 (by omega)
          have hpl := hp164.1.2.2.2.2.2.2.2.2.2.2.2
          have hmb := hd164.1.2.2.2.2.2.1
          have h0 := g5
          have hir : i164 = 0 := by
            have e9 : 48 - 4 * (0 : Int).toNat = 47 + 1 := rfl
            rw [e9] at h0
            obtain ⟨_, _, h0⟩ := h0
            rw [if_neg (by decide), if_neg (by decide)] at h0
            exact h0.1
          have hgs := N_is.gs g5 (Int.le_refl 0) hmb
          have htis := N_is.is _ _ _ _ _ _ g5
          have hsp := T_sz_pos htis
          rw [g7]
          rcases g9 with g9 | g9
          · rw [P_run_done g9]
            rw [hir] at g5 hgs
            have g5 : N_is τ164 (T_has β164) sm164 48 2 0 m164 0 (P_orj o2 c2) := g5
            have hsz : T_gs τ164 i164 = T_mn (T_sz (P_orj o2 c2)) := by rw [hir]; exact hgs
            unfold T_mn at hsz hgs
            by_cases c200 : 200 < T_sz (P_orj o2 c2)
            · exact .inl ⟨c200, by omega, by omega⟩
            · exact .inr ⟨by omega, by omega, by omega, g5, by rw [hgs]; omega⟩
          · rw [P_run_close0 g9]
            exact ⟨by omega, by omega, by omega⟩
  · refine Z_go (f2 := (47, [(0, .ref o), (1, .ref src), (2, .int (Zi nn)), (3, .int (Zi fo))], [.ref o])) (fun _ => rfl) ?_
    refine Z_go (f2 := (48, [(0, .ref o), (1, .ref src), (2, .int (Zi nn)), (3, .int (Zi fo))], [.int (Zi 3), .ref o])) (fun _ => rfl) ?_
    refine Z_go (f2 := (50, [(0, .ref o), (1, .ref src), (2, .int (Zi nn)), (3, .int (Zi fo))], [.int (Zi 80), .int (Zi 3), .ref o])) (fun _ => rfl) ?_
    refine C_callV (As := [.int (Zi 3), .int (Zi 80)]) (rest := []) rfl (by decide) rfl (by decide) rfl rfl (by decide +kernel) (Nat.le_of_ble_eq_true rfl) hs hq1.1 (C_failz _ (s := (C_sF (C_sF (C_sF (C_sP (C_sF (C_sF v1 o 1 0) o 2 (-1)) o 3 (some src)) o 4 nn) o 5 0) o 6 fo)) hq1.1 ((if_neg (by omega)).trans ((if_neg (by omega)).trans ((if_neg (by omega)).trans ((if_neg (by omega)).trans ((if_pos ⟨rfl, rfl⟩)))))) (kd := 3) (wh := 80) (by first | exact hs.zF _ _ | exact Zor_r _ _ | exact hs.zA _ _ | assumption | exact zA _ _ | exact zS _ | exact Zr_not (hs.zA _ _) | exact hs.1.1 _ _ | exact ⟨by omega, by omega⟩) (by first | exact hs.zF _ _ | exact Zor_r _ _ | exact hs.zA _ _ | assumption | exact zA _ _ | exact zS _ | exact Zr_not (hs.zA _ _) | exact hs.1.1 _ _ | exact ⟨by omega, by omega⟩)) (fun x h v2 n2 hs q => ?_)
    obtain ⟨rfl, rfl, rfl⟩ := q
    show B_R _ _ (53, [(0, .ref o), (1, .ref src), (2, .int (Zi nn)), (3, .int (Zi fo))], []) _ _ _
    refine Z_ret rfl rfl ⟨_, hs, ?_⟩
    try dsimp only
    refine ⟨rfl, rfl, ⟨(pf6.1.sF hto).sF hto, en1⟩, 3, 80, 0, 0, τ, β, ⟨hq1.1, hq1.2.1, (if_neg (by omega)).trans hq1.2.2.1, (if_neg (by omega)).trans ((if_pos ⟨rfl, rfl⟩)), (if_pos ⟨rfl, rfl⟩)⟩, (hd6.oF hne).oF hne, hz, ?_⟩
    unfold P_reads
    rw [if_pos (by omega)]
    exact ⟨rfl, rfl, by omega⟩
