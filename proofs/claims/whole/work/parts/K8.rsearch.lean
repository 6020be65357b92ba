/-! the reference: search -/
/-- all but these fields and arrays stand -/
def R_f5 (bs qs : List Nat) (s u : R_S) : Prop := (∀ b, b ∉ bs → u.1 b = s.1 b) ∧ (∀ q, q ∉ qs → ∀ j, u.2.1 q j = s.2.1 q j) ∧ ∀ b, b ≠ 73 → u.2.2.1 b = s.2.2.1 b
theorem R_f5.rf (bs qs : List Nat) (s : R_S) : R_f5 bs qs s s := ⟨fun _ _ => rfl, fun _ _ _ => rfl, fun _ _ => rfl⟩
theorem R_f5.tr {bs qs bs2 qs2 : List Nat} {s u w : R_S} (h : R_f5 bs qs s u) (g : R_f5 bs2 qs2 u w) (h1 : ∀ b, b ∈ bs2 → b ∈ bs) (h2 : ∀ b, b ∈ qs2 → b ∈ qs) : R_f5 bs qs s w := ⟨fun b hb => (g.1 b (fun e => hb (h1 b e))).trans (h.1 b hb), fun q hq j => (g.2.1 q (fun e => hq (h2 q e)) j).trans (h.2.1 q hq j), fun b hb => (g.2.2 b hb).trans (h.2.2 b hb)⟩
theorem R_f5.up {bs qs bs2 qs2 : List Nat} {s u : R_S} (g : R_f5 bs2 qs2 s u) (h1 : ∀ b, b ∈ bs2 → b ∈ bs) (h2 : ∀ b, b ∈ qs2 → b ∈ qs) : R_f5 bs qs s u := (R_f5.rf bs qs s).tr g h1 h2
theorem R_f5.sF {bs qs : List Nat} {s u : R_S} (h : R_f5 bs qs s u) {b : Nat} {z : Int} (hb : b ∈ bs) : R_f5 bs qs s (R_sF u b z) := ⟨fun c hc => (R_sF_n (b := b) (c := c) u z (fun e => hc (by rw [e]; exact hb))).trans (h.1 c hc), h.2⟩
theorem R_f5.sL {bs qs : List Nat} {s u : R_S} (h : R_f5 bs qs s u) {z : Int64} : R_f5 bs qs s (R_sL u 73 z) := ⟨h.1, h.2.1, fun b hb => (show R_upL u.2.2.1 73 z b = u.2.2.1 b by unfold R_upL; exact if_neg hb).trans (h.2.2 b hb)⟩
theorem R_f4.f5 {bs qs ps : List Nat} {s u : R_S} (h : R_f4 bs qs ps s u) : R_f5 bs qs s u := ⟨h.1, h.2.1, fun b _ => congrFun h.2.2.1 b⟩
theorem R_fw.cong {s u : R_S} {x : Int} (h : R_fw s x) (e8 : u.1 8 = s.1 8) (e3 : u.1 3 = s.1 3) (t0 : 0 ≤ u.1 1) (t1 : u.1 1 ≤ 1000) (q : ∀ q, 84 ≤ q → q ≤ 88 → ∀ j, u.2.1 q j = s.2.1 q j) : R_fw u x := by
  obtain ⟨⟨a1, a2, a3⟩, b1, b2, b3, b4, b5, b6, b7⟩ := h
  have hF : ∀ f, R_isF u f ↔ R_isF s f := fun f => by unfold R_isF; rw [e8, q 88 (by omega) (by omega)]
  refine ⟨⟨by omega, by omega, fun f => by rw [q 88 (by omega) (by omega)]; exact a3 f⟩, t0, t1, by omega, by omega, fun f hf hx => ?_, fun j => by rw [q 85 (by omega) (by omega)]; exact b6 j, fun j => by rw [q 84 (by omega) (by omega)]; exact b7 j⟩
  obtain ⟨c1, c2, c3, c4, c5⟩ := b5 f ((hF f).mp hf) hx
  have e86 := q 86 (by omega) (by omega)
  have e87 := q 87 (by omega) (by omega)
  unfold R_lie
  refine ⟨by rw [e86]; exact c1, by rw [e87]; exact c2, by rw [e87]; exact c3, by rw [e86, e87, e3]; exact c4, fun g hg gx gf => ?_⟩
  rw [e86, e87, e86, e87]
  exact c5 g ((hF g).mp hg) gx gf
theorem R_wb_cong {s u : R_S} (q : ∀ q, 85 ≤ q → q ≤ 88 → ∀ j, u.2.1 q j = s.2.1 q j) (f : Int) : R_wb u f = R_wb s f := by
  funext i
  unfold R_wb R_by
  rw [q 87 (by omega) (by omega), q 86 (by omega) (by omega), q 85 (by omega) (by omega)]
theorem X_D_cong {s u : R_S} (q : ∀ q, 85 ≤ q → q ≤ 88 → ∀ j, u.2.1 q j = s.2.1 q j) (L : List (List Int)) : X_D u L = X_D s L := by
  funext f
  unfold X_D
  rw [R_wb_cong q, q 88 (by omega) (by omega), q 87 (by omega) (by omega)]
theorem X_Q_cong {s u : R_S} (q : ∀ q, 85 ≤ q → q ≤ 88 → ∀ j, u.2.1 q j = s.2.1 q j) (t : P_T) : X_Q u t = X_Q s t := by
  funext f x
  unfold X_Q
  rw [R_wb_cong q, q 87 (by omega) (by omega)]
theorem D_cn_fn {P : Int → Prop} {k m n : Int} (h : D_cn P k m) (g : D_cn P k n) : m = n := by
  have h1 := D_cn_sub h g (fun _ _ _ h => h)
  have h2 := D_cn_sub g h (fun _ _ _ h => h)
  omega
/-- what a search of a regex without fault leaves -/
def R_sgd (s x : R_S) (tl : Int64) (t : P_T) : Prop := x.2.2.1 73 = tl ∧ x.1 1 = 0 ∧ x.1 20 = 0 ∧ x.1 21 = -1 ∧ R_told x (P_plan t) ∧ ∃ L O H, X_srt L (V_C (P_plan t)) ∧ X_hs (X_D s L) (fun f x => x = f) (s.1 8).toNat O ∧ X_hs (X_D s L) (X_Q s t) (s.1 8).toNat H ∧ R_ol x O ∧ R_hl x H ∧ H.length ≤ O.length ∧ (O.length : Int) ≤ s.1 7 ∧ x.1 70 = s.1 70 + 1 ∧ x.1 71 = s.1 71 + O.length ∧ x.1 72 = s.1 72 + H.length
theorem R_se_c {d : Nat} {h0 h : E_H} {post : Option Value → R_S → Prop} {fo : Int} {tl : Int64} (u : R_S) (hx : R_is h0 h u) (z70 : Zr (u.1 70 + 1)) (z71 : Zr (u.1 71 + u.1 68)) (z72 : Zr (u.1 72 + u.1 63)) (kont : post (some (.int (Zi (u.1 63)))) (R_sF (R_sF (R_sF u 70 (u.1 70 + 1)) 71 (u.1 71 + u.1 68)) 72 (u.1 72 + u.1 63))) : B_R d E_m276 (153, [(2, .long (tl)), (0, .ref 83), (1, .int (Zi fo))], []) h 0 (fun r => ∃ s2 : R_S, R_is h0 r.2.1 s2 ∧ post r.1 s2 ∧ r.2.2 = 0) := by
  have hs := hx
  have zS := z70
  refine Z_go (f2 := (154, [(2, .long (tl)), (0, .ref 83), (1, .int (Zi fo))], [.ref 83])) (fun _ => rfl) ?_
  refine Z_go (f2 := (155, [(2, .long (tl)), (0, .ref 83), (1, .int (Zi fo))], [.ref 83, .ref 83])) (fun _ => rfl) ?_
  refine R_gi rfl hs rfl ?_
  show B_R _ _ (158, [(2, .long (tl)), (0, .ref 83), (1, .int (Zi fo))], [.int (Zi (u.1 70)), .ref 83]) _ _ _
  refine Z_go (f2 := (159, [(2, .long (tl)), (0, .ref 83), (1, .int (Zi fo))], [.int (Zi 1), .int (Zi (u.1 70)), .ref 83])) (fun _ => rfl) ?_
  refine Z_iadd rfl ?_
  refine R_pf rfl hs rfl (by first | exact hs.zF _ | exact Zor_r _ _ | exact hs.zA _ _ | assumption | exact zA _ _ | exact zS _ | exact Zr_not (hs.zA _ _) | exact ⟨by omega, by omega⟩) ⟨rfl, rfl, rfl⟩ (fun h hs => ?_)
  refine Z_go (f2 := (164, [(2, .long (tl)), (0, .ref 83), (1, .int (Zi fo))], [.ref 83])) (fun _ => rfl) ?_
  refine Z_go (f2 := (165, [(2, .long (tl)), (0, .ref 83), (1, .int (Zi fo))], [.ref 83, .ref 83])) (fun _ => rfl) ?_
  refine R_gi rfl hs rfl ?_
  show B_R _ _ (168, [(2, .long (tl)), (0, .ref 83), (1, .int (Zi fo))], [.int (Zi (u.1 71)), .ref 83]) _ _ _
  refine Z_go (f2 := (169, [(2, .long (tl)), (0, .ref 83), (1, .int (Zi fo))], [.ref 83, .int (Zi (u.1 71)), .ref 83])) (fun _ => rfl) ?_
  refine R_gi rfl hs rfl ?_
  show B_R _ _ (172, [(2, .long (tl)), (0, .ref 83), (1, .int (Zi fo))], [.int (Zi (u.1 68)), .int (Zi (u.1 71)), .ref 83]) _ _ _
  refine Z_iadd rfl ?_
  refine R_pf rfl hs rfl (by first | exact hs.zF _ | exact Zor_r _ _ | exact hs.zA _ _ | assumption | exact zA _ _ | exact zS _ | exact Zr_not (hs.zA _ _) | exact ⟨by omega, by omega⟩) ⟨rfl, rfl, rfl⟩ (fun h hs => ?_)
  refine Z_go (f2 := (177, [(2, .long (tl)), (0, .ref 83), (1, .int (Zi fo))], [.ref 83])) (fun _ => rfl) ?_
  refine Z_go (f2 := (178, [(2, .long (tl)), (0, .ref 83), (1, .int (Zi fo))], [.ref 83, .ref 83])) (fun _ => rfl) ?_
  refine R_gi rfl hs rfl ?_
  show B_R _ _ (181, [(2, .long (tl)), (0, .ref 83), (1, .int (Zi fo))], [.int (Zi (u.1 72)), .ref 83]) _ _ _
  refine Z_go (f2 := (182, [(2, .long (tl)), (0, .ref 83), (1, .int (Zi fo))], [.ref 83, .int (Zi (u.1 72)), .ref 83])) (fun _ => rfl) ?_
  refine R_gi rfl hs rfl ?_
  show B_R _ _ (185, [(2, .long (tl)), (0, .ref 83), (1, .int (Zi fo))], [.int (Zi (u.1 63)), .int (Zi (u.1 72)), .ref 83]) _ _ _
  refine Z_iadd rfl ?_
  refine R_pf rfl hs rfl (by first | exact hs.zF _ | exact Zor_r _ _ | exact hs.zA _ _ | assumption | exact zA _ _ | exact zS _ | exact Zr_not (hs.zA _ _) | exact ⟨by omega, by omega⟩) ⟨rfl, rfl, rfl⟩ (fun h hs => ?_)
  refine Z_go (f2 := (190, [(2, .long (tl)), (0, .ref 83), (1, .int (Zi fo))], [.ref 83])) (fun _ => rfl) ?_
  refine R_gi rfl hs rfl ?_
  show B_R _ _ (193, [(2, .long (tl)), (0, .ref 83), (1, .int (Zi fo))], [.int (Zi (u.1 63))]) _ _ _
  refine Z_iret rfl rfl (by first | rfl | decide | exact narrow_b01 (by omega)) ⟨_, hs, ?_, rfl⟩
  exact kont
theorem R_se_b {d : Nat} {h0 : E_H} {post : Option Value → R_S → Prop} {fo : Int} {tl : Int64} {t : P_T} (u : R_S) (h : E_H) (hx : R_is h0 h u) (u18 : u.1 18 = 0) (ht : T_is t) (hd : T_dp t ≤ 23) (hz : T_sz t ≤ 200) (hH : T_hh t ≤ 250) (p1 : u.1 13 ≤ 400) (p15 : u.1 15 ≤ 90) (w : R_fw u (-1)) (tl0 : R_tl u t) (hb : P_hb t) (hc : D_cn (fun f => u.2.1 88 f = 1) (u.1 8) (u.1 7)) (h7 : u.1 7 ≤ 40) (c70 : 0 ≤ u.1 70 ∧ u.1 70 ≤ 2000000000) (c71 : 0 ≤ u.1 71 ∧ u.1 71 ≤ 2000000000) (c72 : 0 ≤ u.1 72 ∧ u.1 72 ≤ 2000000000) (kont : ∀ x : R_S, R_f5 [1, 20, 21, 37, 41, 43, 48, 56, 59, 63, 68, 70, 71, 72] [89, 96, 97, 98, 99, 100, 101, 102, 103, 104, 105, 106, 107, 108, 109, 110, 111, 112, 113, 114, 115, 116, 117, 118, 122, 123, 124, 125, 126, 127, 128, 129, 130, 131] u x → R_sgd u x tl t → post (some (.int (Zi (x.1 63)))) x) : B_R (d + 11) E_m276 (42, [(2, .long (tl)), (0, .ref 83), (1, .int (Zi fo))], []) h 0 (fun r => ∃ s2 : R_S, R_is h0 r.2.1 s2 ∧ post r.1 s2 ∧ r.2.2 = 0) := by
  have hs := hx
  have zu18 := hx.zF 18
  refine Z_go (f2 := (43, [(2, .long (tl)), (0, .ref 83), (1, .int (Zi fo))], [.ref 83])) (fun _ => rfl) ?_
  refine Z_go (f2 := (44, [(2, .long (tl)), (0, .ref 83), (1, .int (Zi fo))], [.int (Zi 0), .ref 83])) (fun _ => rfl) ?_
  refine R_pf rfl hs rfl (by first | exact hs.zF _ | exact Zor_r _ _ | exact hs.zA _ _ | assumption | exact zA _ _ | exact zS _ | exact Zr_not (hs.zA _ _) | exact ⟨by omega, by omega⟩) ⟨rfl, rfl, rfl⟩ (fun h hs => ?_)
  refine Z_go (f2 := (48, [(2, .long (tl)), (0, .ref 83), (1, .int (Zi fo))], [.ref 83])) (fun _ => rfl) ?_
  refine Z_go (f2 := (49, [(2, .long (tl)), (0, .ref 83), (1, .int (Zi fo))], [.ref 83, .ref 83])) (fun _ => rfl) ?_
  refine R_gi rfl hs rfl ?_
  show B_R _ _ (52, [(2, .long (tl)), (0, .ref 83), (1, .int (Zi fo))], [.int (Zi (u.1 18)), .ref 83]) _ _ _
  refine R_pf rfl hs rfl (by first | exact hs.zF _ | exact Zor_r _ _ | exact hs.zA _ _ | assumption | exact zA _ _ | exact zS _ | exact Zr_not (hs.zA _ _) | exact ⟨by omega, by omega⟩) ⟨rfl, rfl, rfl⟩ (fun h hs => ?_)
  refine Z_go (f2 := (56, [(2, .long (tl)), (0, .ref 83), (1, .int (Zi fo))], [.ref 83])) (fun _ => rfl) ?_
  refine Z_go (f2 := (57, [(2, .long (tl)), (0, .ref 83), (1, .int (Zi fo))], [.ref 83, .ref 83])) (fun _ => rfl) ?_
  refine R_gi rfl hs rfl ?_
  show B_R _ _ (60, [(2, .long (tl)), (0, .ref 83), (1, .int (Zi fo))], [.int (Zi (u.1 18)), .ref 83]) _ _ _
  refine Z_ine rfl rfl (by first | exact hs.zF _ | exact Zor_r _ _ | exact hs.zA _ _ | assumption | exact zA _ _ | exact zS _ | exact Zr_not (hs.zA _ _) | exact ⟨by omega, by omega⟩) (fun y1 => ?_) (fun y1 => ?_)
  · exfalso; omega
  · refine Z_go (f2 := (64, [(2, .long (tl)), (0, .ref 83), (1, .int (Zi fo))], [.int (Zi (-1)), .ref 83])) (fun _ => rfl) ?_
    refine Z_go (f2 := (71, [(2, .long (tl)), (0, .ref 83), (1, .int (Zi fo))], [.int (Zi (-1)), .ref 83])) (fun _ => rfl) ?_
    refine R_pf rfl hs rfl (by first | exact hs.zF _ | exact Zor_r _ _ | exact hs.zA _ _ | assumption | exact zA _ _ | exact zS _ | exact Zr_not (hs.zA _ _) | exact ⟨by omega, by omega⟩) ⟨rfl, rfl, rfl⟩ (fun h hs => ?_)
    refine Z_go (f2 := (75, [(2, .long (tl)), (0, .ref 83), (1, .int (Zi fo))], [.ref 83])) (fun _ => rfl) ?_
    refine R_gi rfl hs rfl ?_
    show B_R _ _ (78, [(2, .long (tl)), (0, .ref 83), (1, .int (Zi fo))], [.int (Zi (u.1 18))]) _ _ _
    refine Z_ieq rfl rfl (by first | exact hs.zF _ | exact Zor_r _ _ | exact hs.zA _ _ | assumption | exact zA _ _ | exact zS _ | exact Zr_not (hs.zA _ _) | exact ⟨by omega, by omega⟩) (fun y2 => ?_) (fun y2 => ?_)
    · refine Z_go (f2 := (84, [(2, .long (tl)), (0, .ref 83), (1, .int (Zi fo))], [.ref 83])) (fun _ => rfl) ?_
      refine Z_go (f2 := (85, [(2, .long (tl)), (0, .ref 83), (1, .int (Zi fo))], [.long (tl), .ref 83])) (fun _ => rfl) ?_
      refine R_pl rfl hs rfl ⟨rfl, rfl, rfl⟩ (fun h hs => ?_)
      refine Z_go (f2 := (89, [(2, .long (tl)), (0, .ref 83), (1, .int (Zi fo))], [.ref 83])) (fun _ => rfl) ?_
      refine R_call (As := []) (rest := []) rfl (by decide) rfl rfl rfl rfl (by decide +kernel) (Nat.le_of_ble_eq_true rfl) hs (R_buries _ (R_sL (R_sF (R_sF (R_sF u 1 0) 20 (u.1 18)) 21 (-1)) 73 tl) (t := t) ht hd (tl0.cong rfl rfl (fun _ _ _ => rfl)) p1) (fun x h v1 hs q => ?_)
      obtain ⟨rfl, f1, dd1⟩ := q
      have f1 : R_f5 [1, 20, 21, 37, 41, 43, 48, 56, 59, 63, 68, 70, 71, 72] [89, 96, 97, 98, 99, 100, 101, 102, 103, 104, 105, 106, 107, 108, 109, 110, 111, 112, 113, 114, 115, 116, 117, 118, 122, 123, 124, 125, 126, 127, 128, 129, 130, 131] u v1 := (((((R_f5.rf _ _ u).sF (by decide)).sF (by decide)).sF (by decide)).sL).tr f1.f4.f5 (by decide) (by decide)
      have g1 : R_fr [] [117, 118] (R_sL (R_sF (R_sF (R_sF u 1 0) 20 (u.1 18)) 21 (-1)) 73 tl) v1 := by assumption
      show B_R _ _ (92, [(2, .long (tl)), (0, .ref 83), (1, .int (Zi fo))], []) _ _ _
      refine Z_go (f2 := (93, [(2, .long (tl)), (0, .ref 83), (1, .int (Zi fo))], [.ref 83])) (fun _ => rfl) ?_
      refine R_call (As := []) (rest := []) rfl (by decide) rfl rfl rfl rfl (by decide +kernel) (Nat.le_of_ble_eq_true rfl) hs (R_wants _ v1 (t := t) ht hd (tl0.cong (f1.1 13 (by decide)) (f1.1 15 (by decide)) (fun q j hq => f1.2.1 q (by rcases hq with rfl | rfl | rfl | rfl <;> decide) j)) (by rw [f1.1 13 (by decide)]; exact p1) (by rw [f1.1 15 (by decide)]; exact p15) hb) (fun x h v2 hs q => ?_)
      obtain ⟨rfl, hV, g2⟩ := q
      have f2 : R_f5 [1, 20, 21, 37, 41, 43, 48, 56, 59, 63, 68, 70, 71, 72] [89, 96, 97, 98, 99, 100, 101, 102, 103, 104, 105, 106, 107, 108, 109, 110, 111, 112, 113, 114, 115, 116, 117, 118, 122, 123, 124, 125, 126, 127, 128, 129, 130, 131] u v2 := f1.tr g2.f4.f5 (by decide) (by decide)
      show B_R _ _ (96, [(2, .long (tl)), (0, .ref 83), (1, .int (Zi fo))], []) _ _ _
      refine Z_go (f2 := (97, [(2, .long (tl)), (0, .ref 83), (1, .int (Zi fo))], [.ref 83])) (fun _ => rfl) ?_
      refine R_call (As := []) (rest := []) rfl (by decide) rfl rfl rfl rfl (by decide +kernel) (Nat.le_of_ble_eq_true rfl) hs (R_tells _ v2 hV) (fun x h v3 hs q => ?_)
      obtain ⟨rfl, g3, hT⟩ := q
      have f3 : R_f5 [1, 20, 21, 37, 41, 43, 48, 56, 59, 63, 68, 70, 71, 72] [89, 96, 97, 98, 99, 100, 101, 102, 103, 104, 105, 106, 107, 108, 109, 110, 111, 112, 113, 114, 115, 116, 117, 118, 122, 123, 124, 125, 126, 127, 128, 129, 130, 131] u v3 := f2.tr g3.f5 (by decide) (by decide)
      show B_R _ _ (100, [(2, .long (tl)), (0, .ref 83), (1, .int (Zi fo))], []) _ _ _
      refine Z_go (f2 := (101, [(2, .long (tl)), (0, .ref 83), (1, .int (Zi fo))], [.ref 83])) (fun _ => rfl) ?_
      refine Z_go (f2 := (102, [(2, .long (tl)), (0, .ref 83), (1, .int (Zi fo))], [.int (Zi 0), .ref 83])) (fun _ => rfl) ?_
      refine R_pf rfl hs rfl (by first | exact hs.zF _ | exact Zor_r _ _ | exact hs.zA _ _ | assumption | exact zA _ _ | exact zS _ | exact Zr_not (hs.zA _ _) | exact ⟨by omega, by omega⟩) ⟨rfl, rfl, rfl⟩ (fun h hs => ?_)
      refine Z_go (f2 := (106, [(2, .long (tl)), (0, .ref 83), (1, .int (Zi fo))], [.ref 83])) (fun _ => rfl) ?_
      refine Z_go (f2 := (107, [(2, .long (tl)), (0, .ref 83), (1, .int (Zi fo))], [.int (Zi 0), .ref 83])) (fun _ => rfl) ?_
      refine R_pf rfl hs rfl (by first | exact hs.zF _ | exact Zor_r _ _ | exact hs.zA _ _ | assumption | exact zA _ _ | exact zS _ | exact Zr_not (hs.zA _ _) | exact ⟨by omega, by omega⟩) ⟨rfl, rfl, rfl⟩ (fun h hs => ?_)
      refine Z_go (f2 := (111, [(2, .long (tl)), (0, .ref 83), (1, .int (Zi fo))], [.int (Zi 0)])) (fun _ => rfl) ?_
      refine Z_go (f2 := (113, [(4, .int (Zi 0)), (2, .long (tl)), (0, .ref 83), (1, .int (Zi fo))], [])) (fun _ => rfl) ?_
      refine B_loc (K := [(4, .int (Zi 0)), (2, .long (tl)), (0, .ref 83), (1, .int (Zi fo))]) (N_all_sub ⟨rfl, rfl, rfl, rfl, trivial⟩) (show ([4, 2, 0, 1] : List Nat).Nodup by decide) ?_
      have k1 : (R_sF (R_sF v3 63 0) 68 0).1 1 = 0 := (g3.1 1 (by decide)).trans ((g2.f4.1 1 (by decide)).trans (g1.1 1 (by decide)))
      have f4 : R_f5 [1, 20, 21, 37, 41, 43, 48, 56, 59, 63, 68, 70, 71, 72] [89, 96, 97, 98, 99, 100, 101, 102, 103, 104, 105, 106, 107, 108, 109, 110, 111, 112, 113, 114, 115, 116, 117, 118, 122, 123, 124, 125, 126, 127, 128, 129, 130, 131] u (R_sF (R_sF v3 63 0) 68 0) := (f3.sF (by decide)).sF (by decide)
      have eq4 : ∀ q, 84 ≤ q → q ≤ 88 → ∀ j, (R_sF (R_sF v3 63 0) 68 0).2.1 q j = u.2.1 q j := fun q q0 q1 j => f4.2.1 q (by rcases (by omega : q = 84 ∨ q = 85 ∨ q = 86 ∨ q = 87 ∨ q = 88) with rfl | rfl | rfl | rfl | rfl <;> decide) j
      have w4 : R_fw (R_sF (R_sF v3 63 0) 68 0) (-1) := w.cong (f4.1 8 (by decide)) (f4.1 3 (by decide)) (by rw [k1]; omega) (by rw [k1]; omega) eq4
      obtain ⟨LC, hT1, hT2, hT3, hT4, hT5⟩ := id hT.1
      have hl : R_sl (R_sF (R_sF v3 63 0) 68 0) (R_sF (R_sF v3 63 0) 68 0) t LC 0 := ⟨R_f4.rf _ _ _ _, [], [], rfl, rfl, ⟨rfl, fun i hi => absurd hi (Nat.not_lt_zero _)⟩, ⟨rfl, fun x hx => absurd hx (List.not_mem_nil), fun i hi => absurd hi (Nat.not_lt_zero _)⟩, Nat.le_refl _, 0, D_cn_0 _, Int.le_refl _⟩
      refine R_se_lp (d := d + 4) (s := R_sF (R_sF v3 63 0) 68 0) (t := t) (L := LC) ht hd hz hH (by rw [f4.1 13 (by decide)]; exact p1) (by rw [f4.1 15 (by decide)]; exact p15) w4 (tl0.cong (f4.1 13 (by decide)) (f4.1 15 (by decide)) (fun q j hq => f4.2.1 q (by rcases hq with rfl | rfl | rfl | rfl <;> decide) j)) (dd1.at (fun i _ _ => (g3.2.1 117 (by decide) _).trans (g2.f4.2.1 117 (by decide) _))) hT5 hT4 hT3 hT2.symm ?_ (by rw [f4.1 7 (by decide)]; exact h7) (fun x h hs hR => ?_) ((R_sF (R_sF v3 63 0) 68 0).1 8).toNat.succ 0 (R_sF (R_sF v3 63 0) 68 0) h (by have := w4.w1.1; omega) hs hl (Int.le_refl 0) w4.w1.1
      · rw [f4.1 8 (by decide), f4.1 7 (by decide)]
        rw [show (fun f => (R_sF (R_sF v3 63 0) 68 0).2.1 88 f = 1) = (fun f => u.2.1 88 f = 1) from funext (fun f => by rw [eq4 88 (by omega) (by omega)])]
        exact hc
      obtain ⟨r1, O, H, r2, r3, r4, r5, r6, m, r7, r8⟩ := hR
      rw [X_D_cong (s := u) (fun q q0 q1 => eq4 q (by omega) q1)] at r2 r3
      rw [X_Q_cong (s := u) (fun q q0 q1 => eq4 q (by omega) q1)] at r3
      rw [f4.1 8 (by decide)] at r2 r3 r7
      have em : m = u.1 7 := by
        rw [show (fun f => (R_sF (R_sF v3 63 0) 68 0).2.1 88 f = 1) = (fun f => u.2.1 88 f = 1) from funext (fun f => by rw [eq4 88 (by omega) (by omega)])] at r7
        exact D_cn_fn r7 hc
      have f5 : R_f5 [1, 20, 21, 37, 41, 43, 48, 56, 59, 63, 68, 70, 71, 72] [89, 96, 97, 98, 99, 100, 101, 102, 103, 104, 105, 106, 107, 108, 109, 110, 111, 112, 113, 114, 115, 116, 117, 118, 122, 123, 124, 125, 126, 127, 128, 129, 130, 131] u x := f4.tr r1.f5 (by decide) (by decide)
      have e70 : x.1 70 = u.1 70 := (r1.1 70 (by decide)).trans ((g3.1 70 (by decide)).trans ((g2.f4.1 70 (by decide)).trans (g1.1 70 (by decide))))
      have e71 : x.1 71 = u.1 71 := (r1.1 71 (by decide)).trans ((g3.1 71 (by decide)).trans ((g2.f4.1 71 (by decide)).trans (g1.1 71 (by decide))))
      have e72 : x.1 72 = u.1 72 := (r1.1 72 (by decide)).trans ((g3.1 72 (by decide)).trans ((g2.f4.1 72 (by decide)).trans (g1.1 72 (by decide))))
      have x68 : x.1 68 = O.length := r4.1
      have x63 : x.1 63 = H.length := r5.1
      refine R_se_c x hs ⟨by omega, by omega⟩ ⟨by omega, by omega⟩ ⟨by omega, by omega⟩ ?_
      refine kont (R_sF (R_sF (R_sF x 70 (x.1 70 + 1)) 71 (x.1 71 + x.1 68)) 72 (x.1 72 + x.1 63)) (((f5.sF (by decide)).sF (by decide)).sF (by decide)) ?_
      refine ⟨?_, ?_, ?_, ?_, ⟨?_, ?_, ?_, ?_⟩, LC, O, H, hT1, r2, r3, r4, r5, r6, by omega, ?_, ?_, ?_⟩
      · show x.2.2.1 73 = tl
        rw [r1.2.2.1]
        show v3.2.2.1 73 = tl
        rw [g3.2.2.1, g2.f4.2.2.1, g1.f4.2.2.1]
        rfl
      · exact (r1.1 1 (by decide)).trans ((g3.1 1 (by decide)).trans ((g2.f4.1 1 (by decide)).trans (g1.1 1 (by decide))))
      · exact ((r1.1 20 (by decide)).trans ((g3.1 20 (by decide)).trans ((g2.f4.1 20 (by decide)).trans (g1.1 20 (by decide))))).trans u18
      · exact (r1.1 21 (by decide)).trans ((g3.1 21 (by decide)).trans ((g2.f4.1 21 (by decide)).trans (g1.1 21 (by decide))))
      · exact hT.1.keep (r1.1 56 (by decide)) (r1.2.1 122 (by decide)) (r1.2.1 123 (by decide))
      · exact hT.2.1.keep (r1.2.1 124 (by decide) _) (fun j _ _ => r1.2.1 125 (by decide) j) (fun j _ _ => r1.2.1 126 (by decide) j)
      · exact hT.2.2.1.keep (r1.2.1 124 (by decide) _) (fun j _ _ => r1.2.1 125 (by decide) j) (fun j _ _ => r1.2.1 126 (by decide) j)
      · exact hT.2.2.2.keep (r1.2.1 124 (by decide) _) (fun j _ _ => r1.2.1 125 (by decide) j) (fun j _ _ => r1.2.1 126 (by decide) j)
      · show x.1 70 + 1 = _; rw [e70]
      · show x.1 71 + x.1 68 = _; rw [e71, x68]
      · show x.1 72 + x.1 63 = _; rw [e72, x63]
    · exfalso; omega
theorem R_se_a {d : Nat} {h0 : E_H} {post : Option Value → R_S → Prop} {fo : Int} {tl : Int64} (u : R_S) (h : E_H) (hx : R_is h0 h u) (u18 : u.1 18 ≠ 0) (kont : post (some (.int (Zi (-1)))) (R_sF (R_sF (R_sF u 1 0) 20 (u.1 18)) 21 (u.1 19))) : B_R (d + 11) E_m276 (42, [(2, .long (tl)), (0, .ref 83), (1, .int (Zi fo))], []) h 0 (fun r => ∃ s2 : R_S, R_is h0 r.2.1 s2 ∧ post r.1 s2 ∧ r.2.2 = 0) := by
  have hs := hx
  have zu18 := hx.zF 18
  have zu19 := hx.zF 19
  refine Z_go (f2 := (43, [(2, .long (tl)), (0, .ref 83), (1, .int (Zi fo))], [.ref 83])) (fun _ => rfl) ?_
  refine Z_go (f2 := (44, [(2, .long (tl)), (0, .ref 83), (1, .int (Zi fo))], [.int (Zi 0), .ref 83])) (fun _ => rfl) ?_
  refine R_pf rfl hs rfl (by first | exact hs.zF _ | exact Zor_r _ _ | exact hs.zA _ _ | assumption | exact zA _ _ | exact zS _ | exact Zr_not (hs.zA _ _) | exact ⟨by omega, by omega⟩) ⟨rfl, rfl, rfl⟩ (fun h hs => ?_)
  refine Z_go (f2 := (48, [(2, .long (tl)), (0, .ref 83), (1, .int (Zi fo))], [.ref 83])) (fun _ => rfl) ?_
  refine Z_go (f2 := (49, [(2, .long (tl)), (0, .ref 83), (1, .int (Zi fo))], [.ref 83, .ref 83])) (fun _ => rfl) ?_
  refine R_gi rfl hs rfl ?_
  show B_R _ _ (52, [(2, .long (tl)), (0, .ref 83), (1, .int (Zi fo))], [.int (Zi (u.1 18)), .ref 83]) _ _ _
  refine R_pf rfl hs rfl (by first | exact hs.zF _ | exact Zor_r _ _ | exact hs.zA _ _ | assumption | exact zA _ _ | exact zS _ | exact Zr_not (hs.zA _ _) | exact ⟨by omega, by omega⟩) ⟨rfl, rfl, rfl⟩ (fun h hs => ?_)
  refine Z_go (f2 := (56, [(2, .long (tl)), (0, .ref 83), (1, .int (Zi fo))], [.ref 83])) (fun _ => rfl) ?_
  refine Z_go (f2 := (57, [(2, .long (tl)), (0, .ref 83), (1, .int (Zi fo))], [.ref 83, .ref 83])) (fun _ => rfl) ?_
  refine R_gi rfl hs rfl ?_
  show B_R _ _ (60, [(2, .long (tl)), (0, .ref 83), (1, .int (Zi fo))], [.int (Zi (u.1 18)), .ref 83]) _ _ _
  refine Z_ine rfl rfl (by first | exact hs.zF _ | exact Zor_r _ _ | exact hs.zA _ _ | assumption | exact zA _ _ | exact zS _ | exact Zr_not (hs.zA _ _) | exact ⟨by omega, by omega⟩) (fun y1 => ?_) (fun y1 => ?_)
  · refine Z_go (f2 := (68, [(2, .long (tl)), (0, .ref 83), (1, .int (Zi fo))], [.ref 83, .ref 83])) (fun _ => rfl) ?_
    refine R_gi rfl hs rfl ?_
    show B_R _ _ (71, [(2, .long (tl)), (0, .ref 83), (1, .int (Zi fo))], [.int (Zi (u.1 19)), .ref 83]) _ _ _
    refine R_pf rfl hs rfl (by first | exact hs.zF _ | exact Zor_r _ _ | exact hs.zA _ _ | assumption | exact zA _ _ | exact zS _ | exact Zr_not (hs.zA _ _) | exact ⟨by omega, by omega⟩) ⟨rfl, rfl, rfl⟩ (fun h hs => ?_)
    refine Z_go (f2 := (75, [(2, .long (tl)), (0, .ref 83), (1, .int (Zi fo))], [.ref 83])) (fun _ => rfl) ?_
    refine R_gi rfl hs rfl ?_
    show B_R _ _ (78, [(2, .long (tl)), (0, .ref 83), (1, .int (Zi fo))], [.int (Zi (u.1 18))]) _ _ _
    refine Z_ieq rfl rfl (by first | exact hs.zF _ | exact Zor_r _ _ | exact hs.zA _ _ | assumption | exact zA _ _ | exact zS _ | exact Zr_not (hs.zA _ _) | exact ⟨by omega, by omega⟩) (fun y2 => ?_) (fun y2 => ?_)
    · exfalso; omega
    · refine Z_go (f2 := (82, [(2, .long (tl)), (0, .ref 83), (1, .int (Zi fo))], [.int (Zi (-1))])) (fun _ => rfl) ?_
      refine Z_iret rfl rfl (by first | rfl | decide | exact narrow_b01 (by omega)) ⟨_, hs, ?_, rfl⟩
      exact kont
  · exfalso; omega
/-- what a search asks: the regex, or its first fault -/
def P_srch (S : Int → Int) (fold : Prop) (n : Int) : P_R P_T := match P_reads S fold n with
  | .inl q => .inl q
  | .inr (t, b) => if 200 < T_sz t then .inl (3, n) else .inr (t, b)
def R_srP (s : R_S) (fo : Int) (x : Option Value) (u : R_S) : Prop := R_f5 [1, 13, 15, 16, 17, 18, 19, 20, 21, 22, 37, 41, 43, 48, 56, 59, 63, 68, 70, 71, 72] [89, 90, 91, 92, 93, 94, 96, 97, 98, 99, 100, 101, 102, 103, 104, 105, 106, 107, 108, 109, 110, 111, 112, 113, 114, 115, 116, 117, 118, 122, 123, 124, 125, 126, 127, 128, 129, 130, 131] s u ∧ u.1 1 = 0 ∧ (match P_srch (D_see s) (fo ≠ 0) (s.1 1) with
  | .inl (k, wh) => x = some (.int (Zi (-1))) ∧ R_f5 [1, 13, 15, 16, 17, 18, 19, 20, 21, 22] [90, 91, 92, 93, 94] s u ∧ (∀ b, u.2.2.1 b = s.2.2.1 b) ∧ u.1 20 = k ∧ u.1 21 = wh ∧ k ≠ 0
  | .inr (t, _) => x = some (.int (Zi (u.1 63))) ∧ R_sgd s u (Int64.ofInt (T_sz t)) t)
theorem P_srch_bad {S : Int → Int} {fold : Prop} {n : Int} {q : Int × Int} (h : P_reads S fold n = .inl q) : P_srch S fold n = .inl q := by
  unfold P_srch; rw [h]
theorem P_srch_big {S : Int → Int} {fold : Prop} {n b : Int} {t : P_T} (h : P_reads S fold n = .inr (t, b)) (hz : 200 < T_sz t) : P_srch S fold n = .inl (3, n) := by
  unfold P_srch; rw [h]; exact if_pos hz
theorem P_srch_ok {S : Int → Int} {fold : Prop} {n b : Int} {t : P_T} (h : P_reads S fold n = .inr (t, b)) (hz : ¬ 200 < T_sz t) : P_srch S fold n = .inr (t, b) := by
  unfold P_srch; rw [h]; exact if_neg hz
theorem D_see_n (s : R_S) : ∀ k, s.1 1 ≤ k → D_see s k = -1 := fun k hk => if_neg (by omega)
theorem R_search (d : Nat) (s : R_S) {fo : Int} (f01 : fo = 0 ∨ fo = 1) (w : R_fw s (-1)) (hb : ∀ t b, P_reads (D_see s) (fo ≠ 0) (s.1 1) = .inr (t, b) → T_sz t ≤ 200 → P_hb t) (hc : D_cn (fun f => s.2.1 88 f = 1) (s.1 8) (s.1 7)) (h7 : s.1 7 ≤ 40) (c70 : 0 ≤ s.1 70 ∧ s.1 70 ≤ 2000000000) (c71 : 0 ≤ s.1 71 ∧ s.1 71 ≤ 2000000000) (c72 : 0 ≤ s.1 72 ∧ s.1 72 ≤ 2000000000) : R_ok (d + 12) 276 [.int (Zi fo)] s (fun x u => R_srP s fo x u) := by
  refine R_enter (M := E_m276) rfl (Nat.le_of_ble_eq_true rfl) (fun h0 h hs => ?_)
  have zfo : Zr fo := ⟨by omega, by omega⟩
  have h17 : E_fin 12 17 = false ∧ narrow (E_cty 12 17) (.int (Zi fo)) = .int (Zi fo) ∧ fits (E_cty 12 17) (.int (Zi fo)) = true := by rcases f01 with rfl | rfl <;> decide
  show B_R (d + 11) _ (0, [(0, .ref 83), (1, .int (Zi fo))], []) _ _ _
  refine Z_go (f2 := (1, [(0, .ref 83), (1, .int (Zi fo))], [.ref 83])) (fun _ => rfl) ?_
  refine Z_go (f2 := (2, [(0, .ref 83), (1, .int (Zi fo))], [.int (Zi fo), .ref 83])) (fun _ => rfl) ?_
  refine R_pf rfl hs rfl (by first | exact hs.zF _ | exact Zor_r _ _ | exact hs.zA _ _ | assumption | exact zA _ _ | exact zS _ | exact Zr_not (hs.zA _ _) | exact ⟨by omega, by omega⟩) h17 (fun h hs => ?_)
  refine Z_go (f2 := (6, [(0, .ref 83), (1, .int (Zi fo))], [.ref 83])) (fun _ => rfl) ?_
  refine R_call (As := []) (rest := []) rfl (by decide) rfl rfl rfl rfl (by decide +kernel) (Nat.le_of_ble_eq_true rfl) hs (R_reads _ (R_sF s 17 fo) w.t0 w.t1 w.tb) (fun x h s2 hs q => ?_)
  obtain ⟨rfl, w2, A, F, P, rfl, f2, hm⟩ := q
  have zF : Zr F := hs.zF 18
  have k0 : (0 : Int64).toInt = 0 := by decide
  have k200 : (200 : Int64).toInt = 200 := by decide
  have zP : Zr P := hs.zF 19
  have f3 : R_f5 [13, 15, 16, 17, 18, 19, 22] [90, 91, 92, 93, 94] s (R_p3 w2 A F P) := ((((((R_f5.rf _ _ s).sF (by decide)).tr f2.f4.f5 (by decide) (by decide)).sF (by decide)).sF (by decide)).sF (by decide))
  have m3 : ∀ b, (R_p3 w2 A F P).2.2.1 b = s.2.2.1 b := fun b => congrFun (f2.f4.2.2.1) b
  change (match P_reads (D_see s) (fo ≠ 0) (s.1 1) with | .inl (k, wh) => F = k ∧ P = wh ∧ k ≠ 0 | .inr (t, _) => F = 0 ∧ R_tl w2 t) at hm
  show B_R _ _ (9, [(0, .ref 83), (1, .int (Zi fo))], []) _ _ _
  refine Z_go (f2 := (10, [(0, .ref 83), (1, .int (Zi fo))], [.ref 83])) (fun _ => rfl) ?_
  refine R_gi rfl hs rfl ?_
  show B_R _ _ (13, [(0, .ref 83), (1, .int (Zi fo))], [.int (Zi F)]) _ _ _
  refine Z_ine rfl rfl (by first | exact hs.zF _ | exact Zor_r _ _ | exact hs.zA _ _ | assumption | exact zA _ _ | exact zS _ | exact Zr_not (hs.zA _ _) | exact ⟨by omega, by omega⟩) (fun y1 => ?_) (fun y1 => ?_)
  · refine Z_go (f2 := (24, [(0, .ref 83), (1, .int (Zi fo))], [.long (0)])) (fun _ => rfl) ?_
    refine Z_go (f2 := (25, [(2, .long (0)), (0, .ref 83), (1, .int (Zi fo))], [])) (fun _ => rfl) ?_
    refine Z_go (f2 := (26, [(2, .long (0)), (0, .ref 83), (1, .int (Zi fo))], [.long (0)])) (fun _ => rfl) ?_
    refine Z_go (f2 := (29, [(2, .long (0)), (0, .ref 83), (1, .int (Zi fo))], [.long (200), .long (0)])) (fun _ => rfl) ?_
    refine Z_lcmp rfl ?_
    obtain ⟨zl1, ezl1, hzl1, rzl1, ozl1⟩ := Zl_ex2 (0) (200)
    rw [ezl1]
    show B_R _ _ (30, [(2, .long (0)), (0, .ref 83), (1, .int (Zi fo))], [.int (Zi zl1)]) _ _ _
    refine Z_ile rfl rfl (by first | exact hs.zF _ | exact Zor_r _ _ | exact hs.zA _ _ | assumption | exact zA _ _ | exact zS _ | exact Zr_not (hs.zA _ _) | exact ⟨by omega, by omega⟩) (fun y2 => ?_) (fun y2 => ?_)
    · have hR : ∃ q, P_reads (D_see s) (fo ≠ 0) (s.1 1) = .inl q ∧ q.1 = F ∧ q.2 = P := by
        cases e : P_reads (D_see s) (fo ≠ 0) (s.1 1) using P_R_el with
        | bad k wh => rw [e] at hm; exact ⟨(k, wh), rfl, hm.1.symm, hm.2.1.symm⟩
        | ok t b => rw [e] at hm; exact absurd hm.1 y1
      obtain ⟨⟨k, wh⟩, hR, rfl, rfl⟩ := hR
      refine R_se_a _ h hs y1 ?_
      have f6 : R_f5 [1, 13, 15, 16, 17, 18, 19, 20, 21, 22] [90, 91, 92, 93, 94] s (R_sF (R_sF (R_sF (R_p3 w2 A k wh) 1 0) 20 ((R_p3 w2 A k wh).1 18)) 21 ((R_p3 w2 A k wh).1 19)) := (((f3.up (by decide) (by decide)).sF (by decide)).sF (by decide)).sF (by decide)
      unfold R_srP
      rw [P_srch_bad hR]
      exact ⟨f6.up (by decide) (by decide), rfl, rfl, f6, m3, rfl, rfl, y1⟩
    · exfalso; omega
  · have F0 : F = 0 := by omega
    obtain ⟨t, b, hR, tlw⟩ : ∃ t b, P_reads (D_see s) (fo ≠ 0) (s.1 1) = .inr (t, b) ∧ R_tl w2 t := by
      cases e : P_reads (D_see s) (fo ≠ 0) (s.1 1) using P_R_el with
      | bad k wh => rw [e] at hm; exact absurd (hm.1 ▸ F0) hm.2.2
      | ok t b => rw [e] at hm; exact ⟨t, b, rfl, hm.2⟩
    have ok := P_reads_ok (D_see_n s) w.t0 hR
    have ln := P_reads_ln (D_see_n s) w.t0 hR
    have smx := T_sz_max ok.1.wf (by omega) ok.1.h
    have hsz : (Int64.ofInt (T_sz t)).toInt = T_sz t := Int64.toInt_ofInt_of_le (by omega) (by omega)
    refine Z_go (f2 := (17, [(0, .ref 83), (1, .int (Zi fo))], [.ref 83])) (fun _ => rfl) ?_
    refine R_call (As := []) (rest := []) rfl (by decide) rfl rfl rfl rfl (by decide +kernel) (Nat.le_of_ble_eq_true rfl) hs (R_sized _ (R_p3 w2 A F P) (t := t) ok.1.wf ok.1.dp (tlw.cong rfl rfl (fun _ _ _ => rfl)) (by show w2.1 13 ≤ 400; rw [tlw.n13, T_ops_len]; omega)) (fun x h v hs q => ?_)
    obtain ⟨rfl, lo⟩ := q
    have f4 : R_f5 [13, 15, 16, 17, 18, 19, 22] [90, 91, 92, 93, 94] s v := ⟨fun b hb => (congrFun lo.1 b).trans (f3.1 b hb), fun q hq j => (congrFun (congrFun lo.2.1 q) j).trans (f3.2.1 q hq j), fun b hb => (congrFun lo.2.2.1 b).trans (f3.2.2 b hb)⟩
    have m4 : ∀ b, v.2.2.1 b = s.2.2.1 b := fun b => (congrFun lo.2.2.1 b).trans (m3 b)
    have v18 : v.1 18 = 0 := (congrFun lo.1 18).trans F0
    have v19 := hs.zF 19
    show B_R _ _ (20, [(0, .ref 83), (1, .int (Zi fo))], [.long (Int64.ofInt (T_sz t))]) _ _ _
    refine Z_go (f2 := (24, [(0, .ref 83), (1, .int (Zi fo))], [.long (Int64.ofInt (T_sz t))])) (fun _ => rfl) ?_
    refine Z_go (f2 := (25, [(2, .long (Int64.ofInt (T_sz t))), (0, .ref 83), (1, .int (Zi fo))], [])) (fun _ => rfl) ?_
    refine Z_go (f2 := (26, [(2, .long (Int64.ofInt (T_sz t))), (0, .ref 83), (1, .int (Zi fo))], [.long (Int64.ofInt (T_sz t))])) (fun _ => rfl) ?_
    refine Z_go (f2 := (29, [(2, .long (Int64.ofInt (T_sz t))), (0, .ref 83), (1, .int (Zi fo))], [.long (200), .long (Int64.ofInt (T_sz t))])) (fun _ => rfl) ?_
    refine Z_lcmp rfl ?_
    obtain ⟨zl2, ezl2, hzl2, rzl2, ozl2⟩ := Zl_ex2 (Int64.ofInt (T_sz t)) (200)
    rw [ezl2]
    show B_R _ _ (30, [(2, .long (Int64.ofInt (T_sz t))), (0, .ref 83), (1, .int (Zi fo))], [.int (Zi zl2)]) _ _ _
    refine Z_ile rfl rfl (by first | exact hs.zF _ | exact Zor_r _ _ | exact hs.zA _ _ | assumption | exact zA _ _ | exact zS _ | exact Zr_not (hs.zA _ _) | exact ⟨by omega, by omega⟩) (fun y3 => ?_) (fun y3 => ?_)
    · have hz : ¬ 200 < T_sz t := by have := ozl2; rw [hsz] at this; omega
      have eq4 : ∀ q, 84 ≤ q → q ≤ 88 → ∀ j, v.2.1 q j = s.2.1 q j := fun q q0 q1 j => f4.2.1 q (by rcases (by omega : q = 84 ∨ q = 85 ∨ q = 86 ∨ q = 87 ∨ q = 88) with rfl | rfl | rfl | rfl | rfl <;> decide) j
      have e8 : v.1 8 = s.1 8 := f4.1 8 (by decide)
      have e7 : v.1 7 = s.1 7 := f4.1 7 (by decide)
      have e1 : v.1 1 = s.1 1 := f4.1 1 (by decide)
      have tlv : R_tl v t := tlw.cong (congrFun lo.1 13) (congrFun lo.1 15) (fun q j hq => congrFun (congrFun lo.2.1 q) j)
      have hh := T_hh_by ok.1.wf
      have hby := T_sets_by ok.1.wf
      refine R_se_b (t := t) v h hs v18 ok.1.wf ok.1.dp (by omega) (by omega) (by rw [tlv.n13, T_ops_len]; omega) (by rw [tlv.n15]; omega) (w.cong e8 (f4.1 3 (by decide)) (by rw [e1]; exact w.t0) (by rw [e1]; exact w.t1) eq4) tlv (hb t b hR (by omega)) ?_ (by omega) (by rw [f4.1 70 (by decide)]; exact c70) (by rw [f4.1 71 (by decide)]; exact c71) (by rw [f4.1 72 (by decide)]; exact c72) (fun x fx hx => ?_)
      · rw [e8, e7, show (fun f => v.2.1 88 f = 1) = (fun f => s.2.1 88 f = 1) from funext (fun f => by rw [eq4 88 (by omega) (by omega)])]
        exact hc
      obtain ⟨x1, x2, x3, x4, x5, L, O, H, x6, x7, x8, x9, x10, x11, x12, x13, x14, x15⟩ := hx
      rw [X_D_cong (s := s) (fun q q0 q1 => eq4 q (by omega) q1), e8] at x7 x8
      rw [X_Q_cong (s := s) (fun q q0 q1 => eq4 q (by omega) q1)] at x8
      unfold R_srP
      rw [P_srch_ok hR hz]
      exact ⟨(f4.up (by decide) (by decide)).tr fx (by decide) (by decide), x2, rfl, x1, x2, x3, x4, x5, L, O, H, x6, x7, x8, x9, x10, x11, by rw [← e7]; exact x12, by rw [x13, f4.1 70 (by decide)], by rw [x14, f4.1 71 (by decide)], by rw [x15, f4.1 72 (by decide)]⟩
    · refine Z_go (f2 := (34, [(2, .long (Int64.ofInt (T_sz t))), (0, .ref 83), (1, .int (Zi fo))], [.ref 83])) (fun _ => rfl) ?_
      refine Z_go (f2 := (35, [(2, .long (Int64.ofInt (T_sz t))), (0, .ref 83), (1, .int (Zi fo))], [.int (Zi 3), .ref 83])) (fun _ => rfl) ?_
      refine Z_go (f2 := (36, [(2, .long (Int64.ofInt (T_sz t))), (0, .ref 83), (1, .int (Zi fo))], [.ref 83, .int (Zi 3), .ref 83])) (fun _ => rfl) ?_
      refine R_gi rfl hs rfl ?_
      show B_R _ _ (39, [(2, .long (Int64.ofInt (T_sz t))), (0, .ref 83), (1, .int (Zi fo))], [.int (Zi (v.1 1)), .int (Zi 3), .ref 83]) _ _ _
      refine R_call (As := [.int (Zi 3), .int (Zi (v.1 1))]) (rest := []) rfl (by decide) rfl rfl rfl rfl (by decide +kernel) (Nat.le_of_ble_eq_true rfl) hs (R_fail _ v (kd := 3) (wh := v.1 1) ⟨by omega, by omega⟩ (hs.zF 1)) (fun x h v4 hs q => ?_)
      obtain ⟨rfl, hq⟩ := q
      have e4 : v4 = R_sF (R_sF v 18 3) 19 (v.1 1) := by
        rcases hq with ⟨_, hq, _⟩ | ⟨hq, _⟩
        · exact absurd v18 hq
        · exact hq
      show B_R _ _ (42, [(2, .long (Int64.ofInt (T_sz t))), (0, .ref 83), (1, .int (Zi fo))], []) _ _ _
      subst e4
      have hz : 200 < T_sz t := by have := ozl2; rw [hsz] at this; omega
      refine R_se_a _ h hs (by show (3 : Int) ≠ 0; decide) ?_
      have f6 : R_f5 [1, 13, 15, 16, 17, 18, 19, 20, 21, 22] [90, 91, 92, 93, 94] s (R_sF (R_sF (R_sF (R_sF (R_sF v 18 3) 19 (v.1 1)) 1 0) 20 ((R_sF (R_sF v 18 3) 19 (v.1 1)).1 18)) 21 ((R_sF (R_sF v 18 3) 19 (v.1 1)).1 19)) := (((((f4.up (by decide) (by decide)).sF (by decide)).sF (by decide)).sF (by decide)).sF (by decide)).sF (by decide)
      unfold R_srP
      rw [P_srch_big hR hz]
      exact ⟨f6.up (by decide) (by decide), rfl, rfl, f6, m4, rfl, f4.1 1 (by decide), by decide⟩
