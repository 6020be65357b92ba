/-! the class: Parser: the second number; the tree beside it; pieces of a list -/
theorem C_fail (d : Nat) {s : C_S} {p : List Nat} {o tr src N : Nat} {S : Int → Int} {nn fo f pl a : Int} (hp : D_P0 s p o tr src N S nn fo f pl a) {kd wh : Int} (zk : Zr kd) (zw : Zr wh) (kn : kd ≠ 0) : C_ok (d + 1) 33 [.ref o, .int (Zi kd), .int (Zi wh)] s (fun x s2 n => x = none ∧ n = 0 ∧ D_Po p s s2 ∧ D_P0 s2 p o tr src N S nn fo (if f = 0 then kd else f) (if f = 0 then wh else pl) a) := by
  by_cases c : f = 0
  · rw [if_pos c, if_pos c]
    subst c
    refine (C_fail0 d hp zk zw).weak (fun x s2 n q => ?_)
    obtain ⟨rfl, rfl, rfl⟩ := q
    exact ⟨rfl, rfl, ((D_Po.refl p s).sF hp.1.2.1).sF hp.1.2.1, (hp.ff kd kn).pp wh kn⟩
  · rw [if_neg c, if_neg c]
    refine (C_fail1 d hp c).weak (fun x s2 n q => ?_)
    obtain ⟨rfl, rfl, rfl⟩ := q
    exact ⟨rfl, rfl, D_Po.refl p _, hp⟩
theorem C_num2 (d : Nat) {s : C_S} {p : List Nat} {o tr src N : Nat} {S : Int → Int} {nn fo pl a : Int} {lo : Int} (hp : D_P0 s p o tr src N S nn fo 0 pl a) (a0 : 0 ≤ a) (an : a ≤ nn) (l0 : 0 ≤ lo) (l1 : lo ≤ 20) : C_ok (d + 4) 39 [.ref o, .int (Zi lo)] s (fun x s2 n => n = 0 ∧ D_Po p s s2 ∧ ∃ f2 pl2 a2 v : Int, x = some (.int (Zi v)) ∧ D_P0 s2 p o tr src N S nn fo f2 pl2 a2 ∧ a ≤ a2 ∧ a2 ≤ a + 2 ∧ -1 ≤ v ∧ v < 256 ∧ P_say (match P_num S a with | .inl q => .inl q | .inr (v2, b) => if v2 < lo then .inl (2, a) else .inr (v2, b)) f2 pl2 (fun v2 b => v = v2 ∧ a2 = b ∧ 0 ≤ v ∧ v ≤ 20)) := by
  refine C_enter (M := E_m39) rfl (Nat.le_of_ble_eq_true rfl) (fun h0 h hs => ?_)
  show B_R (d + 3) _ (0, [(0, .ref o), (1, .int (Zi lo))], []) _ _ _
  have hz := hp.z hs
  have za := hz.2.2.1
  have zn := hz.2.2.2.1
  have nn0 := hp.2.2.2.2.1
  have nn1 := hp.2.2.2.2.2
  refine Z_go (f2 := (1, [(0, .ref o), (1, .int (Zi lo))], [.ref o])) (fun _ => rfl) ?_
  refine C_gi rfl hs hp.1.1 (by decide) (Nat.le_of_ble_eq_true rfl) rfl ?_
  rw [show C_F (s) o 5 = a from (by first | exact hp.1.2.2.2.2.2.2.2.2.2.1 | exact (if_neg (fun e => absurd e.1 (by assumption))).trans hp.1.2.2.2.2.2.2.2.2.2.1 | exact (if_neg (fun e => absurd e.2 (by decide))).trans hp.1.2.2.2.2.2.2.2.2.2.1 | exact (if_neg (fun e => absurd e.2 (by decide))).trans ((if_neg (fun e => absurd e.2 (by decide))).trans hp.1.2.2.2.2.2.2.2.2.2.1) | exact (if_neg (fun e => absurd e.2 (by decide))).trans ((if_neg (fun e => absurd e.2 (by decide))).trans ((if_neg (fun e => absurd e.2 (by decide))).trans hp.1.2.2.2.2.2.2.2.2.2.1)))]
  show B_R _ _ (4, [(0, .ref o), (1, .int (Zi lo))], [.int (Zi a)]) _ _ _
  refine Z_go (f2 := (5, [(2, .int (Zi a)), (0, .ref o), (1, .int (Zi lo))], [])) (fun _ => rfl) ?_
  refine Z_go (f2 := (6, [(2, .int (Zi a)), (0, .ref o), (1, .int (Zi lo))], [.ref o])) (fun _ => rfl) ?_
  refine C_callV (As := []) (rest := []) rfl (by decide) rfl (by decide) rfl rfl (by decide +kernel) (Nat.le_of_ble_eq_true rfl) hs hp.1.1 (C_num _ hp (by omega) (by omega)) (fun x h v134 n134 hs q => ?_)
  obtain ⟨rfl, pg134, f134, pl134, a134, z134, rfl, hp134, ga134, gb134, gc134, gd134, sy134⟩ := q
  have pf134 := (D_Po.refl p s).tr pg134
  have zz134 := hp134.z hs
  show B_R _ _ (9, [(2, .int (Zi a)), (0, .ref o), (1, .int (Zi lo))], [.int (Zi z134)]) _ _ _
  refine Z_go (f2 := (10, [(3, .int (Zi z134)), (2, .int (Zi a)), (0, .ref o), (1, .int (Zi lo))], [])) (fun _ => rfl) ?_
  refine Z_go (f2 := (11, [(3, .int (Zi z134)), (2, .int (Zi a)), (0, .ref o), (1, .int (Zi lo))], [.int (Zi z134)])) (fun _ => rfl) ?_
  refine Z_go (f2 := (12, [(3, .int (Zi z134)), (2, .int (Zi a)), (0, .ref o), (1, .int (Zi lo))], [.int (Zi lo), .int (Zi z134)])) (fun _ => rfl) ?_
  refine Z_cge rfl rfl (by first | exact hs.zF _ _ | exact Zor_r _ _ | exact hs.zA _ _ | assumption | exact zA _ _ | exact zS _ | exact Zr_not (hs.zA _ _) | exact hs.1.1 _ _ | exact ⟨by omega, by omega⟩) (by first | exact hs.zF _ _ | exact Zor_r _ _ | exact hs.zA _ _ | assumption | exact zA _ _ | exact zS _ | exact Zr_not (hs.zA _ _) | exact hs.1.1 _ _ | exact ⟨by omega, by omega⟩) (fun c1 => ?_) (fun c1 => ?_)
  · refine Z_go (f2 := (22, [(3, .int (Zi z134)), (2, .int (Zi a)), (0, .ref o), (1, .int (Zi lo))], [.int (Zi z134)])) (fun _ => rfl) ?_
    refine Z_iret rfl rfl (by first | rfl | decide | exact narrow_b01 (by omega)) ⟨_, hs, ?_⟩
    try dsimp only
    refine ⟨rfl, pf134, f134, pl134, a134, z134, rfl, hp134, by omega, by omega, by omega, by omega, ?_⟩
    cases e : P_num S a using P_R_el with
    | bad k w => rw [e] at sy134; exact sy134
    | ok v2 b =>
      rw [e] at sy134
      obtain ⟨s1, s2, s3, s4⟩ := (sy134 : _ ∧ _ ∧ _)
      show P_say (if v2 < lo then (.inl (2, a) : P_R Int) else .inr (v2, b)) _ _ _
      rw [if_neg (by omega)]
      exact ⟨s1, s2, s3, s4⟩
  · refine Z_go (f2 := (16, [(3, .int (Zi z134)), (2, .int (Zi a)), (0, .ref o), (1, .int (Zi lo))], [.ref o])) (fun _ => rfl) ?_
    refine Z_go (f2 := (17, [(3, .int (Zi z134)), (2, .int (Zi a)), (0, .ref o), (1, .int (Zi lo))], [.int (Zi 2), .ref o])) (fun _ => rfl) ?_
    refine Z_go (f2 := (18, [(3, .int (Zi z134)), (2, .int (Zi a)), (0, .ref o), (1, .int (Zi lo))], [.int (Zi a), .int (Zi 2), .ref o])) (fun _ => rfl) ?_
    refine C_callV (As := [.int (Zi 2), .int (Zi a)]) (rest := []) rfl (by decide) rfl (by decide) rfl rfl (by decide +kernel) (Nat.le_of_ble_eq_true rfl) hs hp134.1.1 (C_fail _ hp134 (kd := 2) (wh := a) (by first | exact hs.zF _ _ | exact Zor_r _ _ | exact hs.zA _ _ | assumption | exact zA _ _ | exact zS _ | exact Zr_not (hs.zA _ _) | exact hs.1.1 _ _ | exact ⟨by omega, by omega⟩) (by first | exact hs.zF _ _ | exact Zor_r _ _ | exact hs.zA _ _ | assumption | exact zA _ _ | exact zS _ | exact Zr_not (hs.zA _ _) | exact hs.1.1 _ _ | exact ⟨by omega, by omega⟩) (by decide)) (fun x h vf nf hs q => ?_)
    obtain ⟨rfl, rfl, pgf, hpf⟩ := q
    have pff := pf134.tr pgf
    show B_R _ _ (21, [(3, .int (Zi z134)), (2, .int (Zi a)), (0, .ref o), (1, .int (Zi lo))], []) _ _ _
    refine Z_go (f2 := (22, [(3, .int (Zi z134)), (2, .int (Zi a)), (0, .ref o), (1, .int (Zi lo))], [.int (Zi z134)])) (fun _ => rfl) ?_
    refine Z_iret rfl rfl (by first | rfl | decide | exact narrow_b01 (by omega)) ⟨_, hs, ?_⟩
    try dsimp only
    refine ⟨rfl, pff, _, _, a134, z134, rfl, hpf, by omega, by omega, by omega, by omega, ?_⟩
    cases e : P_num S a using P_R_el with
    | bad k w =>
      rw [e] at sy134
      obtain ⟨s1, s2, s3⟩ := (sy134 : _ ∧ _ ∧ _)
      rw [if_neg (by omega), if_neg (by omega)]
      exact ⟨s1, s2, s3⟩
    | ok v2 b =>
      rw [e] at sy134
      obtain ⟨s1, s2, s3, s4⟩ := (sy134 : _ ∧ _ ∧ _)
      show P_say (if v2 < lo then (.inl (2, a) : P_R Int) else .inr (v2, b)) _ _ _
      rw [if_pos (by omega), if_pos s1, if_pos s1]
      exact ⟨rfl, rfl, by omega⟩
theorem D_Tr.oF {s : C_S} {q : List Nat} {tr o : Nat} {A : Nat → Nat} {m sm : Int} {τ : Nat → Int → Int} {β : Int → Int64} (h : D_Tr s q tr A m sm τ β) (ne : tr ≠ o) {b : Nat} {z : Int} : D_Tr (C_sF s o b z) q tr A m sm τ β := by
  obtain ⟨⟨h1, h2, h3, h4, h5⟩, g⟩ := h
  exact ⟨⟨h1, h2, (if_neg (fun e => ne e.1)).trans h3, (if_neg (fun e => ne e.1)).trans h4, h5⟩, g⟩
theorem D_P0.ne {s : C_S} {p q : List Nat} {o tr src N : Nat} {S : Int → Int} {nn fo f pl a : Int} {A : Nat → Nat} {m sm : Int} {τ : Nat → Int → Int} {β : Int → Int64} (hp : D_P0 s p o tr src N S nn fo f pl a) (h : D_Tr s q tr A m sm τ β) : tr ≠ o := by
  intro e
  have h1 := h.1.1
  rw [e, hp.1.1] at h1
  cases h1
theorem D_Tr.pf {s u : C_S} {p : List Nat} {o tr src N : Nat} {S : Int → Int} {nn fo f pl a : Int} {q : List Nat} {A : Nat → Nat} {m sm : Int} {τ : Nat → Int → Int} {β : Int → Int64} (h : D_Tr s q tr A m sm τ β) : D_Tr s q tr A m sm τ β := h
