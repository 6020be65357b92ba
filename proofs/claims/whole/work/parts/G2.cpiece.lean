/-! the class: Parser: a piece of a list -/
theorem P_say.ok' {α : Type} {r : P_R α} {v : α} {b f pl : Int} {good : α → Int → Prop} (hf : f = 0) (e : r = .inr (v, b)) (h : good v b) : P_say r f pl good := by
  subst hf
  exact P_say.ok e h
theorem P_say.no' {α : Type} {r : P_R α} {k w f pl : Int} {good : α → Int → Prop} (hf : f = k) (hp : pl = w) (e : r = .inl (k, w)) (h : k ≠ 0) : P_say r f pl good := by
  subst hf
  subst hp
  exact P_say.no e h
theorem C_piece (d : Nat) {s : C_S} {p : List Nat} {o tr src N : Nat} {S : Int → Int} {nn fo pl a : Int} {A : Nat → Nat} {m sm : Int} {τ : Nat → Int → Int} {β : Int → Int64} {c : Int} (hp : D_P0 s p o tr src N S nn fo 0 pl a) (hd : D_Tr s (p ++ [tr]) tr A m sm τ β) (hz : T_zb τ) (a0 : 0 ≤ a) (an : a ≤ nn) (c0 : 0 ≤ c) (c1 : c < 80) : C_ok (d + 4) 49 [.ref o, .int (Zi c)] s (fun x s2 n => x = none ∧ n = 0 ∧ D_Pf p s s2 ∧ ∃ (f2 pl2 a2 : Int) (β2 : Int → Int64), D_P0 s2 p o tr src N S nn fo f2 pl2 a2 ∧ D_Tr s2 (p ++ [tr]) tr A m sm τ β2 ∧ a ≤ a2 ∧ a2 ≤ nn + 3 ∧ (∀ d j, 0 ≤ d → d ≠ c → 0 ≤ j → j ≤ 255 → (T_has β2 d j ↔ T_has β d j)) ∧ P_say (P_item S a) f2 pl2 (fun C b => a2 = b ∧ b ≤ nn ∧ a < b ∧ ∀ j, 0 ≤ j → j ≤ 255 → (T_has β2 c j ↔ T_has β c j ∨ C j))) := by
  refine C_enter (M := E_m49) rfl (Nat.le_of_ble_eq_true rfl) (fun h0 h hs => ?_)
  show B_R (d + 3) _ (0, [(0, .ref o), (1, .int (Zi c))], []) _ _ _
  have hpz := hp.z hs
  have za := hpz.2.2.1
  have zn := hpz.2.2.2.1
  have zfo := hpz.2.2.2.2
  have nn0 := hp.2.2.2.2.1
  have nn1 := hp.2.2.2.2.2
  have hne := hp.ne hd
  have hm0 := hd.1.2.2.2.2.1
  have hm1 := hd.1.2.2.2.2.2.1
  have hsm0 := hd.1.2.2.2.2.2.2.1
  have hsm1 := hd.1.2.2.2.2.2.2.2
  have hra := hp.r a a0
  have hrb := hp.r (a + 1) (by omega)
  have hlt : ∀ k v b, P_one S k = .inr (v, b) → k < b ∧ b ≤ nn ∧ 0 ≤ v ∧ v < 256 := fun k v b e => P_one_lt (n := nn) hp.2.2.1 e
  refine Z_go (f2 := (1, [(0, .ref o), (1, .int (Zi c))], [.ref o])) (fun _ => rfl) ?_
  refine C_callVR (As := []) (rest := []) rfl (by decide) rfl (by decide) rfl rfl (by decide +kernel) (Nat.le_of_ble_eq_true rfl) hs hp.1.1 (C_peek _ hp (by omega)) (fun x q => ?_)
  obtain rfl := q
  have zpk135 := hp.r a (by omega)
  show B_R _ _ (4, [(0, .ref o), (1, .int (Zi c))], [.int (Zi (S a))]) _ _ _
  refine Z_go (f2 := (6, [(0, .ref o), (1, .int (Zi c))], [.int (Zi 92), .int (Zi (S a))])) (fun _ => rfl) ?_
  refine Z_cne rfl rfl (by first | exact hs.zF _ _ | exact Zor_r _ _ | exact hs.zA _ _ | assumption | exact zA _ _ | exact zS _ | exact Zr_not (hs.zA _ _) | exact hs.1.1 _ _ | exact ⟨by omega, by omega⟩) (by first | exact hs.zF _ _ | exact Zor_r _ _ | exact hs.zA _ _ | assumption | exact zA _ _ | exact zS _ | exact Zr_not (hs.zA _ _) | exact hs.1.1 _ _ | exact ⟨by omega, by omega⟩) (fun c1 => ?_) (fun c1 => ?_)
  · refine Z_go (f2 := (74, [(0, .ref o), (1, .int (Zi c))], [.ref o])) (fun _ => rfl) ?_
    have wf136 := hs.1
    refine C_callV (As := []) (rest := []) rfl (by decide) rfl (by decide) rfl rfl (by decide +kernel) (Nat.le_of_ble_eq_true rfl) hs hp.1.1 (C_one _ hp (by omega) (by omega)) (fun x h v136 n136 hs q => ?_)
    obtain ⟨rfl, pg136, f136, pl136, a136, z136, rfl, hp136, ga136, gb136, gc136, gd136, sy136⟩ := q
    have pf136 := (D_Pf.refl p s).trO pg136
    have hd136 := hd.po wf136 pg136
    have hne := hp136.ne hd136
    obtain ⟨zzf136, zzp136, zza136, _⟩ := hp136.z hs
    show B_R _ _ (77, [(0, .ref o), (1, .int (Zi c))], [.int (Zi z136)]) _ _ _
    refine Z_go (f2 := (78, [(2, .int (Zi z136)), (0, .ref o), (1, .int (Zi c))], [])) (fun _ => rfl) ?_
    refine Z_go (f2 := (79, [(2, .int (Zi z136)), (0, .ref o), (1, .int (Zi c))], [.int (Zi z136)])) (fun _ => rfl) ?_
    refine Z_go (f2 := (80, [(3, .int (Zi z136)), (2, .int (Zi z136)), (0, .ref o), (1, .int (Zi c))], [])) (fun _ => rfl) ?_
    refine Z_go (f2 := (81, [(3, .int (Zi z136)), (2, .int (Zi z136)), (0, .ref o), (1, .int (Zi c))], [.ref o])) (fun _ => rfl) ?_
    refine C_gi rfl hs hp136.1.1 (by decide) (Nat.le_of_ble_eq_true rfl) rfl ?_
    rw [show C_F (v136) o 1 = f136 from (by first | exact hp136.1.2.2.2.2.2.2.1 | exact (if_neg (fun e => absurd e.1 (by assumption))).trans hp136.1.2.2.2.2.2.2.1 | exact (if_neg (fun e => absurd e.2 (by decide))).trans hp136.1.2.2.2.2.2.2.1 | exact (if_neg (fun e => absurd e.2 (by decide))).trans ((if_neg (fun e => absurd e.2 (by decide))).trans hp136.1.2.2.2.2.2.2.1) | exact (if_neg (fun e => absurd e.2 (by decide))).trans ((if_neg (fun e => absurd e.2 (by decide))).trans ((if_neg (fun e => absurd e.2 (by decide))).trans hp136.1.2.2.2.2.2.2.1)))]
    show B_R _ _ (84, [(3, .int (Zi z136)), (2, .int (Zi z136)), (0, .ref o), (1, .int (Zi c))], [.int (Zi f136)]) _ _ _
    refine Z_ine rfl rfl (by first | exact hs.zF _ _ | exact Zor_r _ _ | exact hs.zA _ _ | assumption | exact zA _ _ | exact zS _ | exact Zr_not (hs.zA _ _) | exact hs.1.1 _ _ | exact ⟨by omega, by omega⟩) (fun c2 => ?_) (fun c2 => ?_)
    · refine Z_go (f2 := (130, [(3, .int (Zi z136)), (2, .int (Zi z136)), (0, .ref o), (1, .int (Zi c))], [.ref o])) (fun _ => rfl) ?_
      refine C_gi rfl hs hp136.1.1 (by decide) (Nat.le_of_ble_eq_true rfl) rfl ?_
      rw [show C_F (v136) o 1 = f136 from (by first | exact hp136.1.2.2.2.2.2.2.1 | exact (if_neg (fun e => absurd e.1 (by assumption))).trans hp136.1.2.2.2.2.2.2.1 | exact (if_neg (fun e => absurd e.2 (by decide))).trans hp136.1.2.2.2.2.2.2.1 | exact (if_neg (fun e => absurd e.2 (by decide))).trans ((if_neg (fun e => absurd e.2 (by decide))).trans hp136.1.2.2.2.2.2.2.1) | exact (if_neg (fun e => absurd e.2 (by decide))).trans ((if_neg (fun e => absurd e.2 (by decide))).trans ((if_neg (fun e => absurd e.2 (by decide))).trans hp136.1.2.2.2.2.2.2.1)))]
      show B_R _ _ (133, [(3, .int (Zi z136)), (2, .int (Zi z136)), (0, .ref o), (1, .int (Zi c))], [.int (Zi f136)]) _ _ _
      refine Z_ine rfl rfl (by first | exact hs.zF _ _ | exact Zor_r _ _ | exact hs.zA _ _ | assumption | exact zA _ _ | exact zS _ | exact Zr_not (hs.zA _ _) | exact hs.1.1 _ _ | exact ⟨by omega, by omega⟩) (fun c3 => ?_) (fun c3 => ?_)
      · refine Z_ret rfl rfl ⟨_, hs, ?_⟩
        try dsimp only
        have hF := P_say.bad sy136 (by omega)
        have ei : P_item S a = P_piece S a := by
          unfold P_item
          rw [if_neg (fun h => by have h1 := h.1; have h2 := h.2; omega)]
        refine ⟨rfl, rfl, pf136, _, _, _, _, hp136, hd136, by omega, by omega, ?_, ?_⟩
        · intro d j d0 dc j0 j1
          exact Iff.rfl
        · refine P_say.no ?_ (by omega)
          rw [ei]
          unfold P_piece
          rw [hF]
      · obtain rfl : f136 = 0 := by omega
        refine Z_go (f2 := (137, [(3, .int (Zi z136)), (2, .int (Zi z136)), (0, .ref o), (1, .int (Zi c))], [.ref o])) (fun _ => rfl) ?_
        refine C_gr rfl hs hp136.1.1 (by decide) (Nat.le_of_ble_eq_true rfl) rfl hp136.1.2.2.1 ?_
        refine Z_go (f2 := (141, [(3, .int (Zi z136)), (2, .int (Zi z136)), (0, .ref o), (1, .int (Zi c))], [.int (Zi c), .ref tr])) (fun _ => rfl) ?_
        refine Z_go (f2 := (142, [(3, .int (Zi z136)), (2, .int (Zi z136)), (0, .ref o), (1, .int (Zi c))], [.int (Zi z136), .int (Zi c), .ref tr])) (fun _ => rfl) ?_
        refine Z_go (f2 := (143, [(3, .int (Zi z136)), (2, .int (Zi z136)), (0, .ref o), (1, .int (Zi c))], [.int (Zi z136), .int (Zi z136), .int (Zi c), .ref tr])) (fun _ => rfl) ?_
        have wf137 := hs.1
        refine C_callV (As := [.int (Zi c), .int (Zi z136), .int (Zi z136)]) (rest := []) rfl (by decide) rfl (by decide) rfl rfl (by decide +kernel) (Nat.le_of_ble_eq_true rfl) hs hd136.1.1 (C_rng _ hd136 (c := c) (lo := z136) (hi := z136) (by omega) (by omega) (by omega) (by omega) (by omega) (by omega)) (fun x h v137 n137 hs q => ?_)
        obtain ⟨rfl, rfl, fr137, en137, β137, hd137, hb137⟩ := q
        have hp137 := hp136.sub wf137 fr137
        have pf137 := pf136.on fr137 en137
        have hne := hp137.ne hd137
        show B_R _ _ (146, [(3, .int (Zi z136)), (2, .int (Zi z136)), (0, .ref o), (1, .int (Zi c))], []) _ _ _
        refine Z_ret rfl rfl ⟨_, hs, ?_⟩
        try dsimp only
        obtain ⟨u1, u2, uF, ue1, ue2⟩ := P_say.good sy136 (by omega)
        have hl := hlt _ _ _ uF
        have ei : P_item S a = P_piece S a := by
          unfold P_item
          rw [if_neg (fun h => by have h1 := h.1; have h2 := h.2; omega)]
        refine ⟨rfl, rfl, pf137, _, _, _, _, hp137, hd137, by omega, by omega, ?_, ?_⟩
        · intro d j d0 dc j0 j1
          rw [hb137 d j d0 j0 j1]
          exact ⟨fun h => h.elim id (fun h => absurd h.1 dc), .inl⟩
        · refine P_say.ok' (by omega) (v := fun x => x = u1) (b := u2) ?_ ⟨by omega, by omega, by omega, fun j j0 j1 => ?_⟩
          · rw [ei]
            unfold P_piece
            rw [uF]
            show (if S u2 = 45 then _ else _) = _
            rw [if_neg (by rw [← ue2]; omega)]
          · rw [hb137 c j c0 j0 j1]
            exact ⟨fun h => h.imp id (fun h => by have h1 := h.2; omega), fun h => h.imp id (fun h => ⟨rfl, by omega, by omega⟩)⟩
    · obtain rfl : f136 = 0 := by omega
      refine Z_go (f2 := (88, [(3, .int (Zi z136)), (2, .int (Zi z136)), (0, .ref o), (1, .int (Zi c))], [.ref o])) (fun _ => rfl) ?_
      refine C_callVR (As := []) (rest := []) rfl (by decide) rfl (by decide) rfl rfl (by decide +kernel) (Nat.le_of_ble_eq_true rfl) hs hp136.1.1 (C_peek _ hp136 (by omega)) (fun x q => ?_)
      obtain rfl := q
      have zpk138 := hp.r a136 (by omega)
      show B_R _ _ (91, [(3, .int (Zi z136)), (2, .int (Zi z136)), (0, .ref o), (1, .int (Zi c))], [.int (Zi (S a136))]) _ _ _
      refine Z_go (f2 := (93, [(3, .int (Zi z136)), (2, .int (Zi z136)), (0, .ref o), (1, .int (Zi c))], [.int (Zi 45), .int (Zi (S a136))])) (fun _ => rfl) ?_
      refine Z_cne rfl rfl (by first | exact hs.zF _ _ | exact Zor_r _ _ | exact hs.zA _ _ | assumption | exact zA _ _ | exact zS _ | exact Zr_not (hs.zA _ _) | exact hs.1.1 _ _ | exact ⟨by omega, by omega⟩) (by first | exact hs.zF _ _ | exact Zor_r _ _ | exact hs.zA _ _ | assumption | exact zA _ _ | exact zS _ | exact Zr_not (hs.zA _ _) | exact hs.1.1 _ _ | exact ⟨by omega, by omega⟩) (fun c4 => ?_) (fun c4 => ?_)
      · refine Z_go (f2 := (130, [(3, .int (Zi z136)), (2, .int (Zi z136)), (0, .ref o), (1, .int (Zi c))], [.ref o])) (fun _ => rfl) ?_
        refine C_gi rfl hs hp136.1.1 (by decide) (Nat.le_of_ble_eq_true rfl) rfl ?_
        rw [show C_F (v136) o 1 = 0 from (by first | exact hp136.1.2.2.2.2.2.2.1 | exact (if_neg (fun e => absurd e.1 (by assumption))).trans hp136.1.2.2.2.2.2.2.1 | exact (if_neg (fun e => absurd e.2 (by decide))).trans hp136.1.2.2.2.2.2.2.1 | exact (if_neg (fun e => absurd e.2 (by decide))).trans ((if_neg (fun e => absurd e.2 (by decide))).trans hp136.1.2.2.2.2.2.2.1) | exact (if_neg (fun e => absurd e.2 (by decide))).trans ((if_neg (fun e => absurd e.2 (by decide))).trans ((if_neg (fun e => absurd e.2 (by decide))).trans hp136.1.2.2.2.2.2.2.1)))]
        show B_R _ _ (133, [(3, .int (Zi z136)), (2, .int (Zi z136)), (0, .ref o), (1, .int (Zi c))], [.int (Zi 0)]) _ _ _
        refine Z_ine rfl rfl (by first | exact hs.zF _ _ | exact Zor_r _ _ | exact hs.zA _ _ | assumption | exact zA _ _ | exact zS _ | exact Zr_not (hs.zA _ _) | exact hs.1.1 _ _ | exact ⟨by omega, by omega⟩) (fun c5 => ?_) (fun c5 => ?_)
        · exfalso; omega
        · refine Z_go (f2 := (137, [(3, .int (Zi z136)), (2, .int (Zi z136)), (0, .ref o), (1, .int (Zi c))], [.ref o])) (fun _ => rfl) ?_
          refine C_gr rfl hs hp136.1.1 (by decide) (Nat.le_of_ble_eq_true rfl) rfl hp136.1.2.2.1 ?_
          refine Z_go (f2 := (141, [(3, .int (Zi z136)), (2, .int (Zi z136)), (0, .ref o), (1, .int (Zi c))], [.int (Zi c), .ref tr])) (fun _ => rfl) ?_
          refine Z_go (f2 := (142, [(3, .int (Zi z136)), (2, .int (Zi z136)), (0, .ref o), (1, .int (Zi c))], [.int (Zi z136), .int (Zi c), .ref tr])) (fun _ => rfl) ?_
          refine Z_go (f2 := (143, [(3, .int (Zi z136)), (2, .int (Zi z136)), (0, .ref o), (1, .int (Zi c))], [.int (Zi z136), .int (Zi z136), .int (Zi c), .ref tr])) (fun _ => rfl) ?_
          have wf139 := hs.1
          refine C_callV (As := [.int (Zi c), .int (Zi z136), .int (Zi z136)]) (rest := []) rfl (by decide) rfl (by decide) rfl rfl (by decide +kernel) (Nat.le_of_ble_eq_true rfl) hs hd136.1.1 (C_rng _ hd136 (c := c) (lo := z136) (hi := z136) (by omega) (by omega) (by omega) (by omega) (by omega) (by omega)) (fun x h v139 n139 hs q => ?_)
          obtain ⟨rfl, rfl, fr139, en139, β139, hd139, hb139⟩ := q
          have hp139 := hp136.sub wf139 fr139
          have pf139 := pf136.on fr139 en139
          have hne := hp139.ne hd139
          show B_R _ _ (146, [(3, .int (Zi z136)), (2, .int (Zi z136)), (0, .ref o), (1, .int (Zi c))], []) _ _ _
          refine Z_ret rfl rfl ⟨_, hs, ?_⟩
          try dsimp only
          obtain ⟨u1, u2, uF, ue1, ue2⟩ := P_say.good sy136 (by omega)
          have hl := hlt _ _ _ uF
          have ei : P_item S a = P_piece S a := by
            unfold P_item
            rw [if_neg (fun h => by have h1 := h.1; have h2 := h.2; omega)]
          refine ⟨rfl, rfl, pf139, _, _, _, _, hp139, hd139, by omega, by omega, ?_, ?_⟩
          · intro d j d0 dc j0 j1
            rw [hb139 d j d0 j0 j1]
            exact ⟨fun h => h.elim id (fun h => absurd h.1 dc), .inl⟩
          · refine P_say.ok' (by omega) (v := fun x => x = u1) (b := u2) ?_ ⟨by omega, by omega, by omega, fun j j0 j1 => ?_⟩
            · rw [ei]
              unfold P_piece
              rw [uF]
              show (if S u2 = 45 then _ else _) = _
              rw [if_neg (by rw [← ue2]; omega)]
            · rw [hb139 c j c0 j0 j1]
              exact ⟨fun h => h.imp id (fun h => by have h1 := h.2; omega), fun h => h.imp id (fun h => ⟨rfl, by omega, by omega⟩)⟩
      · refine Z_go (f2 := (97, [(3, .int (Zi z136)), (2, .int (Zi z136)), (0, .ref o), (1, .int (Zi c))], [.ref o])) (fun _ => rfl) ?_
        refine Z_go (f2 := (98, [(3, .int (Zi z136)), (2, .int (Zi z136)), (0, .ref o), (1, .int (Zi c))], [.ref o, .ref o])) (fun _ => rfl) ?_
        refine C_gi rfl hs hp136.1.1 (by decide) (Nat.le_of_ble_eq_true rfl) rfl ?_
        rw [show C_F (v136) o 5 = a136 from (by first | exact hp136.1.2.2.2.2.2.2.2.2.2.1 | exact (if_neg (fun e => absurd e.1 (by assumption))).trans hp136.1.2.2.2.2.2.2.2.2.2.1 | exact (if_neg (fun e => absurd e.2 (by decide))).trans hp136.1.2.2.2.2.2.2.2.2.2.1 | exact (if_neg (fun e => absurd e.2 (by decide))).trans ((if_neg (fun e => absurd e.2 (by decide))).trans hp136.1.2.2.2.2.2.2.2.2.2.1) | exact (if_neg (fun e => absurd e.2 (by decide))).trans ((if_neg (fun e => absurd e.2 (by decide))).trans ((if_neg (fun e => absurd e.2 (by decide))).trans hp136.1.2.2.2.2.2.2.2.2.2.1)))]
        show B_R _ _ (101, [(3, .int (Zi z136)), (2, .int (Zi z136)), (0, .ref o), (1, .int (Zi c))], [.int (Zi a136), .ref o]) _ _ _
        refine Z_go (f2 := (102, [(3, .int (Zi z136)), (2, .int (Zi z136)), (0, .ref o), (1, .int (Zi c))], [.int (Zi 1), .int (Zi a136), .ref o])) (fun _ => rfl) ?_
        refine Z_iadd rfl ?_
        refine C_pi rfl hs hp136.1.1 (by decide) (Nat.le_of_ble_eq_true rfl) (.inl rfl) rfl rfl rfl (by first | exact hs.zF _ _ | exact Zor_r _ _ | exact hs.zA _ _ | assumption | exact zA _ _ | exact zS _ | exact Zr_not (hs.zA _ _) | exact hs.1.1 _ _ | exact ⟨by omega, by omega⟩) (fun h hs => ?_)
        refine Z_go (f2 := (107, [(3, .int (Zi z136)), (2, .int (Zi z136)), (0, .ref o), (1, .int (Zi c))], [.ref o])) (fun _ => rfl) ?_
        refine C_gi rfl hs hp136.1.1 (by decide) (Nat.le_of_ble_eq_true rfl) rfl ?_
        rw [show C_F (C_sF v136 o 5 (a136 + 1)) o 5 = a136 + 1 from (by first | rfl | (simp only [C_F, C_P, C_A, C_L, C_Q, C_K, C_T, C_n, C_sF, C_sP, C_sA, C_sL, C_sQ, C_sAf, C_sQf]; simp [*]; done) | (simp only [C_F, C_P, C_A, C_L, C_Q, C_K, C_T, C_n, C_sF, C_sP, C_sA, C_sL, C_sQ, C_sAf, C_sQf]; simp; omega))]; show B_R _ _ (110, [(3, .int (Zi z136)), (2, .int (Zi z136)), (0, .ref o), (1, .int (Zi c))], [.int (Zi (a136 + 1))]) _ _ _
        refine Z_go (f2 := (112, [(4, .int (Zi (a136 + 1))), (3, .int (Zi z136)), (2, .int (Zi z136)), (0, .ref o), (1, .int (Zi c))], [])) (fun _ => rfl) ?_
        refine Z_go (f2 := (113, [(4, .int (Zi (a136 + 1))), (3, .int (Zi z136)), (2, .int (Zi z136)), (0, .ref o), (1, .int (Zi c))], [.ref o])) (fun _ => rfl) ?_
        have wf140 := hs.1
        refine C_callV (As := []) (rest := []) rfl (by decide) rfl (by decide) rfl rfl (by decide +kernel) (Nat.le_of_ble_eq_true rfl) hs hp136.1.1 (C_one _ (hp136.aa (a136 + 1)) (by omega) (by omega)) (fun x h v140 n140 hs q => ?_)
        obtain ⟨rfl, pg140, f140, pl140, a140, z140, rfl, hp140, ga140, gb140, gc140, gd140, sy140⟩ := q
        have pf140 := (pf136.sF hp136.1.2.1).trO pg140
        have hd140 := (hd136.oF hne).po wf140 pg140
        have hne := hp140.ne hd140
        obtain ⟨zzf140, zzp140, zza140, _⟩ := hp140.z hs
        show B_R _ _ (116, [(4, .int (Zi (a136 + 1))), (3, .int (Zi z136)), (2, .int (Zi z136)), (0, .ref o), (1, .int (Zi c))], [.int (Zi z140)]) _ _ _
        refine Z_go (f2 := (117, [(3, .int (Zi z140)), (4, .int (Zi (a136 + 1))), (2, .int (Zi z136)), (0, .ref o), (1, .int (Zi c))], [])) (fun _ => rfl) ?_
        refine Z_go (f2 := (118, [(3, .int (Zi z140)), (4, .int (Zi (a136 + 1))), (2, .int (Zi z136)), (0, .ref o), (1, .int (Zi c))], [.int (Zi z140)])) (fun _ => rfl) ?_
        refine Z_go (f2 := (119, [(3, .int (Zi z140)), (4, .int (Zi (a136 + 1))), (2, .int (Zi z136)), (0, .ref o), (1, .int (Zi c))], [.int (Zi z136), .int (Zi z140)])) (fun _ => rfl) ?_
        refine Z_cge rfl rfl (by first | exact hs.zF _ _ | exact Zor_r _ _ | exact hs.zA _ _ | assumption | exact zA _ _ | exact zS _ | exact Zr_not (hs.zA _ _) | exact hs.1.1 _ _ | exact ⟨by omega, by omega⟩) (by first | exact hs.zF _ _ | exact Zor_r _ _ | exact hs.zA _ _ | assumption | exact zA _ _ | exact zS _ | exact Zr_not (hs.zA _ _) | exact hs.1.1 _ _ | exact ⟨by omega, by omega⟩) (fun c6 => ?_) (fun c6 => ?_)
        · refine Z_go (f2 := (130, [(3, .int (Zi z140)), (4, .int (Zi (a136 + 1))), (2, .int (Zi z136)), (0, .ref o), (1, .int (Zi c))], [.ref o])) (fun _ => rfl) ?_
          refine C_gi rfl hs hp140.1.1 (by decide) (Nat.le_of_ble_eq_true rfl) rfl ?_
          rw [show C_F (v140) o 1 = f140 from (by first | exact hp140.1.2.2.2.2.2.2.1 | exact (if_neg (fun e => absurd e.1 (by assumption))).trans hp140.1.2.2.2.2.2.2.1 | exact (if_neg (fun e => absurd e.2 (by decide))).trans hp140.1.2.2.2.2.2.2.1 | exact (if_neg (fun e => absurd e.2 (by decide))).trans ((if_neg (fun e => absurd e.2 (by decide))).trans hp140.1.2.2.2.2.2.2.1) | exact (if_neg (fun e => absurd e.2 (by decide))).trans ((if_neg (fun e => absurd e.2 (by decide))).trans ((if_neg (fun e => absurd e.2 (by decide))).trans hp140.1.2.2.2.2.2.2.1)))]
          show B_R _ _ (133, [(3, .int (Zi z140)), (4, .int (Zi (a136 + 1))), (2, .int (Zi z136)), (0, .ref o), (1, .int (Zi c))], [.int (Zi f140)]) _ _ _
          refine Z_ine rfl rfl (by first | exact hs.zF _ _ | exact Zor_r _ _ | exact hs.zA _ _ | assumption | exact zA _ _ | exact zS _ | exact Zr_not (hs.zA _ _) | exact hs.1.1 _ _ | exact ⟨by omega, by omega⟩) (fun c7 => ?_) (fun c7 => ?_)
          · refine Z_ret rfl rfl ⟨_, hs, ?_⟩
            try dsimp only
            obtain ⟨u1, u2, uF, ue1, ue2⟩ := P_say.good sy136 (by omega)
            have hl := hlt _ _ _ uF
            have ei : P_item S a = P_piece S a := by
              unfold P_item
              rw [if_neg (fun h => by have h1 := h.1; have h2 := h.2; omega)]
            by_cases hF2 : f140 = 0
            · obtain ⟨y1, y2, yF, ye1, ye2⟩ := P_say.good sy140 hF2
              have hl2 := hlt _ _ _ yF
              first
              | (exfalso; omega)
              | (refine ⟨rfl, rfl, pf140, _, _, _, _, hp140, hd140, by omega, by omega, fun d j d0 dc j0 j1 => Iff.rfl, ?_⟩
                 refine P_say.no' (k := 2) (w := a136 + 1) (by omega) (by omega) ?_ (by omega)
                 rw [ei]
                 unfold P_piece
                 rw [uF]
                 show (if S u2 = 45 then _ else _) = _
                 rw [if_pos (by rw [← ue2]; omega), ← ue2]
                 rw [yF]
                 show (if y1 < u1 then _ else _) = _
                 rw [if_pos (by omega)])
            · have hF := P_say.bad sy140 hF2
              refine ⟨rfl, rfl, pf140, _, _, _, _, hp140, hd140, by omega, by omega, fun d j d0 dc j0 j1 => Iff.rfl, ?_⟩
              refine P_say.no' (k := f140) (w := pl140) (by omega) (by omega) ?_ hF2
              rw [ei]
              unfold P_piece
              rw [uF]
              show (if S u2 = 45 then _ else _) = _
              rw [if_pos (by rw [← ue2]; omega), ← ue2]
              rw [hF]
          · obtain rfl : f140 = 0 := by omega
            refine Z_go (f2 := (137, [(3, .int (Zi z140)), (4, .int (Zi (a136 + 1))), (2, .int (Zi z136)), (0, .ref o), (1, .int (Zi c))], [.ref o])) (fun _ => rfl) ?_
            refine C_gr rfl hs hp140.1.1 (by decide) (Nat.le_of_ble_eq_true rfl) rfl hp140.1.2.2.1 ?_
            refine Z_go (f2 := (141, [(3, .int (Zi z140)), (4, .int (Zi (a136 + 1))), (2, .int (Zi z136)), (0, .ref o), (1, .int (Zi c))], [.int (Zi c), .ref tr])) (fun _ => rfl) ?_
            refine Z_go (f2 := (142, [(3, .int (Zi z140)), (4, .int (Zi (a136 + 1))), (2, .int (Zi z136)), (0, .ref o), (1, .int (Zi c))], [.int (Zi z136), .int (Zi c), .ref tr])) (fun _ => rfl) ?_
            refine Z_go (f2 := (143, [(3, .int (Zi z140)), (4, .int (Zi (a136 + 1))), (2, .int (Zi z136)), (0, .ref o), (1, .int (Zi c))], [.int (Zi z140), .int (Zi z136), .int (Zi c), .ref tr])) (fun _ => rfl) ?_
            have wf141 := hs.1
            refine C_callV (As := [.int (Zi c), .int (Zi z136), .int (Zi z140)]) (rest := []) rfl (by decide) rfl (by decide) rfl rfl (by decide +kernel) (Nat.le_of_ble_eq_true rfl) hs hd140.1.1 (C_rng _ hd140 (c := c) (lo := z136) (hi := z140) (by omega) (by omega) (by omega) (by omega) (by omega) (by omega)) (fun x h v141 n141 hs q => ?_)
            obtain ⟨rfl, rfl, fr141, en141, β141, hd141, hb141⟩ := q
            have hp141 := hp140.sub wf141 fr141
            have pf141 := pf140.on fr141 en141
            have hne := hp141.ne hd141
            show B_R _ _ (146, [(3, .int (Zi z140)), (4, .int (Zi (a136 + 1))), (2, .int (Zi z136)), (0, .ref o), (1, .int (Zi c))], []) _ _ _
            refine Z_ret rfl rfl ⟨_, hs, ?_⟩
            try dsimp only
            obtain ⟨u1, u2, uF, ue1, ue2⟩ := P_say.good sy136 (by omega)
            have hl := hlt _ _ _ uF
            obtain ⟨y1, y2, yF, ye1, ye2⟩ := P_say.good sy140 (by omega)
            have hl2 := hlt _ _ _ yF
            have ei : P_item S a = P_piece S a := by
              unfold P_item
              rw [if_neg (fun h => by have h1 := h.1; have h2 := h.2; omega)]
            refine ⟨rfl, rfl, pf141, _, _, _, _, hp141, hd141, by omega, by omega, ?_, ?_⟩
            · intro d j d0 dc j0 j1
              rw [hb141 d j d0 j0 j1]
              exact ⟨fun h => h.elim id (fun h => absurd h.1 dc), .inl⟩
            · refine P_say.ok' (by omega) (v := fun x => u1 ≤ x ∧ x ≤ y1) (b := y2) ?_ ⟨by omega, by omega, by omega, fun j j0 j1 => ?_⟩
              · rw [ei]
                unfold P_piece
                rw [uF]
                show (if S u2 = 45 then _ else _) = _
                rw [if_pos (by rw [← ue2]; omega), ← ue2]
                rw [yF]
                show (if y1 < u1 then _ else _) = _
                rw [if_neg (by omega)]
              · rw [hb141 c j c0 j0 j1]
                exact ⟨fun h => h.imp id (fun h => ⟨by omega, by omega⟩), fun h => h.imp id (fun h => ⟨rfl, by omega, by omega⟩)⟩
        · refine Z_go (f2 := (123, [(3, .int (Zi z140)), (4, .int (Zi (a136 + 1))), (2, .int (Zi z136)), (0, .ref o), (1, .int (Zi c))], [.ref o])) (fun _ => rfl) ?_
          refine Z_go (f2 := (124, [(3, .int (Zi z140)), (4, .int (Zi (a136 + 1))), (2, .int (Zi z136)), (0, .ref o), (1, .int (Zi c))], [.int (Zi 2), .ref o])) (fun _ => rfl) ?_
          refine Z_go (f2 := (126, [(3, .int (Zi z140)), (4, .int (Zi (a136 + 1))), (2, .int (Zi z136)), (0, .ref o), (1, .int (Zi c))], [.int (Zi (a136 + 1)), .int (Zi 2), .ref o])) (fun _ => rfl) ?_
          have wf142 := hs.1
          refine C_callV (As := [.int (Zi 2), .int (Zi (a136 + 1))]) (rest := []) rfl (by decide) rfl (by decide) rfl rfl (by decide +kernel) (Nat.le_of_ble_eq_true rfl) hs hp140.1.1 (C_fail _ hp140 (kd := 2) (wh := a136 + 1) (by first | exact hs.zF _ _ | exact Zor_r _ _ | exact hs.zA _ _ | assumption | exact zA _ _ | exact zS _ | exact Zr_not (hs.zA _ _) | exact hs.1.1 _ _ | exact ⟨by omega, by omega⟩) (by first | exact hs.zF _ _ | exact Zor_r _ _ | exact hs.zA _ _ | assumption | exact zA _ _ | exact zS _ | exact Zr_not (hs.zA _ _) | exact hs.1.1 _ _ | exact ⟨by omega, by omega⟩) (by decide)) (fun x h v142 n142 hs q => ?_)
          obtain ⟨rfl, rfl, pq142, hp142⟩ := q
          have pf142 := pf140.trO pq142
          have hd142 := hd140.po wf142 pq142
          have hne := hp142.ne hd142
          obtain ⟨fg142, efg142⟩ : ∃ z : Int, z = (if f140 = 0 then 2 else f140) := ⟨_, rfl⟩
          obtain ⟨pg142, epg142⟩ : ∃ z : Int, z = (if f140 = 0 then a136 + 1 else pl140) := ⟨_, rfl⟩
          rw [← efg142, ← epg142] at hp142
          obtain ⟨zzf142, zzp142, zza142, _⟩ := hp142.z hs
          show B_R _ _ (129, [(3, .int (Zi z140)), (4, .int (Zi (a136 + 1))), (2, .int (Zi z136)), (0, .ref o), (1, .int (Zi c))], []) _ _ _
          refine Z_go (f2 := (130, [(3, .int (Zi z140)), (4, .int (Zi (a136 + 1))), (2, .int (Zi z136)), (0, .ref o), (1, .int (Zi c))], [.ref o])) (fun _ => rfl) ?_
          refine C_gi rfl hs hp142.1.1 (by decide) (Nat.le_of_ble_eq_true rfl) rfl ?_
          rw [show C_F (v142) o 1 = fg142 from (by first | exact hp142.1.2.2.2.2.2.2.1 | exact (if_neg (fun e => absurd e.1 (by assumption))).trans hp142.1.2.2.2.2.2.2.1 | exact (if_neg (fun e => absurd e.2 (by decide))).trans hp142.1.2.2.2.2.2.2.1 | exact (if_neg (fun e => absurd e.2 (by decide))).trans ((if_neg (fun e => absurd e.2 (by decide))).trans hp142.1.2.2.2.2.2.2.1) | exact (if_neg (fun e => absurd e.2 (by decide))).trans ((if_neg (fun e => absurd e.2 (by decide))).trans ((if_neg (fun e => absurd e.2 (by decide))).trans hp142.1.2.2.2.2.2.2.1)))]
          show B_R _ _ (133, [(3, .int (Zi z140)), (4, .int (Zi (a136 + 1))), (2, .int (Zi z136)), (0, .ref o), (1, .int (Zi c))], [.int (Zi fg142)]) _ _ _
          refine Z_ine rfl rfl (by first | exact hs.zF _ _ | exact Zor_r _ _ | exact hs.zA _ _ | assumption | exact zA _ _ | exact zS _ | exact Zr_not (hs.zA _ _) | exact hs.1.1 _ _ | exact ⟨by omega, by omega⟩) (fun c8 => ?_) (fun c8 => ?_)
          · refine Z_ret rfl rfl ⟨_, hs, ?_⟩
            try dsimp only
            obtain ⟨u1, u2, uF, ue1, ue2⟩ := P_say.good sy136 (by omega)
            have hl := hlt _ _ _ uF
            have ei : P_item S a = P_piece S a := by
              unfold P_item
              rw [if_neg (fun h => by have h1 := h.1; have h2 := h.2; omega)]
            by_cases hF2 : f140 = 0
            · obtain ⟨y1, y2, yF, ye1, ye2⟩ := P_say.good sy140 hF2
              have hl2 := hlt _ _ _ yF
              first
              | (exfalso; omega)
              | (refine ⟨rfl, rfl, pf142, _, _, _, _, hp142, hd142, by omega, by omega, fun d j d0 dc j0 j1 => Iff.rfl, ?_⟩
                 refine P_say.no' (k := 2) (w := a136 + 1) (by omega) (by omega) ?_ (by omega)
                 rw [ei]
                 unfold P_piece
                 rw [uF]
                 show (if S u2 = 45 then _ else _) = _
                 rw [if_pos (by rw [← ue2]; omega), ← ue2]
                 rw [yF]
                 show (if y1 < u1 then _ else _) = _
                 rw [if_pos (by omega)])
            · have hF := P_say.bad sy140 hF2
              refine ⟨rfl, rfl, pf142, _, _, _, _, hp142, hd142, by omega, by omega, fun d j d0 dc j0 j1 => Iff.rfl, ?_⟩
              refine P_say.no' (k := f140) (w := pl140) (by omega) (by omega) ?_ hF2
              rw [ei]
              unfold P_piece
              rw [uF]
              show (if S u2 = 45 then _ else _) = _
              rw [if_pos (by rw [← ue2]; omega), ← ue2]
              rw [hF]
          · obtain rfl : fg142 = 0 := by omega
            refine Z_go (f2 := (137, [(3, .int (Zi z140)), (4, .int (Zi (a136 + 1))), (2, .int (Zi z136)), (0, .ref o), (1, .int (Zi c))], [.ref o])) (fun _ => rfl) ?_
            refine C_gr rfl hs hp142.1.1 (by decide) (Nat.le_of_ble_eq_true rfl) rfl hp142.1.2.2.1 ?_
            refine Z_go (f2 := (141, [(3, .int (Zi z140)), (4, .int (Zi (a136 + 1))), (2, .int (Zi z136)), (0, .ref o), (1, .int (Zi c))], [.int (Zi c), .ref tr])) (fun _ => rfl) ?_
            refine Z_go (f2 := (142, [(3, .int (Zi z140)), (4, .int (Zi (a136 + 1))), (2, .int (Zi z136)), (0, .ref o), (1, .int (Zi c))], [.int (Zi z136), .int (Zi c), .ref tr])) (fun _ => rfl) ?_
            refine Z_go (f2 := (143, [(3, .int (Zi z140)), (4, .int (Zi (a136 + 1))), (2, .int (Zi z136)), (0, .ref o), (1, .int (Zi c))], [.int (Zi z140), .int (Zi z136), .int (Zi c), .ref tr])) (fun _ => rfl) ?_
            have wf143 := hs.1
            refine C_callV (As := [.int (Zi c), .int (Zi z136), .int (Zi z140)]) (rest := []) rfl (by decide) rfl (by decide) rfl rfl (by decide +kernel) (Nat.le_of_ble_eq_true rfl) hs hd142.1.1 (C_rng _ hd142 (c := c) (lo := z136) (hi := z140) (by omega) (by omega) (by omega) (by omega) (by omega) (by omega)) (fun x h v143 n143 hs q => ?_)
            obtain ⟨rfl, rfl, fr143, en143, β143, hd143, hb143⟩ := q
            have hp143 := hp142.sub wf143 fr143
            have pf143 := pf142.on fr143 en143
            have hne := hp143.ne hd143
            show B_R _ _ (146, [(3, .int (Zi z140)), (4, .int (Zi (a136 + 1))), (2, .int (Zi z136)), (0, .ref o), (1, .int (Zi c))], []) _ _ _
            refine Z_ret rfl rfl ⟨_, hs, ?_⟩
            try dsimp only
            obtain ⟨u1, u2, uF, ue1, ue2⟩ := P_say.good sy136 (by omega)
            have hl := hlt _ _ _ uF
            obtain ⟨y1, y2, yF, ye1, ye2⟩ := P_say.good sy140 (by omega)
            have hl2 := hlt _ _ _ yF
            have ei : P_item S a = P_piece S a := by
              unfold P_item
              rw [if_neg (fun h => by have h1 := h.1; have h2 := h.2; omega)]
            refine ⟨rfl, rfl, pf143, _, _, _, _, hp143, hd143, by omega, by omega, ?_, ?_⟩
            · intro d j d0 dc j0 j1
              rw [hb143 d j d0 j0 j1]
              exact ⟨fun h => h.elim id (fun h => absurd h.1 dc), .inl⟩
            · refine P_say.ok' (by omega) (v := fun x => u1 ≤ x ∧ x ≤ y1) (b := y2) ?_ ⟨by omega, by omega, by omega, fun j j0 j1 => ?_⟩
              · rw [ei]
                unfold P_piece
                rw [uF]
                show (if S u2 = 45 then _ else _) = _
                rw [if_pos (by rw [← ue2]; omega), ← ue2]
                rw [yF]
                show (if y1 < u1 then _ else _) = _
                rw [if_neg (by omega)]
              · rw [hb143 c j c0 j0 j1]
                exact ⟨fun h => h.imp id (fun h => ⟨by omega, by omega⟩), fun h => h.imp id (fun h => ⟨rfl, by omega, by omega⟩)⟩
  · refine Z_go (f2 := (10, [(0, .ref o), (1, .int (Zi c))], [.ref o])) (fun _ => rfl) ?_
    refine C_gi rfl hs hp.1.1 (by decide) (Nat.le_of_ble_eq_true rfl) rfl ?_
    rw [show C_F (s) o 5 = a from (by first | exact hp.1.2.2.2.2.2.2.2.2.2.1 | exact (if_neg (fun e => absurd e.1 (by assumption))).trans hp.1.2.2.2.2.2.2.2.2.2.1 | exact (if_neg (fun e => absurd e.2 (by decide))).trans hp.1.2.2.2.2.2.2.2.2.2.1 | exact (if_neg (fun e => absurd e.2 (by decide))).trans ((if_neg (fun e => absurd e.2 (by decide))).trans hp.1.2.2.2.2.2.2.2.2.2.1) | exact (if_neg (fun e => absurd e.2 (by decide))).trans ((if_neg (fun e => absurd e.2 (by decide))).trans ((if_neg (fun e => absurd e.2 (by decide))).trans hp.1.2.2.2.2.2.2.2.2.2.1)))]
    show B_R _ _ (13, [(0, .ref o), (1, .int (Zi c))], [.int (Zi a)]) _ _ _
    refine Z_go (f2 := (14, [(0, .ref o), (1, .int (Zi c))], [.int (Zi 1), .int (Zi a)])) (fun _ => rfl) ?_
    refine Z_iadd rfl ?_
    refine Z_go (f2 := (16, [(0, .ref o), (1, .int (Zi c))], [.ref o, .int (Zi (a + 1))])) (fun _ => rfl) ?_
    refine C_gi rfl hs hp.1.1 (by decide) (Nat.le_of_ble_eq_true rfl) rfl ?_
    rw [show C_F (s) o 4 = nn from (by first | exact hp.1.2.2.2.2.2.2.2.2.1 | exact (if_neg (fun e => absurd e.1 (by assumption))).trans hp.1.2.2.2.2.2.2.2.2.1 | exact (if_neg (fun e => absurd e.2 (by decide))).trans hp.1.2.2.2.2.2.2.2.2.1 | exact (if_neg (fun e => absurd e.2 (by decide))).trans ((if_neg (fun e => absurd e.2 (by decide))).trans hp.1.2.2.2.2.2.2.2.2.1) | exact (if_neg (fun e => absurd e.2 (by decide))).trans ((if_neg (fun e => absurd e.2 (by decide))).trans ((if_neg (fun e => absurd e.2 (by decide))).trans hp.1.2.2.2.2.2.2.2.2.1)))]
    show B_R _ _ (19, [(0, .ref o), (1, .int (Zi c))], [.int (Zi nn), .int (Zi (a + 1))]) _ _ _
    refine Z_cge rfl rfl (by first | exact hs.zF _ _ | exact Zor_r _ _ | exact hs.zA _ _ | assumption | exact zA _ _ | exact zS _ | exact Zr_not (hs.zA _ _) | exact hs.1.1 _ _ | exact ⟨by omega, by omega⟩) (by first | exact hs.zF _ _ | exact Zor_r _ _ | exact hs.zA _ _ | assumption | exact zA _ _ | exact zS _ | exact Zr_not (hs.zA _ _) | exact hs.1.1 _ _ | exact ⟨by omega, by omega⟩) (fun c9 => ?_) (fun c9 => ?_)
    · refine Z_go (f2 := (74, [(0, .ref o), (1, .int (Zi c))], [.ref o])) (fun _ => rfl) ?_
      have wf144 := hs.1
      refine C_callV (As := []) (rest := []) rfl (by decide) rfl (by decide) rfl rfl (by decide +kernel) (Nat.le_of_ble_eq_true rfl) hs hp.1.1 (C_one _ hp (by omega) (by omega)) (fun x h v144 n144 hs q => ?_)
      obtain ⟨rfl, pg144, f144, pl144, a144, z144, rfl, hp144, ga144, gb144, gc144, gd144, sy144⟩ := q
      have pf144 := (D_Pf.refl p s).trO pg144
      have hd144 := hd.po wf144 pg144
      have hne := hp144.ne hd144
      obtain ⟨zzf144, zzp144, zza144, _⟩ := hp144.z hs
      show B_R _ _ (77, [(0, .ref o), (1, .int (Zi c))], [.int (Zi z144)]) _ _ _
      refine Z_go (f2 := (78, [(2, .int (Zi z144)), (0, .ref o), (1, .int (Zi c))], [])) (fun _ => rfl) ?_
      refine Z_go (f2 := (79, [(2, .int (Zi z144)), (0, .ref o), (1, .int (Zi c))], [.int (Zi z144)])) (fun _ => rfl) ?_
      refine Z_go (f2 := (80, [(3, .int (Zi z144)), (2, .int (Zi z144)), (0, .ref o), (1, .int (Zi c))], [])) (fun _ => rfl) ?_
      refine Z_go (f2 := (81, [(3, .int (Zi z144)), (2, .int (Zi z144)), (0, .ref o), (1, .int (Zi c))], [.ref o])) (fun _ => rfl) ?_
      refine C_gi rfl hs hp144.1.1 (by decide) (Nat.le_of_ble_eq_true rfl) rfl ?_
      rw [show C_F (v144) o 1 = f144 from (by first | exact hp144.1.2.2.2.2.2.2.1 | exact (if_neg (fun e => absurd e.1 (by assumption))).trans hp144.1.2.2.2.2.2.2.1 | exact (if_neg (fun e => absurd e.2 (by decide))).trans hp144.1.2.2.2.2.2.2.1 | exact (if_neg (fun e => absurd e.2 (by decide))).trans ((if_neg (fun e => absurd e.2 (by decide))).trans hp144.1.2.2.2.2.2.2.1) | exact (if_neg (fun e => absurd e.2 (by decide))).trans ((if_neg (fun e => absurd e.2 (by decide))).trans ((if_neg (fun e => absurd e.2 (by decide))).trans hp144.1.2.2.2.2.2.2.1)))]
      show B_R _ _ (84, [(3, .int (Zi z144)), (2, .int (Zi z144)), (0, .ref o), (1, .int (Zi c))], [.int (Zi f144)]) _ _ _
      refine Z_ine rfl rfl (by first | exact hs.zF _ _ | exact Zor_r _ _ | exact hs.zA _ _ | assumption | exact zA _ _ | exact zS _ | exact Zr_not (hs.zA _ _) | exact hs.1.1 _ _ | exact ⟨by omega, by omega⟩) (fun c10 => ?_) (fun c10 => ?_)
      · refine Z_go (f2 := (130, [(3, .int (Zi z144)), (2, .int (Zi z144)), (0, .ref o), (1, .int (Zi c))], [.ref o])) (fun _ => rfl) ?_
        refine C_gi rfl hs hp144.1.1 (by decide) (Nat.le_of_ble_eq_true rfl) rfl ?_
        rw [show C_F (v144) o 1 = f144 from (by first | exact hp144.1.2.2.2.2.2.2.1 | exact (if_neg (fun e => absurd e.1 (by assumption))).trans hp144.1.2.2.2.2.2.2.1 | exact (if_neg (fun e => absurd e.2 (by decide))).trans hp144.1.2.2.2.2.2.2.1 | exact (if_neg (fun e => absurd e.2 (by decide))).trans ((if_neg (fun e => absurd e.2 (by decide))).trans hp144.1.2.2.2.2.2.2.1) | exact (if_neg (fun e => absurd e.2 (by decide))).trans ((if_neg (fun e => absurd e.2 (by decide))).trans ((if_neg (fun e => absurd e.2 (by decide))).trans hp144.1.2.2.2.2.2.2.1)))]
        show B_R _ _ (133, [(3, .int (Zi z144)), (2, .int (Zi z144)), (0, .ref o), (1, .int (Zi c))], [.int (Zi f144)]) _ _ _
        refine Z_ine rfl rfl (by first | exact hs.zF _ _ | exact Zor_r _ _ | exact hs.zA _ _ | assumption | exact zA _ _ | exact zS _ | exact Zr_not (hs.zA _ _) | exact hs.1.1 _ _ | exact ⟨by omega, by omega⟩) (fun c11 => ?_) (fun c11 => ?_)
        · refine Z_ret rfl rfl ⟨_, hs, ?_⟩
          try dsimp only
          have hF := P_say.bad sy144 (by omega)
          have ei : P_item S a = P_piece S a := by
            unfold P_item
            rw [if_neg (fun h => by have h1 := h.1; have h2 := h.2; omega)]
          refine ⟨rfl, rfl, pf144, _, _, _, _, hp144, hd144, by omega, by omega, ?_, ?_⟩
          · intro d j d0 dc j0 j1
            exact Iff.rfl
          · refine P_say.no ?_ (by omega)
            rw [ei]
            unfold P_piece
            rw [hF]
        · obtain rfl : f144 = 0 := by omega
          refine Z_go (f2 := (137, [(3, .int (Zi z144)), (2, .int (Zi z144)), (0, .ref o), (1, .int (Zi c))], [.ref o])) (fun _ => rfl) ?_
          refine C_gr rfl hs hp144.1.1 (by decide) (Nat.le_of_ble_eq_true rfl) rfl hp144.1.2.2.1 ?_
          refine Z_go (f2 := (141, [(3, .int (Zi z144)), (2, .int (Zi z144)), (0, .ref o), (1, .int (Zi c))], [.int (Zi c), .ref tr])) (fun _ => rfl) ?_
          refine Z_go (f2 := (142, [(3, .int (Zi z144)), (2, .int (Zi z144)), (0, .ref o), (1, .int (Zi c))], [.int (Zi z144), .int (Zi c), .ref tr])) (fun _ => rfl) ?_
          refine Z_go (f2 := (143, [(3, .int (Zi z144)), (2, .int (Zi z144)), (0, .ref o), (1, .int (Zi c))], [.int (Zi z144), .int (Zi z144), .int (Zi c), .ref tr])) (fun _ => rfl) ?_
          have wf145 := hs.1
          refine C_callV (As := [.int (Zi c), .int (Zi z144), .int (Zi z144)]) (rest := []) rfl (by decide) rfl (by decide) rfl rfl (by decide +kernel) (Nat.le_of_ble_eq_true rfl) hs hd144.1.1 (C_rng _ hd144 (c := c) (lo := z144) (hi := z144) (by omega) (by omega) (by omega) (by omega) (by omega) (by omega)) (fun x h v145 n145 hs q => ?_)
          obtain ⟨rfl, rfl, fr145, en145, β145, hd145, hb145⟩ := q
          have hp145 := hp144.sub wf145 fr145
          have pf145 := pf144.on fr145 en145
          have hne := hp145.ne hd145
          show B_R _ _ (146, [(3, .int (Zi z144)), (2, .int (Zi z144)), (0, .ref o), (1, .int (Zi c))], []) _ _ _
          refine Z_ret rfl rfl ⟨_, hs, ?_⟩
          try dsimp only
          obtain ⟨u1, u2, uF, ue1, ue2⟩ := P_say.good sy144 (by omega)
          have hl := hlt _ _ _ uF
          have ei : P_item S a = P_piece S a := by
            unfold P_item
            rw [if_neg (fun h => by have h1 := h.1; have h2 := h.2; omega)]
          refine ⟨rfl, rfl, pf145, _, _, _, _, hp145, hd145, by omega, by omega, ?_, ?_⟩
          · intro d j d0 dc j0 j1
            rw [hb145 d j d0 j0 j1]
            exact ⟨fun h => h.elim id (fun h => absurd h.1 dc), .inl⟩
          · refine P_say.ok' (by omega) (v := fun x => x = u1) (b := u2) ?_ ⟨by omega, by omega, by omega, fun j j0 j1 => ?_⟩
            · rw [ei]
              unfold P_piece
              rw [uF]
              show (if S u2 = 45 then _ else _) = _
              rw [if_neg (by rw [← ue2]; omega)]
            · rw [hb145 c j c0 j0 j1]
              exact ⟨fun h => h.imp id (fun h => by have h1 := h.2; omega), fun h => h.imp id (fun h => ⟨rfl, by omega, by omega⟩)⟩
      · obtain rfl : f144 = 0 := by omega
        refine Z_go (f2 := (88, [(3, .int (Zi z144)), (2, .int (Zi z144)), (0, .ref o), (1, .int (Zi c))], [.ref o])) (fun _ => rfl) ?_
        refine C_callVR (As := []) (rest := []) rfl (by decide) rfl (by decide) rfl rfl (by decide +kernel) (Nat.le_of_ble_eq_true rfl) hs hp144.1.1 (C_peek _ hp144 (by omega)) (fun x q => ?_)
        obtain rfl := q
        have zpk146 := hp.r a144 (by omega)
        show B_R _ _ (91, [(3, .int (Zi z144)), (2, .int (Zi z144)), (0, .ref o), (1, .int (Zi c))], [.int (Zi (S a144))]) _ _ _
        refine Z_go (f2 := (93, [(3, .int (Zi z144)), (2, .int (Zi z144)), (0, .ref o), (1, .int (Zi c))], [.int (Zi 45), .int (Zi (S a144))])) (fun _ => rfl) ?_
        refine Z_cne rfl rfl (by first | exact hs.zF _ _ | exact Zor_r _ _ | exact hs.zA _ _ | assumption | exact zA _ _ | exact zS _ | exact Zr_not (hs.zA _ _) | exact hs.1.1 _ _ | exact ⟨by omega, by omega⟩) (by first | exact hs.zF _ _ | exact Zor_r _ _ | exact hs.zA _ _ | assumption | exact zA _ _ | exact zS _ | exact Zr_not (hs.zA _ _) | exact hs.1.1 _ _ | exact ⟨by omega, by omega⟩) (fun c12 => ?_) (fun c12 => ?_)
        · refine Z_go (f2 := (130, [(3, .int (Zi z144)), (2, .int (Zi z144)), (0, .ref o), (1, .int (Zi c))], [.ref o])) (fun _ => rfl) ?_
          refine C_gi rfl hs hp144.1.1 (by decide) (Nat.le_of_ble_eq_true rfl) rfl ?_
          rw [show C_F (v144) o 1 = 0 from (by first | exact hp144.1.2.2.2.2.2.2.1 | exact (if_neg (fun e => absurd e.1 (by assumption))).trans hp144.1.2.2.2.2.2.2.1 | exact (if_neg (fun e => absurd e.2 (by decide))).trans hp144.1.2.2.2.2.2.2.1 | exact (if_neg (fun e => absurd e.2 (by decide))).trans ((if_neg (fun e => absurd e.2 (by decide))).trans hp144.1.2.2.2.2.2.2.1) | exact (if_neg (fun e => absurd e.2 (by decide))).trans ((if_neg (fun e => absurd e.2 (by decide))).trans ((if_neg (fun e => absurd e.2 (by decide))).trans hp144.1.2.2.2.2.2.2.1)))]
          show B_R _ _ (133, [(3, .int (Zi z144)), (2, .int (Zi z144)), (0, .ref o), (1, .int (Zi c))], [.int (Zi 0)]) _ _ _
          refine Z_ine rfl rfl (by first | exact hs.zF _ _ | exact Zor_r _ _ | exact hs.zA _ _ | assumption | exact zA _ _ | exact zS _ | exact Zr_not (hs.zA _ _) | exact hs.1.1 _ _ | exact ⟨by omega, by omega⟩) (fun c13 => ?_) (fun c13 => ?_)
          · exfalso; omega
          · refine Z_go (f2 := (137, [(3, .int (Zi z144)), (2, .int (Zi z144)), (0, .ref o), (1, .int (Zi c))], [.ref o])) (fun _ => rfl) ?_
            refine C_gr rfl hs hp144.1.1 (by decide) (Nat.le_of_ble_eq_true rfl) rfl hp144.1.2.2.1 ?_
            refine Z_go (f2 := (141, [(3, .int (Zi z144)), (2, .int (Zi z144)), (0, .ref o), (1, .int (Zi c))], [.int (Zi c), .ref tr])) (fun _ => rfl) ?_
            refine Z_go (f2 := (142, [(3, .int (Zi z144)), (2, .int (Zi z144)), (0, .ref o), (1, .int (Zi c))], [.int (Zi z144), .int (Zi c), .ref tr])) (fun _ => rfl) ?_
            refine Z_go (f2 := (143, [(3, .int (Zi z144)), (2, .int (Zi z144)), (0, .ref o), (1, .int (Zi c))], [.int (Zi z144), .int (Zi z144), .int (Zi c), .ref tr])) (fun _ => rfl) ?_
            have wf147 := hs.1
            refine C_callV (As := [.int (Zi c), .int (Zi z144), .int (Zi z144)]) (rest := []) rfl (by decide) rfl (by decide) rfl rfl (by decide +kernel) (Nat.le_of_ble_eq_true rfl) hs hd144.1.1 (C_rng _ hd144 (c := c) (lo := z144) (hi := z144) (by omega) (by omega) (by omega) (by omega) (by omega) (by omega)) (fun x h v147 n147 hs q => ?_)
            obtain ⟨rfl, rfl, fr147, en147, β147, hd147, hb147⟩ := q
            have hp147 := hp144.sub wf147 fr147
            have pf147 := pf144.on fr147 en147
            have hne := hp147.ne hd147
            show B_R _ _ (146, [(3, .int (Zi z144)), (2, .int (Zi z144)), (0, .ref o), (1, .int (Zi c))], []) _ _ _
            refine Z_ret rfl rfl ⟨_, hs, ?_⟩
            try dsimp only
            obtain ⟨u1, u2, uF, ue1, ue2⟩ := P_say.good sy144 (by omega)
            have hl := hlt _ _ _ uF
            have ei : P_item S a = P_piece S a := by
              unfold P_item
              rw [if_neg (fun h => by have h1 := h.1; have h2 := h.2; omega)]
            refine ⟨rfl, rfl, pf147, _, _, _, _, hp147, hd147, by omega, by omega, ?_, ?_⟩
            · intro d j d0 dc j0 j1
              rw [hb147 d j d0 j0 j1]
              exact ⟨fun h => h.elim id (fun h => absurd h.1 dc), .inl⟩
            · refine P_say.ok' (by omega) (v := fun x => x = u1) (b := u2) ?_ ⟨by omega, by omega, by omega, fun j j0 j1 => ?_⟩
              · rw [ei]
                unfold P_piece
                rw [uF]
                show (if S u2 = 45 then _ else _) = _
                rw [if_neg (by rw [← ue2]; omega)]
              · rw [hb147 c j c0 j0 j1]
                exact ⟨fun h => h.imp id (fun h => by have h1 := h.2; omega), fun h => h.imp id (fun h => ⟨rfl, by omega, by omega⟩)⟩
        · refine Z_go (f2 := (97, [(3, .int (Zi z144)), (2, .int (Zi z144)), (0, .ref o), (1, .int (Zi c))], [.ref o])) (fun _ => rfl) ?_
          refine Z_go (f2 := (98, [(3, .int (Zi z144)), (2, .int (Zi z144)), (0, .ref o), (1, .int (Zi c))], [.ref o, .ref o])) (fun _ => rfl) ?_
          refine C_gi rfl hs hp144.1.1 (by decide) (Nat.le_of_ble_eq_true rfl) rfl ?_
          rw [show C_F (v144) o 5 = a144 from (by first | exact hp144.1.2.2.2.2.2.2.2.2.2.1 | exact (if_neg (fun e => absurd e.1 (by assumption))).trans hp144.1.2.2.2.2.2.2.2.2.2.1 | exact (if_neg (fun e => absurd e.2 (by decide))).trans hp144.1.2.2.2.2.2.2.2.2.2.1 | exact (if_neg (fun e => absurd e.2 (by decide))).trans ((if_neg (fun e => absurd e.2 (by decide))).trans hp144.1.2.2.2.2.2.2.2.2.2.1) | exact (if_neg (fun e => absurd e.2 (by decide))).trans ((if_neg (fun e => absurd e.2 (by decide))).trans ((if_neg (fun e => absurd e.2 (by decide))).trans hp144.1.2.2.2.2.2.2.2.2.2.1)))]
          show B_R _ _ (101, [(3, .int (Zi z144)), (2, .int (Zi z144)), (0, .ref o), (1, .int (Zi c))], [.int (Zi a144), .ref o]) _ _ _
          refine Z_go (f2 := (102, [(3, .int (Zi z144)), (2, .int (Zi z144)), (0, .ref o), (1, .int (Zi c))], [.int (Zi 1), .int (Zi a144), .ref o])) (fun _ => rfl) ?_
          refine Z_iadd rfl ?_
          refine C_pi rfl hs hp144.1.1 (by decide) (Nat.le_of_ble_eq_true rfl) (.inl rfl) rfl rfl rfl (by first | exact hs.zF _ _ | exact Zor_r _ _ | exact hs.zA _ _ | assumption | exact zA _ _ | exact zS _ | exact Zr_not (hs.zA _ _) | exact hs.1.1 _ _ | exact ⟨by omega, by omega⟩) (fun h hs => ?_)
          refine Z_go (f2 := (107, [(3, .int (Zi z144)), (2, .int (Zi z144)), (0, .ref o), (1, .int (Zi c))], [.ref o])) (fun _ => rfl) ?_
          refine C_gi rfl hs hp144.1.1 (by decide) (Nat.le_of_ble_eq_true rfl) rfl ?_
          rw [show C_F (C_sF v144 o 5 (a144 + 1)) o 5 = a144 + 1 from (by first | rfl | (simp only [C_F, C_P, C_A, C_L, C_Q, C_K, C_T, C_n, C_sF, C_sP, C_sA, C_sL, C_sQ, C_sAf, C_sQf]; simp [*]; done) | (simp only [C_F, C_P, C_A, C_L, C_Q, C_K, C_T, C_n, C_sF, C_sP, C_sA, C_sL, C_sQ, C_sAf, C_sQf]; simp; omega))]; show B_R _ _ (110, [(3, .int (Zi z144)), (2, .int (Zi z144)), (0, .ref o), (1, .int (Zi c))], [.int (Zi (a144 + 1))]) _ _ _
          refine Z_go (f2 := (112, [(4, .int (Zi (a144 + 1))), (3, .int (Zi z144)), (2, .int (Zi z144)), (0, .ref o), (1, .int (Zi c))], [])) (fun _ => rfl) ?_
          refine Z_go (f2 := (113, [(4, .int (Zi (a144 + 1))), (3, .int (Zi z144)), (2, .int (Zi z144)), (0, .ref o), (1, .int (Zi c))], [.ref o])) (fun _ => rfl) ?_
          have wf148 := hs.1
          refine C_callV (As := []) (rest := []) rfl (by decide) rfl (by decide) rfl rfl (by decide +kernel) (Nat.le_of_ble_eq_true rfl) hs hp144.1.1 (C_one _ (hp144.aa (a144 + 1)) (by omega) (by omega)) (fun x h v148 n148 hs q => ?_)
          obtain ⟨rfl, pg148, f148, pl148, a148, z148, rfl, hp148, ga148, gb148, gc148, gd148, sy148⟩ := q
          have pf148 := (pf144.sF hp144.1.2.1).trO pg148
          have hd148 := (hd144.oF hne).po wf148 pg148
          have hne := hp148.ne hd148
          obtain ⟨zzf148, zzp148, zza148, _⟩ := hp148.z hs
          show B_R _ _ (116, [(4, .int (Zi (a144 + 1))), (3, .int (Zi z144)), (2, .int (Zi z144)), (0, .ref o), (1, .int (Zi c))], [.int (Zi z148)]) _ _ _
          refine Z_go (f2 := (117, [(3, .int (Zi z148)), (4, .int (Zi (a144 + 1))), (2, .int (Zi z144)), (0, .ref o), (1, .int (Zi c))], [])) (fun _ => rfl) ?_
          refine Z_go (f2 := (118, [(3, .int (Zi z148)), (4, .int (Zi (a144 + 1))), (2, .int (Zi z144)), (0, .ref o), (1, .int (Zi c))], [.int (Zi z148)])) (fun _ => rfl) ?_
          refine Z_go (f2 := (119, [(3, .int (Zi z148)), (4, .int (Zi (a144 + 1))), (2, .int (Zi z144)), (0, .ref o), (1, .int (Zi c))], [.int (Zi z144), .int (Zi z148)])) (fun _ => rfl) ?_
          refine Z_cge rfl rfl (by first | exact hs.zF _ _ | exact Zor_r _ _ | exact hs.zA _ _ | assumption | exact zA _ _ | exact zS _ | exact Zr_not (hs.zA _ _) | exact hs.1.1 _ _ | exact ⟨by omega, by omega⟩) (by first | exact hs.zF _ _ | exact Zor_r _ _ | exact hs.zA _ _ | assumption | exact zA _ _ | exact zS _ | exact Zr_not (hs.zA _ _) | exact hs.1.1 _ _ | exact ⟨by omega, by omega⟩) (fun c14 => ?_) (fun c14 => ?_)
          · refine Z_go (f2 := (130, [(3, .int (Zi z148)), (4, .int (Zi (a144 + 1))), (2, .int (Zi z144)), (0, .ref o), (1, .int (Zi c))], [.ref o])) (fun _ => rfl) ?_
            refine C_gi rfl hs hp148.1.1 (by decide) (Nat.le_of_ble_eq_true rfl) rfl ?_
            rw [show C_F (v148) o 1 = f148 from (by first | exact hp148.1.2.2.2.2.2.2.1 | exact (if_neg (fun e => absurd e.1 (by assumption))).trans hp148.1.2.2.2.2.2.2.1 | exact (if_neg (fun e => absurd e.2 (by decide))).trans hp148.1.2.2.2.2.2.2.1 | exact (if_neg (fun e => absurd e.2 (by decide))).trans ((if_neg (fun e => absurd e.2 (by decide))).trans hp148.1.2.2.2.2.2.2.1) | exact (if_neg (fun e => absurd e.2 (by decide))).trans ((if_neg (fun e => absurd e.2 (by decide))).trans ((if_neg (fun e => absurd e.2 (by decide))).trans hp148.1.2.2.2.2.2.2.1)))]
            show B_R _ _ (133, [(3, .int (Zi z148)), (4, .int (Zi (a144 + 1))), (2, .int (Zi z144)), (0, .ref o), (1, .int (Zi c))], [.int (Zi f148)]) _ _ _
            refine Z_ine rfl rfl (by first | exact hs.zF _ _ | exact Zor_r _ _ | exact hs.zA _ _ | assumption | exact zA _ _ | exact zS _ | exact Zr_not (hs.zA _ _) | exact hs.1.1 _ _ | exact ⟨by omega, by omega⟩) (fun c15 => ?_) (fun c15 => ?_)
            · refine Z_ret rfl rfl ⟨_, hs, ?_⟩
              try dsimp only
              obtain ⟨u1, u2, uF, ue1, ue2⟩ := P_say.good sy144 (by omega)
              have hl := hlt _ _ _ uF
              have ei : P_item S a = P_piece S a := by
                unfold P_item
                rw [if_neg (fun h => by have h1 := h.1; have h2 := h.2; omega)]
              by_cases hF2 : f148 = 0
              · obtain ⟨y1, y2, yF, ye1, ye2⟩ := P_say.good sy148 hF2
                have hl2 := hlt _ _ _ yF
                first
                | (exfalso; omega)
                | (refine ⟨rfl, rfl, pf148, _, _, _, _, hp148, hd148, by omega, by omega, fun d j d0 dc j0 j1 => Iff.rfl, ?_⟩
                   refine P_say.no' (k := 2) (w := a144 + 1) (by omega) (by omega) ?_ (by omega)
                   rw [ei]
                   unfold P_piece
                   rw [uF]
                   show (if S u2 = 45 then _ else _) = _
                   rw [if_pos (by rw [← ue2]; omega), ← ue2]
                   rw [yF]
                   show (if y1 < u1 then _ else _) = _
                   rw [if_pos (by omega)])
              · have hF := P_say.bad sy148 hF2
                refine ⟨rfl, rfl, pf148, _, _, _, _, hp148, hd148, by omega, by omega, fun d j d0 dc j0 j1 => Iff.rfl, ?_⟩
                refine P_say.no' (k := f148) (w := pl148) (by omega) (by omega) ?_ hF2
                rw [ei]
                unfold P_piece
                rw [uF]
                show (if S u2 = 45 then _ else _) = _
                rw [if_pos (by rw [← ue2]; omega), ← ue2]
                rw [hF]
            · obtain rfl : f148 = 0 := by omega
              refine Z_go (f2 := (137, [(3, .int (Zi z148)), (4, .int (Zi (a144 + 1))), (2, .int (Zi z144)), (0, .ref o), (1, .int (Zi c))], [.ref o])) (fun _ => rfl) ?_
              refine C_gr rfl hs hp148.1.1 (by decide) (Nat.le_of_ble_eq_true rfl) rfl hp148.1.2.2.1 ?_
              refine Z_go (f2 := (141, [(3, .int (Zi z148)), (4, .int (Zi (a144 + 1))), (2, .int (Zi z144)), (0, .ref o), (1, .int (Zi c))], [.int (Zi c), .ref tr])) (fun _ => rfl) ?_
              refine Z_go (f2 := (142, [(3, .int (Zi z148)), (4, .int (Zi (a144 + 1))), (2, .int (Zi z144)), (0, .ref o), (1, .int (Zi c))], [.int (Zi z144), .int (Zi c), .ref tr])) (fun _ => rfl) ?_
              refine Z_go (f2 := (143, [(3, .int (Zi z148)), (4, .int (Zi (a144 + 1))), (2, .int (Zi z144)), (0, .ref o), (1, .int (Zi c))], [.int (Zi z148), .int (Zi z144), .int (Zi c), .ref tr])) (fun _ => rfl) ?_
              have wf149 := hs.1
              refine C_callV (As := [.int (Zi c), .int (Zi z144), .int (Zi z148)]) (rest := []) rfl (by decide) rfl (by decide) rfl rfl (by decide +kernel) (Nat.le_of_ble_eq_true rfl) hs hd148.1.1 (C_rng _ hd148 (c := c) (lo := z144) (hi := z148) (by omega) (by omega) (by omega) (by omega) (by omega) (by omega)) (fun x h v149 n149 hs q => ?_)
              obtain ⟨rfl, rfl, fr149, en149, β149, hd149, hb149⟩ := q
              have hp149 := hp148.sub wf149 fr149
              have pf149 := pf148.on fr149 en149
              have hne := hp149.ne hd149
              show B_R _ _ (146, [(3, .int (Zi z148)), (4, .int (Zi (a144 + 1))), (2, .int (Zi z144)), (0, .ref o), (1, .int (Zi c))], []) _ _ _
              refine Z_ret rfl rfl ⟨_, hs, ?_⟩
              try dsimp only
              obtain ⟨u1, u2, uF, ue1, ue2⟩ := P_say.good sy144 (by omega)
              have hl := hlt _ _ _ uF
              obtain ⟨y1, y2, yF, ye1, ye2⟩ := P_say.good sy148 (by omega)
              have hl2 := hlt _ _ _ yF
              have ei : P_item S a = P_piece S a := by
                unfold P_item
                rw [if_neg (fun h => by have h1 := h.1; have h2 := h.2; omega)]
              refine ⟨rfl, rfl, pf149, _, _, _, _, hp149, hd149, by omega, by omega, ?_, ?_⟩
              · intro d j d0 dc j0 j1
                rw [hb149 d j d0 j0 j1]
                exact ⟨fun h => h.elim id (fun h => absurd h.1 dc), .inl⟩
              · refine P_say.ok' (by omega) (v := fun x => u1 ≤ x ∧ x ≤ y1) (b := y2) ?_ ⟨by omega, by omega, by omega, fun j j0 j1 => ?_⟩
                · rw [ei]
                  unfold P_piece
                  rw [uF]
                  show (if S u2 = 45 then _ else _) = _
                  rw [if_pos (by rw [← ue2]; omega), ← ue2]
                  rw [yF]
                  show (if y1 < u1 then _ else _) = _
                  rw [if_neg (by omega)]
                · rw [hb149 c j c0 j0 j1]
                  exact ⟨fun h => h.imp id (fun h => ⟨by omega, by omega⟩), fun h => h.imp id (fun h => ⟨rfl, by omega, by omega⟩)⟩
          · refine Z_go (f2 := (123, [(3, .int (Zi z148)), (4, .int (Zi (a144 + 1))), (2, .int (Zi z144)), (0, .ref o), (1, .int (Zi c))], [.ref o])) (fun _ => rfl) ?_
            refine Z_go (f2 := (124, [(3, .int (Zi z148)), (4, .int (Zi (a144 + 1))), (2, .int (Zi z144)), (0, .ref o), (1, .int (Zi c))], [.int (Zi 2), .ref o])) (fun _ => rfl) ?_
            refine Z_go (f2 := (126, [(3, .int (Zi z148)), (4, .int (Zi (a144 + 1))), (2, .int (Zi z144)), (0, .ref o), (1, .int (Zi c))], [.int (Zi (a144 + 1)), .int (Zi 2), .ref o])) (fun _ => rfl) ?_
            have wf150 := hs.1
            refine C_callV (As := [.int (Zi 2), .int (Zi (a144 + 1))]) (rest := []) rfl (by decide) rfl (by decide) rfl rfl (by decide +kernel) (Nat.le_of_ble_eq_true rfl) hs hp148.1.1 (C_fail _ hp148 (kd := 2) (wh := a144 + 1) (by first | exact hs.zF _ _ | exact Zor_r _ _ | exact hs.zA _ _ | assumption | exact zA _ _ | exact zS _ | exact Zr_not (hs.zA _ _) | exact hs.1.1 _ _ | exact ⟨by omega, by omega⟩) (by first | exact hs.zF _ _ | exact Zor_r _ _ | exact hs.zA _ _ | assumption | exact zA _ _ | exact zS _ | exact Zr_not (hs.zA _ _) | exact hs.1.1 _ _ | exact ⟨by omega, by omega⟩) (by decide)) (fun x h v150 n150 hs q => ?_)
            obtain ⟨rfl, rfl, pq150, hp150⟩ := q
            have pf150 := pf148.trO pq150
            have hd150 := hd148.po wf150 pq150
            have hne := hp150.ne hd150
            obtain ⟨fg150, efg150⟩ : ∃ z : Int, z = (if f148 = 0 then 2 else f148) := ⟨_, rfl⟩
            obtain ⟨pg150, epg150⟩ : ∃ z : Int, z = (if f148 = 0 then a144 + 1 else pl148) := ⟨_, rfl⟩
            rw [← efg150, ← epg150] at hp150
            obtain ⟨zzf150, zzp150, zza150, _⟩ := hp150.z hs
            show B_R _ _ (129, [(3, .int (Zi z148)), (4, .int (Zi (a144 + 1))), (2, .int (Zi z144)), (0, .ref o), (1, .int (Zi c))], []) _ _ _
            refine Z_go (f2 := (130, [(3, .int (Zi z148)), (4, .int (Zi (a144 + 1))), (2, .int (Zi z144)), (0, .ref o), (1, .int (Zi c))], [.ref o])) (fun _ => rfl) ?_
            refine C_gi rfl hs hp150.1.1 (by decide) (Nat.le_of_ble_eq_true rfl) rfl ?_
            rw [show C_F (v150) o 1 = fg150 from (by first | exact hp150.1.2.2.2.2.2.2.1 | exact (if_neg (fun e => absurd e.1 (by assumption))).trans hp150.1.2.2.2.2.2.2.1 | exact (if_neg (fun e => absurd e.2 (by decide))).trans hp150.1.2.2.2.2.2.2.1 | exact (if_neg (fun e => absurd e.2 (by decide))).trans ((if_neg (fun e => absurd e.2 (by decide))).trans hp150.1.2.2.2.2.2.2.1) | exact (if_neg (fun e => absurd e.2 (by decide))).trans ((if_neg (fun e => absurd e.2 (by decide))).trans ((if_neg (fun e => absurd e.2 (by decide))).trans hp150.1.2.2.2.2.2.2.1)))]
            show B_R _ _ (133, [(3, .int (Zi z148)), (4, .int (Zi (a144 + 1))), (2, .int (Zi z144)), (0, .ref o), (1, .int (Zi c))], [.int (Zi fg150)]) _ _ _
            refine Z_ine rfl rfl (by first | exact hs.zF _ _ | exact Zor_r _ _ | exact hs.zA _ _ | assumption | exact zA _ _ | exact zS _ | exact Zr_not (hs.zA _ _) | exact hs.1.1 _ _ | exact ⟨by omega, by omega⟩) (fun c16 => ?_) (fun c16 => ?_)
            · refine Z_ret rfl rfl ⟨_, hs, ?_⟩
              try dsimp only
              obtain ⟨u1, u2, uF, ue1, ue2⟩ := P_say.good sy144 (by omega)
              have hl := hlt _ _ _ uF
              have ei : P_item S a = P_piece S a := by
                unfold P_item
                rw [if_neg (fun h => by have h1 := h.1; have h2 := h.2; omega)]
              by_cases hF2 : f148 = 0
              · obtain ⟨y1, y2, yF, ye1, ye2⟩ := P_say.good sy148 hF2
                have hl2 := hlt _ _ _ yF
                first
                | (exfalso; omega)
                | (refine ⟨rfl, rfl, pf150, _, _, _, _, hp150, hd150, by omega, by omega, fun d j d0 dc j0 j1 => Iff.rfl, ?_⟩
                   refine P_say.no' (k := 2) (w := a144 + 1) (by omega) (by omega) ?_ (by omega)
                   rw [ei]
                   unfold P_piece
                   rw [uF]
                   show (if S u2 = 45 then _ else _) = _
                   rw [if_pos (by rw [← ue2]; omega), ← ue2]
                   rw [yF]
                   show (if y1 < u1 then _ else _) = _
                   rw [if_pos (by omega)])
              · have hF := P_say.bad sy148 hF2
                refine ⟨rfl, rfl, pf150, _, _, _, _, hp150, hd150, by omega, by omega, fun d j d0 dc j0 j1 => Iff.rfl, ?_⟩
                refine P_say.no' (k := f148) (w := pl148) (by omega) (by omega) ?_ hF2
                rw [ei]
                unfold P_piece
                rw [uF]
                show (if S u2 = 45 then _ else _) = _
                rw [if_pos (by rw [← ue2]; omega), ← ue2]
                rw [hF]
            · obtain rfl : fg150 = 0 := by omega
              refine Z_go (f2 := (137, [(3, .int (Zi z148)), (4, .int (Zi (a144 + 1))), (2, .int (Zi z144)), (0, .ref o), (1, .int (Zi c))], [.ref o])) (fun _ => rfl) ?_
              refine C_gr rfl hs hp150.1.1 (by decide) (Nat.le_of_ble_eq_true rfl) rfl hp150.1.2.2.1 ?_
              refine Z_go (f2 := (141, [(3, .int (Zi z148)), (4, .int (Zi (a144 + 1))), (2, .int (Zi z144)), (0, .ref o), (1, .int (Zi c))], [.int (Zi c), .ref tr])) (fun _ => rfl) ?_
              refine Z_go (f2 := (142, [(3, .int (Zi z148)), (4, .int (Zi (a144 + 1))), (2, .int (Zi z144)), (0, .ref o), (1, .int (Zi c))], [.int (Zi z144), .int (Zi c), .ref tr])) (fun _ => rfl) ?_
              refine Z_go (f2 := (143, [(3, .int (Zi z148)), (4, .int (Zi (a144 + 1))), (2, .int (Zi z144)), (0, .ref o), (1, .int (Zi c))], [.int (Zi z148), .int (Zi z144), .int (Zi c), .ref tr])) (fun _ => rfl) ?_
              have wf151 := hs.1
              refine C_callV (As := [.int (Zi c), .int (Zi z144), .int (Zi z148)]) (rest := []) rfl (by decide) rfl (by decide) rfl rfl (by decide +kernel) (Nat.le_of_ble_eq_true rfl) hs hd150.1.1 (C_rng _ hd150 (c := c) (lo := z144) (hi := z148) (by omega) (by omega) (by omega) (by omega) (by omega) (by omega)) (fun x h v151 n151 hs q => ?_)
              obtain ⟨rfl, rfl, fr151, en151, β151, hd151, hb151⟩ := q
              have hp151 := hp150.sub wf151 fr151
              have pf151 := pf150.on fr151 en151
              have hne := hp151.ne hd151
              show B_R _ _ (146, [(3, .int (Zi z148)), (4, .int (Zi (a144 + 1))), (2, .int (Zi z144)), (0, .ref o), (1, .int (Zi c))], []) _ _ _
              refine Z_ret rfl rfl ⟨_, hs, ?_⟩
              try dsimp only
              obtain ⟨u1, u2, uF, ue1, ue2⟩ := P_say.good sy144 (by omega)
              have hl := hlt _ _ _ uF
              obtain ⟨y1, y2, yF, ye1, ye2⟩ := P_say.good sy148 (by omega)
              have hl2 := hlt _ _ _ yF
              have ei : P_item S a = P_piece S a := by
                unfold P_item
                rw [if_neg (fun h => by have h1 := h.1; have h2 := h.2; omega)]
              refine ⟨rfl, rfl, pf151, _, _, _, _, hp151, hd151, by omega, by omega, ?_, ?_⟩
              · intro d j d0 dc j0 j1
                rw [hb151 d j d0 j0 j1]
                exact ⟨fun h => h.elim id (fun h => absurd h.1 dc), .inl⟩
              · refine P_say.ok' (by omega) (v := fun x => u1 ≤ x ∧ x ≤ y1) (b := y2) ?_ ⟨by omega, by omega, by omega, fun j j0 j1 => ?_⟩
                · rw [ei]
                  unfold P_piece
                  rw [uF]
                  show (if S u2 = 45 then _ else _) = _
                  rw [if_pos (by rw [← ue2]; omega), ← ue2]
                  rw [yF]
                  show (if y1 < u1 then _ else _) = _
                  rw [if_neg (by omega)]
                · rw [hb151 c j c0 j0 j1]
                  exact ⟨fun h => h.imp id (fun h => ⟨by omega, by omega⟩), fun h => h.imp id (fun h => ⟨rfl, by omega, by omega⟩)⟩
    · refine Z_go (f2 := (23, [(0, .ref o), (1, .int (Zi c))], [.ref o])) (fun _ => rfl) ?_
      refine C_gr rfl hs hp.1.1 (by decide) (Nat.le_of_ble_eq_true rfl) rfl hp.1.2.2.2.1 ?_
      refine Z_go (f2 := (27, [(0, .ref o), (1, .int (Zi c))], [.ref o, .ref src])) (fun _ => rfl) ?_
      refine C_gi rfl hs hp.1.1 (by decide) (Nat.le_of_ble_eq_true rfl) rfl ?_
      rw [show C_F (s) o 5 = a from (by first | exact hp.1.2.2.2.2.2.2.2.2.2.1 | exact (if_neg (fun e => absurd e.1 (by assumption))).trans hp.1.2.2.2.2.2.2.2.2.2.1 | exact (if_neg (fun e => absurd e.2 (by decide))).trans hp.1.2.2.2.2.2.2.2.2.2.1 | exact (if_neg (fun e => absurd e.2 (by decide))).trans ((if_neg (fun e => absurd e.2 (by decide))).trans hp.1.2.2.2.2.2.2.2.2.2.1) | exact (if_neg (fun e => absurd e.2 (by decide))).trans ((if_neg (fun e => absurd e.2 (by decide))).trans ((if_neg (fun e => absurd e.2 (by decide))).trans hp.1.2.2.2.2.2.2.2.2.2.1)))]
      show B_R _ _ (30, [(0, .ref o), (1, .int (Zi c))], [.int (Zi a), .ref src]) _ _ _
      refine Z_go (f2 := (31, [(0, .ref o), (1, .int (Zi c))], [.int (Zi 1), .int (Zi a), .ref src])) (fun _ => rfl) ?_
      refine Z_iadd rfl ?_
      refine C_callSR (vs := [.ref src, .int (Zi (a + 1))]) (rest := []) rfl (by decide) rfl rfl rfl (Nat.le_of_ble_eq_true rfl) hs (C_byteOf _ hp.1.2.2.2.2.1 (i := a + 1) (by first | exact hs.zF _ _ | exact Zor_r _ _ | exact hs.zA _ _ | assumption | exact zA _ _ | exact zS _ | exact Zr_not (hs.zA _ _) | exact hs.1.1 _ _ | exact ⟨by omega, by omega⟩)) (fun x q => ?_)
      rw [if_pos ⟨by omega, by have := hp.2.2.2.1; omega⟩, (hp.2.1 (a + 1) (by omega) (by omega)).1] at q
      obtain rfl := q
      show B_R _ _ (35, [(0, .ref o), (1, .int (Zi c))], [.int (Zi (S (a + 1)))]) _ _ _
      refine Z_callQ (vs := [.int (Zi (S (a + 1)))]) (rest := []) rfl (by decide) rfl rfl rfl (Nat.le_of_ble_eq_true rfl) (C_isNam _ (c := S (a + 1)) (by first | exact hs.zF _ _ | exact Zor_r _ _ | exact hs.zA _ _ | assumption | exact zA _ _ | exact zS _ | exact Zr_not (hs.zA _ _) | exact hs.1.1 _ _ | exact ⟨by omega, by omega⟩)) (fun x q => ?_)
      obtain ⟨nm152, rfl, hnm152⟩ := q
      have znm152 : Zr nm152 := ⟨by omega, by omega⟩
      show B_R _ _ (38, [(0, .ref o), (1, .int (Zi c))], [.int (Zi nm152)]) _ _ _
      refine Z_ieq rfl rfl (by first | exact hs.zF _ _ | exact Zor_r _ _ | exact hs.zA _ _ | assumption | exact zA _ _ | exact zS _ | exact Zr_not (hs.zA _ _) | exact hs.1.1 _ _ | exact ⟨by omega, by omega⟩) (fun c17 => ?_) (fun c17 => ?_)
      · refine Z_go (f2 := (74, [(0, .ref o), (1, .int (Zi c))], [.ref o])) (fun _ => rfl) ?_
        have wf153 := hs.1
        refine C_callV (As := []) (rest := []) rfl (by decide) rfl (by decide) rfl rfl (by decide +kernel) (Nat.le_of_ble_eq_true rfl) hs hp.1.1 (C_one _ hp (by omega) (by omega)) (fun x h v153 n153 hs q => ?_)
        obtain ⟨rfl, pg153, f153, pl153, a153, z153, rfl, hp153, ga153, gb153, gc153, gd153, sy153⟩ := q
        have pf153 := (D_Pf.refl p s).trO pg153
        have hd153 := hd.po wf153 pg153
        have hne := hp153.ne hd153
        obtain ⟨zzf153, zzp153, zza153, _⟩ := hp153.z hs
        show B_R _ _ (77, [(0, .ref o), (1, .int (Zi c))], [.int (Zi z153)]) _ _ _
        refine Z_go (f2 := (78, [(2, .int (Zi z153)), (0, .ref o), (1, .int (Zi c))], [])) (fun _ => rfl) ?_
        refine Z_go (f2 := (79, [(2, .int (Zi z153)), (0, .ref o), (1, .int (Zi c))], [.int (Zi z153)])) (fun _ => rfl) ?_
        refine Z_go (f2 := (80, [(3, .int (Zi z153)), (2, .int (Zi z153)), (0, .ref o), (1, .int (Zi c))], [])) (fun _ => rfl) ?_
        refine Z_go (f2 := (81, [(3, .int (Zi z153)), (2, .int (Zi z153)), (0, .ref o), (1, .int (Zi c))], [.ref o])) (fun _ => rfl) ?_
        refine C_gi rfl hs hp153.1.1 (by decide) (Nat.le_of_ble_eq_true rfl) rfl ?_
        rw [show C_F (v153) o 1 = f153 from (by first | exact hp153.1.2.2.2.2.2.2.1 | exact (if_neg (fun e => absurd e.1 (by assumption))).trans hp153.1.2.2.2.2.2.2.1 | exact (if_neg (fun e => absurd e.2 (by decide))).trans hp153.1.2.2.2.2.2.2.1 | exact (if_neg (fun e => absurd e.2 (by decide))).trans ((if_neg (fun e => absurd e.2 (by decide))).trans hp153.1.2.2.2.2.2.2.1) | exact (if_neg (fun e => absurd e.2 (by decide))).trans ((if_neg (fun e => absurd e.2 (by decide))).trans ((if_neg (fun e => absurd e.2 (by decide))).trans hp153.1.2.2.2.2.2.2.1)))]
        show B_R _ _ (84, [(3, .int (Zi z153)), (2, .int (Zi z153)), (0, .ref o), (1, .int (Zi c))], [.int (Zi f153)]) _ _ _
        refine Z_ine rfl rfl (by first | exact hs.zF _ _ | exact Zor_r _ _ | exact hs.zA _ _ | assumption | exact zA _ _ | exact zS _ | exact Zr_not (hs.zA _ _) | exact hs.1.1 _ _ | exact ⟨by omega, by omega⟩) (fun c18 => ?_) (fun c18 => ?_)
        · refine Z_go (f2 := (130, [(3, .int (Zi z153)), (2, .int (Zi z153)), (0, .ref o), (1, .int (Zi c))], [.ref o])) (fun _ => rfl) ?_
          refine C_gi rfl hs hp153.1.1 (by decide) (Nat.le_of_ble_eq_true rfl) rfl ?_
          rw [show C_F (v153) o 1 = f153 from (by first | exact hp153.1.2.2.2.2.2.2.1 | exact (if_neg (fun e => absurd e.1 (by assumption))).trans hp153.1.2.2.2.2.2.2.1 | exact (if_neg (fun e => absurd e.2 (by decide))).trans hp153.1.2.2.2.2.2.2.1 | exact (if_neg (fun e => absurd e.2 (by decide))).trans ((if_neg (fun e => absurd e.2 (by decide))).trans hp153.1.2.2.2.2.2.2.1) | exact (if_neg (fun e => absurd e.2 (by decide))).trans ((if_neg (fun e => absurd e.2 (by decide))).trans ((if_neg (fun e => absurd e.2 (by decide))).trans hp153.1.2.2.2.2.2.2.1)))]
          show B_R _ _ (133, [(3, .int (Zi z153)), (2, .int (Zi z153)), (0, .ref o), (1, .int (Zi c))], [.int (Zi f153)]) _ _ _
          refine Z_ine rfl rfl (by first | exact hs.zF _ _ | exact Zor_r _ _ | exact hs.zA _ _ | assumption | exact zA _ _ | exact zS _ | exact Zr_not (hs.zA _ _) | exact hs.1.1 _ _ | exact ⟨by omega, by omega⟩) (fun c19 => ?_) (fun c19 => ?_)
          · refine Z_ret rfl rfl ⟨_, hs, ?_⟩
            try dsimp only
            have hF := P_say.bad sy153 (by omega)
            have ei : P_item S a = P_piece S a := by
              unfold P_item
              rw [if_neg (fun h => by have h1 := h.1; have h2 := h.2; omega)]
            refine ⟨rfl, rfl, pf153, _, _, _, _, hp153, hd153, by omega, by omega, ?_, ?_⟩
            · intro d j d0 dc j0 j1
              exact Iff.rfl
            · refine P_say.no ?_ (by omega)
              rw [ei]
              unfold P_piece
              rw [hF]
          · obtain rfl : f153 = 0 := by omega
            refine Z_go (f2 := (137, [(3, .int (Zi z153)), (2, .int (Zi z153)), (0, .ref o), (1, .int (Zi c))], [.ref o])) (fun _ => rfl) ?_
            refine C_gr rfl hs hp153.1.1 (by decide) (Nat.le_of_ble_eq_true rfl) rfl hp153.1.2.2.1 ?_
            refine Z_go (f2 := (141, [(3, .int (Zi z153)), (2, .int (Zi z153)), (0, .ref o), (1, .int (Zi c))], [.int (Zi c), .ref tr])) (fun _ => rfl) ?_
            refine Z_go (f2 := (142, [(3, .int (Zi z153)), (2, .int (Zi z153)), (0, .ref o), (1, .int (Zi c))], [.int (Zi z153), .int (Zi c), .ref tr])) (fun _ => rfl) ?_
            refine Z_go (f2 := (143, [(3, .int (Zi z153)), (2, .int (Zi z153)), (0, .ref o), (1, .int (Zi c))], [.int (Zi z153), .int (Zi z153), .int (Zi c), .ref tr])) (fun _ => rfl) ?_
            have wf154 := hs.1
            refine C_callV (As := [.int (Zi c), .int (Zi z153), .int (Zi z153)]) (rest := []) rfl (by decide) rfl (by decide) rfl rfl (by decide +kernel) (Nat.le_of_ble_eq_true rfl) hs hd153.1.1 (C_rng _ hd153 (c := c) (lo := z153) (hi := z153) (by omega) (by omega) (by omega) (by omega) (by omega) (by omega)) (fun x h v154 n154 hs q => ?_)
            obtain ⟨rfl, rfl, fr154, en154, β154, hd154, hb154⟩ := q
            have hp154 := hp153.sub wf154 fr154
            have pf154 := pf153.on fr154 en154
            have hne := hp154.ne hd154
            show B_R _ _ (146, [(3, .int (Zi z153)), (2, .int (Zi z153)), (0, .ref o), (1, .int (Zi c))], []) _ _ _
            refine Z_ret rfl rfl ⟨_, hs, ?_⟩
            try dsimp only
            obtain ⟨u1, u2, uF, ue1, ue2⟩ := P_say.good sy153 (by omega)
            have hl := hlt _ _ _ uF
            have ei : P_item S a = P_piece S a := by
              unfold P_item
              rw [if_neg (fun h => by have h1 := h.1; have h2 := h.2; omega)]
            refine ⟨rfl, rfl, pf154, _, _, _, _, hp154, hd154, by omega, by omega, ?_, ?_⟩
            · intro d j d0 dc j0 j1
              rw [hb154 d j d0 j0 j1]
              exact ⟨fun h => h.elim id (fun h => absurd h.1 dc), .inl⟩
            · refine P_say.ok' (by omega) (v := fun x => x = u1) (b := u2) ?_ ⟨by omega, by omega, by omega, fun j j0 j1 => ?_⟩
              · rw [ei]
                unfold P_piece
                rw [uF]
                show (if S u2 = 45 then _ else _) = _
                rw [if_neg (by rw [← ue2]; omega)]
              · rw [hb154 c j c0 j0 j1]
                exact ⟨fun h => h.imp id (fun h => by have h1 := h.2; omega), fun h => h.imp id (fun h => ⟨rfl, by omega, by omega⟩)⟩
        · obtain rfl : f153 = 0 := by omega
          refine Z_go (f2 := (88, [(3, .int (Zi z153)), (2, .int (Zi z153)), (0, .ref o), (1, .int (Zi c))], [.ref o])) (fun _ => rfl) ?_
          refine C_callVR (As := []) (rest := []) rfl (by decide) rfl (by decide) rfl rfl (by decide +kernel) (Nat.le_of_ble_eq_true rfl) hs hp153.1.1 (C_peek _ hp153 (by omega)) (fun x q => ?_)
          obtain rfl := q
          have zpk155 := hp.r a153 (by omega)
          show B_R _ _ (91, [(3, .int (Zi z153)), (2, .int (Zi z153)), (0, .ref o), (1, .int (Zi c))], [.int (Zi (S a153))]) _ _ _
          refine Z_go (f2 := (93, [(3, .int (Zi z153)), (2, .int (Zi z153)), (0, .ref o), (1, .int (Zi c))], [.int (Zi 45), .int (Zi (S a153))])) (fun _ => rfl) ?_
          refine Z_cne rfl rfl (by first | exact hs.zF _ _ | exact Zor_r _ _ | exact hs.zA _ _ | assumption | exact zA _ _ | exact zS _ | exact Zr_not (hs.zA _ _) | exact hs.1.1 _ _ | exact ⟨by omega, by omega⟩) (by first | exact hs.zF _ _ | exact Zor_r _ _ | exact hs.zA _ _ | assumption | exact zA _ _ | exact zS _ | exact Zr_not (hs.zA _ _) | exact hs.1.1 _ _ | exact ⟨by omega, by omega⟩) (fun c20 => ?_) (fun c20 => ?_)
          · refine Z_go (f2 := (130, [(3, .int (Zi z153)), (2, .int (Zi z153)), (0, .ref o), (1, .int (Zi c))], [.ref o])) (fun _ => rfl) ?_
            refine C_gi rfl hs hp153.1.1 (by decide) (Nat.le_of_ble_eq_true rfl) rfl ?_
            rw [show C_F (v153) o 1 = 0 from (by first | exact hp153.1.2.2.2.2.2.2.1 | exact (if_neg (fun e => absurd e.1 (by assumption))).trans hp153.1.2.2.2.2.2.2.1 | exact (if_neg (fun e => absurd e.2 (by decide))).trans hp153.1.2.2.2.2.2.2.1 | exact (if_neg (fun e => absurd e.2 (by decide))).trans ((if_neg (fun e => absurd e.2 (by decide))).trans hp153.1.2.2.2.2.2.2.1) | exact (if_neg (fun e => absurd e.2 (by decide))).trans ((if_neg (fun e => absurd e.2 (by decide))).trans ((if_neg (fun e => absurd e.2 (by decide))).trans hp153.1.2.2.2.2.2.2.1)))]
            show B_R _ _ (133, [(3, .int (Zi z153)), (2, .int (Zi z153)), (0, .ref o), (1, .int (Zi c))], [.int (Zi 0)]) _ _ _
            refine Z_ine rfl rfl (by first | exact hs.zF _ _ | exact Zor_r _ _ | exact hs.zA _ _ | assumption | exact zA _ _ | exact zS _ | exact Zr_not (hs.zA _ _) | exact hs.1.1 _ _ | exact ⟨by omega, by omega⟩) (fun c21 => ?_) (fun c21 => ?_)
            · exfalso; omega
            · refine Z_go (f2 := (137, [(3, .int (Zi z153)), (2, .int (Zi z153)), (0, .ref o), (1, .int (Zi c))], [.ref o])) (fun _ => rfl) ?_
              refine C_gr rfl hs hp153.1.1 (by decide) (Nat.le_of_ble_eq_true rfl) rfl hp153.1.2.2.1 ?_
              refine Z_go (f2 := (141, [(3, .int (Zi z153)), (2, .int (Zi z153)), (0, .ref o), (1, .int (Zi c))], [.int (Zi c), .ref tr])) (fun _ => rfl) ?_
              refine Z_go (f2 := (142, [(3, .int (Zi z153)), (2, .int (Zi z153)), (0, .ref o), (1, .int (Zi c))], [.int (Zi z153), .int (Zi c), .ref tr])) (fun _ => rfl) ?_
              refine Z_go (f2 := (143, [(3, .int (Zi z153)), (2, .int (Zi z153)), (0, .ref o), (1, .int (Zi c))], [.int (Zi z153), .int (Zi z153), .int (Zi c), .ref tr])) (fun _ => rfl) ?_
              have wf156 := hs.1
              refine C_callV (As := [.int (Zi c), .int (Zi z153), .int (Zi z153)]) (rest := []) rfl (by decide) rfl (by decide) rfl rfl (by decide +kernel) (Nat.le_of_ble_eq_true rfl) hs hd153.1.1 (C_rng _ hd153 (c := c) (lo := z153) (hi := z153) (by omega) (by omega) (by omega) (by omega) (by omega) (by omega)) (fun x h v156 n156 hs q => ?_)
              obtain ⟨rfl, rfl, fr156, en156, β156, hd156, hb156⟩ := q
              have hp156 := hp153.sub wf156 fr156
              have pf156 := pf153.on fr156 en156
              have hne := hp156.ne hd156
              show B_R _ _ (146, [(3, .int (Zi z153)), (2, .int (Zi z153)), (0, .ref o), (1, .int (Zi c))], []) _ _ _
              refine Z_ret rfl rfl ⟨_, hs, ?_⟩
              try dsimp only
              obtain ⟨u1, u2, uF, ue1, ue2⟩ := P_say.good sy153 (by omega)
              have hl := hlt _ _ _ uF
              have ei : P_item S a = P_piece S a := by
                unfold P_item
                rw [if_neg (fun h => by have h1 := h.1; have h2 := h.2; omega)]
              refine ⟨rfl, rfl, pf156, _, _, _, _, hp156, hd156, by omega, by omega, ?_, ?_⟩
              · intro d j d0 dc j0 j1
                rw [hb156 d j d0 j0 j1]
                exact ⟨fun h => h.elim id (fun h => absurd h.1 dc), .inl⟩
              · refine P_say.ok' (by omega) (v := fun x => x = u1) (b := u2) ?_ ⟨by omega, by omega, by omega, fun j j0 j1 => ?_⟩
                · rw [ei]
                  unfold P_piece
                  rw [uF]
                  show (if S u2 = 45 then _ else _) = _
                  rw [if_neg (by rw [← ue2]; omega)]
                · rw [hb156 c j c0 j0 j1]
                  exact ⟨fun h => h.imp id (fun h => by have h1 := h.2; omega), fun h => h.imp id (fun h => ⟨rfl, by omega, by omega⟩)⟩
          · refine Z_go (f2 := (97, [(3, .int (Zi z153)), (2, .int (Zi z153)), (0, .ref o), (1, .int (Zi c))], [.ref o])) (fun _ => rfl) ?_
            refine Z_go (f2 := (98, [(3, .int (Zi z153)), (2, .int (Zi z153)), (0, .ref o), (1, .int (Zi c))], [.ref o, .ref o])) (fun _ => rfl) ?_
            refine C_gi rfl hs hp153.1.1 (by decide) (Nat.le_of_ble_eq_true rfl) rfl ?_
            rw [show C_F (v153) o 5 = a153 from (by first | exact hp153.1.2.2.2.2.2.2.2.2.2.1 | exact (if_neg (fun e => absurd e.1 (by assumption))).trans hp153.1.2.2.2.2.2.2.2.2.2.1 | exact (if_neg (fun e => absurd e.2 (by decide))).trans hp153.1.2.2.2.2.2.2.2.2.2.1 | exact (if_neg (fun e => absurd e.2 (by decide))).trans ((if_neg (fun e => absurd e.2 (by decide))).trans hp153.1.2.2.2.2.2.2.2.2.2.1) | exact (if_neg (fun e => absurd e.2 (by decide))).trans ((if_neg (fun e => absurd e.2 (by decide))).trans ((if_neg (fun e => absurd e.2 (by decide))).trans hp153.1.2.2.2.2.2.2.2.2.2.1)))]
            show B_R _ _ (101, [(3, .int (Zi z153)), (2, .int (Zi z153)), (0, .ref o), (1, .int (Zi c))], [.int (Zi a153), .ref o]) _ _ _
            refine Z_go (f2 := (102, [(3, .int (Zi z153)), (2, .int (Zi z153)), (0, .ref o), (1, .int (Zi c))], [.int (Zi 1), .int (Zi a153), .ref o])) (fun _ => rfl) ?_
            refine Z_iadd rfl ?_
            refine C_pi rfl hs hp153.1.1 (by decide) (Nat.le_of_ble_eq_true rfl) (.inl rfl) rfl rfl rfl (by first | exact hs.zF _ _ | exact Zor_r _ _ | exact hs.zA _ _ | assumption | exact zA _ _ | exact zS _ | exact Zr_not (hs.zA _ _) | exact hs.1.1 _ _ | exact ⟨by omega, by omega⟩) (fun h hs => ?_)
            refine Z_go (f2 := (107, [(3, .int (Zi z153)), (2, .int (Zi z153)), (0, .ref o), (1, .int (Zi c))], [.ref o])) (fun _ => rfl) ?_
            refine C_gi rfl hs hp153.1.1 (by decide) (Nat.le_of_ble_eq_true rfl) rfl ?_
            rw [show C_F (C_sF v153 o 5 (a153 + 1)) o 5 = a153 + 1 from (by first | rfl | (simp only [C_F, C_P, C_A, C_L, C_Q, C_K, C_T, C_n, C_sF, C_sP, C_sA, C_sL, C_sQ, C_sAf, C_sQf]; simp [*]; done) | (simp only [C_F, C_P, C_A, C_L, C_Q, C_K, C_T, C_n, C_sF, C_sP, C_sA, C_sL, C_sQ, C_sAf, C_sQf]; simp; omega))]; show B_R _ _ (110, [(3, .int (Zi z153)), (2, .int (Zi z153)), (0, .ref o), (1, .int (Zi c))], [.int (Zi (a153 + 1))]) _ _ _
            refine Z_go (f2 := (112, [(4, .int (Zi (a153 + 1))), (3, .int (Zi z153)), (2, .int (Zi z153)), (0, .ref o), (1, .int (Zi c))], [])) (fun _ => rfl) ?_
            refine Z_go (f2 := (113, [(4, .int (Zi (a153 + 1))), (3, .int (Zi z153)), (2, .int (Zi z153)), (0, .ref o), (1, .int (Zi c))], [.ref o])) (fun _ => rfl) ?_
            have wf157 := hs.1
            refine C_callV (As := []) (rest := []) rfl (by decide) rfl (by decide) rfl rfl (by decide +kernel) (Nat.le_of_ble_eq_true rfl) hs hp153.1.1 (C_one _ (hp153.aa (a153 + 1)) (by omega) (by omega)) (fun x h v157 n157 hs q => ?_)
            obtain ⟨rfl, pg157, f157, pl157, a157, z157, rfl, hp157, ga157, gb157, gc157, gd157, sy157⟩ := q
            have pf157 := (pf153.sF hp153.1.2.1).trO pg157
            have hd157 := (hd153.oF hne).po wf157 pg157
            have hne := hp157.ne hd157
            obtain ⟨zzf157, zzp157, zza157, _⟩ := hp157.z hs
            show B_R _ _ (116, [(4, .int (Zi (a153 + 1))), (3, .int (Zi z153)), (2, .int (Zi z153)), (0, .ref o), (1, .int (Zi c))], [.int (Zi z157)]) _ _ _
            refine Z_go (f2 := (117, [(3, .int (Zi z157)), (4, .int (Zi (a153 + 1))), (2, .int (Zi z153)), (0, .ref o), (1, .int (Zi c))], [])) (fun _ => rfl) ?_
            refine Z_go (f2 := (118, [(3, .int (Zi z157)), (4, .int (Zi (a153 + 1))), (2, .int (Zi z153)), (0, .ref o), (1, .int (Zi c))], [.int (Zi z157)])) (fun _ => rfl) ?_
            refine Z_go (f2 := (119, [(3, .int (Zi z157)), (4, .int (Zi (a153 + 1))), (2, .int (Zi z153)), (0, .ref o), (1, .int (Zi c))], [.int (Zi z153), .int (Zi z157)])) (fun _ => rfl) ?_
            refine Z_cge rfl rfl (by first | exact hs.zF _ _ | exact Zor_r _ _ | exact hs.zA _ _ | assumption | exact zA _ _ | exact zS _ | exact Zr_not (hs.zA _ _) | exact hs.1.1 _ _ | exact ⟨by omega, by omega⟩) (by first | exact hs.zF _ _ | exact Zor_r _ _ | exact hs.zA _ _ | assumption | exact zA _ _ | exact zS _ | exact Zr_not (hs.zA _ _) | exact hs.1.1 _ _ | exact ⟨by omega, by omega⟩) (fun c22 => ?_) (fun c22 => ?_)
            · refine Z_go (f2 := (130, [(3, .int (Zi z157)), (4, .int (Zi (a153 + 1))), (2, .int (Zi z153)), (0, .ref o), (1, .int (Zi c))], [.ref o])) (fun _ => rfl) ?_
              refine C_gi rfl hs hp157.1.1 (by decide) (Nat.le_of_ble_eq_true rfl) rfl ?_
              rw [show C_F (v157) o 1 = f157 from (by first | exact hp157.1.2.2.2.2.2.2.1 | exact (if_neg (fun e => absurd e.1 (by assumption))).trans hp157.1.2.2.2.2.2.2.1 | exact (if_neg (fun e => absurd e.2 (by decide))).trans hp157.1.2.2.2.2.2.2.1 | exact (if_neg (fun e => absurd e.2 (by decide))).trans ((if_neg (fun e => absurd e.2 (by decide))).trans hp157.1.2.2.2.2.2.2.1) | exact (if_neg (fun e => absurd e.2 (by decide))).trans ((if_neg (fun e => absurd e.2 (by decide))).trans ((if_neg (fun e => absurd e.2 (by decide))).trans hp157.1.2.2.2.2.2.2.1)))]
              show B_R _ _ (133, [(3, .int (Zi z157)), (4, .int (Zi (a153 + 1))), (2, .int (Zi z153)), (0, .ref o), (1, .int (Zi c))], [.int (Zi f157)]) _ _ _
              refine Z_ine rfl rfl (by first | exact hs.zF _ _ | exact Zor_r _ _ | exact hs.zA _ _ | assumption | exact zA _ _ | exact zS _ | exact Zr_not (hs.zA _ _) | exact hs.1.1 _ _ | exact ⟨by omega, by omega⟩) (fun c23 => ?_) (fun c23 => ?_)
              · refine Z_ret rfl rfl ⟨_, hs, ?_⟩
                try dsimp only
                obtain ⟨u1, u2, uF, ue1, ue2⟩ := P_say.good sy153 (by omega)
                have hl := hlt _ _ _ uF
                have ei : P_item S a = P_piece S a := by
                  unfold P_item
                  rw [if_neg (fun h => by have h1 := h.1; have h2 := h.2; omega)]
                by_cases hF2 : f157 = 0
                · obtain ⟨y1, y2, yF, ye1, ye2⟩ := P_say.good sy157 hF2
                  have hl2 := hlt _ _ _ yF
                  first
                  | (exfalso; omega)
                  | (refine ⟨rfl, rfl, pf157, _, _, _, _, hp157, hd157, by omega, by omega, fun d j d0 dc j0 j1 => Iff.rfl, ?_⟩
                     refine P_say.no' (k := 2) (w := a153 + 1) (by omega) (by omega) ?_ (by omega)
                     rw [ei]
                     unfold P_piece
                     rw [uF]
                     show (if S u2 = 45 then _ else _) = _
                     rw [if_pos (by rw [← ue2]; omega), ← ue2]
                     rw [yF]
                     show (if y1 < u1 then _ else _) = _
                     rw [if_pos (by omega)])
                · have hF := P_say.bad sy157 hF2
                  refine ⟨rfl, rfl, pf157, _, _, _, _, hp157, hd157, by omega, by omega, fun d j d0 dc j0 j1 => Iff.rfl, ?_⟩
                  refine P_say.no' (k := f157) (w := pl157) (by omega) (by omega) ?_ hF2
                  rw [ei]
                  unfold P_piece
                  rw [uF]
                  show (if S u2 = 45 then _ else _) = _
                  rw [if_pos (by rw [← ue2]; omega), ← ue2]
                  rw [hF]
              · obtain rfl : f157 = 0 := by omega
                refine Z_go (f2 := (137, [(3, .int (Zi z157)), (4, .int (Zi (a153 + 1))), (2, .int (Zi z153)), (0, .ref o), (1, .int (Zi c))], [.ref o])) (fun _ => rfl) ?_
                refine C_gr rfl hs hp157.1.1 (by decide) (Nat.le_of_ble_eq_true rfl) rfl hp157.1.2.2.1 ?_
                refine Z_go (f2 := (141, [(3, .int (Zi z157)), (4, .int (Zi (a153 + 1))), (2, .int (Zi z153)), (0, .ref o), (1, .int (Zi c))], [.int (Zi c), .ref tr])) (fun _ => rfl) ?_
                refine Z_go (f2 := (142, [(3, .int (Zi z157)), (4, .int (Zi (a153 + 1))), (2, .int (Zi z153)), (0, .ref o), (1, .int (Zi c))], [.int (Zi z153), .int (Zi c), .ref tr])) (fun _ => rfl) ?_
                refine Z_go (f2 := (143, [(3, .int (Zi z157)), (4, .int (Zi (a153 + 1))), (2, .int (Zi z153)), (0, .ref o), (1, .int (Zi c))], [.int (Zi z157), .int (Zi z153), .int (Zi c), .ref tr])) (fun _ => rfl) ?_
                have wf158 := hs.1
                refine C_callV (As := [.int (Zi c), .int (Zi z153), .int (Zi z157)]) (rest := []) rfl (by decide) rfl (by decide) rfl rfl (by decide +kernel) (Nat.le_of_ble_eq_true rfl) hs hd157.1.1 (C_rng _ hd157 (c := c) (lo := z153) (hi := z157) (by omega) (by omega) (by omega) (by omega) (by omega) (by omega)) (fun x h v158 n158 hs q => ?_)
                obtain ⟨rfl, rfl, fr158, en158, β158, hd158, hb158⟩ := q
                have hp158 := hp157.sub wf158 fr158
                have pf158 := pf157.on fr158 en158
                have hne := hp158.ne hd158
                show B_R _ _ (146, [(3, .int (Zi z157)), (4, .int (Zi (a153 + 1))), (2, .int (Zi z153)), (0, .ref o), (1, .int (Zi c))], []) _ _ _
                refine Z_ret rfl rfl ⟨_, hs, ?_⟩
                try dsimp only
                obtain ⟨u1, u2, uF, ue1, ue2⟩ := P_say.good sy153 (by omega)
                have hl := hlt _ _ _ uF
                obtain ⟨y1, y2, yF, ye1, ye2⟩ := P_say.good sy157 (by omega)
                have hl2 := hlt _ _ _ yF
                have ei : P_item S a = P_piece S a := by
                  unfold P_item
                  rw [if_neg (fun h => by have h1 := h.1; have h2 := h.2; omega)]
                refine ⟨rfl, rfl, pf158, _, _, _, _, hp158, hd158, by omega, by omega, ?_, ?_⟩
                · intro d j d0 dc j0 j1
                  rw [hb158 d j d0 j0 j1]
                  exact ⟨fun h => h.elim id (fun h => absurd h.1 dc), .inl⟩
                · refine P_say.ok' (by omega) (v := fun x => u1 ≤ x ∧ x ≤ y1) (b := y2) ?_ ⟨by omega, by omega, by omega, fun j j0 j1 => ?_⟩
                  · rw [ei]
                    unfold P_piece
                    rw [uF]
                    show (if S u2 = 45 then _ else _) = _
                    rw [if_pos (by rw [← ue2]; omega), ← ue2]
                    rw [yF]
                    show (if y1 < u1 then _ else _) = _
                    rw [if_neg (by omega)]
                  · rw [hb158 c j c0 j0 j1]
                    exact ⟨fun h => h.imp id (fun h => ⟨by omega, by omega⟩), fun h => h.imp id (fun h => ⟨rfl, by omega, by omega⟩)⟩
            · refine Z_go (f2 := (123, [(3, .int (Zi z157)), (4, .int (Zi (a153 + 1))), (2, .int (Zi z153)), (0, .ref o), (1, .int (Zi c))], [.ref o])) (fun _ => rfl) ?_
              refine Z_go (f2 := (124, [(3, .int (Zi z157)), (4, .int (Zi (a153 + 1))), (2, .int (Zi z153)), (0, .ref o), (1, .int (Zi c))], [.int (Zi 2), .ref o])) (fun _ => rfl) ?_
              refine Z_go (f2 := (126, [(3, .int (Zi z157)), (4, .int (Zi (a153 + 1))), (2, .int (Zi z153)), (0, .ref o), (1, .int (Zi c))], [.int (Zi (a153 + 1)), .int (Zi 2), .ref o])) (fun _ => rfl) ?_
              have wf159 := hs.1
              refine C_callV (As := [.int (Zi 2), .int (Zi (a153 + 1))]) (rest := []) rfl (by decide) rfl (by decide) rfl rfl (by decide +kernel) (Nat.le_of_ble_eq_true rfl) hs hp157.1.1 (C_fail _ hp157 (kd := 2) (wh := a153 + 1) (by first | exact hs.zF _ _ | exact Zor_r _ _ | exact hs.zA _ _ | assumption | exact zA _ _ | exact zS _ | exact Zr_not (hs.zA _ _) | exact hs.1.1 _ _ | exact ⟨by omega, by omega⟩) (by first | exact hs.zF _ _ | exact Zor_r _ _ | exact hs.zA _ _ | assumption | exact zA _ _ | exact zS _ | exact Zr_not (hs.zA _ _) | exact hs.1.1 _ _ | exact ⟨by omega, by omega⟩) (by decide)) (fun x h v159 n159 hs q => ?_)
              obtain ⟨rfl, rfl, pq159, hp159⟩ := q
              have pf159 := pf157.trO pq159
              have hd159 := hd157.po wf159 pq159
              have hne := hp159.ne hd159
              obtain ⟨fg159, efg159⟩ : ∃ z : Int, z = (if f157 = 0 then 2 else f157) := ⟨_, rfl⟩
              obtain ⟨pg159, epg159⟩ : ∃ z : Int, z = (if f157 = 0 then a153 + 1 else pl157) := ⟨_, rfl⟩
              rw [← efg159, ← epg159] at hp159
              obtain ⟨zzf159, zzp159, zza159, _⟩ := hp159.z hs
              show B_R _ _ (129, [(3, .int (Zi z157)), (4, .int (Zi (a153 + 1))), (2, .int (Zi z153)), (0, .ref o), (1, .int (Zi c))], []) _ _ _
              refine Z_go (f2 := (130, [(3, .int (Zi z157)), (4, .int (Zi (a153 + 1))), (2, .int (Zi z153)), (0, .ref o), (1, .int (Zi c))], [.ref o])) (fun _ => rfl) ?_
              refine C_gi rfl hs hp159.1.1 (by decide) (Nat.le_of_ble_eq_true rfl) rfl ?_
              rw [show C_F (v159) o 1 = fg159 from (by first | exact hp159.1.2.2.2.2.2.2.1 | exact (if_neg (fun e => absurd e.1 (by assumption))).trans hp159.1.2.2.2.2.2.2.1 | exact (if_neg (fun e => absurd e.2 (by decide))).trans hp159.1.2.2.2.2.2.2.1 | exact (if_neg (fun e => absurd e.2 (by decide))).trans ((if_neg (fun e => absurd e.2 (by decide))).trans hp159.1.2.2.2.2.2.2.1) | exact (if_neg (fun e => absurd e.2 (by decide))).trans ((if_neg (fun e => absurd e.2 (by decide))).trans ((if_neg (fun e => absurd e.2 (by decide))).trans hp159.1.2.2.2.2.2.2.1)))]
              show B_R _ _ (133, [(3, .int (Zi z157)), (4, .int (Zi (a153 + 1))), (2, .int (Zi z153)), (0, .ref o), (1, .int (Zi c))], [.int (Zi fg159)]) _ _ _
              refine Z_ine rfl rfl (by first | exact hs.zF _ _ | exact Zor_r _ _ | exact hs.zA _ _ | assumption | exact zA _ _ | exact zS _ | exact Zr_not (hs.zA _ _) | exact hs.1.1 _ _ | exact ⟨by omega, by omega⟩) (fun c24 => ?_) (fun c24 => ?_)
              · refine Z_ret rfl rfl ⟨_, hs, ?_⟩
                try dsimp only
                obtain ⟨u1, u2, uF, ue1, ue2⟩ := P_say.good sy153 (by omega)
                have hl := hlt _ _ _ uF
                have ei : P_item S a = P_piece S a := by
                  unfold P_item
                  rw [if_neg (fun h => by have h1 := h.1; have h2 := h.2; omega)]
                by_cases hF2 : f157 = 0
                · obtain ⟨y1, y2, yF, ye1, ye2⟩ := P_say.good sy157 hF2
                  have hl2 := hlt _ _ _ yF
                  first
                  | (exfalso; omega)
                  | (refine ⟨rfl, rfl, pf159, _, _, _, _, hp159, hd159, by omega, by omega, fun d j d0 dc j0 j1 => Iff.rfl, ?_⟩
                     refine P_say.no' (k := 2) (w := a153 + 1) (by omega) (by omega) ?_ (by omega)
                     rw [ei]
                     unfold P_piece
                     rw [uF]
                     show (if S u2 = 45 then _ else _) = _
                     rw [if_pos (by rw [← ue2]; omega), ← ue2]
                     rw [yF]
                     show (if y1 < u1 then _ else _) = _
                     rw [if_pos (by omega)])
                · have hF := P_say.bad sy157 hF2
                  refine ⟨rfl, rfl, pf159, _, _, _, _, hp159, hd159, by omega, by omega, fun d j d0 dc j0 j1 => Iff.rfl, ?_⟩
                  refine P_say.no' (k := f157) (w := pl157) (by omega) (by omega) ?_ hF2
                  rw [ei]
                  unfold P_piece
                  rw [uF]
                  show (if S u2 = 45 then _ else _) = _
                  rw [if_pos (by rw [← ue2]; omega), ← ue2]
                  rw [hF]
              · obtain rfl : fg159 = 0 := by omega
                refine Z_go (f2 := (137, [(3, .int (Zi z157)), (4, .int (Zi (a153 + 1))), (2, .int (Zi z153)), (0, .ref o), (1, .int (Zi c))], [.ref o])) (fun _ => rfl) ?_
                refine C_gr rfl hs hp159.1.1 (by decide) (Nat.le_of_ble_eq_true rfl) rfl hp159.1.2.2.1 ?_
                refine Z_go (f2 := (141, [(3, .int (Zi z157)), (4, .int (Zi (a153 + 1))), (2, .int (Zi z153)), (0, .ref o), (1, .int (Zi c))], [.int (Zi c), .ref tr])) (fun _ => rfl) ?_
                refine Z_go (f2 := (142, [(3, .int (Zi z157)), (4, .int (Zi (a153 + 1))), (2, .int (Zi z153)), (0, .ref o), (1, .int (Zi c))], [.int (Zi z153), .int (Zi c), .ref tr])) (fun _ => rfl) ?_
                refine Z_go (f2 := (143, [(3, .int (Zi z157)), (4, .int (Zi (a153 + 1))), (2, .int (Zi z153)), (0, .ref o), (1, .int (Zi c))], [.int (Zi z157), .int (Zi z153), .int (Zi c), .ref tr])) (fun _ => rfl) ?_
                have wf160 := hs.1
                refine C_callV (As := [.int (Zi c), .int (Zi z153), .int (Zi z157)]) (rest := []) rfl (by decide) rfl (by decide) rfl rfl (by decide +kernel) (Nat.le_of_ble_eq_true rfl) hs hd159.1.1 (C_rng _ hd159 (c := c) (lo := z153) (hi := z157) (by omega) (by omega) (by omega) (by omega) (by omega) (by omega)) (fun x h v160 n160 hs q => ?_)
                obtain ⟨rfl, rfl, fr160, en160, β160, hd160, hb160⟩ := q
                have hp160 := hp159.sub wf160 fr160
                have pf160 := pf159.on fr160 en160
                have hne := hp160.ne hd160
                show B_R _ _ (146, [(3, .int (Zi z157)), (4, .int (Zi (a153 + 1))), (2, .int (Zi z153)), (0, .ref o), (1, .int (Zi c))], []) _ _ _
                refine Z_ret rfl rfl ⟨_, hs, ?_⟩
                try dsimp only
                obtain ⟨u1, u2, uF, ue1, ue2⟩ := P_say.good sy153 (by omega)
                have hl := hlt _ _ _ uF
                obtain ⟨y1, y2, yF, ye1, ye2⟩ := P_say.good sy157 (by omega)
                have hl2 := hlt _ _ _ yF
                have ei : P_item S a = P_piece S a := by
                  unfold P_item
                  rw [if_neg (fun h => by have h1 := h.1; have h2 := h.2; omega)]
                refine ⟨rfl, rfl, pf160, _, _, _, _, hp160, hd160, by omega, by omega, ?_, ?_⟩
                · intro d j d0 dc j0 j1
                  rw [hb160 d j d0 j0 j1]
                  exact ⟨fun h => h.elim id (fun h => absurd h.1 dc), .inl⟩
                · refine P_say.ok' (by omega) (v := fun x => u1 ≤ x ∧ x ≤ y1) (b := y2) ?_ ⟨by omega, by omega, by omega, fun j j0 j1 => ?_⟩
                  · rw [ei]
                    unfold P_piece
                    rw [uF]
                    show (if S u2 = 45 then _ else _) = _
                    rw [if_pos (by rw [← ue2]; omega), ← ue2]
                    rw [yF]
                    show (if y1 < u1 then _ else _) = _
                    rw [if_neg (by omega)]
                  · rw [hb160 c j c0 j0 j1]
                    exact ⟨fun h => h.imp id (fun h => ⟨by omega, by omega⟩), fun h => h.imp id (fun h => ⟨rfl, by omega, by omega⟩)⟩
      · refine Z_go (f2 := (42, [(0, .ref o), (1, .int (Zi c))], [.ref o])) (fun _ => rfl) ?_
        refine C_gr rfl hs hp.1.1 (by decide) (Nat.le_of_ble_eq_true rfl) rfl hp.1.2.2.1 ?_
        refine Z_go (f2 := (46, [(0, .ref o), (1, .int (Zi c))], [.int (Zi c), .ref tr])) (fun _ => rfl) ?_
        refine Z_go (f2 := (47, [(0, .ref o), (1, .int (Zi c))], [.ref o, .int (Zi c), .ref tr])) (fun _ => rfl) ?_
        refine C_gr rfl hs hp.1.1 (by decide) (Nat.le_of_ble_eq_true rfl) rfl hp.1.2.2.2.1 ?_
        refine Z_go (f2 := (51, [(0, .ref o), (1, .int (Zi c))], [.ref o, .ref src, .int (Zi c), .ref tr])) (fun _ => rfl) ?_
        refine C_gi rfl hs hp.1.1 (by decide) (Nat.le_of_ble_eq_true rfl) rfl ?_
        rw [show C_F (s) o 5 = a from (by first | exact hp.1.2.2.2.2.2.2.2.2.2.1 | exact (if_neg (fun e => absurd e.1 (by assumption))).trans hp.1.2.2.2.2.2.2.2.2.2.1 | exact (if_neg (fun e => absurd e.2 (by decide))).trans hp.1.2.2.2.2.2.2.2.2.2.1 | exact (if_neg (fun e => absurd e.2 (by decide))).trans ((if_neg (fun e => absurd e.2 (by decide))).trans hp.1.2.2.2.2.2.2.2.2.2.1) | exact (if_neg (fun e => absurd e.2 (by decide))).trans ((if_neg (fun e => absurd e.2 (by decide))).trans ((if_neg (fun e => absurd e.2 (by decide))).trans hp.1.2.2.2.2.2.2.2.2.2.1)))]
        show B_R _ _ (54, [(0, .ref o), (1, .int (Zi c))], [.int (Zi a), .ref src, .int (Zi c), .ref tr]) _ _ _
        refine Z_go (f2 := (55, [(0, .ref o), (1, .int (Zi c))], [.int (Zi 1), .int (Zi a), .ref src, .int (Zi c), .ref tr])) (fun _ => rfl) ?_
        refine Z_iadd rfl ?_
        refine C_callSR (vs := [.ref src, .int (Zi (a + 1))]) (rest := [.int (Zi c), .ref tr]) rfl (by decide) rfl rfl rfl (Nat.le_of_ble_eq_true rfl) hs (C_byteOf _ hp.1.2.2.2.2.1 (i := a + 1) (by first | exact hs.zF _ _ | exact Zor_r _ _ | exact hs.zA _ _ | assumption | exact zA _ _ | exact zS _ | exact Zr_not (hs.zA _ _) | exact hs.1.1 _ _ | exact ⟨by omega, by omega⟩)) (fun x q => ?_)
        rw [if_pos ⟨by omega, by have := hp.2.2.2.1; omega⟩, (hp.2.1 (a + 1) (by omega) (by omega)).1] at q
        obtain rfl := q
        show B_R _ _ (59, [(0, .ref o), (1, .int (Zi c))], [.int (Zi (S (a + 1))), .int (Zi c), .ref tr]) _ _ _
        have wf161 := hs.1
        refine C_callV (As := [.int (Zi c), .int (Zi (S (a + 1)))]) (rest := []) rfl (by decide) rfl (by decide) rfl rfl (by decide +kernel) (Nat.le_of_ble_eq_true rfl) hs hd.1.1 (C_named _ hd (c := c) (nm := S (a + 1)) (by omega) (by omega) (by omega)) (fun x h v161 n161 hs q => ?_)
        obtain ⟨rfl, rfl, fr161, en161, β161, hd161, hb161⟩ := q
        have hp161 := hp.sub wf161 fr161
        have pf161 := (D_Pf.refl p s).on fr161 en161
        have hne := hp161.ne hd161
        show B_R _ _ (62, [(0, .ref o), (1, .int (Zi c))], []) _ _ _
        refine Z_go (f2 := (63, [(0, .ref o), (1, .int (Zi c))], [.ref o])) (fun _ => rfl) ?_
        refine Z_go (f2 := (64, [(0, .ref o), (1, .int (Zi c))], [.ref o, .ref o])) (fun _ => rfl) ?_
        refine C_gi rfl hs hp161.1.1 (by decide) (Nat.le_of_ble_eq_true rfl) rfl ?_
        rw [show C_F (v161) o 5 = a from (by first | exact hp161.1.2.2.2.2.2.2.2.2.2.1 | exact (if_neg (fun e => absurd e.1 (by assumption))).trans hp161.1.2.2.2.2.2.2.2.2.2.1 | exact (if_neg (fun e => absurd e.2 (by decide))).trans hp161.1.2.2.2.2.2.2.2.2.2.1 | exact (if_neg (fun e => absurd e.2 (by decide))).trans ((if_neg (fun e => absurd e.2 (by decide))).trans hp161.1.2.2.2.2.2.2.2.2.2.1) | exact (if_neg (fun e => absurd e.2 (by decide))).trans ((if_neg (fun e => absurd e.2 (by decide))).trans ((if_neg (fun e => absurd e.2 (by decide))).trans hp161.1.2.2.2.2.2.2.2.2.2.1)))]
        show B_R _ _ (67, [(0, .ref o), (1, .int (Zi c))], [.int (Zi a), .ref o]) _ _ _
        refine Z_go (f2 := (68, [(0, .ref o), (1, .int (Zi c))], [.int (Zi 2), .int (Zi a), .ref o])) (fun _ => rfl) ?_
        refine Z_iadd rfl ?_
        refine C_pi rfl hs hp161.1.1 (by decide) (Nat.le_of_ble_eq_true rfl) (.inl rfl) rfl rfl rfl (by first | exact hs.zF _ _ | exact Zor_r _ _ | exact hs.zA _ _ | assumption | exact zA _ _ | exact zS _ | exact Zr_not (hs.zA _ _) | exact hs.1.1 _ _ | exact ⟨by omega, by omega⟩) (fun h hs => ?_)
        refine Z_ret rfl rfl ⟨_, hs, ?_⟩
        try dsimp only
        refine ⟨rfl, rfl, (pf161.sF hp161.1.2.1), _, _, _, _, (hp161.aa (a + 2)), (hd161.oF hne), by omega, by omega, ?_, ?_⟩
        · intro d j d0 dc j0 j1
          rw [hb161 d j d0 j0 j1]
          exact ⟨fun h => h.elim id (fun h => absurd h.1 dc), .inl⟩
        · refine P_say.ok (v := D_kd (S (a + 1))) (b := a + 2) ?_ ⟨rfl, by omega, by omega, fun j j0 j1 => ?_⟩
          · unfold P_item
            rw [if_pos ⟨by omega, by omega⟩]
          · rw [hb161 c j c0 j0 j1]
            exact ⟨fun h => h.imp id (fun h => h.2), fun h => h.imp id (fun h => ⟨rfl, h⟩)⟩
