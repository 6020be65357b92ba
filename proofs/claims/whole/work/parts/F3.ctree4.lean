/-! the class: Tree: a new set -/
theorem C_rchk (d : Nat) {k i j : Int} (zk : Zr k) (zi : Zr i) (zj : Zr j) (h1 : i ≤ j) (h2 : 0 ≤ i) (h3 : j ≤ k) : Q_ok (d + 1) 290 [.int (Zi k), .int (Zi i), .int (Zi j)] (fun x => x = none) := by
  refine Q_enter (M := E_m290) rfl (Nat.le_of_ble_eq_true rfl) (fun h => ?_)
  show B_R d _ (0, [(0, .int (Zi k)), (1, .int (Zi i)), (2, .int (Zi j))], []) _ _ _
  refine Z_go (f2 := (1, [(0, .int (Zi k)), (1, .int (Zi i)), (2, .int (Zi j))], [.int (Zi i)])) (fun _ => rfl) ?_
  refine Z_go (f2 := (2, [(0, .int (Zi k)), (1, .int (Zi i)), (2, .int (Zi j))], [.int (Zi j), .int (Zi i)])) (fun _ => rfl) ?_
  refine Z_cle rfl rfl (by first | exact hs.zF _ _ | exact Zor_r _ _ | exact hs.zA _ _ | assumption | exact zA _ _ | exact zS _ | exact Zr_not (hs.zA _ _) | exact hs.1.1 _ _ | exact ⟨by omega, by omega⟩) (by first | exact hs.zF _ _ | exact Zor_r _ _ | exact hs.zA _ _ | assumption | exact zA _ _ | exact zS _ | exact Zr_not (hs.zA _ _) | exact hs.1.1 _ _ | exact ⟨by omega, by omega⟩) (fun c1 => ?_) (fun c1 => ?_)
  · refine Z_go (f2 := (47, [(0, .int (Zi k)), (1, .int (Zi i)), (2, .int (Zi j))], [.int (Zi i)])) (fun _ => rfl) ?_
    refine Z_ige rfl rfl (by first | exact hs.zF _ _ | exact Zor_r _ _ | exact hs.zA _ _ | assumption | exact zA _ _ | exact zS _ | exact Zr_not (hs.zA _ _) | exact hs.1.1 _ _ | exact ⟨by omega, by omega⟩) (fun c2 => ?_) (fun c2 => ?_)
    · refine Z_go (f2 := (60, [(0, .int (Zi k)), (1, .int (Zi i)), (2, .int (Zi j))], [.int (Zi j)])) (fun _ => rfl) ?_
      refine Z_go (f2 := (61, [(0, .int (Zi k)), (1, .int (Zi i)), (2, .int (Zi j))], [.int (Zi k), .int (Zi j)])) (fun _ => rfl) ?_
      refine Z_cle rfl rfl (by first | exact hs.zF _ _ | exact Zor_r _ _ | exact hs.zA _ _ | assumption | exact zA _ _ | exact zS _ | exact Zr_not (hs.zA _ _) | exact hs.1.1 _ _ | exact ⟨by omega, by omega⟩) (by first | exact hs.zF _ _ | exact Zor_r _ _ | exact hs.zA _ _ | assumption | exact zA _ _ | exact zS _ | exact Zr_not (hs.zA _ _) | exact hs.1.1 _ _ | exact ⟨by omega, by omega⟩) (fun c3 => ?_) (fun c3 => ?_)
      · refine Z_ret rfl rfl ⟨rfl, rfl, ?_⟩
        try dsimp only
        try rfl
      · exfalso; omega
    · exfalso; omega
  · exfalso; omega
theorem Q_ok.ok {d a : Nat} {vs : List Value} {post : Option Value → Prop} (q : Q_ok d a vs post) (s : C_S) : C_ok d a vs s (fun x s2 n => s2 = s ∧ n = 0 ∧ post x) := fun h0 h hs => (q h).weak (fun r ⟨e1, e2, e3⟩ => ⟨s, by rw [e1]; exact hs, rfl, e2, e3⟩)
theorem C_fillL_lp {d : Nat} {h0 : E_H} {s : C_S} {p : List Nat} {o : Nat} {A : Nat → Nat} {m sm : Int} {τ : Nat → Int → Int} {β : Int → Int64} {a b : Int} (a0 : 0 ≤ a) (b1 : b ≤ 320) : ∀ (t : Nat) (i : Int) (u : C_S) (h : E_H), b - i < t → C_is h0 h u → D_Tr u p o A m sm τ (fun j => if a ≤ j ∧ j < i then 0 else β j) → C_fr (fun t => t = p) s u → C_n u = C_n s → a ≤ i → i ≤ b → B_R d E_m291 (10, [(5, .int (Zi i)), (0, .ref (A 9)), (1, .int (Zi a)), (2, .int (Zi b)), (3, .long (0))], []) h 0 (fun r => ∃ s2 : C_S, C_is h0 r.2.1 s2 ∧ (fun (x : Option Value) (s2 : C_S) (n : Nat) => x = none ∧ n = 0 ∧ C_fr (fun t => t = p) s s2 ∧ C_n s2 = C_n s ∧ D_Tr s2 p o A m sm τ (fun j => if a ≤ j ∧ j < b then 0 else β j)) r.1 s2 r.2.2) := by
  intro t
  induction t with
  | zero => intro i u h ht hs hd fr en i0 i1; omega
  | succ t ih =>
    intro i u h ht hs hd fr en i0 i1
    have ka := (hd.2.1 9 (by decide)).2.2
    refine Z_go (f2 := (12, [(5, .int (Zi i)), (0, .ref (A 9)), (1, .int (Zi a)), (2, .int (Zi b)), (3, .long (0))], [.int (Zi i)])) (fun _ => rfl) ?_
    refine Z_go (f2 := (13, [(5, .int (Zi i)), (0, .ref (A 9)), (1, .int (Zi a)), (2, .int (Zi b)), (3, .long (0))], [.int (Zi b), .int (Zi i)])) (fun _ => rfl) ?_
    refine Z_cge rfl rfl (by first | exact hs.zF _ _ | exact Zor_r _ _ | exact hs.zA _ _ | assumption | exact zA _ _ | exact zS _ | exact Zr_not (hs.zA _ _) | exact hs.1.1 _ _ | exact ⟨by omega, by omega⟩) (by first | exact hs.zF _ _ | exact Zor_r _ _ | exact hs.zA _ _ | assumption | exact zA _ _ | exact zS _ | exact Zr_not (hs.zA _ _) | exact hs.1.1 _ _ | exact ⟨by omega, by omega⟩) (fun c1 => ?_) (fun c1 => ?_)
    · refine Z_ret rfl rfl ⟨_, hs, ?_⟩
      try dsimp only
      have ei : i = b := by omega
      subst ei
      exact ⟨rfl, rfl, fr, en, hd⟩
    · refine Z_go (f2 := (17, [(5, .int (Zi i)), (0, .ref (A 9)), (1, .int (Zi a)), (2, .int (Zi b)), (3, .long (0))], [.ref (A 9)])) (fun _ => rfl) ?_
      refine Z_go (f2 := (19, [(5, .int (Zi i)), (0, .ref (A 9)), (1, .int (Zi a)), (2, .int (Zi b)), (3, .long (0))], [.int (Zi i), .ref (A 9)])) (fun _ => rfl) ?_
      refine Z_go (f2 := (20, [(5, .int (Zi i)), (0, .ref (A 9)), (1, .int (Zi a)), (2, .int (Zi b)), (3, .long (0))], [.long (0), .int (Zi i), .ref (A 9)])) (fun _ => rfl) ?_
      refine C_ls rfl hs ka (by omega) (by omega) (fun h hs => ?_)
      refine Z_iinc (L2 := [(5, .int (Zi (i + 1))), (0, .ref (A 9)), (1, .int (Zi a)), (2, .int (Zi b)), (3, .long (0))]) rfl rfl (by decide) rfl ?_
      refine Z_go (f2 := (10, [(5, .int (Zi (i + 1))), (0, .ref (A 9)), (1, .int (Zi a)), (2, .int (Zi b)), (3, .long (0))], [])) (fun _ => rfl) ?_
      refine B_loc (K := [(5, .int (Zi (i + 1))), (0, .ref (A 9)), (1, .int (Zi a)), (2, .int (Zi b)), (3, .long (0))]) (N_all_sub ⟨rfl, rfl, rfl, rfl, rfl, trivial⟩) (show ([5, 0, 1, 2, 3] : List Nat).Nodup by decide) ?_
      refine ih (i + 1) _ h (by omega) hs ?_ (fr.sL (hd.2.1 9 (by decide)).2.1) en (by omega) (by omega)
      have h2 := hd.setb i 0
      have e : (fun j => if j = i then (0 : Int64) else if a ≤ j ∧ j < i then 0 else β j) = (fun j => if a ≤ j ∧ j < i + 1 then 0 else β j) := by
        funext j
        by_cases c : j = i
        · rw [if_pos c, if_pos (by omega)]
        · rw [if_neg c]
          by_cases c2 : a ≤ j ∧ j < i
          · rw [if_pos c2, if_pos (by omega)]
          · rw [if_neg c2, if_neg (by omega)]
      rw [e] at h2
      exact h2
theorem C_fillL (d : Nat) {s : C_S} {p : List Nat} {o : Nat} {A : Nat → Nat} {m sm : Int} {τ : Nat → Int → Int} {β : Int → Int64} {a b : Int} (hd : D_Tr s p o A m sm τ β) (a0 : 0 ≤ a) (ab : a ≤ b) (b1 : b ≤ 320) : C_ok (d + 2) 291 [.ref (A 9), .int (Zi a), .int (Zi b), .long 0] s (fun x s2 n => x = none ∧ n = 0 ∧ C_fr (fun t => t = p) s s2 ∧ C_n s2 = C_n s ∧ D_Tr s2 p o A m sm τ (fun j => if a ≤ j ∧ j < b then 0 else β j)) := by
  refine C_enter (M := E_m291) rfl (Nat.le_of_ble_eq_true rfl) (fun h0 h hs => ?_)
  show B_R (d + 1) _ (0, [(0, .ref (A 9)), (1, .int (Zi a)), (2, .int (Zi b)), (3, .long (0))], []) _ _ _
  have ka := (hd.2.1 9 (by decide)).2.2
  refine Z_go (f2 := (1, [(0, .ref (A 9)), (1, .int (Zi a)), (2, .int (Zi b)), (3, .long (0))], [.ref (A 9)])) (fun _ => rfl) ?_
  refine C_al rfl hs ka (by decide) ?_
  show B_R _ _ (2, [(0, .ref (A 9)), (1, .int (Zi a)), (2, .int (Zi b)), (3, .long (0))], [.int (Zi 320)]) _ _ _
  refine Z_go (f2 := (3, [(0, .ref (A 9)), (1, .int (Zi a)), (2, .int (Zi b)), (3, .long (0))], [.int (Zi a), .int (Zi 320)])) (fun _ => rfl) ?_
  refine Z_go (f2 := (4, [(0, .ref (A 9)), (1, .int (Zi a)), (2, .int (Zi b)), (3, .long (0))], [.int (Zi b), .int (Zi a), .int (Zi 320)])) (fun _ => rfl) ?_
  refine C_callJ (vs := [.int (Zi 320), .int (Zi a), .int (Zi b)]) (rest := []) rfl (by decide) (by decide) rfl rfl rfl (Nat.le_of_ble_eq_true rfl) hs ((C_rchk _ (k := 320) (i := a) (j := b) (by first | exact hs.zF _ _ | exact Zor_r _ _ | exact hs.zA _ _ | assumption | exact zA _ _ | exact zS _ | exact Zr_not (hs.zA _ _) | exact hs.1.1 _ _ | exact ⟨by omega, by omega⟩) (by first | exact hs.zF _ _ | exact Zor_r _ _ | exact hs.zA _ _ | assumption | exact zA _ _ | exact zS _ | exact Zr_not (hs.zA _ _) | exact hs.1.1 _ _ | exact ⟨by omega, by omega⟩) (by first | exact hs.zF _ _ | exact Zor_r _ _ | exact hs.zA _ _ | assumption | exact zA _ _ | exact zS _ | exact Zr_not (hs.zA _ _) | exact hs.1.1 _ _ | exact ⟨by omega, by omega⟩) ab a0 b1).ok _) (fun x h u nr hs q => ?_)
  have hsn := hs
  obtain ⟨rfl, rfl, rfl⟩ := q
  have hs := hsn
  show B_R _ _ (7, [(0, .ref (A 9)), (1, .int (Zi a)), (2, .int (Zi b)), (3, .long (0))], []) _ _ _
  refine Z_go (f2 := (8, [(0, .ref (A 9)), (1, .int (Zi a)), (2, .int (Zi b)), (3, .long (0))], [.int (Zi a)])) (fun _ => rfl) ?_
  refine Z_go (f2 := (10, [(5, .int (Zi a)), (0, .ref (A 9)), (1, .int (Zi a)), (2, .int (Zi b)), (3, .long (0))], [])) (fun _ => rfl) ?_
  refine B_loc (K := [(5, .int (Zi a)), (0, .ref (A 9)), (1, .int (Zi a)), (2, .int (Zi b)), (3, .long (0))]) (N_all_sub ⟨rfl, rfl, rfl, rfl, rfl, trivial⟩) (show ([5, 0, 1, 2, 3] : List Nat).Nodup by decide) ?_
  have e : (fun j => if a ≤ j ∧ j < a then (0 : Int64) else β j) = β := by
    funext j
    rw [if_neg (by omega)]
  exact C_fillL_lp a0 b1 ((b - a).toNat + 1) a _ _ (by omega) hs (by rw [e]; exact hd) (C_fr.refl _ _) rfl (by omega) (by omega)
theorem C_newSet (d : Nat) {s : C_S} {p : List Nat} {o : Nat} {A : Nat → Nat} {m sm : Int} {τ : Nat → Int → Int} {β : Int → Int64} (hd : D_Tr s p o A m sm τ β) : C_ok (d + 3) 135 [.ref o] s (fun x s2 n => n = 0 ∧ C_fr (fun t => t = p) s s2 ∧ C_n s2 = C_n s ∧ ∃ (sm2 : Int) (β2 : Int → Int64) (c : Int), x = some (.int (Zi c)) ∧ -1 ≤ c ∧ c < 80 ∧ D_Tr s2 p o A m sm2 τ β2 ∧ (∀ d j, T_has β2 d j ↔ T_has β d j ∧ d ≠ c) ∧ (sm < 80 → c = sm ∧ sm2 = sm + 1)) := by
  refine C_enter (M := E_m135) rfl (Nat.le_of_ble_eq_true rfl) (fun h0 h hs => ?_)
  show B_R (d + 2) _ (0, [(0, .ref o)], []) _ _ _
  have hs0 := hd.1.2.2.2.2.2.2.1
  have hs1 := hd.1.2.2.2.2.2.2.2
  have zsm : Zr sm := ⟨by omega, by omega⟩
  refine Z_go (f2 := (1, [(0, .ref o)], [.ref o])) (fun _ => rfl) ?_
  refine C_gi rfl hs (hd).1.1 (by decide) (Nat.le_of_ble_eq_true rfl) rfl ?_
  rw [show C_F (s) o 11 = sm from (by first | exact (hd).1.2.2.2.1 | exact (if_neg (fun e => absurd e.1 (by assumption))).trans (hd).1.2.2.2.1 | exact (if_neg (fun e => absurd e.2 (by decide))).trans (hd).1.2.2.2.1 | exact (if_neg (fun e => absurd e.2 (by decide))).trans ((if_neg (fun e => absurd e.2 (by decide))).trans (hd).1.2.2.2.1) | exact (if_neg (fun e => absurd e.2 (by decide))).trans ((if_neg (fun e => absurd e.2 (by decide))).trans ((if_neg (fun e => absurd e.2 (by decide))).trans (hd).1.2.2.2.1)))]
  show B_R _ _ (4, [(0, .ref o)], [.int (Zi sm)]) _ _ _
  refine Z_go (f2 := (5, [(1, .int (Zi sm)), (0, .ref o)], [])) (fun _ => rfl) ?_
  refine Z_go (f2 := (6, [(1, .int (Zi sm)), (0, .ref o)], [.int (Zi sm)])) (fun _ => rfl) ?_
  refine Z_go (f2 := (8, [(1, .int (Zi sm)), (0, .ref o)], [.int (Zi 80), .int (Zi sm)])) (fun _ => rfl) ?_
  refine Z_clt rfl rfl (by first | exact hs.zF _ _ | exact Zor_r _ _ | exact hs.zA _ _ | assumption | exact zA _ _ | exact zS _ | exact Zr_not (hs.zA _ _) | exact hs.1.1 _ _ | exact ⟨by omega, by omega⟩) (by first | exact hs.zF _ _ | exact Zor_r _ _ | exact hs.zA _ _ | assumption | exact zA _ _ | exact zS _ | exact Zr_not (hs.zA _ _) | exact hs.1.1 _ _ | exact ⟨by omega, by omega⟩) (fun c1 => ?_) (fun c1 => ?_)
  · refine Z_go (f2 := (14, [(1, .int (Zi sm)), (0, .ref o)], [.ref o])) (fun _ => rfl) ?_
    refine Z_go (f2 := (15, [(1, .int (Zi sm)), (0, .ref o)], [.ref o, .ref o])) (fun _ => rfl) ?_
    refine C_gi rfl hs (hd).1.1 (by decide) (Nat.le_of_ble_eq_true rfl) rfl ?_
    rw [show C_F (s) o 11 = sm from (by first | exact (hd).1.2.2.2.1 | exact (if_neg (fun e => absurd e.1 (by assumption))).trans (hd).1.2.2.2.1 | exact (if_neg (fun e => absurd e.2 (by decide))).trans (hd).1.2.2.2.1 | exact (if_neg (fun e => absurd e.2 (by decide))).trans ((if_neg (fun e => absurd e.2 (by decide))).trans (hd).1.2.2.2.1) | exact (if_neg (fun e => absurd e.2 (by decide))).trans ((if_neg (fun e => absurd e.2 (by decide))).trans ((if_neg (fun e => absurd e.2 (by decide))).trans (hd).1.2.2.2.1)))]
    show B_R _ _ (18, [(1, .int (Zi sm)), (0, .ref o)], [.int (Zi sm), .ref o]) _ _ _
    refine Z_go (f2 := (19, [(1, .int (Zi sm)), (0, .ref o)], [.int (Zi 1), .int (Zi sm), .ref o])) (fun _ => rfl) ?_
    refine Z_iadd rfl ?_
    refine C_pi rfl hs (hd).1.1 (by decide) (Nat.le_of_ble_eq_true rfl) (.inl rfl) rfl rfl rfl (by first | exact hs.zF _ _ | exact Zor_r _ _ | exact hs.zA _ _ | assumption | exact zA _ _ | exact zS _ | exact Zr_not (hs.zA _ _) | exact hs.1.1 _ _ | exact ⟨by omega, by omega⟩) (fun h hs => ?_)
    have hd0 := hd.setn (v := sm + 1) (by omega) (by omega)
    refine Z_go (f2 := (24, [(1, .int (Zi sm)), (0, .ref o)], [.ref o])) (fun _ => rfl) ?_
    refine C_gr rfl hs (hd0).1.1 (by decide) (Nat.le_of_ble_eq_true rfl) rfl ((hd0).2.1 9 (by decide)).1 ?_
    refine Z_go (f2 := (28, [(1, .int (Zi sm)), (0, .ref o)], [.int (Zi 4), .ref (A 9)])) (fun _ => rfl) ?_
    refine Z_go (f2 := (29, [(1, .int (Zi sm)), (0, .ref o)], [.int (Zi sm), .int (Zi 4), .ref (A 9)])) (fun _ => rfl) ?_
    refine Z_imul rfl ?_
    refine Z_go (f2 := (31, [(1, .int (Zi sm)), (0, .ref o)], [.int (Zi 4), .int (Zi (4 * sm)), .ref (A 9)])) (fun _ => rfl) ?_
    refine Z_go (f2 := (32, [(1, .int (Zi sm)), (0, .ref o)], [.int (Zi sm), .int (Zi 4), .int (Zi (4 * sm)), .ref (A 9)])) (fun _ => rfl) ?_
    refine Z_imul rfl ?_
    refine Z_go (f2 := (34, [(1, .int (Zi sm)), (0, .ref o)], [.int (Zi 4), .int (Zi (4 * sm)), .int (Zi (4 * sm)), .ref (A 9)])) (fun _ => rfl) ?_
    refine Z_iadd rfl ?_
    refine Z_go (f2 := (36, [(1, .int (Zi sm)), (0, .ref o)], [.long (0), .int (Zi (4 * sm + 4)), .int (Zi (4 * sm)), .ref (A 9)])) (fun _ => rfl) ?_
    refine C_callJ (vs := [.ref (A 9), .int (Zi (4 * sm)), .int (Zi (4 * sm + 4)), .long (0)]) (rest := []) rfl (by decide) (by decide) rfl rfl rfl (Nat.le_of_ble_eq_true rfl) hs (C_fillL _ hd0 (a := 4 * sm) (b := 4 * sm + 4) (by omega) (by omega) (by omega)) (fun x h v9 n9 hs q => ?_)
    obtain ⟨rfl, rfl, fr9, en9, hd9⟩ := q
    show B_R _ _ (39, [(1, .int (Zi sm)), (0, .ref o)], []) _ _ _
    refine Z_go (f2 := (40, [(1, .int (Zi sm)), (0, .ref o)], [.int (Zi sm)])) (fun _ => rfl) ?_
    refine Z_iret rfl rfl (by first | rfl | decide | exact narrow_b01 (by omega)) ⟨_, hs, ?_⟩
    try dsimp only
    refine ⟨rfl, ((C_fr.refl _ s).sF hd.1.2.1).tr fr9, en9, sm + 1, _, sm, rfl, by omega, by omega, hd9, fun d j => ?_, fun _ => ⟨rfl, rfl⟩⟩
    unfold T_has
    dsimp only
    by_cases e : d = sm
    · subst e
      constructor
      · rintro ⟨h1, h2, h3, h4⟩
        rw [if_pos (by omega)] at h4
        exact absurd h4 (T_bit_0 _)
      · intro h; exact absurd rfl h.2
    · constructor
      · rintro ⟨h1, h2, h3, h4⟩
        rw [if_neg (by omega)] at h4
        exact ⟨⟨h1, h2, h3, h4⟩, e⟩
      · rintro ⟨⟨h1, h2, h3, h4⟩, _⟩
        refine ⟨h1, h2, h3, ?_⟩
        rw [if_neg (by omega)]
        exact h4
  · refine Z_go (f2 := (12, [(1, .int (Zi sm)), (0, .ref o)], [.int (Zi (-1))])) (fun _ => rfl) ?_
    refine Z_iret rfl rfl (by first | rfl | decide | exact narrow_b01 (by omega)) ⟨_, hs, ?_⟩
    try dsimp only
    exact ⟨rfl, C_fr.refl _ _, rfl, sm, β, -1, rfl, by omega, by omega, hd, fun d j => ⟨fun h => ⟨h, by have := h.1; omega⟩, fun h => h.1⟩, fun h => by omega⟩
