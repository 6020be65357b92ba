/-! the class: Texts: compare, moveUp, write, put -/
theorem T_at_r {xs : List Int} (h : ∀ x ∈ xs, 0 ≤ x ∧ x < 256) (k : Int) : -1 ≤ L_at xs k ∧ L_at xs k < 256 := by
  by_cases c : 0 ≤ k ∧ k < xs.length
  · have := h _ (L_at_mem.mpr ⟨k, c.1, c.2, rfl⟩)
    omega
  · rw [L_at_out (by omega)]
    omega
theorem C_cmp_lp {d : Nat} {h0 h : E_H} {s : C_S} {p : List Nat} {o ra la m : Nat} {τ : Int → List Int} {tb N : Nat} {X : List Int} {i : Int} (hs : C_is h0 h s) (ht : D_Tx s p o ra la m τ) (hx : D_by s tb N X) (i0 : 0 ≤ i) (i1 : i < m) (hX : X.length ≤ 1000) : ∀ (t : Nat) (k : Int), ((τ i).length : Int) - k < t → 0 ≤ k → k ≤ (τ i).length → k ≤ X.length → (∀ j : Int, 0 ≤ j → j < k → L_at (τ i) j = L_at X j) → B_R (d + 2) E_m115 (3, [(4, .int (Zi k)), (0, .ref o), (1, .int (Zi i)), (2, .ref tb), (3, .int (Zi ((X.length : Int))))], []) h 0 (fun r => r.2.1 = h ∧ r.2.2 = 0 ∧ (fun x => ∃ z : Int, x = some (.int (Zi z)) ∧ -1000 ≤ z ∧ z ≤ 1000 ∧ (z < 0 ∧ L_lt (τ i) X ∨ z = 0 ∧ τ i = X ∨ 0 < z ∧ L_lt X (τ i))) r.1) := by
  have ht0 := ht
  have w := hs.1
  obtain ⟨⟨⟨tk, tt, tp, tq, rk, rt, lk, lt, tn, tl⟩, g1, g2⟩, g3⟩ := ht
  obtain ⟨xk, xl, xb, xa⟩ := hx
  have zN := (hs.len (by decide) xk).1
  have l60 := (g3 i ⟨by omega, by omega⟩).2.1
  intro t
  induction t with
  | zero => intro k ht k0 k1 k2 he; omega
  | succ t ih =>
    intro k ht k0 k1 k2 he
    refine Z_go (f2 := (5, [(4, .int (Zi k)), (0, .ref o), (1, .int (Zi i)), (2, .ref tb), (3, .int (Zi ((X.length : Int))))], [.int (Zi k)])) (fun _ => rfl) ?_
    refine Z_go (f2 := (6, [(4, .int (Zi k)), (0, .ref o), (1, .int (Zi i)), (2, .ref tb), (3, .int (Zi ((X.length : Int))))], [.ref o, .int (Zi k)])) (fun _ => rfl) ?_
    refine Z_go (f2 := (7, [(4, .int (Zi k)), (0, .ref o), (1, .int (Zi i)), (2, .ref tb), (3, .int (Zi ((X.length : Int))))], [.int (Zi i), .ref o, .int (Zi k)])) (fun _ => rfl) ?_
    refine C_callVR (As := [.int (Zi i)]) (rest := [.int (Zi k)]) rfl (by decide) rfl (by decide) rfl rfl (by decide +kernel) (Nat.le_of_ble_eq_true rfl) hs tk (C_lenOf _ ht0 (i := i) (by first | exact hs.zF _ _ | exact Zor_r _ _ | exact hs.zA _ _ | assumption | exact zA _ _ | exact zS _ | exact Zr_not (hs.zA _ _) | exact hs.1.1 _ _ | exact ⟨by omega, by omega⟩)) (fun x q => ?_)
    obtain ⟨ln81, eln81⟩ : ∃ z : Int, z = (if 0 ≤ i ∧ i < (m : Int) then ((τ i).length : Int) else 0) := ⟨_, rfl⟩
    rw [← eln81] at q
    obtain rfl := q
    have zln81 : 0 ≤ ln81 ∧ ln81 ≤ 60 := by rw [eln81]; split; exact ⟨by omega, by have := (g3 i ⟨by omega, by omega⟩).2.1; omega⟩; omega
    show B_R _ _ (10, [(4, .int (Zi k)), (0, .ref o), (1, .int (Zi i)), (2, .ref tb), (3, .int (Zi ((X.length : Int))))], [.int (Zi ln81), .int (Zi k)]) _ _ _
    refine Z_cge rfl rfl (by first | exact hs.zF _ _ | exact Zor_r _ _ | exact hs.zA _ _ | assumption | exact zA _ _ | exact zS _ | exact Zr_not (hs.zA _ _) | exact hs.1.1 _ _ | exact ⟨by omega, by omega⟩) (by first | exact hs.zF _ _ | exact Zor_r _ _ | exact hs.zA _ _ | assumption | exact zA _ _ | exact zS _ | exact Zr_not (hs.zA _ _) | exact hs.1.1 _ _ | exact ⟨by omega, by omega⟩) (fun c1 => ?_) (fun c1 => ?_)
    · refine Z_go (f2 := (50, [(4, .int (Zi k)), (0, .ref o), (1, .int (Zi i)), (2, .ref tb), (3, .int (Zi ((X.length : Int))))], [.ref o])) (fun _ => rfl) ?_
      refine Z_go (f2 := (51, [(4, .int (Zi k)), (0, .ref o), (1, .int (Zi i)), (2, .ref tb), (3, .int (Zi ((X.length : Int))))], [.int (Zi i), .ref o])) (fun _ => rfl) ?_
      refine C_callVR (As := [.int (Zi i)]) (rest := []) rfl (by decide) rfl (by decide) rfl rfl (by decide +kernel) (Nat.le_of_ble_eq_true rfl) hs tk (C_lenOf _ ht0 (i := i) (by first | exact hs.zF _ _ | exact Zor_r _ _ | exact hs.zA _ _ | assumption | exact zA _ _ | exact zS _ | exact Zr_not (hs.zA _ _) | exact hs.1.1 _ _ | exact ⟨by omega, by omega⟩)) (fun x q => ?_)
      obtain ⟨ln82, eln82⟩ : ∃ z : Int, z = (if 0 ≤ i ∧ i < (m : Int) then ((τ i).length : Int) else 0) := ⟨_, rfl⟩
      rw [← eln82] at q
      obtain rfl := q
      have zln82 : 0 ≤ ln82 ∧ ln82 ≤ 60 := by rw [eln82]; split; exact ⟨by omega, by have := (g3 i ⟨by omega, by omega⟩).2.1; omega⟩; omega
      show B_R _ _ (54, [(4, .int (Zi k)), (0, .ref o), (1, .int (Zi i)), (2, .ref tb), (3, .int (Zi ((X.length : Int))))], [.int (Zi ln82)]) _ _ _
      refine Z_go (f2 := (55, [(4, .int (Zi k)), (0, .ref o), (1, .int (Zi i)), (2, .ref tb), (3, .int (Zi ((X.length : Int))))], [.int (Zi ((X.length : Int))), .int (Zi ln82)])) (fun _ => rfl) ?_
      refine Z_isub rfl ?_
      refine Z_iret rfl rfl (by first | rfl | decide | exact narrow_b01 (by omega)) ⟨rfl, rfl, ?_⟩
      try dsimp only
      rw [if_pos ⟨by omega, by omega⟩] at eln81 eln82
      refine ⟨_, rfl, by omega, by omega, ?_⟩
      rcases (by omega : (τ i).length < X.length ∨ (τ i).length = X.length ∨ X.length < (τ i).length) with c | c | c
      · exact .inl ⟨by omega, k, k0, k1, by omega, he, .inl (by omega)⟩
      · exact .inr (.inl ⟨by omega, L_at_ext c (fun j j0 j1 => he j j0 (by omega))⟩)
      · exact .inr (.inr ⟨by omega, k, k0, k2, by omega, fun j j0 j1 => (he j j0 j1).symm, .inl (by omega)⟩)
    · refine Z_go (f2 := (15, [(4, .int (Zi k)), (0, .ref o), (1, .int (Zi i)), (2, .ref tb), (3, .int (Zi ((X.length : Int))))], [.int (Zi k)])) (fun _ => rfl) ?_
      refine Z_go (f2 := (16, [(4, .int (Zi k)), (0, .ref o), (1, .int (Zi i)), (2, .ref tb), (3, .int (Zi ((X.length : Int))))], [.int (Zi ((X.length : Int))), .int (Zi k)])) (fun _ => rfl) ?_
      refine Z_cge rfl rfl (by first | exact hs.zF _ _ | exact Zor_r _ _ | exact hs.zA _ _ | assumption | exact zA _ _ | exact zS _ | exact Zr_not (hs.zA _ _) | exact hs.1.1 _ _ | exact ⟨by omega, by omega⟩) (by first | exact hs.zF _ _ | exact Zor_r _ _ | exact hs.zA _ _ | assumption | exact zA _ _ | exact zS _ | exact Zr_not (hs.zA _ _) | exact hs.1.1 _ _ | exact ⟨by omega, by omega⟩) (fun c2 => ?_) (fun c2 => ?_)
      · refine Z_go (f2 := (50, [(4, .int (Zi k)), (0, .ref o), (1, .int (Zi i)), (2, .ref tb), (3, .int (Zi ((X.length : Int))))], [.ref o])) (fun _ => rfl) ?_
        refine Z_go (f2 := (51, [(4, .int (Zi k)), (0, .ref o), (1, .int (Zi i)), (2, .ref tb), (3, .int (Zi ((X.length : Int))))], [.int (Zi i), .ref o])) (fun _ => rfl) ?_
        refine C_callVR (As := [.int (Zi i)]) (rest := []) rfl (by decide) rfl (by decide) rfl rfl (by decide +kernel) (Nat.le_of_ble_eq_true rfl) hs tk (C_lenOf _ ht0 (i := i) (by first | exact hs.zF _ _ | exact Zor_r _ _ | exact hs.zA _ _ | assumption | exact zA _ _ | exact zS _ | exact Zr_not (hs.zA _ _) | exact hs.1.1 _ _ | exact ⟨by omega, by omega⟩)) (fun x q => ?_)
        obtain ⟨ln83, eln83⟩ : ∃ z : Int, z = (if 0 ≤ i ∧ i < (m : Int) then ((τ i).length : Int) else 0) := ⟨_, rfl⟩
        rw [← eln83] at q
        obtain rfl := q
        have zln83 : 0 ≤ ln83 ∧ ln83 ≤ 60 := by rw [eln83]; split; exact ⟨by omega, by have := (g3 i ⟨by omega, by omega⟩).2.1; omega⟩; omega
        show B_R _ _ (54, [(4, .int (Zi k)), (0, .ref o), (1, .int (Zi i)), (2, .ref tb), (3, .int (Zi ((X.length : Int))))], [.int (Zi ln83)]) _ _ _
        refine Z_go (f2 := (55, [(4, .int (Zi k)), (0, .ref o), (1, .int (Zi i)), (2, .ref tb), (3, .int (Zi ((X.length : Int))))], [.int (Zi ((X.length : Int))), .int (Zi ln83)])) (fun _ => rfl) ?_
        refine Z_isub rfl ?_
        refine Z_iret rfl rfl (by first | rfl | decide | exact narrow_b01 (by omega)) ⟨rfl, rfl, ?_⟩
        try dsimp only
        rw [if_pos ⟨by omega, by omega⟩] at eln81 eln83
        refine ⟨_, rfl, by omega, by omega, ?_⟩
        rcases (by omega : (τ i).length < X.length ∨ (τ i).length = X.length ∨ X.length < (τ i).length) with c | c | c
        · exact .inl ⟨by omega, k, k0, k1, by omega, he, .inl (by omega)⟩
        · exact .inr (.inl ⟨by omega, L_at_ext c (fun j j0 j1 => he j j0 (by omega))⟩)
        · exact .inr (.inr ⟨by omega, k, k0, k2, by omega, fun j j0 j1 => (he j j0 j1).symm, .inl (by omega)⟩)
      · refine Z_go (f2 := (20, [(4, .int (Zi k)), (0, .ref o), (1, .int (Zi i)), (2, .ref tb), (3, .int (Zi ((X.length : Int))))], [.ref o])) (fun _ => rfl) ?_
        refine Z_go (f2 := (21, [(4, .int (Zi k)), (0, .ref o), (1, .int (Zi i)), (2, .ref tb), (3, .int (Zi ((X.length : Int))))], [.int (Zi i), .ref o])) (fun _ => rfl) ?_
        refine Z_go (f2 := (23, [(4, .int (Zi k)), (0, .ref o), (1, .int (Zi i)), (2, .ref tb), (3, .int (Zi ((X.length : Int))))], [.int (Zi k), .int (Zi i), .ref o])) (fun _ => rfl) ?_
        refine C_callVR (As := [.int (Zi i), .int (Zi k)]) (rest := []) rfl (by decide) rfl (by decide) rfl rfl (by decide +kernel) (Nat.le_of_ble_eq_true rfl) hs tk (C_signAt _ ht0 (i := i) (k := k) (by first | exact hs.zF _ _ | exact Zor_r _ _ | exact hs.zA _ _ | assumption | exact zA _ _ | exact zS _ | exact Zr_not (hs.zA _ _) | exact hs.1.1 _ _ | exact ⟨by omega, by omega⟩) (by first | exact hs.zF _ _ | exact Zor_r _ _ | exact hs.zA _ _ | assumption | exact zA _ _ | exact zS _ | exact Zr_not (hs.zA _ _) | exact hs.1.1 _ _ | exact ⟨by omega, by omega⟩)) (fun x q => ?_)
        rw [if_pos ⟨by omega, by omega⟩] at q
        obtain rfl := q
        have zsg := T_at_r (g3 i ⟨by omega, by omega⟩).2.2.1 k
        show B_R _ _ (26, [(4, .int (Zi k)), (0, .ref o), (1, .int (Zi i)), (2, .ref tb), (3, .int (Zi ((X.length : Int))))], [.int (Zi (L_at (τ i) k))]) _ _ _
        refine Z_go (f2 := (27, [(4, .int (Zi k)), (0, .ref o), (1, .int (Zi i)), (2, .ref tb), (3, .int (Zi ((X.length : Int))))], [.ref tb, .int (Zi (L_at (τ i) k))])) (fun _ => rfl) ?_
        refine Z_go (f2 := (29, [(4, .int (Zi k)), (0, .ref o), (1, .int (Zi i)), (2, .ref tb), (3, .int (Zi ((X.length : Int))))], [.int (Zi k), .ref tb, .int (Zi (L_at (τ i) k))])) (fun _ => rfl) ?_
        refine C_callSR (vs := [.ref tb, .int (Zi k)]) (rest := [.int (Zi (L_at (τ i) k))]) rfl (by decide) rfl rfl rfl (Nat.le_of_ble_eq_true rfl) hs (C_byteOf _ xk (i := k) (by first | exact hs.zF _ _ | exact Zor_r _ _ | exact hs.zA _ _ | assumption | exact zA _ _ | exact zS _ | exact Zr_not (hs.zA _ _) | exact hs.1.1 _ _ | exact ⟨by omega, by omega⟩)) (fun x q => ?_)
        obtain ⟨by84, eby84⟩ : ∃ z : Int, z = (if 0 ≤ k ∧ k < (N : Int) then C_A s tb k % 256 else -1) := ⟨_, rfl⟩
        rw [← eby84] at q
        obtain rfl := q
        have zby84 : -1 ≤ by84 ∧ by84 < 256 := by rw [eby84]; split <;> omega
        show B_R _ _ (32, [(4, .int (Zi k)), (0, .ref o), (1, .int (Zi i)), (2, .ref tb), (3, .int (Zi ((X.length : Int))))], [.int (Zi by84), .int (Zi (L_at (τ i) k))]) _ _ _
        refine Z_isub rfl ?_
        refine Z_go (f2 := (35, [(5, .int (Zi (L_at (τ i) k - by84))), (4, .int (Zi k)), (0, .ref o), (1, .int (Zi i)), (2, .ref tb), (3, .int (Zi ((X.length : Int))))], [])) (fun _ => rfl) ?_
        refine Z_go (f2 := (37, [(5, .int (Zi (L_at (τ i) k - by84))), (4, .int (Zi k)), (0, .ref o), (1, .int (Zi i)), (2, .ref tb), (3, .int (Zi ((X.length : Int))))], [.int (Zi (L_at (τ i) k - by84))])) (fun _ => rfl) ?_
        refine Z_ieq rfl rfl (by first | exact hs.zF _ _ | exact Zor_r _ _ | exact hs.zA _ _ | assumption | exact zA _ _ | exact zS _ | exact Zr_not (hs.zA _ _) | exact hs.1.1 _ _ | exact ⟨by omega, by omega⟩) (fun c3 => ?_) (fun c3 => ?_)
        · refine Z_iinc (L2 := [(4, .int (Zi (k + 1))), (5, .int (Zi (L_at (τ i) k - by84))), (0, .ref o), (1, .int (Zi i)), (2, .ref tb), (3, .int (Zi ((X.length : Int))))]) rfl rfl (by decide) rfl ?_
          refine Z_go (f2 := (3, [(4, .int (Zi (k + 1))), (5, .int (Zi (L_at (τ i) k - by84))), (0, .ref o), (1, .int (Zi i)), (2, .ref tb), (3, .int (Zi ((X.length : Int))))], [])) (fun _ => rfl) ?_
          refine B_loc (K := [(4, .int (Zi (k + 1))), (0, .ref o), (1, .int (Zi i)), (2, .ref tb), (3, .int (Zi ((X.length : Int))))]) (N_all_sub ⟨rfl, rfl, rfl, rfl, rfl, trivial⟩) (show ([4, 0, 1, 2, 3] : List Nat).Nodup by decide) ?_
          rw [if_pos ⟨by omega, by omega⟩] at eln81
          rw [if_pos ⟨by omega, by omega⟩, xa k k0 (by omega)] at eby84
          exact ih _ (by omega) (by omega) (by omega) (by omega) (fun j j0 j1 => by by_cases e : j = k; subst e; omega; exact he j j0 (by omega))
        · refine Z_go (f2 := (42, [(5, .int (Zi (L_at (τ i) k - by84))), (4, .int (Zi k)), (0, .ref o), (1, .int (Zi i)), (2, .ref tb), (3, .int (Zi ((X.length : Int))))], [.int (Zi (L_at (τ i) k - by84))])) (fun _ => rfl) ?_
          refine Z_iret rfl rfl (by first | rfl | decide | exact narrow_b01 (by omega)) ⟨rfl, rfl, ?_⟩
          try dsimp only
          rw [if_pos ⟨by omega, by omega⟩] at eln81
          rw [if_pos ⟨by omega, by omega⟩, xa k k0 (by omega)] at eby84
          refine ⟨_, rfl, by omega, by omega, ?_⟩
          by_cases c : L_at (τ i) k < by84
          · exact .inl ⟨by omega, k, k0, k1, by omega, he, .inr (by omega)⟩
          · exact .inr (.inr ⟨by omega, k, k0, k2, by omega, fun j j0 j1 => (he j j0 j1).symm, .inr (by omega)⟩)
theorem C_cmp (d : Nat) {s : C_S} {p : List Nat} {o ra la m : Nat} {τ : Int → List Int} {tb N : Nat} {X : List Int} {i : Int} (ht : D_Tx s p o ra la m τ) (hx : D_by s tb N X) (i0 : 0 ≤ i) (i1 : i < m) (hX : X.length ≤ 1000) : C_rd (d + 3) 115 [.ref o, .int (Zi i), .ref tb, .int (Zi ((X.length : Int)))] s (fun x => ∃ z : Int, x = some (.int (Zi z)) ∧ -1000 ≤ z ∧ z ≤ 1000 ∧ (z < 0 ∧ L_lt (τ i) X ∨ z = 0 ∧ τ i = X ∨ 0 < z ∧ L_lt X (τ i))) := by
  refine C_enterR (M := E_m115) rfl (Nat.le_of_ble_eq_true rfl) (fun h0 h hs => ?_)
  show B_R (d + 2) _ (0, [(0, .ref o), (1, .int (Zi i)), (2, .ref tb), (3, .int (Zi ((X.length : Int))))], []) _ _ _
  refine Z_go (f2 := (1, [(0, .ref o), (1, .int (Zi i)), (2, .ref tb), (3, .int (Zi ((X.length : Int))))], [.int (Zi 0)])) (fun _ => rfl) ?_
  refine Z_go (f2 := (3, [(4, .int (Zi 0)), (0, .ref o), (1, .int (Zi i)), (2, .ref tb), (3, .int (Zi ((X.length : Int))))], [])) (fun _ => rfl) ?_
  refine B_loc (K := [(4, .int (Zi 0)), (0, .ref o), (1, .int (Zi i)), (2, .ref tb), (3, .int (Zi ((X.length : Int))))]) (N_all_sub ⟨rfl, rfl, rfl, rfl, rfl, trivial⟩) (show ([4, 0, 1, 2, 3] : List Nat).Nodup by decide) ?_
  exact C_cmp_lp hs ht hx i0 i1 hX ((τ i).length + 1) 0 (by omega) (by omega) (by omega) (by omega) (fun j j0 j1 => by omega)
theorem D_T0.ne {s : C_S} {p : List Nat} {o ra la m : Nat} (ht : D_T0 s p o ra la m) : o ≠ ra ∧ o ≠ la ∧ ra ≠ la ∧ ∀ (i : Int) (b : Nat), 0 ≤ i → i < 8 → C_Q s ra i = some b → b ≠ la ∧ b ≠ o ∧ b ≠ ra ∧ C_K s b = (1, 60) ∧ C_T s b = p := by
  obtain ⟨⟨h1, h2, h3, h4, h5, h6, h7, h8, h9, h10⟩, g1, g2⟩ := ht
  refine ⟨fun e => ?_, fun e => ?_, fun e => ?_, fun i b i0 i1 hb => ?_⟩
  · rw [e, h5] at h1; cases h1
  · rw [e, h7] at h1; cases h1
  · rw [e, h7] at h5; cases h5
  · obtain ⟨b', b1, b2, b3⟩ := g1 i i0 i1
    have : b' = b := Option.some.inj (b1.symm.trans hb)
    subst this
    refine ⟨fun e => ?_, fun e => ?_, fun e => ?_, b2, b3⟩
    · rw [e, h7] at b2; cases b2
    · rw [e, h1] at b2; cases b2
    · rw [e, h5] at b2; cases b2
theorem C_moveUp (d : Nat) {s : C_S} {p : List Nat} {o ra la m : Nat} {i : Int} (ht : D_T0 s p o ra la m) (i0 : 0 ≤ i) (i1 : i + 1 < 8) : C_ok (d + 2) 116 [.ref o, .int (Zi i)] s (fun x s2 n => x = none ∧ n = 0 ∧ C_n s2 = C_n s ∧ C_fr (fun t => t = p) s s2 ∧ D_T0 s2 p o ra la m ∧ (∀ j, C_Q s2 ra j = if j = i then C_Q s ra (i + 1) else if j = i + 1 then C_Q s ra i else C_Q s ra j) ∧ (∀ j, C_A s2 la j = if j = i + 1 then C_A s la i else C_A s la j) ∧ ∀ b, b ≠ la → C_A s2 b = C_A s b) := by
  refine C_enter (M := E_m116) rfl (Nat.le_of_ble_eq_true rfl) (fun h0 h hs => ?_)
  show B_R (d + 1) _ (0, [(0, .ref o), (1, .int (Zi i))], []) _ _ _
  have ht0 := ht
  have w := hs.1
  obtain ⟨⟨tk, tt, tp, tq, rk, rt, lk, lt, tn, tl⟩, g1, g2⟩ := ht
  have zi : Zr i := ⟨by omega, by omega⟩
  obtain ⟨b1, hb1, bk1, bt1⟩ := g1 i i0 (by omega)
  obtain ⟨b2, hb2, bk2, bt2⟩ := g1 (i + 1) (by omega) i1
  have hne := ht0.ne
  refine Z_go (f2 := (1, [(0, .ref o), (1, .int (Zi i))], [.int (Zi i)])) (fun _ => rfl) ?_
  refine Z_ilt rfl rfl (by first | exact hs.zF _ _ | exact Zor_r _ _ | exact hs.zA _ _ | assumption | exact zA _ _ | exact zS _ | exact Zr_not (hs.zA _ _) | exact hs.1.1 _ _ | exact ⟨by omega, by omega⟩) (fun c1 => ?_) (fun c1 => ?_)
  · refine Z_ret rfl rfl ⟨_, hs, ?_⟩
    try dsimp only
    exfalso; omega
  · refine Z_go (f2 := (5, [(0, .ref o), (1, .int (Zi i))], [.int (Zi i)])) (fun _ => rfl) ?_
    refine Z_go (f2 := (6, [(0, .ref o), (1, .int (Zi i))], [.int (Zi 1), .int (Zi i)])) (fun _ => rfl) ?_
    refine Z_iadd rfl ?_
    refine Z_go (f2 := (8, [(0, .ref o), (1, .int (Zi i))], [.ref o, .int (Zi (i + 1))])) (fun _ => rfl) ?_
    refine C_gr rfl hs tk (by decide) (Nat.le_of_ble_eq_true rfl) rfl tp ?_
    refine C_al rfl hs rk (by decide) ?_
    show B_R _ _ (12, [(0, .ref o), (1, .int (Zi i))], [.int (Zi 8), .int (Zi (i + 1))]) _ _ _
    refine Z_cge rfl rfl (by first | exact hs.zF _ _ | exact Zor_r _ _ | exact hs.zA _ _ | assumption | exact zA _ _ | exact zS _ | exact Zr_not (hs.zA _ _) | exact hs.1.1 _ _ | exact ⟨by omega, by omega⟩) (by first | exact hs.zF _ _ | exact Zor_r _ _ | exact hs.zA _ _ | assumption | exact zA _ _ | exact zS _ | exact Zr_not (hs.zA _ _) | exact hs.1.1 _ _ | exact ⟨by omega, by omega⟩) (fun c2 => ?_) (fun c2 => ?_)
    · refine Z_ret rfl rfl ⟨_, hs, ?_⟩
      try dsimp only
      exfalso; omega
    · refine Z_go (f2 := (16, [(0, .ref o), (1, .int (Zi i))], [.ref o])) (fun _ => rfl) ?_
      refine C_gr rfl hs tk (by decide) (Nat.le_of_ble_eq_true rfl) rfl tp ?_
      refine Z_go (f2 := (20, [(0, .ref o), (1, .int (Zi i))], [.int (Zi i), .ref ra])) (fun _ => rfl) ?_
      refine Z_go (f2 := (21, [(0, .ref o), (1, .int (Zi i))], [.int (Zi 1), .int (Zi i), .ref ra])) (fun _ => rfl) ?_
      refine Z_iadd rfl ?_
      refine C_aq rfl hs rk (by decide) (by decide) (by omega) (by omega) hb2 ?_
      show B_R _ _ (23, [(0, .ref o), (1, .int (Zi i))], [.ref b2]) _ _ _
      refine Z_go (f2 := (24, [(2, .ref b2), (0, .ref o), (1, .int (Zi i))], [])) (fun _ => rfl) ?_
      refine Z_go (f2 := (25, [(2, .ref b2), (0, .ref o), (1, .int (Zi i))], [.ref o])) (fun _ => rfl) ?_
      refine C_gr rfl hs tk (by decide) (Nat.le_of_ble_eq_true rfl) rfl tp ?_
      refine Z_go (f2 := (29, [(2, .ref b2), (0, .ref o), (1, .int (Zi i))], [.int (Zi i), .ref ra])) (fun _ => rfl) ?_
      refine Z_go (f2 := (30, [(2, .ref b2), (0, .ref o), (1, .int (Zi i))], [.int (Zi 1), .int (Zi i), .ref ra])) (fun _ => rfl) ?_
      refine Z_iadd rfl ?_
      refine Z_go (f2 := (32, [(2, .ref b2), (0, .ref o), (1, .int (Zi i))], [.ref o, .int (Zi (i + 1)), .ref ra])) (fun _ => rfl) ?_
      refine C_gr rfl hs tk (by decide) (Nat.le_of_ble_eq_true rfl) rfl tp ?_
      refine Z_go (f2 := (36, [(2, .ref b2), (0, .ref o), (1, .int (Zi i))], [.int (Zi i), .ref ra, .int (Zi (i + 1)), .ref ra])) (fun _ => rfl) ?_
      refine C_aq rfl hs rk (by decide) (by decide) (by omega) (by omega) hb1 ?_
      show B_R _ _ (37, [(2, .ref b2), (0, .ref o), (1, .int (Zi i))], [.ref b1, .int (Zi (i + 1)), .ref ra]) _ _ _
      refine C_ab rfl hs rk (by omega) (by omega) bk1 (fun h hs => ?_)
      refine Z_go (f2 := (39, [(2, .ref b2), (0, .ref o), (1, .int (Zi i))], [.ref o])) (fun _ => rfl) ?_
      refine C_gr rfl hs tk (by decide) (Nat.le_of_ble_eq_true rfl) rfl tp ?_
      refine Z_go (f2 := (43, [(2, .ref b2), (0, .ref o), (1, .int (Zi i))], [.int (Zi i), .ref ra])) (fun _ => rfl) ?_
      refine Z_go (f2 := (44, [(2, .ref b2), (0, .ref o), (1, .int (Zi i))], [.ref b2, .int (Zi i), .ref ra])) (fun _ => rfl) ?_
      refine C_ab rfl hs rk (by omega) (by omega) bk2 (fun h hs => ?_)
      refine Z_go (f2 := (46, [(2, .ref b2), (0, .ref o), (1, .int (Zi i))], [.ref o])) (fun _ => rfl) ?_
      refine C_gr rfl hs tk (by decide) (Nat.le_of_ble_eq_true rfl) rfl tq ?_
      refine Z_go (f2 := (50, [(2, .ref b2), (0, .ref o), (1, .int (Zi i))], [.int (Zi i), .ref la])) (fun _ => rfl) ?_
      refine Z_go (f2 := (51, [(2, .ref b2), (0, .ref o), (1, .int (Zi i))], [.int (Zi 1), .int (Zi i), .ref la])) (fun _ => rfl) ?_
      refine Z_iadd rfl ?_
      refine Z_go (f2 := (53, [(2, .ref b2), (0, .ref o), (1, .int (Zi i))], [.ref o, .int (Zi (i + 1)), .ref la])) (fun _ => rfl) ?_
      refine C_gr rfl hs tk (by decide) (Nat.le_of_ble_eq_true rfl) rfl tq ?_
      refine Z_go (f2 := (57, [(2, .ref b2), (0, .ref o), (1, .int (Zi i))], [.int (Zi i), .ref la, .int (Zi (i + 1)), .ref la])) (fun _ => rfl) ?_
      refine C_callSR (vs := [.ref la, .int (Zi i)]) (rest := [.int (Zi (i + 1)), .ref la]) rfl (by decide) rfl rfl rfl (Nat.le_of_ble_eq_true rfl) hs (C_pick _ lk (i := i) zi) (fun x q => ?_)
      rw [if_pos ⟨by omega, by omega⟩] at q
      obtain rfl := q
      show B_R _ _ (60, [(2, .ref b2), (0, .ref o), (1, .int (Zi i))], [.int (Zi (C_A s la i)), .int (Zi (i + 1)), .ref la]) _ _ _
      refine C_callS (vs := [.ref la, .int (Zi (i + 1)), .int (Zi (C_A s la i))]) (rest := []) rfl (by decide) rfl rfl rfl (Nat.le_of_ble_eq_true rfl) hs (C_store _ lk (i := i + 1) (v := C_A s la i) ⟨by omega, by omega⟩ (hs.1.2.1 la i)) (fun x h v n hs q => ?_)
      obtain ⟨rfl, rfl, hv⟩ := q
      rw [if_pos ⟨by omega, by omega⟩] at hv
      subst hv
      show B_R _ _ (63, [(2, .ref b2), (0, .ref o), (1, .int (Zi i))], []) _ _ _
      refine Z_ret rfl rfl ⟨_, hs, ?_⟩
      try dsimp only
      have eQ : ∀ j, C_Q (C_sA (C_sQ (C_sQ s ra (i + 1) (some b1)) ra i (some b2)) la (i + 1) (C_A s la i)) ra j = if j = i then C_Q s ra (i + 1) else if j = i + 1 then C_Q s ra i else C_Q s ra j := fun j => by
        show (if ra = ra ∧ j = i then some b2 else (if ra = ra ∧ j = i + 1 then some b1 else C_Q s ra j)) = _
        rw [hb1, hb2]
        simp
      refine ⟨rfl, rfl, rfl, (((C_fr.refl (fun t => t = p) s).sQ rt).sQ rt).sA lt, ⟨⟨tk, tt, tp, tq, rk, rt, lk, lt, tn, tl⟩, fun j j0 j1 => ?_, fun a b a0 a1 c0 c1 r q1 q2 => ?_⟩, eQ, fun j => ?_, fun b hb => ?_⟩
      · rw [eQ]
        by_cases e1 : j = i
        · rw [if_pos e1]; exact ⟨b2, hb2, bk2, bt2⟩
        · rw [if_neg e1]
          by_cases e2 : j = i + 1
          · rw [if_pos e2]; exact ⟨b1, hb1, bk1, bt1⟩
          · rw [if_neg e2]; exact g1 j j0 j1
      · have pick : ∀ a : Int, 0 ≤ a → a < 8 → ∃ q : Int, 0 ≤ q ∧ q < 8 ∧ (if a = i then C_Q s ra (i + 1) else if a = i + 1 then C_Q s ra i else C_Q s ra a) = C_Q s ra q ∧ (q = if a = i then i + 1 else if a = i + 1 then i else a) := fun a a0 a1 => by
          by_cases e1 : a = i
          · exact ⟨i + 1, by omega, i1, by rw [if_pos e1], by rw [if_pos e1]⟩
          · by_cases e2 : a = i + 1
            · exact ⟨i, i0, by omega, by rw [if_neg e1, if_pos e2], by rw [if_neg e1, if_pos e2]⟩
            · exact ⟨a, a0, a1, by rw [if_neg e1, if_neg e2], by rw [if_neg e1, if_neg e2]⟩
        rw [eQ] at q1 q2
        obtain ⟨x, x0, x1, x2, x3⟩ := pick a a0 a1
        obtain ⟨y, y0, y1, y2, y3⟩ := pick b c0 c1
        have := g2 x y x0 x1 y0 y1 r (by rw [← x2]; exact q1) (by rw [← y2]; exact q2)
        by_cases e1 : a = i <;> by_cases e2 : a = i + 1 <;> by_cases e3 : b = i <;> by_cases e4 : b = i + 1 <;> simp [e1, e2, e3, e4] at x3 y3 <;> omega
      · show (if la = la ∧ j = i + 1 then C_A s la i else C_A s la j) = _
        simp
      · funext c
        exact if_neg (fun e => hb e.1)
theorem C_write (d : Nat) {s : C_S} {p : List Nat} {o ra la m : Nat} {tb N : Nat} {X : List Int} {i : Int} (ht : D_T0 s p o ra la m) (hx : D_by s tb N X) (i0 : 0 ≤ i) (i1 : i < 8) (hX : X.length ≤ 60) : C_ok (d + 2) 117 [.ref o, .int (Zi i), .ref tb, .int (Zi ((X.length : Int)))] s (fun x s2 n => x = none ∧ n = 0 ∧ C_n s2 = C_n s ∧ C_fr (fun t => t = p) s s2 ∧ D_T0 s2 p o ra la m ∧ (∀ j, C_Q s2 ra j = C_Q s ra j) ∧ (∀ j, C_A s2 la j = if j = i then (X.length : Int) else C_A s la j) ∧ (∀ b, C_Q s ra i = some b → ∀ k : Int, 0 ≤ k → k < X.length → C_A s2 b k % 256 = L_at X k) ∧ ∀ b, b ≠ la → C_Q s ra i ≠ some b → C_A s2 b = C_A s b) := by
  refine C_enter (M := E_m117) rfl (Nat.le_of_ble_eq_true rfl) (fun h0 h hs => ?_)
  show B_R (d + 1) _ (0, [(0, .ref o), (1, .int (Zi i)), (2, .ref tb), (3, .int (Zi ((X.length : Int))))], []) _ _ _
  have ht0 := ht
  have w := hs.1
  obtain ⟨⟨tk, tt, tp, tq, rk, rt, lk, lt, tn, tl⟩, g1, g2⟩ := ht
  have zi : Zr i := ⟨by omega, by omega⟩
  obtain ⟨b1, hb1, bk1, bt1⟩ := g1 i i0 (by omega)
  have hne := ht0.ne
  obtain ⟨xk, xl, xb, xa⟩ := hx
  have zN := (hs.len (by decide) xk).1
  obtain ⟨nb1, nb2, nb3, _⟩ := hne.2.2.2 i b1 i0 i1 hb1
  refine Z_go (f2 := (1, [(0, .ref o), (1, .int (Zi i)), (2, .ref tb), (3, .int (Zi ((X.length : Int))))], [.int (Zi i)])) (fun _ => rfl) ?_
  refine Z_ilt rfl rfl (by first | exact hs.zF _ _ | exact Zor_r _ _ | exact hs.zA _ _ | assumption | exact zA _ _ | exact zS _ | exact Zr_not (hs.zA _ _) | exact hs.1.1 _ _ | exact ⟨by omega, by omega⟩) (fun c1 => ?_) (fun c1 => ?_)
  · refine Z_ret rfl rfl ⟨_, hs, ?_⟩
    try dsimp only
    exfalso; omega
  · refine Z_go (f2 := (5, [(0, .ref o), (1, .int (Zi i)), (2, .ref tb), (3, .int (Zi ((X.length : Int))))], [.int (Zi i)])) (fun _ => rfl) ?_
    refine Z_go (f2 := (6, [(0, .ref o), (1, .int (Zi i)), (2, .ref tb), (3, .int (Zi ((X.length : Int))))], [.ref o, .int (Zi i)])) (fun _ => rfl) ?_
    refine C_gr rfl hs tk (by decide) (Nat.le_of_ble_eq_true rfl) rfl tp ?_
    refine C_al rfl hs rk (by decide) ?_
    show B_R _ _ (10, [(0, .ref o), (1, .int (Zi i)), (2, .ref tb), (3, .int (Zi ((X.length : Int))))], [.int (Zi 8), .int (Zi i)]) _ _ _
    refine Z_cge rfl rfl (by first | exact hs.zF _ _ | exact Zor_r _ _ | exact hs.zA _ _ | assumption | exact zA _ _ | exact zS _ | exact Zr_not (hs.zA _ _) | exact hs.1.1 _ _ | exact ⟨by omega, by omega⟩) (by first | exact hs.zF _ _ | exact Zor_r _ _ | exact hs.zA _ _ | assumption | exact zA _ _ | exact zS _ | exact Zr_not (hs.zA _ _) | exact hs.1.1 _ _ | exact ⟨by omega, by omega⟩) (fun c2 => ?_) (fun c2 => ?_)
    · refine Z_ret rfl rfl ⟨_, hs, ?_⟩
      try dsimp only
      exfalso; omega
    · refine Z_go (f2 := (14, [(0, .ref o), (1, .int (Zi i)), (2, .ref tb), (3, .int (Zi ((X.length : Int))))], [.int (Zi ((X.length : Int)))])) (fun _ => rfl) ?_
      refine Z_ilt rfl rfl (by first | exact hs.zF _ _ | exact Zor_r _ _ | exact hs.zA _ _ | assumption | exact zA _ _ | exact zS _ | exact Zr_not (hs.zA _ _) | exact hs.1.1 _ _ | exact ⟨by omega, by omega⟩) (fun c3 => ?_) (fun c3 => ?_)
      · refine Z_ret rfl rfl ⟨_, hs, ?_⟩
        try dsimp only
        exfalso; omega
      · refine Z_go (f2 := (18, [(0, .ref o), (1, .int (Zi i)), (2, .ref tb), (3, .int (Zi ((X.length : Int))))], [.int (Zi ((X.length : Int)))])) (fun _ => rfl) ?_
        refine Z_go (f2 := (19, [(0, .ref o), (1, .int (Zi i)), (2, .ref tb), (3, .int (Zi ((X.length : Int))))], [.ref tb, .int (Zi ((X.length : Int)))])) (fun _ => rfl) ?_
        refine C_al rfl hs xk (by decide) ?_
        show B_R _ _ (20, [(0, .ref o), (1, .int (Zi i)), (2, .ref tb), (3, .int (Zi ((X.length : Int))))], [.int (Zi ((N : Int))), .int (Zi ((X.length : Int)))]) _ _ _
        refine Z_cgt rfl rfl (by first | exact hs.zF _ _ | exact Zor_r _ _ | exact hs.zA _ _ | assumption | exact zA _ _ | exact zS _ | exact Zr_not (hs.zA _ _) | exact hs.1.1 _ _ | exact ⟨by omega, by omega⟩) (by first | exact hs.zF _ _ | exact Zor_r _ _ | exact hs.zA _ _ | assumption | exact zA _ _ | exact zS _ | exact Zr_not (hs.zA _ _) | exact hs.1.1 _ _ | exact ⟨by omega, by omega⟩) (fun c4 => ?_) (fun c4 => ?_)
        · refine Z_ret rfl rfl ⟨_, hs, ?_⟩
          try dsimp only
          exfalso; omega
        · refine Z_go (f2 := (24, [(0, .ref o), (1, .int (Zi i)), (2, .ref tb), (3, .int (Zi ((X.length : Int))))], [.int (Zi ((X.length : Int)))])) (fun _ => rfl) ?_
          refine Z_go (f2 := (25, [(0, .ref o), (1, .int (Zi i)), (2, .ref tb), (3, .int (Zi ((X.length : Int))))], [.ref o, .int (Zi ((X.length : Int)))])) (fun _ => rfl) ?_
          refine C_gr rfl hs tk (by decide) (Nat.le_of_ble_eq_true rfl) rfl tp ?_
          refine Z_go (f2 := (29, [(0, .ref o), (1, .int (Zi i)), (2, .ref tb), (3, .int (Zi ((X.length : Int))))], [.int (Zi i), .ref ra, .int (Zi ((X.length : Int)))])) (fun _ => rfl) ?_
          refine C_aq rfl hs rk (by decide) (by decide) (by omega) (by omega) hb1 ?_
          show B_R _ _ (30, [(0, .ref o), (1, .int (Zi i)), (2, .ref tb), (3, .int (Zi ((X.length : Int))))], [.ref b1, .int (Zi ((X.length : Int)))]) _ _ _
          refine C_al rfl hs bk1 (by decide) ?_
          show B_R _ _ (31, [(0, .ref o), (1, .int (Zi i)), (2, .ref tb), (3, .int (Zi ((X.length : Int))))], [.int (Zi (((60 : Nat) : Int))), .int (Zi ((X.length : Int)))]) _ _ _
          refine Z_cgt rfl rfl (by first | exact hs.zF _ _ | exact Zor_r _ _ | exact hs.zA _ _ | assumption | exact zA _ _ | exact zS _ | exact Zr_not (hs.zA _ _) | exact hs.1.1 _ _ | exact ⟨by omega, by omega⟩) (by first | exact hs.zF _ _ | exact Zor_r _ _ | exact hs.zA _ _ | assumption | exact zA _ _ | exact zS _ | exact Zr_not (hs.zA _ _) | exact hs.1.1 _ _ | exact ⟨by omega, by omega⟩) (fun c5 => ?_) (fun c5 => ?_)
          · refine Z_ret rfl rfl ⟨_, hs, ?_⟩
            try dsimp only
            exfalso; omega
          · refine Z_go (f2 := (35, [(0, .ref o), (1, .int (Zi i)), (2, .ref tb), (3, .int (Zi ((X.length : Int))))], [.ref tb])) (fun _ => rfl) ?_
            refine Z_go (f2 := (36, [(0, .ref o), (1, .int (Zi i)), (2, .ref tb), (3, .int (Zi ((X.length : Int))))], [.int (Zi 0), .ref tb])) (fun _ => rfl) ?_
            refine Z_go (f2 := (37, [(0, .ref o), (1, .int (Zi i)), (2, .ref tb), (3, .int (Zi ((X.length : Int))))], [.ref o, .int (Zi 0), .ref tb])) (fun _ => rfl) ?_
            refine C_gr rfl hs tk (by decide) (Nat.le_of_ble_eq_true rfl) rfl tp ?_
            refine Z_go (f2 := (41, [(0, .ref o), (1, .int (Zi i)), (2, .ref tb), (3, .int (Zi ((X.length : Int))))], [.int (Zi i), .ref ra, .int (Zi 0), .ref tb])) (fun _ => rfl) ?_
            refine C_aq rfl hs rk (by decide) (by decide) (by omega) (by omega) hb1 ?_
            show B_R _ _ (42, [(0, .ref o), (1, .int (Zi i)), (2, .ref tb), (3, .int (Zi ((X.length : Int))))], [.ref b1, .int (Zi 0), .ref tb]) _ _ _
            refine Z_go (f2 := (43, [(0, .ref o), (1, .int (Zi i)), (2, .ref tb), (3, .int (Zi ((X.length : Int))))], [.int (Zi 0), .ref b1, .int (Zi 0), .ref tb])) (fun _ => rfl) ?_
            refine Z_go (f2 := (44, [(0, .ref o), (1, .int (Zi i)), (2, .ref tb), (3, .int (Zi ((X.length : Int))))], [.int (Zi ((X.length : Int))), .int (Zi 0), .ref b1, .int (Zi 0), .ref tb])) (fun _ => rfl) ?_
            refine C_cp rfl hs xk bk1 (by decide) (by omega) (by omega) (by omega) (by omega) (by omega) (Nat.le_of_ble_eq_true rfl) (fun h hs => ?_)
            show B_R _ _ (47, [(0, .ref o), (1, .int (Zi i)), (2, .ref tb), (3, .int (Zi ((X.length : Int))))], []) _ _ _
            refine Z_go (f2 := (48, [(0, .ref o), (1, .int (Zi i)), (2, .ref tb), (3, .int (Zi ((X.length : Int))))], [.ref o])) (fun _ => rfl) ?_
            refine C_gr rfl hs tk (by decide) (Nat.le_of_ble_eq_true rfl) rfl tq ?_
            refine Z_go (f2 := (52, [(0, .ref o), (1, .int (Zi i)), (2, .ref tb), (3, .int (Zi ((X.length : Int))))], [.int (Zi i), .ref la])) (fun _ => rfl) ?_
            refine Z_go (f2 := (53, [(0, .ref o), (1, .int (Zi i)), (2, .ref tb), (3, .int (Zi ((X.length : Int))))], [.int (Zi ((X.length : Int))), .int (Zi i), .ref la])) (fun _ => rfl) ?_
            refine C_callS (vs := [.ref la, .int (Zi i), .int (Zi ((X.length : Int)))]) (rest := []) rfl (by decide) rfl rfl rfl (Nat.le_of_ble_eq_true rfl) hs (C_store _ (s := C_sAf s b1 (fun j => if 0 ≤ j ∧ j < 0 + (X.length : Int) then C_A s tb (0 + (j - 0)) else C_A s b1 j)) lk (i := i) (v := (X.length : Int)) zi ⟨by omega, by omega⟩) (fun x h v n hs q => ?_)
            obtain ⟨rfl, rfl, hv⟩ := q
            rw [if_pos ⟨by omega, by omega⟩] at hv
            subst hv
            show B_R _ _ (56, [(0, .ref o), (1, .int (Zi i)), (2, .ref tb), (3, .int (Zi ((X.length : Int))))], []) _ _ _
            refine Z_ret rfl rfl ⟨_, hs, ?_⟩
            try dsimp only
            refine ⟨rfl, rfl, rfl, ((C_fr.refl (fun t => t = p) s).sAf bt1).sA lt, ⟨⟨tk, tt, tp, tq, rk, rt, lk, lt, tn, tl⟩, g1, g2⟩, fun j => rfl, fun j => ?_, fun b hb k k0 k1 => ?_, fun b hb hq => ?_⟩
            · show (if la = la ∧ j = i then (X.length : Int) else (if la = b1 then _ else C_A s la) j) = _
              rw [if_neg (show ¬ la = b1 from fun e => nb1 e.symm)]
              simp
            · have : b = b1 := Option.some.inj (hb.symm.trans hb1)
              subst this
              show (if b = la ∧ k = i then (X.length : Int) else (if b = b then (fun j => if 0 ≤ j ∧ j < 0 + (X.length : Int) then C_A s tb (0 + (j - 0)) else C_A s b j) else C_A s b) k) % 256 = _
              rw [if_neg (fun e => nb1 e.1), if_pos rfl, if_pos (by omega), show (0 : Int) + (k - 0) = k by omega]
              exact xa k k0 k1
            · funext c
              show (if b = la ∧ c = i then (X.length : Int) else (if b = b1 then _ else C_A s b) c) = _
              rw [if_neg (fun e => hb e.1), if_neg (fun e => hq (by rw [e]; exact hb1))]
