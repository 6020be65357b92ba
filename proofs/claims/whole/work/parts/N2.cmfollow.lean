/-! the class: Machine: follow -/
/-- a state is pushed -/
def C_mp (s : C_S) (o : Nat) (A : Nat → Nat) (q i : Int) : C_S := if 0 ≤ q ∧ q < 202 ∧ C_A s (A 7) q ≠ i then C_sF (C_sA (C_sA s (A 7) q i) (A 8) (C_F s o 9) q) o 9 (C_F s o 9 + 1) else s
theorem C_mp_M0 {s : C_S} {p : List Nat} {o : Nat} {A : Nat → Nat} (h : D_M0 s p o A) (q i : Int) : D_M0 (C_mp s o A q i) p o A := by
  unfold C_mp
  split
  · exact h
  · exact h
theorem C_mp_A {s : C_S} {p : List Nat} {o : Nat} {A : Nat → Nat} (h : D_M0 s p o A) (q i : Int) {f : Nat} (hf : f = 1 ∨ f = 2 ∨ f = 3 ∨ f = 4 ∨ f = 10 ∨ f = 12) (j : Int) : C_A (C_mp s o A q i) (A f) j = C_A s (A f) j := by
  have n7 : A f ≠ A 7 := fun e => by have := h.2.2.2 f 7 (by omega) (by omega) e; omega
  have n8 : A f ≠ A 8 := fun e => by have := h.2.2.2 f 8 (by omega) (by omega) e; omega
  unfold C_mp
  split
  · show (if A f = A 8 ∧ j = _ then _ else if A f = A 7 ∧ j = _ then _ else C_A s (A f) j) = _
    rw [if_neg (fun e => n8 e.1), if_neg (fun e => n7 e.1)]
  · rfl
theorem C_mp_9 (s : C_S) (o : Nat) (A : Nat → Nat) (q i : Int) : C_F s o 9 ≤ C_F (C_mp s o A q i) o 9 ∧ C_F (C_mp s o A q i) o 9 ≤ C_F s o 9 + 1 := by
  unfold C_mp
  split
  · have e : C_F (C_sF (C_sA (C_sA s (A 7) q i) (A 8) (C_F s o 9) q) o 9 (C_F s o 9 + 1)) o 9 = C_F s o 9 + 1 := if_pos ⟨rfl, rfl⟩
    rw [e]; omega
  · omega
def C_mfw (s : C_S) (o : Nat) (A : Nat → Nat) (tb N : Nat) (q b i : Int) (s2 : C_S) : Prop := (C_A s (A 1) q = 8 ∧ s2 = if C_F s o 15 = -1 ∨ b ≤ C_F s o 15 then C_sF (C_sF s o 15 b) o 16 i else s) ∨ (C_A s (A 1) q = 3 ∧ s2 = C_sF (C_sA s (A 12) (C_F s o 13) (b * 256 + q)) o 13 (C_F s o 13 + 1)) ∨ (C_A s (A 1) q = 7 ∧ s2 = C_mp (C_mp s o A (C_A s (A 3) q) i) o A (C_A s (A 2) q) i) ∨ (C_A s (A 1) q ≠ 8 ∧ C_A s (A 1) q ≠ 3 ∧ C_A s (A 1) q ≠ 7 ∧ (M_hold (C_wb s tb N) N (C_A s (A 1) q - 2) i ∧ s2 = C_mp s o A (C_A s (A 2) q) i ∨ ¬ M_hold (C_wb s tb N) N (C_A s (A 1) q - 2) i ∧ s2 = s))
theorem C_follow (d : Nat) {s : C_S} {p : List Nat} {o : Nat} {A : Nat → Nat} {tb N : Nat} {q b i : Int} (hm : D_M0 s p o A) (et : C_P s o 14 = some tb) (kt : C_K s tb = (1, N)) (q0 : 0 ≤ q) (q1 : q < 202) (b0 : 0 ≤ b) (b1 : b ≤ 1000) (i0 : 0 ≤ i) (i1 : i ≤ N) (N1 : N ≤ 2000000) (t0 : 0 ≤ C_F s o 9) (t1 : C_F s o 9 + 1 < 202) (u0 : 0 ≤ C_F s o 13) (u1 : C_F s o 13 < 202) : C_ok (d + 3) 27 [.ref o, .int (Zi q), .int (Zi b), .int (Zi i)] s (fun x s2 n => x = none ∧ n = 0 ∧ C_mfw s o A tb N q b i s2) := by
  refine C_enter (M := E_m27) rfl (Nat.le_of_ble_eq_true rfl) (fun h0 h hs => ?_)
  show B_R (d + 2) _ (0, [(0, .ref o), (1, .int (Zi q)), (2, .int (Zi b)), (3, .int (Zi i))], []) _ _ _
  have w := hs.1
  have ok := hm.1
  obtain ⟨e1, k1, t1⟩ := hm.2.2.1 1 (by omega)
  obtain ⟨e2, k2, t2⟩ := hm.2.2.1 2 (by omega)
  obtain ⟨e3, k3, t3⟩ := hm.2.2.1 3 (by omega)
  obtain ⟨e4, k4, t4⟩ := hm.2.2.1 4 (by omega)
  obtain ⟨e7, k7, t7⟩ := hm.2.2.1 7 (by omega)
  obtain ⟨e8, k8, t8⟩ := hm.2.2.1 8 (by omega)
  obtain ⟨e10, k10, t10⟩ := hm.2.2.1 10 (by omega)
  obtain ⟨e12, k12, t12⟩ := hm.2.2.1 12 (by omega)
  have z1 := w.2.1 (A 1) q
  have z2 := w.2.1 (A 2) q
  have z3 := w.2.1 (A 3) q
  have zq : Zr q := ⟨by omega, by omega⟩
  have zb : Zr b := ⟨by omega, by omega⟩
  have zi : Zr i := ⟨by omega, by omega⟩
  have zu := w.1 o 13
  refine Z_go (f2 := (1, [(0, .ref o), (1, .int (Zi q)), (2, .int (Zi b)), (3, .int (Zi i))], [.ref o])) (fun _ => rfl) ?_
  refine C_gr rfl hs ok (by decide) (Nat.le_of_ble_eq_true rfl) rfl e1 ?_
  refine Z_go (f2 := (5, [(0, .ref o), (1, .int (Zi q)), (2, .int (Zi b)), (3, .int (Zi i))], [.int (Zi q), .ref (A 1)])) (fun _ => rfl) ?_
  refine C_callSR (vs := [.ref (A 1), .int (Zi q)]) (rest := []) rfl (by decide) rfl rfl rfl (Nat.le_of_ble_eq_true rfl) hs (C_pick _ (k1) (i := q) (by first | exact hs.zF _ _ | exact Zor_r _ _ | exact hs.zA _ _ | assumption | exact zA _ _ | exact zS _ | exact Zr_not (hs.zA _ _) | exact hs.1.1 _ _ | exact ⟨by omega, by omega⟩)) (fun x q => ?_)
  obtain rfl := q
  rw [if_pos (by omega)]
  show B_R _ _ (8, [(0, .ref o), (1, .int (Zi q)), (2, .int (Zi b)), (3, .int (Zi i))], [.int (Zi (C_A s (A 1) q))]) _ _ _
  refine Z_go (f2 := (10, [(4, .int (Zi (C_A s (A 1) q))), (0, .ref o), (1, .int (Zi q)), (2, .int (Zi b)), (3, .int (Zi i))], [])) (fun _ => rfl) ?_
  refine Z_go (f2 := (12, [(4, .int (Zi (C_A s (A 1) q))), (0, .ref o), (1, .int (Zi q)), (2, .int (Zi b)), (3, .int (Zi i))], [.int (Zi (C_A s (A 1) q))])) (fun _ => rfl) ?_
  rcases (by omega : C_A s (A 1) q = 3 ∨ C_A s (A 1) q = 7 ∨ C_A s (A 1) q = 8 ∨ (C_A s (A 1) q ≠ 3 ∧ C_A s (A 1) q ≠ 7 ∧ C_A s (A 1) q ≠ 8)) with y1 | y1 | y1 | y1
  · refine Z_swk (f2 := (57, [(4, .int (Zi (C_A s (A 1) q))), (0, .ref o), (1, .int (Zi q)), (2, .int (Zi b)), (3, .int (Zi i))], [])) y1 (fun _ => rfl) ?_
    refine Z_go (f2 := (58, [(4, .int (Zi (C_A s (A 1) q))), (0, .ref o), (1, .int (Zi q)), (2, .int (Zi b)), (3, .int (Zi i))], [.ref o])) (fun _ => rfl) ?_
    refine C_gr rfl hs ok (by decide) (Nat.le_of_ble_eq_true rfl) rfl e12 ?_
    refine Z_go (f2 := (62, [(4, .int (Zi (C_A s (A 1) q))), (0, .ref o), (1, .int (Zi q)), (2, .int (Zi b)), (3, .int (Zi i))], [.ref o, .ref (A 12)])) (fun _ => rfl) ?_
    refine C_gi rfl hs ok (by decide) (Nat.le_of_ble_eq_true rfl) rfl ?_
    show B_R _ _ (65, [(4, .int (Zi (C_A s (A 1) q))), (0, .ref o), (1, .int (Zi q)), (2, .int (Zi b)), (3, .int (Zi i))], [.int (Zi (C_F s o 13)), .ref (A 12)]) _ _ _
    refine Z_go (f2 := (66, [(4, .int (Zi (C_A s (A 1) q))), (0, .ref o), (1, .int (Zi q)), (2, .int (Zi b)), (3, .int (Zi i))], [.int (Zi b), .int (Zi (C_F s o 13)), .ref (A 12)])) (fun _ => rfl) ?_
    refine Z_go (f2 := (68, [(4, .int (Zi (C_A s (A 1) q))), (0, .ref o), (1, .int (Zi q)), (2, .int (Zi b)), (3, .int (Zi i))], [.int (Zi 8), .int (Zi b), .int (Zi (C_F s o 13)), .ref (A 12)])) (fun _ => rfl) ?_
    refine Z_ishl rfl (by omega) (by omega) (p := 256) (by rfl) ?_
    refine Z_go (f2 := (70, [(4, .int (Zi (C_A s (A 1) q))), (0, .ref o), (1, .int (Zi q)), (2, .int (Zi b)), (3, .int (Zi i))], [.int (Zi q), .int (Zi (b * 256)), .int (Zi (C_F s o 13)), .ref (A 12)])) (fun _ => rfl) ?_
    refine Z_go (f2 := (71, [(4, .int (Zi (C_A s (A 1) q))), (0, .ref o), (1, .int (Zi q)), (2, .int (Zi b)), (3, .int (Zi i))], [.int (Zi (b * 256) ||| Zi q), .int (Zi (C_F s o 13)), .ref (A 12)])) (fun _ => rfl) ?_
    rw [show Zi (b * 256) ||| Zi q = Zi (b * 256 + q) from Zor_add (k := 8) (a := b) (by omega) b0 (by omega) q0 (by omega) (by omega)]
    refine C_callS (vs := [.ref (A 12), .int (Zi (C_F s o 13)), .int (Zi (b * 256 + q))]) (rest := []) rfl (by decide) rfl rfl rfl (Nat.le_of_ble_eq_true rfl) hs (C_store _ (k12) (i := C_F s o 13) (v := b * 256 + q) (by first | exact hs.zF _ _ | exact Zor_r _ _ | exact hs.zA _ _ | assumption | exact zA _ _ | exact zS _ | exact Zr_not (hs.zA _ _) | exact hs.1.1 _ _ | exact ⟨by omega, by omega⟩) (by first | exact hs.zF _ _ | exact Zor_r _ _ | exact hs.zA _ _ | assumption | exact zA _ _ | exact zS _ | exact Zr_not (hs.zA _ _) | exact hs.1.1 _ _ | exact ⟨by omega, by omega⟩)) (fun x h w85 n85 hs q => ?_)
    obtain ⟨rfl, rfl, rfl⟩ := q
    rw [if_pos (by omega)] at hs
    show B_R _ _ (74, [(4, .int (Zi (C_A s (A 1) q))), (0, .ref o), (1, .int (Zi q)), (2, .int (Zi b)), (3, .int (Zi i))], []) _ _ _
    refine Z_go (f2 := (75, [(4, .int (Zi (C_A s (A 1) q))), (0, .ref o), (1, .int (Zi q)), (2, .int (Zi b)), (3, .int (Zi i))], [.ref o])) (fun _ => rfl) ?_
    refine Z_go (f2 := (76, [(4, .int (Zi (C_A s (A 1) q))), (0, .ref o), (1, .int (Zi q)), (2, .int (Zi b)), (3, .int (Zi i))], [.ref o, .ref o])) (fun _ => rfl) ?_
    refine C_gi rfl hs ok (by decide) (Nat.le_of_ble_eq_true rfl) rfl ?_
    rw [show C_F (C_sA s (A 12) (C_F s o 13) (b * 256 + q)) o 13 = C_F s o 13 from (by first | rfl | (simp only [C_F, C_P, C_A, C_L, C_Q, C_K, C_T, C_n, C_sF, C_sP, C_sA, C_sL, C_sQ, C_sAf, C_sQf]; simp [*]; done) | (simp only [C_F, C_P, C_A, C_L, C_Q, C_K, C_T, C_n, C_sF, C_sP, C_sA, C_sL, C_sQ, C_sAf, C_sQf]; simp; omega))]; show B_R _ _ (79, [(4, .int (Zi (C_A s (A 1) q))), (0, .ref o), (1, .int (Zi q)), (2, .int (Zi b)), (3, .int (Zi i))], [.int (Zi (C_F s o 13)), .ref o]) _ _ _
    refine Z_go (f2 := (80, [(4, .int (Zi (C_A s (A 1) q))), (0, .ref o), (1, .int (Zi q)), (2, .int (Zi b)), (3, .int (Zi i))], [.int (Zi 1), .int (Zi (C_F s o 13)), .ref o])) (fun _ => rfl) ?_
    refine Z_iadd rfl ?_
    refine C_pi rfl hs ok (by decide) (Nat.le_of_ble_eq_true rfl) (.inl rfl) rfl rfl rfl (by first | exact hs.zF _ _ | exact Zor_r _ _ | exact hs.zA _ _ | assumption | exact zA _ _ | exact zS _ | exact Zr_not (hs.zA _ _) | exact hs.1.1 _ _ | exact ⟨by omega, by omega⟩) (fun h hs => ?_)
    refine Z_go (f2 := (139, [(4, .int (Zi (C_A s (A 1) q))), (0, .ref o), (1, .int (Zi q)), (2, .int (Zi b)), (3, .int (Zi i))], [])) (fun _ => rfl) ?_
    refine Z_ret rfl rfl ⟨_, hs, ?_⟩
    try dsimp only
    exact ⟨rfl, rfl, .inr (.inl ⟨by omega, rfl⟩)⟩
  · refine Z_swk (f2 := (87, [(4, .int (Zi (C_A s (A 1) q))), (0, .ref o), (1, .int (Zi q)), (2, .int (Zi b)), (3, .int (Zi i))], [])) y1 (fun _ => rfl) ?_
    refine Z_go (f2 := (88, [(4, .int (Zi (C_A s (A 1) q))), (0, .ref o), (1, .int (Zi q)), (2, .int (Zi b)), (3, .int (Zi i))], [.ref o])) (fun _ => rfl) ?_
    refine Z_go (f2 := (89, [(4, .int (Zi (C_A s (A 1) q))), (0, .ref o), (1, .int (Zi q)), (2, .int (Zi b)), (3, .int (Zi i))], [.ref o, .ref o])) (fun _ => rfl) ?_
    refine C_gr rfl hs ok (by decide) (Nat.le_of_ble_eq_true rfl) rfl e3 ?_
    refine Z_go (f2 := (93, [(4, .int (Zi (C_A s (A 1) q))), (0, .ref o), (1, .int (Zi q)), (2, .int (Zi b)), (3, .int (Zi i))], [.int (Zi q), .ref (A 3), .ref o])) (fun _ => rfl) ?_
    refine C_callSR (vs := [.ref (A 3), .int (Zi q)]) (rest := [.ref o]) rfl (by decide) rfl rfl rfl (Nat.le_of_ble_eq_true rfl) hs (C_pick _ (k3) (i := q) (by first | exact hs.zF _ _ | exact Zor_r _ _ | exact hs.zA _ _ | assumption | exact zA _ _ | exact zS _ | exact Zr_not (hs.zA _ _) | exact hs.1.1 _ _ | exact ⟨by omega, by omega⟩)) (fun x q => ?_)
    obtain rfl := q
    rw [if_pos (by omega)]
    show B_R _ _ (96, [(4, .int (Zi (C_A s (A 1) q))), (0, .ref o), (1, .int (Zi q)), (2, .int (Zi b)), (3, .int (Zi i))], [.int (Zi (C_A s (A 3) q)), .ref o]) _ _ _
    refine Z_go (f2 := (97, [(4, .int (Zi (C_A s (A 1) q))), (0, .ref o), (1, .int (Zi q)), (2, .int (Zi b)), (3, .int (Zi i))], [.int (Zi i), .int (Zi (C_A s (A 3) q)), .ref o])) (fun _ => rfl) ?_
    refine C_callV (As := [.int (Zi (C_A s (A 3) q)), .int (Zi i)]) (rest := []) rfl (by decide) rfl (by decide) rfl rfl (by decide +kernel) (Nat.le_of_ble_eq_true rfl) hs ok (C_mpush _ hm (q := C_A s (A 3) q) (i := i) (by first | exact hs.zF _ _ | exact Zor_r _ _ | exact hs.zA _ _ | assumption | exact zA _ _ | exact zS _ | exact Zr_not (hs.zA _ _) | exact hs.1.1 _ _ | exact ⟨by omega, by omega⟩) zi t0 (by omega)) (fun x h v86 m86 hs q => ?_)
    obtain ⟨rfl, rfl, rfl⟩ := q
    have hs : C_is h0 h (C_mp s o A (C_A s (A 3) q) i) := hs
    have hm2 := C_mp_M0 hm (C_A s (A 3) q) i
    have h9 := C_mp_9 s o A (C_A s (A 3) q) i
    show B_R _ _ (100, [(4, .int (Zi (C_A s (A 1) q))), (0, .ref o), (1, .int (Zi q)), (2, .int (Zi b)), (3, .int (Zi i))], []) _ _ _
    refine Z_go (f2 := (101, [(4, .int (Zi (C_A s (A 1) q))), (0, .ref o), (1, .int (Zi q)), (2, .int (Zi b)), (3, .int (Zi i))], [.ref o])) (fun _ => rfl) ?_
    refine Z_go (f2 := (102, [(4, .int (Zi (C_A s (A 1) q))), (0, .ref o), (1, .int (Zi q)), (2, .int (Zi b)), (3, .int (Zi i))], [.ref o, .ref o])) (fun _ => rfl) ?_
    refine C_gr rfl hs hm2.1 (by decide) (Nat.le_of_ble_eq_true rfl) rfl (hm2.2.2.1 2 (by omega)).1 ?_
    refine Z_go (f2 := (106, [(4, .int (Zi (C_A s (A 1) q))), (0, .ref o), (1, .int (Zi q)), (2, .int (Zi b)), (3, .int (Zi i))], [.int (Zi q), .ref (A 2), .ref o])) (fun _ => rfl) ?_
    refine C_callSR (vs := [.ref (A 2), .int (Zi q)]) (rest := [.ref o]) rfl (by decide) rfl rfl rfl (Nat.le_of_ble_eq_true rfl) hs (C_pick _ ((hm2.2.2.1 2 (by omega)).2.1) (i := q) (by first | exact hs.zF _ _ | exact Zor_r _ _ | exact hs.zA _ _ | assumption | exact zA _ _ | exact zS _ | exact Zr_not (hs.zA _ _) | exact hs.1.1 _ _ | exact ⟨by omega, by omega⟩)) (fun x q => ?_)
    obtain rfl := q
    rw [if_pos (by omega), C_mp_A hm _ _ (by omega)]
    show B_R _ _ (109, [(4, .int (Zi (C_A s (A 1) q))), (0, .ref o), (1, .int (Zi q)), (2, .int (Zi b)), (3, .int (Zi i))], [.int (Zi (C_A s (A 2) q)), .ref o]) _ _ _
    refine Z_go (f2 := (110, [(4, .int (Zi (C_A s (A 1) q))), (0, .ref o), (1, .int (Zi q)), (2, .int (Zi b)), (3, .int (Zi i))], [.int (Zi i), .int (Zi (C_A s (A 2) q)), .ref o])) (fun _ => rfl) ?_
    refine C_callV (As := [.int (Zi (C_A s (A 2) q)), .int (Zi i)]) (rest := []) rfl (by decide) rfl (by decide) rfl rfl (by decide +kernel) (Nat.le_of_ble_eq_true rfl) hs hm2.1 (C_mpush _ hm2 (q := C_A s (A 2) q) (i := i) (by first | exact hs.zF _ _ | exact Zor_r _ _ | exact hs.zA _ _ | assumption | exact zA _ _ | exact zS _ | exact Zr_not (hs.zA _ _) | exact hs.1.1 _ _ | exact ⟨by omega, by omega⟩) zi (by omega) (by omega)) (fun x h v87 m87 hs q => ?_)
    obtain ⟨rfl, rfl, rfl⟩ := q
    show B_R _ _ (113, [(4, .int (Zi (C_A s (A 1) q))), (0, .ref o), (1, .int (Zi q)), (2, .int (Zi b)), (3, .int (Zi i))], []) _ _ _
    refine Z_go (f2 := (139, [(4, .int (Zi (C_A s (A 1) q))), (0, .ref o), (1, .int (Zi q)), (2, .int (Zi b)), (3, .int (Zi i))], [])) (fun _ => rfl) ?_
    refine Z_ret rfl rfl ⟨_, hs, ?_⟩
    try dsimp only
    exact ⟨rfl, rfl, .inr (.inr (.inl ⟨by omega, rfl⟩))⟩
  · refine Z_swk (f2 := (48, [(4, .int (Zi (C_A s (A 1) q))), (0, .ref o), (1, .int (Zi q)), (2, .int (Zi b)), (3, .int (Zi i))], [])) y1 (fun _ => rfl) ?_
    refine Z_go (f2 := (49, [(4, .int (Zi (C_A s (A 1) q))), (0, .ref o), (1, .int (Zi q)), (2, .int (Zi b)), (3, .int (Zi i))], [.ref o])) (fun _ => rfl) ?_
    refine Z_go (f2 := (50, [(4, .int (Zi (C_A s (A 1) q))), (0, .ref o), (1, .int (Zi q)), (2, .int (Zi b)), (3, .int (Zi i))], [.int (Zi b), .ref o])) (fun _ => rfl) ?_
    refine Z_go (f2 := (51, [(4, .int (Zi (C_A s (A 1) q))), (0, .ref o), (1, .int (Zi q)), (2, .int (Zi b)), (3, .int (Zi i))], [.int (Zi i), .int (Zi b), .ref o])) (fun _ => rfl) ?_
    refine C_callV (As := [.int (Zi b), .int (Zi i)]) (rest := []) rfl (by decide) rfl (by decide) rfl rfl (by decide +kernel) (Nat.le_of_ble_eq_true rfl) hs ok (C_noteM _ hm (b := b) (e := i) zb zi) (fun x h v1 m1 hs q => ?_)
    obtain ⟨rfl, rfl, ev⟩ := q
    show B_R _ _ (54, [(4, .int (Zi (C_A s (A 1) q))), (0, .ref o), (1, .int (Zi q)), (2, .int (Zi b)), (3, .int (Zi i))], []) _ _ _
    refine Z_go (f2 := (139, [(4, .int (Zi (C_A s (A 1) q))), (0, .ref o), (1, .int (Zi q)), (2, .int (Zi b)), (3, .int (Zi i))], [])) (fun _ => rfl) ?_
    refine Z_ret rfl rfl ⟨_, hs, ?_⟩
    try dsimp only
    exact ⟨rfl, rfl, .inl ⟨by omega, ev⟩⟩
  · refine Z_lswd rfl (by first | exact hs.zF _ _ | exact Zor_r _ _ | exact hs.zA _ _ | assumption | exact zA _ _ | exact zS _ | exact Zr_not (hs.zA _ _) | exact hs.1.1 _ _ | exact ⟨by omega, by omega⟩) (by decide) (by simp; omega) (by rfl) ?_
    show B_R _ _ (116, [(4, .int (Zi (C_A s (A 1) q))), (0, .ref o), (1, .int (Zi q)), (2, .int (Zi b)), (3, .int (Zi i))], []) _ _ _
    refine Z_go (f2 := (117, [(4, .int (Zi (C_A s (A 1) q))), (0, .ref o), (1, .int (Zi q)), (2, .int (Zi b)), (3, .int (Zi i))], [.ref o])) (fun _ => rfl) ?_
    refine Z_go (f2 := (119, [(4, .int (Zi (C_A s (A 1) q))), (0, .ref o), (1, .int (Zi q)), (2, .int (Zi b)), (3, .int (Zi i))], [.int (Zi (C_A s (A 1) q)), .ref o])) (fun _ => rfl) ?_
    refine Z_go (f2 := (120, [(4, .int (Zi (C_A s (A 1) q))), (0, .ref o), (1, .int (Zi q)), (2, .int (Zi b)), (3, .int (Zi i))], [.int (Zi i), .int (Zi (C_A s (A 1) q)), .ref o])) (fun _ => rfl) ?_
    refine C_callVR (As := [.int (Zi (C_A s (A 1) q)), .int (Zi i)]) (rest := []) rfl (by decide) rfl (by decide) rfl rfl (by decide +kernel) (Nat.le_of_ble_eq_true rfl) hs ok (C_mhold _ hm et kt (k := C_A s (A 1) q) (i := i) z1 i0 i1 N1) (fun x q => ?_)
    obtain ⟨hz88, rfl, hhz⟩ := q
    have zhz : Zr hz88 := by rcases hhz with ⟨e, _⟩ | ⟨e, _⟩ <;> exact ⟨by omega, by omega⟩
    show B_R _ _ (123, [(4, .int (Zi (C_A s (A 1) q))), (0, .ref o), (1, .int (Zi q)), (2, .int (Zi b)), (3, .int (Zi i))], [.int (Zi hz88)]) _ _ _
    refine Z_ieq rfl rfl (by first | exact hs.zF _ _ | exact Zor_r _ _ | exact hs.zA _ _ | assumption | exact zA _ _ | exact zS _ | exact Zr_not (hs.zA _ _) | exact hs.1.1 _ _ | exact ⟨by omega, by omega⟩) (fun y2 => ?_) (fun y2 => ?_)
    · refine Z_ret rfl rfl ⟨_, hs, ?_⟩
      try dsimp only
      exact ⟨rfl, rfl, .inr (.inr (.inr ⟨by omega, by omega, by omega, .inr ⟨by rcases hhz with ⟨e, _⟩ | ⟨_, h⟩; omega; exact h, rfl⟩⟩))⟩
    · refine Z_go (f2 := (127, [(4, .int (Zi (C_A s (A 1) q))), (0, .ref o), (1, .int (Zi q)), (2, .int (Zi b)), (3, .int (Zi i))], [.ref o])) (fun _ => rfl) ?_
      refine Z_go (f2 := (128, [(4, .int (Zi (C_A s (A 1) q))), (0, .ref o), (1, .int (Zi q)), (2, .int (Zi b)), (3, .int (Zi i))], [.ref o, .ref o])) (fun _ => rfl) ?_
      refine C_gr rfl hs ok (by decide) (Nat.le_of_ble_eq_true rfl) rfl e2 ?_
      refine Z_go (f2 := (132, [(4, .int (Zi (C_A s (A 1) q))), (0, .ref o), (1, .int (Zi q)), (2, .int (Zi b)), (3, .int (Zi i))], [.int (Zi q), .ref (A 2), .ref o])) (fun _ => rfl) ?_
      refine C_callSR (vs := [.ref (A 2), .int (Zi q)]) (rest := [.ref o]) rfl (by decide) rfl rfl rfl (Nat.le_of_ble_eq_true rfl) hs (C_pick _ (k2) (i := q) (by first | exact hs.zF _ _ | exact Zor_r _ _ | exact hs.zA _ _ | assumption | exact zA _ _ | exact zS _ | exact Zr_not (hs.zA _ _) | exact hs.1.1 _ _ | exact ⟨by omega, by omega⟩)) (fun x q => ?_)
      obtain rfl := q
      rw [if_pos (by omega)]
      show B_R _ _ (135, [(4, .int (Zi (C_A s (A 1) q))), (0, .ref o), (1, .int (Zi q)), (2, .int (Zi b)), (3, .int (Zi i))], [.int (Zi (C_A s (A 2) q)), .ref o]) _ _ _
      refine Z_go (f2 := (136, [(4, .int (Zi (C_A s (A 1) q))), (0, .ref o), (1, .int (Zi q)), (2, .int (Zi b)), (3, .int (Zi i))], [.int (Zi i), .int (Zi (C_A s (A 2) q)), .ref o])) (fun _ => rfl) ?_
      refine C_callV (As := [.int (Zi (C_A s (A 2) q)), .int (Zi i)]) (rest := []) rfl (by decide) rfl (by decide) rfl rfl (by decide +kernel) (Nat.le_of_ble_eq_true rfl) hs ok (C_mpush _ hm (q := C_A s (A 2) q) (i := i) (by first | exact hs.zF _ _ | exact Zor_r _ _ | exact hs.zA _ _ | assumption | exact zA _ _ | exact zS _ | exact Zr_not (hs.zA _ _) | exact hs.1.1 _ _ | exact ⟨by omega, by omega⟩) zi t0 (by omega)) (fun x h v89 m89 hs q => ?_)
      obtain ⟨rfl, rfl, rfl⟩ := q
      have hs : C_is h0 h (C_mp s o A (C_A s (A 2) q) i) := hs
      have hm2 := C_mp_M0 hm (C_A s (A 2) q) i
      have h9 := C_mp_9 s o A (C_A s (A 2) q) i
      show B_R _ _ (139, [(4, .int (Zi (C_A s (A 1) q))), (0, .ref o), (1, .int (Zi q)), (2, .int (Zi b)), (3, .int (Zi i))], []) _ _ _
      refine Z_ret rfl rfl ⟨_, hs, ?_⟩
      try dsimp only
      exact ⟨rfl, rfl, .inr (.inr (.inr ⟨by omega, by omega, by omega, .inl ⟨by rcases hhz with ⟨_, h⟩ | ⟨e, _⟩; exact h; omega, rfl⟩⟩))⟩
