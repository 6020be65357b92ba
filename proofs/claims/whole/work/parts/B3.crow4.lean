/-! the class: Row: isPartOf, isAheadOf, mark, fillFromBoth -/
theorem L_le_no {xs ys : List Int} (sy : L_srt ys) {i j : Int} (i0 : 0 ≤ i) (i1 : i < xs.length) (h1 : ∀ k : Int, 0 ≤ k → k < j → L_at ys k < L_at xs i) (h2 : j < ys.length → L_at xs i < L_at ys j) (j0 : 0 ≤ j) : ¬ L_le xs ys := by
  intro h
  obtain ⟨k, k0, k1, e⟩ := L_at_mem.mp (h _ (L_at_mem.mpr ⟨i, i0, i1, rfl⟩))
  by_cases c : k < j
  · have := h1 k k0 c
    omega
  · by_cases c2 : k = j
    · subst c2
      have := h2 k1
      omega
    · have := L_at_srt sy j k j0 (by omega) k1
      have := h2 (by omega)
      omega
theorem L_le_all {xs ys : List Int} (h : ∀ k : Int, 0 ≤ k → k < xs.length → L_at xs k ∈ ys) : L_le xs ys := by
  intro v hv
  obtain ⟨k, k0, k1, e⟩ := L_at_mem.mp hv
  rw [← e]
  exact h k k0 k1
theorem C_part_lp {d : Nat} {h0 h : E_H} {s : C_S} {p : List Nat} {o a cap : Nat} {xs : List Int} {q : List Nat} {o2 b cap3 : Nat} {ys : List Int} (hs : C_is h0 h s) (hr : D_Row s p o a cap xs) (hq : D_Row s q o2 b cap3 ys) (sx : L_srt xs) (sy : L_srt ys) : ∀ (t : Nat) (i j : Int), ((xs.length : Int) - i) + (ys.length - j) < t → 0 ≤ i → i < xs.length → 0 ≤ j → j ≤ ys.length → (∀ k : Int, 0 ≤ k → k < i → L_at xs k ∈ ys) → (∀ k : Int, 0 ≤ k → k < j → L_at ys k < L_at xs i) → B_R (d + 1) E_m95 (12, [(3, .int (Zi i)), (2, .int (Zi j)), (0, .ref o), (1, .ref o2)], []) h 0 (fun r => r.2.1 = h ∧ r.2.2 = 0 ∧ (fun x => ∃ z : Int, x = some (.int (Zi z)) ∧ (z = 1 ∧ L_le xs ys ∨ z = 0 ∧ ¬ L_le xs ys)) r.1) := by
  have hr0 := hr
  have hq0 := hq
  have rx := L_at_srt sx
  have ry := L_at_srt sy
  obtain ⟨rk, rt, rp, ra, rs, rm, rl, r8, ri⟩ := hr
  have z := D_Row.zr hs ⟨rk, rt, rp, ra, rs, rm, rl, r8, ri⟩
  have z3 := D_Row.zr hs hq
  obtain ⟨qk, qt, qp, qa, qs, qm, ql, q8, qi⟩ := hq
  intro t
  induction t with
  | zero => intro i j ht i0 i1 j0 j1 h1 h2; omega
  | succ t ih =>
    intro i j ht i0 i1 j0 j1 h1 h2
    refine Z_go (f2 := (13, [(3, .int (Zi i)), (2, .int (Zi j)), (0, .ref o), (1, .ref o2)], [.int (Zi j)])) (fun _ => rfl) ?_
    refine Z_go (f2 := (14, [(3, .int (Zi i)), (2, .int (Zi j)), (0, .ref o), (1, .ref o2)], [.ref o2, .int (Zi j)])) (fun _ => rfl) ?_
    refine C_gi rfl hs qk (by decide) (Nat.le_of_ble_eq_true rfl) rfl ?_
    rw [show C_F (s) o2 1 = (ys.length : Int) from (by first | exact qm | exact (if_neg (fun e => absurd e.1 (by assumption))).trans qm)]
    show B_R _ _ (17, [(3, .int (Zi i)), (2, .int (Zi j)), (0, .ref o), (1, .ref o2)], [.int (Zi ((ys.length : Int))), .int (Zi j)]) _ _ _
    refine Z_cge rfl rfl (by first | exact hs.zF _ _ | exact Zor_r _ _ | exact hs.zA _ _ | assumption | exact zA _ _ | exact zS _ | exact Zr_not (hs.zA _ _) | exact hs.1.1 _ _ | exact ⟨by omega, by omega⟩) (by first | exact hs.zF _ _ | exact Zor_r _ _ | exact hs.zA _ _ | assumption | exact zA _ _ | exact zS _ | exact Zr_not (hs.zA _ _) | exact hs.1.1 _ _ | exact ⟨by omega, by omega⟩) (fun c1 => ?_) (fun c1 => ?_)
    · refine Z_go (f2 := (40, [(3, .int (Zi i)), (2, .int (Zi j)), (0, .ref o), (1, .ref o2)], [.int (Zi j)])) (fun _ => rfl) ?_
      refine Z_go (f2 := (41, [(3, .int (Zi i)), (2, .int (Zi j)), (0, .ref o), (1, .ref o2)], [.ref o2, .int (Zi j)])) (fun _ => rfl) ?_
      refine C_gi rfl hs qk (by decide) (Nat.le_of_ble_eq_true rfl) rfl ?_
      rw [show C_F (s) o2 1 = (ys.length : Int) from (by first | exact qm | exact (if_neg (fun e => absurd e.1 (by assumption))).trans qm)]
      show B_R _ _ (44, [(3, .int (Zi i)), (2, .int (Zi j)), (0, .ref o), (1, .ref o2)], [.int (Zi ((ys.length : Int))), .int (Zi j)]) _ _ _
      refine Z_cge rfl rfl (by first | exact hs.zF _ _ | exact Zor_r _ _ | exact hs.zA _ _ | assumption | exact zA _ _ | exact zS _ | exact Zr_not (hs.zA _ _) | exact hs.1.1 _ _ | exact ⟨by omega, by omega⟩) (by first | exact hs.zF _ _ | exact Zor_r _ _ | exact hs.zA _ _ | assumption | exact zA _ _ | exact zS _ | exact Zr_not (hs.zA _ _) | exact hs.1.1 _ _ | exact ⟨by omega, by omega⟩) (fun c2 => ?_) (fun c2 => ?_)
      · refine Z_go (f2 := (61, [(3, .int (Zi i)), (2, .int (Zi j)), (0, .ref o), (1, .ref o2)], [.int (Zi 0)])) (fun _ => rfl) ?_
        refine Z_iret rfl rfl (by first | rfl | decide | exact narrow_b01 (by omega)) ⟨rfl, rfl, ?_⟩
        try dsimp only
        exact ⟨0, rfl, .inr ⟨rfl, L_le_no sy i0 i1 h2 (by omega) j0⟩⟩
      · refine Z_go (f2 := (48, [(3, .int (Zi i)), (2, .int (Zi j)), (0, .ref o), (1, .ref o2)], [.ref o2])) (fun _ => rfl) ?_
        refine Z_go (f2 := (49, [(3, .int (Zi i)), (2, .int (Zi j)), (0, .ref o), (1, .ref o2)], [.int (Zi j), .ref o2])) (fun _ => rfl) ?_
        refine C_callVR (As := [.int (Zi j)]) (rest := []) rfl (by decide) rfl (by decide) rfl rfl (by decide +kernel) (Nat.le_of_ble_eq_true rfl) hs qk (C_at_ _ hq0 (i := j) (by first | exact hs.zF _ _ | exact Zor_r _ _ | exact hs.zA _ _ | assumption | exact zA _ _ | exact zS _ | exact Zr_not (hs.zA _ _) | exact hs.1.1 _ _ | exact ⟨by omega, by omega⟩)) (fun x q => ?_)
        obtain rfl := q
        have zl3 := D_Row.zat hs hq0 j
        show B_R _ _ (52, [(3, .int (Zi i)), (2, .int (Zi j)), (0, .ref o), (1, .ref o2)], [.int (Zi (L_at ys j))]) _ _ _
        refine Z_go (f2 := (53, [(3, .int (Zi i)), (2, .int (Zi j)), (0, .ref o), (1, .ref o2)], [.ref o, .int (Zi (L_at ys j))])) (fun _ => rfl) ?_
        refine Z_go (f2 := (54, [(3, .int (Zi i)), (2, .int (Zi j)), (0, .ref o), (1, .ref o2)], [.int (Zi i), .ref o, .int (Zi (L_at ys j))])) (fun _ => rfl) ?_
        refine C_callVR (As := [.int (Zi i)]) (rest := [.int (Zi (L_at ys j))]) rfl (by decide) rfl (by decide) rfl rfl (by decide +kernel) (Nat.le_of_ble_eq_true rfl) hs rk (C_at_ _ hr0 (i := i) (by first | exact hs.zF _ _ | exact Zor_r _ _ | exact hs.zA _ _ | assumption | exact zA _ _ | exact zS _ | exact Zr_not (hs.zA _ _) | exact hs.1.1 _ _ | exact ⟨by omega, by omega⟩)) (fun x q => ?_)
        obtain rfl := q
        have zl4 := D_Row.zat hs hr0 i
        show B_R _ _ (57, [(3, .int (Zi i)), (2, .int (Zi j)), (0, .ref o), (1, .ref o2)], [.int (Zi (L_at xs i)), .int (Zi (L_at ys j))]) _ _ _
        refine Z_ceq rfl rfl (by first | exact hs.zF _ _ | exact Zor_r _ _ | exact hs.zA _ _ | assumption | exact zA _ _ | exact zS _ | exact Zr_not (hs.zA _ _) | exact hs.1.1 _ _ | exact ⟨by omega, by omega⟩) (by first | exact hs.zF _ _ | exact Zor_r _ _ | exact hs.zA _ _ | assumption | exact zA _ _ | exact zS _ | exact Zr_not (hs.zA _ _) | exact hs.1.1 _ _ | exact ⟨by omega, by omega⟩) (fun c3 => ?_) (fun c3 => ?_)
        · refine Z_iinc (L2 := [(3, .int (Zi (i + 1))), (2, .int (Zi j)), (0, .ref o), (1, .ref o2)]) rfl rfl (by decide) rfl ?_
          refine Z_go (f2 := (4, [(3, .int (Zi (i + 1))), (2, .int (Zi j)), (0, .ref o), (1, .ref o2)], [])) (fun _ => rfl) ?_
          refine Z_go (f2 := (5, [(3, .int (Zi (i + 1))), (2, .int (Zi j)), (0, .ref o), (1, .ref o2)], [.int (Zi (i + 1))])) (fun _ => rfl) ?_
          refine Z_go (f2 := (6, [(3, .int (Zi (i + 1))), (2, .int (Zi j)), (0, .ref o), (1, .ref o2)], [.ref o, .int (Zi (i + 1))])) (fun _ => rfl) ?_
          refine C_gi rfl hs rk (by decide) (Nat.le_of_ble_eq_true rfl) rfl ?_
          rw [show C_F (s) o 1 = (xs.length : Int) from (by first | exact rm | exact (if_neg (fun e => absurd e.1 (by assumption))).trans rm)]
          show B_R _ _ (9, [(3, .int (Zi (i + 1))), (2, .int (Zi j)), (0, .ref o), (1, .ref o2)], [.int (Zi ((xs.length : Int))), .int (Zi (i + 1))]) _ _ _
          refine Z_cge rfl rfl (by first | exact hs.zF _ _ | exact Zor_r _ _ | exact hs.zA _ _ | assumption | exact zA _ _ | exact zS _ | exact Zr_not (hs.zA _ _) | exact hs.1.1 _ _ | exact ⟨by omega, by omega⟩) (by first | exact hs.zF _ _ | exact Zor_r _ _ | exact hs.zA _ _ | assumption | exact zA _ _ | exact zS _ | exact Zr_not (hs.zA _ _) | exact hs.1.1 _ _ | exact ⟨by omega, by omega⟩) (fun c4 => ?_) (fun c4 => ?_)
          · refine Z_go (f2 := (69, [(3, .int (Zi (i + 1))), (2, .int (Zi j)), (0, .ref o), (1, .ref o2)], [.int (Zi 1)])) (fun _ => rfl) ?_
            refine Z_iret rfl rfl (by first | rfl | decide | exact narrow_b01 (by omega)) ⟨rfl, rfl, ?_⟩
            try dsimp only
            have hin : L_at xs i ∈ ys := L_at_mem.mpr ⟨j, by omega, by omega, by omega⟩
            exact ⟨1, rfl, .inl ⟨rfl, L_le_all (fun k k0 k1 => by by_cases e : k = i; subst e; exact hin; exact h1 k k0 (by omega))⟩⟩
          · refine B_loc (K := [(3, .int (Zi (i + 1))), (2, .int (Zi j)), (0, .ref o), (1, .ref o2)]) (N_all_sub ⟨rfl, rfl, rfl, rfl, trivial⟩) (show ([3, 2, 0, 1] : List Nat).Nodup by decide) ?_
            have hin : L_at xs i ∈ ys := L_at_mem.mpr ⟨j, by omega, by omega, by omega⟩
            exact ih _ _ (by omega) (by omega) (by omega) (by omega) (by omega) (fun k k0 k1 => by by_cases e : k = i; subst e; exact hin; exact h1 k k0 (by omega)) (fun k k0 k1 => by have := h2 k k0 k1; have := rx i (i + 1) (by omega) (by omega) (by omega); omega)
        · refine Z_go (f2 := (61, [(3, .int (Zi i)), (2, .int (Zi j)), (0, .ref o), (1, .ref o2)], [.int (Zi 0)])) (fun _ => rfl) ?_
          refine Z_iret rfl rfl (by first | rfl | decide | exact narrow_b01 (by omega)) ⟨rfl, rfl, ?_⟩
          try dsimp only
          exact ⟨0, rfl, .inr ⟨rfl, L_le_no sy i0 i1 h2 (by omega) j0⟩⟩
    · refine Z_go (f2 := (21, [(3, .int (Zi i)), (2, .int (Zi j)), (0, .ref o), (1, .ref o2)], [.ref o2])) (fun _ => rfl) ?_
      refine Z_go (f2 := (22, [(3, .int (Zi i)), (2, .int (Zi j)), (0, .ref o), (1, .ref o2)], [.int (Zi j), .ref o2])) (fun _ => rfl) ?_
      refine C_callVR (As := [.int (Zi j)]) (rest := []) rfl (by decide) rfl (by decide) rfl rfl (by decide +kernel) (Nat.le_of_ble_eq_true rfl) hs qk (C_at_ _ hq0 (i := j) (by first | exact hs.zF _ _ | exact Zor_r _ _ | exact hs.zA _ _ | assumption | exact zA _ _ | exact zS _ | exact Zr_not (hs.zA _ _) | exact hs.1.1 _ _ | exact ⟨by omega, by omega⟩)) (fun x q => ?_)
      obtain rfl := q
      have zl5 := D_Row.zat hs hq0 j
      show B_R _ _ (25, [(3, .int (Zi i)), (2, .int (Zi j)), (0, .ref o), (1, .ref o2)], [.int (Zi (L_at ys j))]) _ _ _
      refine Z_go (f2 := (26, [(3, .int (Zi i)), (2, .int (Zi j)), (0, .ref o), (1, .ref o2)], [.ref o, .int (Zi (L_at ys j))])) (fun _ => rfl) ?_
      refine Z_go (f2 := (27, [(3, .int (Zi i)), (2, .int (Zi j)), (0, .ref o), (1, .ref o2)], [.int (Zi i), .ref o, .int (Zi (L_at ys j))])) (fun _ => rfl) ?_
      refine C_callVR (As := [.int (Zi i)]) (rest := [.int (Zi (L_at ys j))]) rfl (by decide) rfl (by decide) rfl rfl (by decide +kernel) (Nat.le_of_ble_eq_true rfl) hs rk (C_at_ _ hr0 (i := i) (by first | exact hs.zF _ _ | exact Zor_r _ _ | exact hs.zA _ _ | assumption | exact zA _ _ | exact zS _ | exact Zr_not (hs.zA _ _) | exact hs.1.1 _ _ | exact ⟨by omega, by omega⟩)) (fun x q => ?_)
      obtain rfl := q
      have zl6 := D_Row.zat hs hr0 i
      show B_R _ _ (30, [(3, .int (Zi i)), (2, .int (Zi j)), (0, .ref o), (1, .ref o2)], [.int (Zi (L_at xs i)), .int (Zi (L_at ys j))]) _ _ _
      refine Z_cge rfl rfl (by first | exact hs.zF _ _ | exact Zor_r _ _ | exact hs.zA _ _ | assumption | exact zA _ _ | exact zS _ | exact Zr_not (hs.zA _ _) | exact hs.1.1 _ _ | exact ⟨by omega, by omega⟩) (by first | exact hs.zF _ _ | exact Zor_r _ _ | exact hs.zA _ _ | assumption | exact zA _ _ | exact zS _ | exact Zr_not (hs.zA _ _) | exact hs.1.1 _ _ | exact ⟨by omega, by omega⟩) (fun c5 => ?_) (fun c5 => ?_)
      · refine Z_go (f2 := (40, [(3, .int (Zi i)), (2, .int (Zi j)), (0, .ref o), (1, .ref o2)], [.int (Zi j)])) (fun _ => rfl) ?_
        refine Z_go (f2 := (41, [(3, .int (Zi i)), (2, .int (Zi j)), (0, .ref o), (1, .ref o2)], [.ref o2, .int (Zi j)])) (fun _ => rfl) ?_
        refine C_gi rfl hs qk (by decide) (Nat.le_of_ble_eq_true rfl) rfl ?_
        rw [show C_F (s) o2 1 = (ys.length : Int) from (by first | exact qm | exact (if_neg (fun e => absurd e.1 (by assumption))).trans qm)]
        show B_R _ _ (44, [(3, .int (Zi i)), (2, .int (Zi j)), (0, .ref o), (1, .ref o2)], [.int (Zi ((ys.length : Int))), .int (Zi j)]) _ _ _
        refine Z_cge rfl rfl (by first | exact hs.zF _ _ | exact Zor_r _ _ | exact hs.zA _ _ | assumption | exact zA _ _ | exact zS _ | exact Zr_not (hs.zA _ _) | exact hs.1.1 _ _ | exact ⟨by omega, by omega⟩) (by first | exact hs.zF _ _ | exact Zor_r _ _ | exact hs.zA _ _ | assumption | exact zA _ _ | exact zS _ | exact Zr_not (hs.zA _ _) | exact hs.1.1 _ _ | exact ⟨by omega, by omega⟩) (fun c6 => ?_) (fun c6 => ?_)
        · refine Z_go (f2 := (61, [(3, .int (Zi i)), (2, .int (Zi j)), (0, .ref o), (1, .ref o2)], [.int (Zi 0)])) (fun _ => rfl) ?_
          refine Z_iret rfl rfl (by first | rfl | decide | exact narrow_b01 (by omega)) ⟨rfl, rfl, ?_⟩
          try dsimp only
          exact ⟨0, rfl, .inr ⟨rfl, L_le_no sy i0 i1 h2 (by omega) j0⟩⟩
        · refine Z_go (f2 := (48, [(3, .int (Zi i)), (2, .int (Zi j)), (0, .ref o), (1, .ref o2)], [.ref o2])) (fun _ => rfl) ?_
          refine Z_go (f2 := (49, [(3, .int (Zi i)), (2, .int (Zi j)), (0, .ref o), (1, .ref o2)], [.int (Zi j), .ref o2])) (fun _ => rfl) ?_
          refine C_callVR (As := [.int (Zi j)]) (rest := []) rfl (by decide) rfl (by decide) rfl rfl (by decide +kernel) (Nat.le_of_ble_eq_true rfl) hs qk (C_at_ _ hq0 (i := j) (by first | exact hs.zF _ _ | exact Zor_r _ _ | exact hs.zA _ _ | assumption | exact zA _ _ | exact zS _ | exact Zr_not (hs.zA _ _) | exact hs.1.1 _ _ | exact ⟨by omega, by omega⟩)) (fun x q => ?_)
          obtain rfl := q
          have zl7 := D_Row.zat hs hq0 j
          show B_R _ _ (52, [(3, .int (Zi i)), (2, .int (Zi j)), (0, .ref o), (1, .ref o2)], [.int (Zi (L_at ys j))]) _ _ _
          refine Z_go (f2 := (53, [(3, .int (Zi i)), (2, .int (Zi j)), (0, .ref o), (1, .ref o2)], [.ref o, .int (Zi (L_at ys j))])) (fun _ => rfl) ?_
          refine Z_go (f2 := (54, [(3, .int (Zi i)), (2, .int (Zi j)), (0, .ref o), (1, .ref o2)], [.int (Zi i), .ref o, .int (Zi (L_at ys j))])) (fun _ => rfl) ?_
          refine C_callVR (As := [.int (Zi i)]) (rest := [.int (Zi (L_at ys j))]) rfl (by decide) rfl (by decide) rfl rfl (by decide +kernel) (Nat.le_of_ble_eq_true rfl) hs rk (C_at_ _ hr0 (i := i) (by first | exact hs.zF _ _ | exact Zor_r _ _ | exact hs.zA _ _ | assumption | exact zA _ _ | exact zS _ | exact Zr_not (hs.zA _ _) | exact hs.1.1 _ _ | exact ⟨by omega, by omega⟩)) (fun x q => ?_)
          obtain rfl := q
          have zl8 := D_Row.zat hs hr0 i
          show B_R _ _ (57, [(3, .int (Zi i)), (2, .int (Zi j)), (0, .ref o), (1, .ref o2)], [.int (Zi (L_at xs i)), .int (Zi (L_at ys j))]) _ _ _
          refine Z_ceq rfl rfl (by first | exact hs.zF _ _ | exact Zor_r _ _ | exact hs.zA _ _ | assumption | exact zA _ _ | exact zS _ | exact Zr_not (hs.zA _ _) | exact hs.1.1 _ _ | exact ⟨by omega, by omega⟩) (by first | exact hs.zF _ _ | exact Zor_r _ _ | exact hs.zA _ _ | assumption | exact zA _ _ | exact zS _ | exact Zr_not (hs.zA _ _) | exact hs.1.1 _ _ | exact ⟨by omega, by omega⟩) (fun c7 => ?_) (fun c7 => ?_)
          · refine Z_iinc (L2 := [(3, .int (Zi (i + 1))), (2, .int (Zi j)), (0, .ref o), (1, .ref o2)]) rfl rfl (by decide) rfl ?_
            refine Z_go (f2 := (4, [(3, .int (Zi (i + 1))), (2, .int (Zi j)), (0, .ref o), (1, .ref o2)], [])) (fun _ => rfl) ?_
            refine Z_go (f2 := (5, [(3, .int (Zi (i + 1))), (2, .int (Zi j)), (0, .ref o), (1, .ref o2)], [.int (Zi (i + 1))])) (fun _ => rfl) ?_
            refine Z_go (f2 := (6, [(3, .int (Zi (i + 1))), (2, .int (Zi j)), (0, .ref o), (1, .ref o2)], [.ref o, .int (Zi (i + 1))])) (fun _ => rfl) ?_
            refine C_gi rfl hs rk (by decide) (Nat.le_of_ble_eq_true rfl) rfl ?_
            rw [show C_F (s) o 1 = (xs.length : Int) from (by first | exact rm | exact (if_neg (fun e => absurd e.1 (by assumption))).trans rm)]
            show B_R _ _ (9, [(3, .int (Zi (i + 1))), (2, .int (Zi j)), (0, .ref o), (1, .ref o2)], [.int (Zi ((xs.length : Int))), .int (Zi (i + 1))]) _ _ _
            refine Z_cge rfl rfl (by first | exact hs.zF _ _ | exact Zor_r _ _ | exact hs.zA _ _ | assumption | exact zA _ _ | exact zS _ | exact Zr_not (hs.zA _ _) | exact hs.1.1 _ _ | exact ⟨by omega, by omega⟩) (by first | exact hs.zF _ _ | exact Zor_r _ _ | exact hs.zA _ _ | assumption | exact zA _ _ | exact zS _ | exact Zr_not (hs.zA _ _) | exact hs.1.1 _ _ | exact ⟨by omega, by omega⟩) (fun c8 => ?_) (fun c8 => ?_)
            · refine Z_go (f2 := (69, [(3, .int (Zi (i + 1))), (2, .int (Zi j)), (0, .ref o), (1, .ref o2)], [.int (Zi 1)])) (fun _ => rfl) ?_
              refine Z_iret rfl rfl (by first | rfl | decide | exact narrow_b01 (by omega)) ⟨rfl, rfl, ?_⟩
              try dsimp only
              have hin : L_at xs i ∈ ys := L_at_mem.mpr ⟨j, by omega, by omega, by omega⟩
              exact ⟨1, rfl, .inl ⟨rfl, L_le_all (fun k k0 k1 => by by_cases e : k = i; subst e; exact hin; exact h1 k k0 (by omega))⟩⟩
            · refine B_loc (K := [(3, .int (Zi (i + 1))), (2, .int (Zi j)), (0, .ref o), (1, .ref o2)]) (N_all_sub ⟨rfl, rfl, rfl, rfl, trivial⟩) (show ([3, 2, 0, 1] : List Nat).Nodup by decide) ?_
              have hin : L_at xs i ∈ ys := L_at_mem.mpr ⟨j, by omega, by omega, by omega⟩
              exact ih _ _ (by omega) (by omega) (by omega) (by omega) (by omega) (fun k k0 k1 => by by_cases e : k = i; subst e; exact hin; exact h1 k k0 (by omega)) (fun k k0 k1 => by have := h2 k k0 k1; have := rx i (i + 1) (by omega) (by omega) (by omega); omega)
          · refine Z_go (f2 := (61, [(3, .int (Zi i)), (2, .int (Zi j)), (0, .ref o), (1, .ref o2)], [.int (Zi 0)])) (fun _ => rfl) ?_
            refine Z_iret rfl rfl (by first | rfl | decide | exact narrow_b01 (by omega)) ⟨rfl, rfl, ?_⟩
            try dsimp only
            exact ⟨0, rfl, .inr ⟨rfl, L_le_no sy i0 i1 h2 (by omega) j0⟩⟩
      · refine Z_iinc (L2 := [(2, .int (Zi (j + 1))), (3, .int (Zi i)), (0, .ref o), (1, .ref o2)]) rfl rfl (by decide) rfl ?_
        refine Z_go (f2 := (12, [(2, .int (Zi (j + 1))), (3, .int (Zi i)), (0, .ref o), (1, .ref o2)], [])) (fun _ => rfl) ?_
        refine B_loc (K := [(3, .int (Zi i)), (2, .int (Zi (j + 1))), (0, .ref o), (1, .ref o2)]) (N_all_sub ⟨rfl, rfl, rfl, rfl, trivial⟩) (show ([3, 2, 0, 1] : List Nat).Nodup by decide) ?_
        exact ih _ _ (by omega) (by omega) (by omega) (by omega) (by omega) h1 (fun k k0 k1 => by by_cases e : k = j; subst e; omega; exact h2 k k0 (by omega))
theorem C_part (d : Nat) {s : C_S} {p : List Nat} {o a cap : Nat} {xs : List Int} {q : List Nat} {o2 b cap3 : Nat} {ys : List Int} (hr : D_Row s p o a cap xs) (hq : D_Row s q o2 b cap3 ys) (sx : L_srt xs) (sy : L_srt ys) : C_rd (d + 2) 95 [.ref o, .ref o2] s (fun x => ∃ z : Int, x = some (.int (Zi z)) ∧ (z = 1 ∧ L_le xs ys ∨ z = 0 ∧ ¬ L_le xs ys)) := by
  refine C_enterR (M := E_m95) rfl (Nat.le_of_ble_eq_true rfl) (fun h0 h hs => ?_)
  show B_R (d + 1) _ (0, [(0, .ref o), (1, .ref o2)], []) _ _ _
  have hr0 := hr
  have hq0 := hq
  obtain ⟨rk, rt, rp, ra, rs, rm, rl, r8, ri⟩ := hr
  have z := D_Row.zr hs ⟨rk, rt, rp, ra, rs, rm, rl, r8, ri⟩
  have z3 := D_Row.zr hs hq
  obtain ⟨qk, qt, qp, qa, qs, qm, ql, q8, qi⟩ := hq
  refine Z_go (f2 := (1, [(0, .ref o), (1, .ref o2)], [.int (Zi 0)])) (fun _ => rfl) ?_
  refine Z_go (f2 := (2, [(2, .int (Zi 0)), (0, .ref o), (1, .ref o2)], [])) (fun _ => rfl) ?_
  refine Z_go (f2 := (3, [(2, .int (Zi 0)), (0, .ref o), (1, .ref o2)], [.int (Zi 0)])) (fun _ => rfl) ?_
  refine Z_go (f2 := (4, [(3, .int (Zi 0)), (2, .int (Zi 0)), (0, .ref o), (1, .ref o2)], [])) (fun _ => rfl) ?_
  refine Z_go (f2 := (5, [(3, .int (Zi 0)), (2, .int (Zi 0)), (0, .ref o), (1, .ref o2)], [.int (Zi 0)])) (fun _ => rfl) ?_
  refine Z_go (f2 := (6, [(3, .int (Zi 0)), (2, .int (Zi 0)), (0, .ref o), (1, .ref o2)], [.ref o, .int (Zi 0)])) (fun _ => rfl) ?_
  refine C_gi rfl hs rk (by decide) (Nat.le_of_ble_eq_true rfl) rfl ?_
  rw [show C_F (s) o 1 = (xs.length : Int) from (by first | exact rm | exact (if_neg (fun e => absurd e.1 (by assumption))).trans rm)]
  show B_R _ _ (9, [(3, .int (Zi 0)), (2, .int (Zi 0)), (0, .ref o), (1, .ref o2)], [.int (Zi ((xs.length : Int))), .int (Zi 0)]) _ _ _
  refine Z_cge rfl rfl (by first | exact hs.zF _ _ | exact Zor_r _ _ | exact hs.zA _ _ | assumption | exact zA _ _ | exact zS _ | exact Zr_not (hs.zA _ _) | exact hs.1.1 _ _ | exact ⟨by omega, by omega⟩) (by first | exact hs.zF _ _ | exact Zor_r _ _ | exact hs.zA _ _ | assumption | exact zA _ _ | exact zS _ | exact Zr_not (hs.zA _ _) | exact hs.1.1 _ _ | exact ⟨by omega, by omega⟩) (fun c1 => ?_) (fun c1 => ?_)
  · refine Z_go (f2 := (69, [(3, .int (Zi 0)), (2, .int (Zi 0)), (0, .ref o), (1, .ref o2)], [.int (Zi 1)])) (fun _ => rfl) ?_
    refine Z_iret rfl rfl (by first | rfl | decide | exact narrow_b01 (by omega)) ⟨rfl, rfl, ?_⟩
    try dsimp only
    exact ⟨1, rfl, .inl ⟨rfl, L_le_all (fun k k0 k1 => by omega)⟩⟩
  · refine B_loc (K := [(3, .int (Zi 0)), (2, .int (Zi 0)), (0, .ref o), (1, .ref o2)]) (N_all_sub ⟨rfl, rfl, rfl, rfl, trivial⟩) (show ([3, 2, 0, 1] : List Nat).Nodup by decide) ?_
    exact C_part_lp hs hr0 hq0 sx sy (xs.length + ys.length + 1) _ _ (by omega) (by omega) (by omega) (by omega) (by omega) (fun k k0 k1 => by omega) (fun k k0 k1 => by omega)
/-- xs stands ahead of ys -/
def L_lt (xs ys : List Int) : Prop := ∃ k : Int, 0 ≤ k ∧ k ≤ xs.length ∧ k < ys.length ∧ (∀ i : Int, 0 ≤ i → i < k → L_at xs i = L_at ys i) ∧ (k = xs.length ∨ L_at xs k < L_at ys k)
theorem L_lt_no {xs ys : List Int} {i : Int} (i0 : 0 ≤ i) (h : ∀ k : Int, 0 ≤ k → k < i → L_at xs k = L_at ys k) (i1 : i ≤ xs.length) (i2 : i ≤ ys.length) (c : i = ys.length ∨ i < xs.length ∧ L_at ys i < L_at xs i) : ¬ L_lt xs ys := by
  rintro ⟨k, k0, k1, k2, k3, k4⟩
  by_cases e : k < i
  · have := h k k0 e
    omega
  · by_cases e2 : k = i
    · subst e2
      omega
    · have := k3 i i0 (by omega)
      omega
theorem C_ahead_lp {d : Nat} {h0 h : E_H} {s : C_S} {p : List Nat} {o a cap : Nat} {xs : List Int} {q : List Nat} {o2 b cap3 : Nat} {ys : List Int} (hs : C_is h0 h s) (hr : D_Row s p o a cap xs) (hq : D_Row s q o2 b cap3 ys) : ∀ (t : Nat) (i : Int), (xs.length : Int) - i < t → 0 ≤ i → i ≤ xs.length → i ≤ ys.length → (∀ k : Int, 0 ≤ k → k < i → L_at xs k = L_at ys k) → B_R (d + 1) E_m96 (2, [(2, .int (Zi i)), (0, .ref o), (1, .ref o2)], []) h 0 (fun r => r.2.1 = h ∧ r.2.2 = 0 ∧ (fun x => ∃ z : Int, x = some (.int (Zi z)) ∧ (z = 1 ∧ L_lt xs ys ∨ z = 0 ∧ ¬ L_lt xs ys)) r.1) := by
  have hr0 := hr
  have hq0 := hq
  obtain ⟨rk, rt, rp, ra, rs, rm, rl, r8, ri⟩ := hr
  have z := D_Row.zr hs ⟨rk, rt, rp, ra, rs, rm, rl, r8, ri⟩
  have z3 := D_Row.zr hs hq
  obtain ⟨qk, qt, qp, qa, qs, qm, ql, q8, qi⟩ := hq
  intro t
  induction t with
  | zero => intro i ht i0 i1 i2 h1; omega
  | succ t ih =>
    intro i ht i0 i1 i2 h1
    refine Z_go (f2 := (3, [(2, .int (Zi i)), (0, .ref o), (1, .ref o2)], [.int (Zi i)])) (fun _ => rfl) ?_
    refine Z_go (f2 := (4, [(2, .int (Zi i)), (0, .ref o), (1, .ref o2)], [.ref o, .int (Zi i)])) (fun _ => rfl) ?_
    refine C_gi rfl hs rk (by decide) (Nat.le_of_ble_eq_true rfl) rfl ?_
    rw [show C_F (s) o 1 = (xs.length : Int) from (by first | exact rm | exact (if_neg (fun e => absurd e.1 (by assumption))).trans rm)]
    show B_R _ _ (7, [(2, .int (Zi i)), (0, .ref o), (1, .ref o2)], [.int (Zi ((xs.length : Int))), .int (Zi i)]) _ _ _
    refine Z_cge rfl rfl (by first | exact hs.zF _ _ | exact Zor_r _ _ | exact hs.zA _ _ | assumption | exact zA _ _ | exact zS _ | exact Zr_not (hs.zA _ _) | exact hs.1.1 _ _ | exact ⟨by omega, by omega⟩) (by first | exact hs.zF _ _ | exact Zor_r _ _ | exact hs.zA _ _ | assumption | exact zA _ _ | exact zS _ | exact Zr_not (hs.zA _ _) | exact hs.1.1 _ _ | exact ⟨by omega, by omega⟩) (fun c1 => ?_) (fun c1 => ?_)
    · refine Z_go (f2 := (57, [(2, .int (Zi i)), (0, .ref o), (1, .ref o2)], [.ref o])) (fun _ => rfl) ?_
      refine C_gi rfl hs rk (by decide) (Nat.le_of_ble_eq_true rfl) rfl ?_
      rw [show C_F (s) o 1 = (xs.length : Int) from (by first | exact rm | exact (if_neg (fun e => absurd e.1 (by assumption))).trans rm)]
      show B_R _ _ (60, [(2, .int (Zi i)), (0, .ref o), (1, .ref o2)], [.int (Zi ((xs.length : Int)))]) _ _ _
      refine Z_go (f2 := (61, [(2, .int (Zi i)), (0, .ref o), (1, .ref o2)], [.ref o2, .int (Zi ((xs.length : Int)))])) (fun _ => rfl) ?_
      refine C_gi rfl hs qk (by decide) (Nat.le_of_ble_eq_true rfl) rfl ?_
      rw [show C_F (s) o2 1 = (ys.length : Int) from (by first | exact qm | exact (if_neg (fun e => absurd e.1 (by assumption))).trans qm)]
      show B_R _ _ (64, [(2, .int (Zi i)), (0, .ref o), (1, .ref o2)], [.int (Zi ((ys.length : Int))), .int (Zi ((xs.length : Int)))]) _ _ _
      refine Z_cge rfl rfl (by first | exact hs.zF _ _ | exact Zor_r _ _ | exact hs.zA _ _ | assumption | exact zA _ _ | exact zS _ | exact Zr_not (hs.zA _ _) | exact hs.1.1 _ _ | exact ⟨by omega, by omega⟩) (by first | exact hs.zF _ _ | exact Zor_r _ _ | exact hs.zA _ _ | assumption | exact zA _ _ | exact zS _ | exact Zr_not (hs.zA _ _) | exact hs.1.1 _ _ | exact ⟨by omega, by omega⟩) (fun c2 => ?_) (fun c2 => ?_)
      · refine Z_go (f2 := (72, [(2, .int (Zi i)), (0, .ref o), (1, .ref o2)], [.int (Zi 0)])) (fun _ => rfl) ?_
        refine Z_iret rfl rfl (by first | rfl | decide | exact narrow_b01 (by omega)) ⟨rfl, rfl, ?_⟩
        try dsimp only
        exact ⟨0, rfl, .inr ⟨rfl, L_lt_no i0 h1 i1 i2 (by omega)⟩⟩
      · refine Z_go (f2 := (68, [(2, .int (Zi i)), (0, .ref o), (1, .ref o2)], [.int (Zi 1)])) (fun _ => rfl) ?_
        refine Z_go (f2 := (72, [(2, .int (Zi i)), (0, .ref o), (1, .ref o2)], [.int (Zi 1)])) (fun _ => rfl) ?_
        refine Z_iret rfl rfl (by first | rfl | decide | exact narrow_b01 (by omega)) ⟨rfl, rfl, ?_⟩
        try dsimp only
        exact ⟨1, rfl, .inl ⟨rfl, i, i0, i1, by omega, h1, by omega⟩⟩
    · refine Z_go (f2 := (11, [(2, .int (Zi i)), (0, .ref o), (1, .ref o2)], [.int (Zi i)])) (fun _ => rfl) ?_
      refine Z_go (f2 := (12, [(2, .int (Zi i)), (0, .ref o), (1, .ref o2)], [.ref o2, .int (Zi i)])) (fun _ => rfl) ?_
      refine C_gi rfl hs qk (by decide) (Nat.le_of_ble_eq_true rfl) rfl ?_
      rw [show C_F (s) o2 1 = (ys.length : Int) from (by first | exact qm | exact (if_neg (fun e => absurd e.1 (by assumption))).trans qm)]
      show B_R _ _ (15, [(2, .int (Zi i)), (0, .ref o), (1, .ref o2)], [.int (Zi ((ys.length : Int))), .int (Zi i)]) _ _ _
      refine Z_cge rfl rfl (by first | exact hs.zF _ _ | exact Zor_r _ _ | exact hs.zA _ _ | assumption | exact zA _ _ | exact zS _ | exact Zr_not (hs.zA _ _) | exact hs.1.1 _ _ | exact ⟨by omega, by omega⟩) (by first | exact hs.zF _ _ | exact Zor_r _ _ | exact hs.zA _ _ | assumption | exact zA _ _ | exact zS _ | exact Zr_not (hs.zA _ _) | exact hs.1.1 _ _ | exact ⟨by omega, by omega⟩) (fun c3 => ?_) (fun c3 => ?_)
      · refine Z_go (f2 := (57, [(2, .int (Zi i)), (0, .ref o), (1, .ref o2)], [.ref o])) (fun _ => rfl) ?_
        refine C_gi rfl hs rk (by decide) (Nat.le_of_ble_eq_true rfl) rfl ?_
        rw [show C_F (s) o 1 = (xs.length : Int) from (by first | exact rm | exact (if_neg (fun e => absurd e.1 (by assumption))).trans rm)]
        show B_R _ _ (60, [(2, .int (Zi i)), (0, .ref o), (1, .ref o2)], [.int (Zi ((xs.length : Int)))]) _ _ _
        refine Z_go (f2 := (61, [(2, .int (Zi i)), (0, .ref o), (1, .ref o2)], [.ref o2, .int (Zi ((xs.length : Int)))])) (fun _ => rfl) ?_
        refine C_gi rfl hs qk (by decide) (Nat.le_of_ble_eq_true rfl) rfl ?_
        rw [show C_F (s) o2 1 = (ys.length : Int) from (by first | exact qm | exact (if_neg (fun e => absurd e.1 (by assumption))).trans qm)]
        show B_R _ _ (64, [(2, .int (Zi i)), (0, .ref o), (1, .ref o2)], [.int (Zi ((ys.length : Int))), .int (Zi ((xs.length : Int)))]) _ _ _
        refine Z_cge rfl rfl (by first | exact hs.zF _ _ | exact Zor_r _ _ | exact hs.zA _ _ | assumption | exact zA _ _ | exact zS _ | exact Zr_not (hs.zA _ _) | exact hs.1.1 _ _ | exact ⟨by omega, by omega⟩) (by first | exact hs.zF _ _ | exact Zor_r _ _ | exact hs.zA _ _ | assumption | exact zA _ _ | exact zS _ | exact Zr_not (hs.zA _ _) | exact hs.1.1 _ _ | exact ⟨by omega, by omega⟩) (fun c4 => ?_) (fun c4 => ?_)
        · refine Z_go (f2 := (72, [(2, .int (Zi i)), (0, .ref o), (1, .ref o2)], [.int (Zi 0)])) (fun _ => rfl) ?_
          refine Z_iret rfl rfl (by first | rfl | decide | exact narrow_b01 (by omega)) ⟨rfl, rfl, ?_⟩
          try dsimp only
          exact ⟨0, rfl, .inr ⟨rfl, L_lt_no i0 h1 i1 i2 (by omega)⟩⟩
        · refine Z_go (f2 := (68, [(2, .int (Zi i)), (0, .ref o), (1, .ref o2)], [.int (Zi 1)])) (fun _ => rfl) ?_
          refine Z_go (f2 := (72, [(2, .int (Zi i)), (0, .ref o), (1, .ref o2)], [.int (Zi 1)])) (fun _ => rfl) ?_
          refine Z_iret rfl rfl (by first | rfl | decide | exact narrow_b01 (by omega)) ⟨rfl, rfl, ?_⟩
          try dsimp only
          exact ⟨1, rfl, .inl ⟨rfl, i, i0, i1, by omega, h1, by omega⟩⟩
      · refine Z_go (f2 := (19, [(2, .int (Zi i)), (0, .ref o), (1, .ref o2)], [.ref o])) (fun _ => rfl) ?_
        refine Z_go (f2 := (20, [(2, .int (Zi i)), (0, .ref o), (1, .ref o2)], [.int (Zi i), .ref o])) (fun _ => rfl) ?_
        refine C_callVR (As := [.int (Zi i)]) (rest := []) rfl (by decide) rfl (by decide) rfl rfl (by decide +kernel) (Nat.le_of_ble_eq_true rfl) hs rk (C_at_ _ hr0 (i := i) (by first | exact hs.zF _ _ | exact Zor_r _ _ | exact hs.zA _ _ | assumption | exact zA _ _ | exact zS _ | exact Zr_not (hs.zA _ _) | exact hs.1.1 _ _ | exact ⟨by omega, by omega⟩)) (fun x q => ?_)
        obtain rfl := q
        have zl9 := D_Row.zat hs hr0 i
        show B_R _ _ (23, [(2, .int (Zi i)), (0, .ref o), (1, .ref o2)], [.int (Zi (L_at xs i))]) _ _ _
        refine Z_go (f2 := (24, [(2, .int (Zi i)), (0, .ref o), (1, .ref o2)], [.ref o2, .int (Zi (L_at xs i))])) (fun _ => rfl) ?_
        refine Z_go (f2 := (25, [(2, .int (Zi i)), (0, .ref o), (1, .ref o2)], [.int (Zi i), .ref o2, .int (Zi (L_at xs i))])) (fun _ => rfl) ?_
        refine C_callVR (As := [.int (Zi i)]) (rest := [.int (Zi (L_at xs i))]) rfl (by decide) rfl (by decide) rfl rfl (by decide +kernel) (Nat.le_of_ble_eq_true rfl) hs qk (C_at_ _ hq0 (i := i) (by first | exact hs.zF _ _ | exact Zor_r _ _ | exact hs.zA _ _ | assumption | exact zA _ _ | exact zS _ | exact Zr_not (hs.zA _ _) | exact hs.1.1 _ _ | exact ⟨by omega, by omega⟩)) (fun x q => ?_)
        obtain rfl := q
        have zl10 := D_Row.zat hs hq0 i
        show B_R _ _ (28, [(2, .int (Zi i)), (0, .ref o), (1, .ref o2)], [.int (Zi (L_at ys i)), .int (Zi (L_at xs i))]) _ _ _
        refine Z_ceq rfl rfl (by first | exact hs.zF _ _ | exact Zor_r _ _ | exact hs.zA _ _ | assumption | exact zA _ _ | exact zS _ | exact Zr_not (hs.zA _ _) | exact hs.1.1 _ _ | exact ⟨by omega, by omega⟩) (by first | exact hs.zF _ _ | exact Zor_r _ _ | exact hs.zA _ _ | assumption | exact zA _ _ | exact zS _ | exact Zr_not (hs.zA _ _) | exact hs.1.1 _ _ | exact ⟨by omega, by omega⟩) (fun c5 => ?_) (fun c5 => ?_)
        · refine Z_iinc (L2 := [(2, .int (Zi (i + 1))), (0, .ref o), (1, .ref o2)]) rfl rfl (by decide) rfl ?_
          refine Z_go (f2 := (2, [(2, .int (Zi (i + 1))), (0, .ref o), (1, .ref o2)], [])) (fun _ => rfl) ?_
          refine B_loc (K := [(2, .int (Zi (i + 1))), (0, .ref o), (1, .ref o2)]) (N_all_sub ⟨rfl, rfl, rfl, trivial⟩) (show ([2, 0, 1] : List Nat).Nodup by decide) ?_
          exact ih _ (by omega) (by omega) (by omega) (by omega) (fun k k0 k1 => by by_cases e : k = i; subst e; omega; exact h1 k k0 (by omega))
        · refine Z_go (f2 := (32, [(2, .int (Zi i)), (0, .ref o), (1, .ref o2)], [.ref o])) (fun _ => rfl) ?_
          refine Z_go (f2 := (33, [(2, .int (Zi i)), (0, .ref o), (1, .ref o2)], [.int (Zi i), .ref o])) (fun _ => rfl) ?_
          refine C_callVR (As := [.int (Zi i)]) (rest := []) rfl (by decide) rfl (by decide) rfl rfl (by decide +kernel) (Nat.le_of_ble_eq_true rfl) hs rk (C_at_ _ hr0 (i := i) (by first | exact hs.zF _ _ | exact Zor_r _ _ | exact hs.zA _ _ | assumption | exact zA _ _ | exact zS _ | exact Zr_not (hs.zA _ _) | exact hs.1.1 _ _ | exact ⟨by omega, by omega⟩)) (fun x q => ?_)
          obtain rfl := q
          have zl11 := D_Row.zat hs hr0 i
          show B_R _ _ (36, [(2, .int (Zi i)), (0, .ref o), (1, .ref o2)], [.int (Zi (L_at xs i))]) _ _ _
          refine Z_go (f2 := (37, [(2, .int (Zi i)), (0, .ref o), (1, .ref o2)], [.ref o2, .int (Zi (L_at xs i))])) (fun _ => rfl) ?_
          refine Z_go (f2 := (38, [(2, .int (Zi i)), (0, .ref o), (1, .ref o2)], [.int (Zi i), .ref o2, .int (Zi (L_at xs i))])) (fun _ => rfl) ?_
          refine C_callVR (As := [.int (Zi i)]) (rest := [.int (Zi (L_at xs i))]) rfl (by decide) rfl (by decide) rfl rfl (by decide +kernel) (Nat.le_of_ble_eq_true rfl) hs qk (C_at_ _ hq0 (i := i) (by first | exact hs.zF _ _ | exact Zor_r _ _ | exact hs.zA _ _ | assumption | exact zA _ _ | exact zS _ | exact Zr_not (hs.zA _ _) | exact hs.1.1 _ _ | exact ⟨by omega, by omega⟩)) (fun x q => ?_)
          obtain rfl := q
          have zl12 := D_Row.zat hs hq0 i
          show B_R _ _ (41, [(2, .int (Zi i)), (0, .ref o), (1, .ref o2)], [.int (Zi (L_at ys i)), .int (Zi (L_at xs i))]) _ _ _
          refine Z_cge rfl rfl (by first | exact hs.zF _ _ | exact Zor_r _ _ | exact hs.zA _ _ | assumption | exact zA _ _ | exact zS _ | exact Zr_not (hs.zA _ _) | exact hs.1.1 _ _ | exact ⟨by omega, by omega⟩) (by first | exact hs.zF _ _ | exact Zor_r _ _ | exact hs.zA _ _ | assumption | exact zA _ _ | exact zS _ | exact Zr_not (hs.zA _ _) | exact hs.1.1 _ _ | exact ⟨by omega, by omega⟩) (fun c6 => ?_) (fun c6 => ?_)
          · refine Z_go (f2 := (49, [(2, .int (Zi i)), (0, .ref o), (1, .ref o2)], [.int (Zi 0)])) (fun _ => rfl) ?_
            refine Z_iret rfl rfl (by first | rfl | decide | exact narrow_b01 (by omega)) ⟨rfl, rfl, ?_⟩
            try dsimp only
            exact ⟨0, rfl, .inr ⟨rfl, L_lt_no i0 h1 i1 i2 (by omega)⟩⟩
          · refine Z_go (f2 := (45, [(2, .int (Zi i)), (0, .ref o), (1, .ref o2)], [.int (Zi 1)])) (fun _ => rfl) ?_
            refine Z_go (f2 := (49, [(2, .int (Zi i)), (0, .ref o), (1, .ref o2)], [.int (Zi 1)])) (fun _ => rfl) ?_
            refine Z_iret rfl rfl (by first | rfl | decide | exact narrow_b01 (by omega)) ⟨rfl, rfl, ?_⟩
            try dsimp only
            exact ⟨1, rfl, .inl ⟨rfl, i, i0, i1, by omega, h1, by omega⟩⟩
theorem C_ahead (d : Nat) {s : C_S} {p : List Nat} {o a cap : Nat} {xs : List Int} {q : List Nat} {o2 b cap3 : Nat} {ys : List Int} (hr : D_Row s p o a cap xs) (hq : D_Row s q o2 b cap3 ys) : C_rd (d + 2) 96 [.ref o, .ref o2] s (fun x => ∃ z : Int, x = some (.int (Zi z)) ∧ (z = 1 ∧ L_lt xs ys ∨ z = 0 ∧ ¬ L_lt xs ys)) := by
  refine C_enterR (M := E_m96) rfl (Nat.le_of_ble_eq_true rfl) (fun h0 h hs => ?_)
  show B_R (d + 1) _ (0, [(0, .ref o), (1, .ref o2)], []) _ _ _
  have hr0 := hr
  have hq0 := hq
  obtain ⟨rk, rt, rp, ra, rs, rm, rl, r8, ri⟩ := hr
  have z := D_Row.zr hs ⟨rk, rt, rp, ra, rs, rm, rl, r8, ri⟩
  have z3 := D_Row.zr hs hq
  obtain ⟨qk, qt, qp, qa, qs, qm, ql, q8, qi⟩ := hq
  refine Z_go (f2 := (1, [(0, .ref o), (1, .ref o2)], [.int (Zi 0)])) (fun _ => rfl) ?_
  refine Z_go (f2 := (2, [(2, .int (Zi 0)), (0, .ref o), (1, .ref o2)], [])) (fun _ => rfl) ?_
  refine B_loc (K := [(2, .int (Zi 0)), (0, .ref o), (1, .ref o2)]) (N_all_sub ⟨rfl, rfl, rfl, trivial⟩) (show ([2, 0, 1] : List Nat).Nodup by decide) ?_
  exact C_ahead_lp hs hr0 hq0 (xs.length + 1) _ (by omega) (by omega) (by omega) (by omega) (fun k k0 k1 => by omega)
/-- the bit of a number, the bits of a list -/
def L_bit (x : Int) : Int64 := 1 <<< ((Zi (x * -1640531535 % 4294967296 / 67108864)).toInt64 &&& 63)
def L_mk (xs : List Int) : Int64 := xs.foldl (fun m x => m ||| L_bit x) 0
theorem L_mk_app (xs : List Int) (x : Int) : L_mk (xs ++ [x]) = L_mk xs ||| L_bit x := by
  unfold L_mk
  rw [List.foldl_append]
  rfl
theorem Int64_or_assoc (a b c : Int64) : a ||| b ||| c = a ||| (b ||| c) := Int64.toBitVec_inj.mp (by rw [Int64.toBitVec_or, Int64.toBitVec_or, Int64.toBitVec_or, Int64.toBitVec_or, BitVec.or_assoc])
theorem Int64_or_comm (a b : Int64) : a ||| b = b ||| a := Int64.toBitVec_inj.mp (by rw [Int64.toBitVec_or, Int64.toBitVec_or, BitVec.or_comm])
theorem Int64_or_self (a : Int64) : a ||| a = a := Int64.toBitVec_inj.mp (by rw [Int64.toBitVec_or, BitVec.or_self])
theorem L_mk_from (xs : List Int) : ∀ m : Int64, xs.foldl (fun m x => m ||| L_bit x) m = m ||| L_mk xs := by
  induction xs with
  | nil =>
    intro m
    show m = m ||| 0
    exact Int64.toBitVec_inj.mp (by rw [Int64.toBitVec_or]; exact BitVec.or_zero.symm)
  | cons x xs ih =>
    intro m
    have z : (0 : Int64) ||| L_bit x = L_bit x := Int64.toBitVec_inj.mp (by rw [Int64.toBitVec_or]; exact BitVec.zero_or)
    show List.foldl _ (m ||| L_bit x) xs = m ||| List.foldl _ (0 ||| L_bit x) xs
    rw [ih, ih (0 ||| L_bit x), z, Int64_or_assoc]
theorem L_mk_cons (x : Int) (xs : List Int) : L_mk (x :: xs) = L_bit x ||| L_mk xs := by
  have z : (0 : Int64) ||| L_bit x = L_bit x := Int64.toBitVec_inj.mp (by rw [Int64.toBitVec_or]; exact BitVec.zero_or)
  show List.foldl _ (0 ||| L_bit x) xs = _
  rw [L_mk_from, z]
theorem L_mk_in {x : Int} {ys : List Int} (h : x ∈ ys) : L_bit x ||| L_mk ys = L_mk ys := by
  induction ys with
  | nil => cases h
  | cons y ys ih =>
    rw [L_mk_cons]
    rcases List.mem_cons.mp h with rfl | h
    · rw [← Int64_or_assoc, Int64_or_self]
    · rw [← Int64_or_assoc, Int64_or_comm (L_bit x), Int64_or_assoc, ih h]
theorem L_mk_or {xs ys : List Int} (h : L_le xs ys) : L_mk xs ||| L_mk ys = L_mk ys := by
  induction xs with
  | nil => exact Int64.toBitVec_inj.mp (by rw [Int64.toBitVec_or]; exact BitVec.zero_or)
  | cons x xs ih => rw [L_mk_cons, Int64_or_assoc, ih (fun y hy => h y (List.mem_cons_of_mem _ hy)), L_mk_in (h x (List.mem_cons_self ..))]
/-- the bits of a part are among those of the whole -/
theorem L_mk_le {xs ys : List Int} (h : L_le xs ys) : L_mk xs &&& (L_mk ys ^^^ -1) = 0 := by
  rw [← L_mk_or h]
  generalize L_mk xs = a
  generalize L_mk ys = b
  apply Int64.toBitVec_inj.mp
  rw [Int64.toBitVec_and, Int64.toBitVec_xor, Int64.toBitVec_or]
  show a.toBitVec &&& ((a.toBitVec ||| b.toBitVec) ^^^ BitVec.allOnes 64) = 0#64
  apply BitVec.eq_of_getLsbD_eq
  intro i hi
  rw [BitVec.getLsbD_and, BitVec.getLsbD_xor, BitVec.getLsbD_or, BitVec.getLsbD_allOnes, BitVec.getLsbD_zero]
  cases a.toBitVec.getLsbD i <;> cases b.toBitVec.getLsbD i <;> simp [hi]
theorem C_mark_lp {d : Nat} {h0 h : E_H} {s : C_S} {p : List Nat} {o a cap : Nat} {xs : List Int} (hs : C_is h0 h s) (hr : D_Row s p o a cap xs) : ∀ (t : Nat) (i : Int), (xs.length : Int) - i < t → 0 ≤ i → i ≤ xs.length → B_R (d + 1) E_m97 (4, [(3, .int (Zi i)), (1, .long (L_mk (xs.take i.toNat))), (0, .ref o)], []) h 0 (fun r => r.2.1 = h ∧ r.2.2 = 0 ∧ (fun x => x = some (.long (L_mk xs))) r.1) := by
  have hr0 := hr
  obtain ⟨rk, rt, rp, ra, rs, rm, rl, r8, ri⟩ := hr
  have z := D_Row.zr hs ⟨rk, rt, rp, ra, rs, rm, rl, r8, ri⟩
  intro t
  induction t with
  | zero => intro i ht i0 i1; omega
  | succ t ih =>
    intro i ht i0 i1
    refine Z_go (f2 := (5, [(3, .int (Zi i)), (1, .long (L_mk (xs.take i.toNat))), (0, .ref o)], [.int (Zi i)])) (fun _ => rfl) ?_
    refine Z_go (f2 := (6, [(3, .int (Zi i)), (1, .long (L_mk (xs.take i.toNat))), (0, .ref o)], [.ref o, .int (Zi i)])) (fun _ => rfl) ?_
    refine C_gi rfl hs rk (by decide) (Nat.le_of_ble_eq_true rfl) rfl ?_
    rw [show C_F (s) o 1 = (xs.length : Int) from (by first | exact rm | exact (if_neg (fun e => absurd e.1 (by assumption))).trans rm)]
    show B_R _ _ (9, [(3, .int (Zi i)), (1, .long (L_mk (xs.take i.toNat))), (0, .ref o)], [.int (Zi ((xs.length : Int))), .int (Zi i)]) _ _ _
    refine Z_cge rfl rfl (by first | exact hs.zF _ _ | exact Zor_r _ _ | exact hs.zA _ _ | assumption | exact zA _ _ | exact zS _ | exact Zr_not (hs.zA _ _) | exact hs.1.1 _ _ | exact ⟨by omega, by omega⟩) (by first | exact hs.zF _ _ | exact Zor_r _ _ | exact hs.zA _ _ | assumption | exact zA _ _ | exact zS _ | exact Zr_not (hs.zA _ _) | exact hs.1.1 _ _ | exact ⟨by omega, by omega⟩) (fun c1 => ?_) (fun c1 => ?_)
    · refine Z_go (f2 := (35, [(3, .int (Zi i)), (1, .long (L_mk (xs.take i.toNat))), (0, .ref o)], [.long (L_mk (xs.take i.toNat))])) (fun _ => rfl) ?_
      refine Z_lret rfl rfl ⟨rfl, rfl, ?_⟩
      try dsimp only
      obtain rfl : i = xs.length := by omega
      rw [Int.toNat_natCast, List.take_length]
    · refine Z_go (f2 := (13, [(3, .int (Zi i)), (1, .long (L_mk (xs.take i.toNat))), (0, .ref o)], [.long (L_mk (xs.take i.toNat))])) (fun _ => rfl) ?_
      refine Z_go (f2 := (14, [(3, .int (Zi i)), (1, .long (L_mk (xs.take i.toNat))), (0, .ref o)], [.long (1), .long (L_mk (xs.take i.toNat))])) (fun _ => rfl) ?_
      refine Z_go (f2 := (15, [(3, .int (Zi i)), (1, .long (L_mk (xs.take i.toNat))), (0, .ref o)], [.ref o, .long (1), .long (L_mk (xs.take i.toNat))])) (fun _ => rfl) ?_
      refine Z_go (f2 := (16, [(3, .int (Zi i)), (1, .long (L_mk (xs.take i.toNat))), (0, .ref o)], [.int (Zi i), .ref o, .long (1), .long (L_mk (xs.take i.toNat))])) (fun _ => rfl) ?_
      refine C_callVR (As := [.int (Zi i)]) (rest := [.long (1), .long (L_mk (xs.take i.toNat))]) rfl (by decide) rfl (by decide) rfl rfl (by decide +kernel) (Nat.le_of_ble_eq_true rfl) hs rk (C_at_ _ hr0 (i := i) (by first | exact hs.zF _ _ | exact Zor_r _ _ | exact hs.zA _ _ | assumption | exact zA _ _ | exact zS _ | exact Zr_not (hs.zA _ _) | exact hs.1.1 _ _ | exact ⟨by omega, by omega⟩)) (fun x q => ?_)
      obtain rfl := q
      have zl13 := D_Row.zat hs hr0 i
      show B_R _ _ (19, [(3, .int (Zi i)), (1, .long (L_mk (xs.take i.toNat))), (0, .ref o)], [.int (Zi (L_at xs i)), .long (1), .long (L_mk (xs.take i.toNat))]) _ _ _
      refine Z_go (f2 := (21, [(3, .int (Zi i)), (1, .long (L_mk (xs.take i.toNat))), (0, .ref o)], [.int (Zi (-1640531535)), .int (Zi (L_at xs i)), .long (1), .long (L_mk (xs.take i.toNat))])) (fun _ => rfl) ?_
      refine Z_imul rfl ?_
      refine Z_go (f2 := (24, [(3, .int (Zi i)), (1, .long (L_mk (xs.take i.toNat))), (0, .ref o)], [.int (Zi 26), .int (Zi ((L_at xs i) * (-1640531535))), .long (1), .long (L_mk (xs.take i.toNat))])) (fun _ => rfl) ?_
      refine Z_iushr rfl (by omega) (by omega) (p := 67108864) (by rfl) ?_
      refine Z_go (f2 := (26, [(3, .int (Zi i)), (1, .long (L_mk (xs.take i.toNat))), (0, .ref o)], [.long (1 <<< ((Zi (((L_at xs i) * (-1640531535)) % 4294967296 / 67108864)).toInt64 &&& 63)), .long (L_mk (xs.take i.toNat))])) (fun _ => rfl) ?_
      refine Z_go (f2 := (27, [(3, .int (Zi i)), (1, .long (L_mk (xs.take i.toNat))), (0, .ref o)], [.long ((L_mk (xs.take i.toNat)) ||| (1 <<< ((Zi (((L_at xs i) * (-1640531535)) % 4294967296 / 67108864)).toInt64 &&& 63)))])) (fun _ => rfl) ?_
      refine Z_go (f2 := (28, [(1, .long ((L_mk (xs.take i.toNat)) ||| (1 <<< ((Zi (((L_at xs i) * (-1640531535)) % 4294967296 / 67108864)).toInt64 &&& 63)))), (3, .int (Zi i)), (0, .ref o)], [])) (fun _ => rfl) ?_
      refine Z_iinc (L2 := [(3, .int (Zi (i + 1))), (1, .long ((L_mk (xs.take i.toNat)) ||| (1 <<< ((Zi (((L_at xs i) * (-1640531535)) % 4294967296 / 67108864)).toInt64 &&& 63)))), (0, .ref o)]) rfl rfl (by decide) rfl ?_
      refine Z_go (f2 := (4, [(3, .int (Zi (i + 1))), (1, .long ((L_mk (xs.take i.toNat)) ||| (1 <<< ((Zi (((L_at xs i) * (-1640531535)) % 4294967296 / 67108864)).toInt64 &&& 63)))), (0, .ref o)], [])) (fun _ => rfl) ?_
      have e : L_mk (xs.take (i + 1).toNat) = L_mk (xs.take i.toNat) ||| L_bit (L_at xs i) := by
        rw [show (i + 1).toNat = i.toNat + 1 by omega, List.take_add_one, List.getElem?_eq_getElem (by omega), Option.toList_some, L_mk_app]
        congr 2
        have := L_at_nat (xs := xs) (i := i.toNat) (by omega)
        rw [← this]
        congr 1
        omega
      refine B_loc (K := [(3, .int (Zi (i + 1))), (1, .long ((L_mk (xs.take i.toNat)) ||| (1 <<< ((Zi (((L_at xs i) * (-1640531535)) % 4294967296 / 67108864)).toInt64 &&& 63)))), (0, .ref o)]) (N_all_sub ⟨rfl, rfl, rfl, trivial⟩) (show ([3, 1, 0] : List Nat).Nodup by decide) ?_
      have e2 : (L_mk (xs.take i.toNat)) ||| (1 <<< ((Zi (((L_at xs i) * (-1640531535)) % 4294967296 / 67108864)).toInt64 &&& 63)) = L_mk (xs.take (i + 1).toNat) := by rw [e]; unfold L_bit; rfl
      rw [e2]
      exact ih _ (by omega) (by omega) (by omega)
theorem C_mark (d : Nat) {s : C_S} {p : List Nat} {o a cap : Nat} {xs : List Int} (hr : D_Row s p o a cap xs) : C_rd (d + 2) 97 [.ref o] s (fun x => x = some (.long (L_mk xs))) := by
  refine C_enterR (M := E_m97) rfl (Nat.le_of_ble_eq_true rfl) (fun h0 h hs => ?_)
  show B_R (d + 1) _ (0, [(0, .ref o)], []) _ _ _
  have hr0 := hr
  obtain ⟨rk, rt, rp, ra, rs, rm, rl, r8, ri⟩ := hr
  have z := D_Row.zr hs ⟨rk, rt, rp, ra, rs, rm, rl, r8, ri⟩
  refine Z_go (f2 := (1, [(0, .ref o)], [.long (0)])) (fun _ => rfl) ?_
  refine Z_go (f2 := (2, [(1, .long (0)), (0, .ref o)], [])) (fun _ => rfl) ?_
  refine Z_go (f2 := (3, [(1, .long (0)), (0, .ref o)], [.int (Zi 0)])) (fun _ => rfl) ?_
  refine Z_go (f2 := (4, [(3, .int (Zi 0)), (1, .long (0)), (0, .ref o)], [])) (fun _ => rfl) ?_
  refine B_loc (K := [(3, .int (Zi 0)), (1, .long (L_mk (xs.take (0 : Int).toNat))), (0, .ref o)]) (N_all_sub ⟨rfl, rfl, rfl, trivial⟩) (show ([3, 1, 0] : List Nat).Nodup by decide) ?_
  exact C_mark_lp hs hr0 (xs.length + 1) 0 (by omega) (by omega) (by omega)
