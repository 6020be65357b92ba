/-! the class: Row: insert, holds, copyFrom -/
theorem C_holds (d : Nat) {s : C_S} {p : List Nat} {o a cap : Nat} {xs : List Int} {v : Int} (hr : D_Row s p o a cap xs) (so : L_srt xs) (zv : Zr v) : C_rd (d + 2) 92 [.ref o, .int (Zi v)] s (fun x => ∃ z : Int, x = some (.int (Zi z)) ∧ (z = 1 ∧ v ∈ xs ∨ z = 0 ∧ v ∉ xs)) := by
  refine C_enterR (M := E_m92) rfl (Nat.le_of_ble_eq_true rfl) (fun h0 h hs => ?_)
  show B_R (d + 1) _ (0, [(0, .ref o), (1, .int (Zi v))], []) _ _ _
  have hr0 := hr
  have hm := L_pl_mem (v := v) so
  obtain ⟨rk, rt, rp, ra, rs, rm, rl, r8, ri⟩ := hr
  have z := D_Row.zr hs ⟨rk, rt, rp, ra, rs, rm, rl, r8, ri⟩
  refine Z_go (f2 := (1, [(0, .ref o), (1, .int (Zi v))], [.ref o])) (fun _ => rfl) ?_
  refine Z_go (f2 := (2, [(0, .ref o), (1, .int (Zi v))], [.int (Zi v), .ref o])) (fun _ => rfl) ?_
  refine C_callVR (As := [.int (Zi v)]) (rest := []) rfl (by decide) rfl (by decide) rfl rfl (by decide +kernel) (Nat.le_of_ble_eq_true rfl) hs rk (C_place _ hr0 so (by first | exact hs.zF _ _ | exact Zor_r _ _ | exact hs.zA _ _ | assumption | exact zA _ _ | exact zS _ | exact Zr_not (hs.zA _ _) | exact hs.1.1 _ _ | exact ⟨by omega, by omega⟩)) (fun x q => ?_)
  obtain rfl := q
  have zp := L_pl_le xs v
  show B_R _ _ (5, [(0, .ref o), (1, .int (Zi v))], [.int (Zi ((L_pl xs v : Int)))]) _ _ _
  refine Z_go (f2 := (6, [(2, .int (Zi ((L_pl xs v : Int)))), (0, .ref o), (1, .int (Zi v))], [])) (fun _ => rfl) ?_
  refine Z_go (f2 := (7, [(2, .int (Zi ((L_pl xs v : Int)))), (0, .ref o), (1, .int (Zi v))], [.int (Zi ((L_pl xs v : Int)))])) (fun _ => rfl) ?_
  refine Z_go (f2 := (8, [(2, .int (Zi ((L_pl xs v : Int)))), (0, .ref o), (1, .int (Zi v))], [.ref o, .int (Zi ((L_pl xs v : Int)))])) (fun _ => rfl) ?_
  refine C_gi rfl hs rk (by decide) (Nat.le_of_ble_eq_true rfl) rfl ?_
  rw [show C_F (s) o 1 = (xs.length : Int) from (by first | exact rm | exact (if_neg (fun e => absurd e.1 (by assumption))).trans rm)]
  show B_R _ _ (11, [(2, .int (Zi ((L_pl xs v : Int)))), (0, .ref o), (1, .int (Zi v))], [.int (Zi ((xs.length : Int))), .int (Zi ((L_pl xs v : Int)))]) _ _ _
  refine Z_cge rfl rfl (by first | exact hs.zF _ _ | exact Zor_r _ _ | exact hs.zA _ _ | assumption | exact zA _ _ | exact zS _ | exact Zr_not (hs.zA _ _) | exact hs.1.1 _ _ | exact ⟨by omega, by omega⟩) (by first | exact hs.zF _ _ | exact Zor_r _ _ | exact hs.zA _ _ | assumption | exact zA _ _ | exact zS _ | exact Zr_not (hs.zA _ _) | exact hs.1.1 _ _ | exact ⟨by omega, by omega⟩) (fun c1 => ?_) (fun c1 => ?_)
  · refine Z_go (f2 := (28, [(2, .int (Zi ((L_pl xs v : Int)))), (0, .ref o), (1, .int (Zi v))], [.int (Zi 0)])) (fun _ => rfl) ?_
    refine Z_iret rfl rfl (by first | rfl | decide | exact narrow_b01 (by omega)) ⟨rfl, rfl, ?_⟩
    try dsimp only
    refine ⟨0, rfl, .inr ⟨rfl, fun e => ?_⟩⟩
    have := hm.mp e
    omega
  · refine Z_go (f2 := (15, [(2, .int (Zi ((L_pl xs v : Int)))), (0, .ref o), (1, .int (Zi v))], [.ref o])) (fun _ => rfl) ?_
    refine Z_go (f2 := (16, [(2, .int (Zi ((L_pl xs v : Int)))), (0, .ref o), (1, .int (Zi v))], [.int (Zi ((L_pl xs v : Int))), .ref o])) (fun _ => rfl) ?_
    refine C_callVR (As := [.int (Zi ((L_pl xs v : Int)))]) (rest := []) rfl (by decide) rfl (by decide) rfl rfl (by decide +kernel) (Nat.le_of_ble_eq_true rfl) hs rk (C_at_ _ hr0 (i := (L_pl xs v : Int)) (by first | exact hs.zF _ _ | exact Zor_r _ _ | exact hs.zA _ _ | assumption | exact zA _ _ | exact zS _ | exact Zr_not (hs.zA _ _) | exact hs.1.1 _ _ | exact ⟨by omega, by omega⟩)) (fun x q => ?_)
    obtain rfl := q
    have zl1 := D_Row.zat hs hr0 (L_pl xs v : Int)
    show B_R _ _ (19, [(2, .int (Zi ((L_pl xs v : Int)))), (0, .ref o), (1, .int (Zi v))], [.int (Zi (L_at xs (L_pl xs v : Int)))]) _ _ _
    refine Z_go (f2 := (20, [(2, .int (Zi ((L_pl xs v : Int)))), (0, .ref o), (1, .int (Zi v))], [.int (Zi v), .int (Zi (L_at xs (L_pl xs v : Int)))])) (fun _ => rfl) ?_
    refine Z_cne rfl rfl (by first | exact hs.zF _ _ | exact Zor_r _ _ | exact hs.zA _ _ | assumption | exact zA _ _ | exact zS _ | exact Zr_not (hs.zA _ _) | exact hs.1.1 _ _ | exact ⟨by omega, by omega⟩) (by first | exact hs.zF _ _ | exact Zor_r _ _ | exact hs.zA _ _ | assumption | exact zA _ _ | exact zS _ | exact Zr_not (hs.zA _ _) | exact hs.1.1 _ _ | exact ⟨by omega, by omega⟩) (fun c2 => ?_) (fun c2 => ?_)
    · refine Z_go (f2 := (28, [(2, .int (Zi ((L_pl xs v : Int)))), (0, .ref o), (1, .int (Zi v))], [.int (Zi 0)])) (fun _ => rfl) ?_
      refine Z_iret rfl rfl (by first | rfl | decide | exact narrow_b01 (by omega)) ⟨rfl, rfl, ?_⟩
      try dsimp only
      refine ⟨0, rfl, .inr ⟨rfl, fun e => ?_⟩⟩
      have := hm.mp e
      omega
    · refine Z_go (f2 := (24, [(2, .int (Zi ((L_pl xs v : Int)))), (0, .ref o), (1, .int (Zi v))], [.int (Zi 1)])) (fun _ => rfl) ?_
      refine Z_go (f2 := (28, [(2, .int (Zi ((L_pl xs v : Int)))), (0, .ref o), (1, .int (Zi v))], [.int (Zi 1)])) (fun _ => rfl) ?_
      refine Z_iret rfl rfl (by first | rfl | decide | exact narrow_b01 (by omega)) ⟨rfl, rfl, ?_⟩
      try dsimp only
      exact ⟨1, rfl, .inl ⟨rfl, hm.mpr ⟨by omega, by omega⟩⟩⟩
theorem D_Row_ins {s : C_S} {p : List Nat} {o a cap : Nat} {xs : List Int} {v : Int} {pl : Int} {g : Int → Int} (hr : D_Row s p o a cap xs) (hv : v ∉ xs) (hp : pl = L_pl xs v) (hl : xs.length < cap) (hg : ∀ j : Int, g j = if pl + 1 ≤ j ∧ j < pl + 1 + (xs.length - pl) then C_A s a (pl + (j - (pl + 1))) else C_A s a j) : D_Row (C_sF (C_sA (C_sAf s a g) a pl v) o 1 (xs.length + 1)) p o a cap (L_ins v xs) := by
  obtain ⟨rk, rt, rp, ra, rs, rm, rl, r8, ri⟩ := hr
  have hlen := L_ins_len hv
  have hple := L_pl_le xs v
  refine ⟨rk, rt, rp, ra, rs, ?_, by omega, r8, fun i i0 i1 => ?_⟩
  · show (if o = o ∧ 1 = 1 then (xs.length : Int) + 1 else _) = _
    rw [if_pos ⟨rfl, rfl⟩, hlen]
    rfl
  · rw [hlen] at i1
    show (if a = a ∧ i = pl then v else (if a = a then g else C_A s a) i) = _
    rw [L_ins_at hv i0, if_pos rfl]
    by_cases c1 : i < pl
    · rw [if_neg (by omega), if_pos (by omega), hg, if_neg (by omega)]
      exact ri i i0 (by omega)
    · by_cases c2 : i = pl
      · rw [if_pos ⟨rfl, c2⟩, if_neg (by omega), if_pos (by omega)]
      · rw [if_neg (by omega), if_neg (by omega), if_neg (by omega), hg, if_pos (by omega), show pl + (i - (pl + 1)) = i - 1 by omega]
        exact ri (i - 1) (by omega) (by omega)
theorem C_insert (d : Nat) {s : C_S} {p : List Nat} {o a cap : Nat} {xs : List Int} {v : Int} (hr : D_Row s p o a cap xs) (so : L_srt xs) (zv : Zr v) (m1 : xs.length < 33554432) : C_ok (d + 3) 91 [.ref o, .int (Zi v)] s (fun x s2 n => x = none ∧ D_rw p o cap (L_ins v xs) (xs.length + 1) s s2 n) := by
  refine C_enter (M := E_m91) rfl (Nat.le_of_ble_eq_true rfl) (fun h0 h hs => ?_)
  show B_R (d + 2) _ (0, [(0, .ref o), (1, .int (Zi v))], []) _ _ _
  have hr0 := hr
  have hm := L_pl_mem (v := v) so
  obtain ⟨rk, rt, rp, ra, rs, rm, rl, r8, ri⟩ := hr
  have z := D_Row.zr hs ⟨rk, rt, rp, ra, rs, rm, rl, r8, ri⟩
  refine Z_go (f2 := (1, [(0, .ref o), (1, .int (Zi v))], [.ref o])) (fun _ => rfl) ?_
  refine Z_go (f2 := (2, [(0, .ref o), (1, .int (Zi v))], [.int (Zi v), .ref o])) (fun _ => rfl) ?_
  refine C_callVR (As := [.int (Zi v)]) (rest := []) rfl (by decide) rfl (by decide) rfl rfl (by decide +kernel) (Nat.le_of_ble_eq_true rfl) hs rk (C_place _ hr0 so (by first | exact hs.zF _ _ | exact Zor_r _ _ | exact hs.zA _ _ | assumption | exact zA _ _ | exact zS _ | exact Zr_not (hs.zA _ _) | exact hs.1.1 _ _ | exact ⟨by omega, by omega⟩)) (fun x q => ?_)
  obtain rfl := q
  have zp := L_pl_le xs v
  show B_R _ _ (5, [(0, .ref o), (1, .int (Zi v))], [.int (Zi ((L_pl xs v : Int)))]) _ _ _
  refine Z_go (f2 := (6, [(2, .int (Zi ((L_pl xs v : Int)))), (0, .ref o), (1, .int (Zi v))], [])) (fun _ => rfl) ?_
  refine Z_go (f2 := (7, [(2, .int (Zi ((L_pl xs v : Int)))), (0, .ref o), (1, .int (Zi v))], [.int (Zi ((L_pl xs v : Int)))])) (fun _ => rfl) ?_
  refine Z_go (f2 := (8, [(2, .int (Zi ((L_pl xs v : Int)))), (0, .ref o), (1, .int (Zi v))], [.ref o, .int (Zi ((L_pl xs v : Int)))])) (fun _ => rfl) ?_
  refine C_gi rfl hs rk (by decide) (Nat.le_of_ble_eq_true rfl) rfl ?_
  rw [show C_F (s) o 1 = (xs.length : Int) from (by first | exact rm | exact (if_neg (fun e => absurd e.1 (by assumption))).trans rm)]
  show B_R _ _ (11, [(2, .int (Zi ((L_pl xs v : Int)))), (0, .ref o), (1, .int (Zi v))], [.int (Zi ((xs.length : Int))), .int (Zi ((L_pl xs v : Int)))]) _ _ _
  refine Z_cge rfl rfl (by first | exact hs.zF _ _ | exact Zor_r _ _ | exact hs.zA _ _ | assumption | exact zA _ _ | exact zS _ | exact Zr_not (hs.zA _ _) | exact hs.1.1 _ _ | exact ⟨by omega, by omega⟩) (by first | exact hs.zF _ _ | exact Zor_r _ _ | exact hs.zA _ _ | assumption | exact zA _ _ | exact zS _ | exact Zr_not (hs.zA _ _) | exact hs.1.1 _ _ | exact ⟨by omega, by omega⟩) (fun c1 => ?_) (fun c1 => ?_)
  · refine Z_go (f2 := (25, [(2, .int (Zi ((L_pl xs v : Int)))), (0, .ref o), (1, .int (Zi v))], [.ref o])) (fun _ => rfl) ?_
    refine Z_go (f2 := (26, [(2, .int (Zi ((L_pl xs v : Int)))), (0, .ref o), (1, .int (Zi v))], [.ref o, .ref o])) (fun _ => rfl) ?_
    refine C_gi rfl hs rk (by decide) (Nat.le_of_ble_eq_true rfl) rfl ?_
    rw [show C_F (s) o 1 = (xs.length : Int) from (by first | exact rm | exact (if_neg (fun e => absurd e.1 (by assumption))).trans rm)]
    show B_R _ _ (29, [(2, .int (Zi ((L_pl xs v : Int)))), (0, .ref o), (1, .int (Zi v))], [.int (Zi ((xs.length : Int))), .ref o]) _ _ _
    refine Z_go (f2 := (30, [(2, .int (Zi ((L_pl xs v : Int)))), (0, .ref o), (1, .int (Zi v))], [.int (Zi 1), .int (Zi ((xs.length : Int))), .ref o])) (fun _ => rfl) ?_
    refine Z_iadd rfl ?_
    refine C_callV (As := [.int (Zi ((xs.length : Int) + 1))]) (rest := []) rfl (by decide) rfl (by decide) rfl rfl (by decide +kernel) (Nat.le_of_ble_eq_true rfl) hs rk (C_room _ hr0 (m := (xs.length : Int) + 1) ⟨by omega, by omega⟩ (by omega)) (fun x h u n hs q => ?_)
    obtain ⟨rfl, ⟨a2, cap2, hr2, fr, g1, g2, g3⟩, hc⟩ := q
    have hc := hc a2 cap2 _ hr2
    have hru := hr2
    obtain ⟨rk, rt, rp, ra, rs, rm, rl, r8, ri⟩ := hr2
    have z := D_Row.zr hs ⟨rk, rt, rp, ra, rs, rm, rl, r8, ri⟩
    show B_R _ _ (34, [(2, .int (Zi ((L_pl xs v : Int)))), (0, .ref o), (1, .int (Zi v))], []) _ _ _
    refine Z_go (f2 := (35, [(2, .int (Zi ((L_pl xs v : Int)))), (0, .ref o), (1, .int (Zi v))], [.int (Zi ((L_pl xs v : Int)))])) (fun _ => rfl) ?_
    refine Z_ilt rfl rfl (by first | exact hs.zF _ _ | exact Zor_r _ _ | exact hs.zA _ _ | assumption | exact zA _ _ | exact zS _ | exact Zr_not (hs.zA _ _) | exact hs.1.1 _ _ | exact ⟨by omega, by omega⟩) (fun c2 => ?_) (fun c2 => ?_)
    · refine Z_ret rfl rfl ⟨_, hs, ?_⟩
      try dsimp only
      exfalso; omega
    · refine Z_go (f2 := (39, [(2, .int (Zi ((L_pl xs v : Int)))), (0, .ref o), (1, .int (Zi v))], [.int (Zi ((L_pl xs v : Int)))])) (fun _ => rfl) ?_
      refine Z_go (f2 := (40, [(2, .int (Zi ((L_pl xs v : Int)))), (0, .ref o), (1, .int (Zi v))], [.ref o, .int (Zi ((L_pl xs v : Int)))])) (fun _ => rfl) ?_
      refine C_gi rfl hs rk (by decide) (Nat.le_of_ble_eq_true rfl) rfl ?_
      rw [show C_F (u) o 1 = (xs.length : Int) from (by first | exact rm | exact (if_neg (fun e => absurd e.1 (by assumption))).trans rm)]
      show B_R _ _ (43, [(2, .int (Zi ((L_pl xs v : Int)))), (0, .ref o), (1, .int (Zi v))], [.int (Zi ((xs.length : Int))), .int (Zi ((L_pl xs v : Int)))]) _ _ _
      refine Z_cgt rfl rfl (by first | exact hs.zF _ _ | exact Zor_r _ _ | exact hs.zA _ _ | assumption | exact zA _ _ | exact zS _ | exact Zr_not (hs.zA _ _) | exact hs.1.1 _ _ | exact ⟨by omega, by omega⟩) (by first | exact hs.zF _ _ | exact Zor_r _ _ | exact hs.zA _ _ | assumption | exact zA _ _ | exact zS _ | exact Zr_not (hs.zA _ _) | exact hs.1.1 _ _ | exact ⟨by omega, by omega⟩) (fun c3 => ?_) (fun c3 => ?_)
      · refine Z_ret rfl rfl ⟨_, hs, ?_⟩
        try dsimp only
        exfalso; omega
      · refine Z_go (f2 := (47, [(2, .int (Zi ((L_pl xs v : Int)))), (0, .ref o), (1, .int (Zi v))], [.ref o])) (fun _ => rfl) ?_
        refine C_gi rfl hs rk (by decide) (Nat.le_of_ble_eq_true rfl) rfl ?_
        rw [show C_F (u) o 1 = (xs.length : Int) from (by first | exact rm | exact (if_neg (fun e => absurd e.1 (by assumption))).trans rm)]
        show B_R _ _ (50, [(2, .int (Zi ((L_pl xs v : Int)))), (0, .ref o), (1, .int (Zi v))], [.int (Zi ((xs.length : Int)))]) _ _ _
        refine Z_go (f2 := (51, [(2, .int (Zi ((L_pl xs v : Int)))), (0, .ref o), (1, .int (Zi v))], [.ref o, .int (Zi ((xs.length : Int)))])) (fun _ => rfl) ?_
        refine C_gr rfl hs rk (by decide) (Nat.le_of_ble_eq_true rfl) rfl rp ?_
        refine C_al rfl hs ra (by decide) ?_
        show B_R _ _ (55, [(2, .int (Zi ((L_pl xs v : Int)))), (0, .ref o), (1, .int (Zi v))], [.int (Zi ((cap2 : Int))), .int (Zi ((xs.length : Int)))]) _ _ _
        refine Z_cge rfl rfl (by first | exact hs.zF _ _ | exact Zor_r _ _ | exact hs.zA _ _ | assumption | exact zA _ _ | exact zS _ | exact Zr_not (hs.zA _ _) | exact hs.1.1 _ _ | exact ⟨by omega, by omega⟩) (by first | exact hs.zF _ _ | exact Zor_r _ _ | exact hs.zA _ _ | assumption | exact zA _ _ | exact zS _ | exact Zr_not (hs.zA _ _) | exact hs.1.1 _ _ | exact ⟨by omega, by omega⟩) (fun c4 => ?_) (fun c4 => ?_)
        · refine Z_ret rfl rfl ⟨_, hs, ?_⟩
          try dsimp only
          exfalso; omega
        · refine Z_go (f2 := (59, [(2, .int (Zi ((L_pl xs v : Int)))), (0, .ref o), (1, .int (Zi v))], [.ref o])) (fun _ => rfl) ?_
          refine C_gr rfl hs rk (by decide) (Nat.le_of_ble_eq_true rfl) rfl rp ?_
          refine Z_go (f2 := (63, [(2, .int (Zi ((L_pl xs v : Int)))), (0, .ref o), (1, .int (Zi v))], [.int (Zi ((L_pl xs v : Int))), .ref a2])) (fun _ => rfl) ?_
          refine Z_go (f2 := (64, [(2, .int (Zi ((L_pl xs v : Int)))), (0, .ref o), (1, .int (Zi v))], [.ref o, .int (Zi ((L_pl xs v : Int))), .ref a2])) (fun _ => rfl) ?_
          refine C_gr rfl hs rk (by decide) (Nat.le_of_ble_eq_true rfl) rfl rp ?_
          refine Z_go (f2 := (68, [(2, .int (Zi ((L_pl xs v : Int)))), (0, .ref o), (1, .int (Zi v))], [.int (Zi ((L_pl xs v : Int))), .ref a2, .int (Zi ((L_pl xs v : Int))), .ref a2])) (fun _ => rfl) ?_
          refine Z_go (f2 := (69, [(2, .int (Zi ((L_pl xs v : Int)))), (0, .ref o), (1, .int (Zi v))], [.int (Zi 1), .int (Zi ((L_pl xs v : Int))), .ref a2, .int (Zi ((L_pl xs v : Int))), .ref a2])) (fun _ => rfl) ?_
          refine Z_iadd rfl ?_
          refine Z_go (f2 := (71, [(2, .int (Zi ((L_pl xs v : Int)))), (0, .ref o), (1, .int (Zi v))], [.ref o, .int (Zi ((L_pl xs v : Int) + 1)), .ref a2, .int (Zi ((L_pl xs v : Int))), .ref a2])) (fun _ => rfl) ?_
          refine C_gi rfl hs rk (by decide) (Nat.le_of_ble_eq_true rfl) rfl ?_
          rw [show C_F (u) o 1 = (xs.length : Int) from (by first | exact rm | exact (if_neg (fun e => absurd e.1 (by assumption))).trans rm)]
          show B_R _ _ (74, [(2, .int (Zi ((L_pl xs v : Int)))), (0, .ref o), (1, .int (Zi v))], [.int (Zi ((xs.length : Int))), .int (Zi ((L_pl xs v : Int) + 1)), .ref a2, .int (Zi ((L_pl xs v : Int))), .ref a2]) _ _ _
          refine Z_go (f2 := (75, [(2, .int (Zi ((L_pl xs v : Int)))), (0, .ref o), (1, .int (Zi v))], [.int (Zi ((L_pl xs v : Int))), .int (Zi ((xs.length : Int))), .int (Zi ((L_pl xs v : Int) + 1)), .ref a2, .int (Zi ((L_pl xs v : Int))), .ref a2])) (fun _ => rfl) ?_
          refine Z_isub rfl ?_
          refine C_cp rfl hs ra ra (by decide) (by omega) (by omega) (by omega) (by omega) (by omega) (Nat.le_of_ble_eq_true rfl) (fun h hs => ?_)
          show B_R _ _ (79, [(2, .int (Zi ((L_pl xs v : Int)))), (0, .ref o), (1, .int (Zi v))], []) _ _ _
          refine Z_go (f2 := (80, [(2, .int (Zi ((L_pl xs v : Int)))), (0, .ref o), (1, .int (Zi v))], [.ref o])) (fun _ => rfl) ?_
          refine C_gr rfl hs rk (by decide) (Nat.le_of_ble_eq_true rfl) rfl rp ?_
          refine Z_go (f2 := (84, [(2, .int (Zi ((L_pl xs v : Int)))), (0, .ref o), (1, .int (Zi v))], [.int (Zi ((L_pl xs v : Int))), .ref a2])) (fun _ => rfl) ?_
          refine Z_go (f2 := (85, [(2, .int (Zi ((L_pl xs v : Int)))), (0, .ref o), (1, .int (Zi v))], [.int (Zi v), .int (Zi ((L_pl xs v : Int))), .ref a2])) (fun _ => rfl) ?_
          refine C_is_ rfl hs ra (by omega) (by omega) (by first | exact hs.zF _ _ | exact Zor_r _ _ | exact hs.zA _ _ | assumption | exact zA _ _ | exact zS _ | exact Zr_not (hs.zA _ _) | exact hs.1.1 _ _ | exact ⟨by omega, by omega⟩) (fun h hs => ?_)
          refine Z_go (f2 := (87, [(2, .int (Zi ((L_pl xs v : Int)))), (0, .ref o), (1, .int (Zi v))], [.ref o])) (fun _ => rfl) ?_
          refine Z_go (f2 := (88, [(2, .int (Zi ((L_pl xs v : Int)))), (0, .ref o), (1, .int (Zi v))], [.ref o, .ref o])) (fun _ => rfl) ?_
          refine C_gi rfl hs rk (by decide) (Nat.le_of_ble_eq_true rfl) rfl ?_
          rw [show C_F (C_sA (C_sAf u a2 (fun j => if (L_pl xs v : Int) + 1 ≤ j ∧ j < ((L_pl xs v : Int) + 1) + ((xs.length : Int) - (L_pl xs v : Int)) then C_A u a2 ((L_pl xs v : Int) + (j - ((L_pl xs v : Int) + 1))) else C_A u a2 j)) a2 (L_pl xs v : Int) v) o 1 = (xs.length : Int) from (by first | exact rm | exact (if_neg (fun e => absurd e.1 (by assumption))).trans rm)]
          show B_R _ _ (91, [(2, .int (Zi ((L_pl xs v : Int)))), (0, .ref o), (1, .int (Zi v))], [.int (Zi ((xs.length : Int))), .ref o]) _ _ _
          refine Z_go (f2 := (92, [(2, .int (Zi ((L_pl xs v : Int)))), (0, .ref o), (1, .int (Zi v))], [.int (Zi 1), .int (Zi ((xs.length : Int))), .ref o])) (fun _ => rfl) ?_
          refine Z_iadd rfl ?_
          refine C_pi rfl hs rk (by decide) (Nat.le_of_ble_eq_true rfl) (.inl rfl) rfl rfl rfl (by first | exact hs.zF _ _ | exact Zor_r _ _ | exact hs.zA _ _ | assumption | exact zA _ _ | exact zS _ | exact Zr_not (hs.zA _ _) | exact hs.1.1 _ _ | exact ⟨by omega, by omega⟩) (fun h hs => ?_)
          refine Z_ret rfl rfl ⟨_, hs, ?_⟩
          try dsimp only
          have hni : v ∉ xs := fun e => by have := hm.mp e; omega
          exact ⟨rfl, a2, cap2, D_Row_ins hru hni rfl (by omega) (fun j => rfl), ((fr.sAf rs).sA rs).sF rt, by omega, g2, by omega⟩
  · refine Z_go (f2 := (15, [(2, .int (Zi ((L_pl xs v : Int)))), (0, .ref o), (1, .int (Zi v))], [.ref o])) (fun _ => rfl) ?_
    refine Z_go (f2 := (16, [(2, .int (Zi ((L_pl xs v : Int)))), (0, .ref o), (1, .int (Zi v))], [.int (Zi ((L_pl xs v : Int))), .ref o])) (fun _ => rfl) ?_
    refine C_callVR (As := [.int (Zi ((L_pl xs v : Int)))]) (rest := []) rfl (by decide) rfl (by decide) rfl rfl (by decide +kernel) (Nat.le_of_ble_eq_true rfl) hs rk (C_at_ _ hr0 (i := (L_pl xs v : Int)) (by first | exact hs.zF _ _ | exact Zor_r _ _ | exact hs.zA _ _ | assumption | exact zA _ _ | exact zS _ | exact Zr_not (hs.zA _ _) | exact hs.1.1 _ _ | exact ⟨by omega, by omega⟩)) (fun x q => ?_)
    obtain rfl := q
    have zl2 := D_Row.zat hs hr0 (L_pl xs v : Int)
    show B_R _ _ (19, [(2, .int (Zi ((L_pl xs v : Int)))), (0, .ref o), (1, .int (Zi v))], [.int (Zi (L_at xs (L_pl xs v : Int)))]) _ _ _
    refine Z_go (f2 := (20, [(2, .int (Zi ((L_pl xs v : Int)))), (0, .ref o), (1, .int (Zi v))], [.int (Zi v), .int (Zi (L_at xs (L_pl xs v : Int)))])) (fun _ => rfl) ?_
    refine Z_cne rfl rfl (by first | exact hs.zF _ _ | exact Zor_r _ _ | exact hs.zA _ _ | assumption | exact zA _ _ | exact zS _ | exact Zr_not (hs.zA _ _) | exact hs.1.1 _ _ | exact ⟨by omega, by omega⟩) (by first | exact hs.zF _ _ | exact Zor_r _ _ | exact hs.zA _ _ | assumption | exact zA _ _ | exact zS _ | exact Zr_not (hs.zA _ _) | exact hs.1.1 _ _ | exact ⟨by omega, by omega⟩) (fun c5 => ?_) (fun c5 => ?_)
    · refine Z_go (f2 := (25, [(2, .int (Zi ((L_pl xs v : Int)))), (0, .ref o), (1, .int (Zi v))], [.ref o])) (fun _ => rfl) ?_
      refine Z_go (f2 := (26, [(2, .int (Zi ((L_pl xs v : Int)))), (0, .ref o), (1, .int (Zi v))], [.ref o, .ref o])) (fun _ => rfl) ?_
      refine C_gi rfl hs rk (by decide) (Nat.le_of_ble_eq_true rfl) rfl ?_
      rw [show C_F (s) o 1 = (xs.length : Int) from (by first | exact rm | exact (if_neg (fun e => absurd e.1 (by assumption))).trans rm)]
      show B_R _ _ (29, [(2, .int (Zi ((L_pl xs v : Int)))), (0, .ref o), (1, .int (Zi v))], [.int (Zi ((xs.length : Int))), .ref o]) _ _ _
      refine Z_go (f2 := (30, [(2, .int (Zi ((L_pl xs v : Int)))), (0, .ref o), (1, .int (Zi v))], [.int (Zi 1), .int (Zi ((xs.length : Int))), .ref o])) (fun _ => rfl) ?_
      refine Z_iadd rfl ?_
      refine C_callV (As := [.int (Zi ((xs.length : Int) + 1))]) (rest := []) rfl (by decide) rfl (by decide) rfl rfl (by decide +kernel) (Nat.le_of_ble_eq_true rfl) hs rk (C_room _ hr0 (m := (xs.length : Int) + 1) ⟨by omega, by omega⟩ (by omega)) (fun x h u n hs q => ?_)
      obtain ⟨rfl, ⟨a2, cap2, hr2, fr, g1, g2, g3⟩, hc⟩ := q
      have hc := hc a2 cap2 _ hr2
      have hru := hr2
      obtain ⟨rk, rt, rp, ra, rs, rm, rl, r8, ri⟩ := hr2
      have z := D_Row.zr hs ⟨rk, rt, rp, ra, rs, rm, rl, r8, ri⟩
      show B_R _ _ (34, [(2, .int (Zi ((L_pl xs v : Int)))), (0, .ref o), (1, .int (Zi v))], []) _ _ _
      refine Z_go (f2 := (35, [(2, .int (Zi ((L_pl xs v : Int)))), (0, .ref o), (1, .int (Zi v))], [.int (Zi ((L_pl xs v : Int)))])) (fun _ => rfl) ?_
      refine Z_ilt rfl rfl (by first | exact hs.zF _ _ | exact Zor_r _ _ | exact hs.zA _ _ | assumption | exact zA _ _ | exact zS _ | exact Zr_not (hs.zA _ _) | exact hs.1.1 _ _ | exact ⟨by omega, by omega⟩) (fun c6 => ?_) (fun c6 => ?_)
      · refine Z_ret rfl rfl ⟨_, hs, ?_⟩
        try dsimp only
        exfalso; omega
      · refine Z_go (f2 := (39, [(2, .int (Zi ((L_pl xs v : Int)))), (0, .ref o), (1, .int (Zi v))], [.int (Zi ((L_pl xs v : Int)))])) (fun _ => rfl) ?_
        refine Z_go (f2 := (40, [(2, .int (Zi ((L_pl xs v : Int)))), (0, .ref o), (1, .int (Zi v))], [.ref o, .int (Zi ((L_pl xs v : Int)))])) (fun _ => rfl) ?_
        refine C_gi rfl hs rk (by decide) (Nat.le_of_ble_eq_true rfl) rfl ?_
        rw [show C_F (u) o 1 = (xs.length : Int) from (by first | exact rm | exact (if_neg (fun e => absurd e.1 (by assumption))).trans rm)]
        show B_R _ _ (43, [(2, .int (Zi ((L_pl xs v : Int)))), (0, .ref o), (1, .int (Zi v))], [.int (Zi ((xs.length : Int))), .int (Zi ((L_pl xs v : Int)))]) _ _ _
        refine Z_cgt rfl rfl (by first | exact hs.zF _ _ | exact Zor_r _ _ | exact hs.zA _ _ | assumption | exact zA _ _ | exact zS _ | exact Zr_not (hs.zA _ _) | exact hs.1.1 _ _ | exact ⟨by omega, by omega⟩) (by first | exact hs.zF _ _ | exact Zor_r _ _ | exact hs.zA _ _ | assumption | exact zA _ _ | exact zS _ | exact Zr_not (hs.zA _ _) | exact hs.1.1 _ _ | exact ⟨by omega, by omega⟩) (fun c7 => ?_) (fun c7 => ?_)
        · refine Z_ret rfl rfl ⟨_, hs, ?_⟩
          try dsimp only
          exfalso; omega
        · refine Z_go (f2 := (47, [(2, .int (Zi ((L_pl xs v : Int)))), (0, .ref o), (1, .int (Zi v))], [.ref o])) (fun _ => rfl) ?_
          refine C_gi rfl hs rk (by decide) (Nat.le_of_ble_eq_true rfl) rfl ?_
          rw [show C_F (u) o 1 = (xs.length : Int) from (by first | exact rm | exact (if_neg (fun e => absurd e.1 (by assumption))).trans rm)]
          show B_R _ _ (50, [(2, .int (Zi ((L_pl xs v : Int)))), (0, .ref o), (1, .int (Zi v))], [.int (Zi ((xs.length : Int)))]) _ _ _
          refine Z_go (f2 := (51, [(2, .int (Zi ((L_pl xs v : Int)))), (0, .ref o), (1, .int (Zi v))], [.ref o, .int (Zi ((xs.length : Int)))])) (fun _ => rfl) ?_
          refine C_gr rfl hs rk (by decide) (Nat.le_of_ble_eq_true rfl) rfl rp ?_
          refine C_al rfl hs ra (by decide) ?_
          show B_R _ _ (55, [(2, .int (Zi ((L_pl xs v : Int)))), (0, .ref o), (1, .int (Zi v))], [.int (Zi ((cap2 : Int))), .int (Zi ((xs.length : Int)))]) _ _ _
          refine Z_cge rfl rfl (by first | exact hs.zF _ _ | exact Zor_r _ _ | exact hs.zA _ _ | assumption | exact zA _ _ | exact zS _ | exact Zr_not (hs.zA _ _) | exact hs.1.1 _ _ | exact ⟨by omega, by omega⟩) (by first | exact hs.zF _ _ | exact Zor_r _ _ | exact hs.zA _ _ | assumption | exact zA _ _ | exact zS _ | exact Zr_not (hs.zA _ _) | exact hs.1.1 _ _ | exact ⟨by omega, by omega⟩) (fun c8 => ?_) (fun c8 => ?_)
          · refine Z_ret rfl rfl ⟨_, hs, ?_⟩
            try dsimp only
            exfalso; omega
          · refine Z_go (f2 := (59, [(2, .int (Zi ((L_pl xs v : Int)))), (0, .ref o), (1, .int (Zi v))], [.ref o])) (fun _ => rfl) ?_
            refine C_gr rfl hs rk (by decide) (Nat.le_of_ble_eq_true rfl) rfl rp ?_
            refine Z_go (f2 := (63, [(2, .int (Zi ((L_pl xs v : Int)))), (0, .ref o), (1, .int (Zi v))], [.int (Zi ((L_pl xs v : Int))), .ref a2])) (fun _ => rfl) ?_
            refine Z_go (f2 := (64, [(2, .int (Zi ((L_pl xs v : Int)))), (0, .ref o), (1, .int (Zi v))], [.ref o, .int (Zi ((L_pl xs v : Int))), .ref a2])) (fun _ => rfl) ?_
            refine C_gr rfl hs rk (by decide) (Nat.le_of_ble_eq_true rfl) rfl rp ?_
            refine Z_go (f2 := (68, [(2, .int (Zi ((L_pl xs v : Int)))), (0, .ref o), (1, .int (Zi v))], [.int (Zi ((L_pl xs v : Int))), .ref a2, .int (Zi ((L_pl xs v : Int))), .ref a2])) (fun _ => rfl) ?_
            refine Z_go (f2 := (69, [(2, .int (Zi ((L_pl xs v : Int)))), (0, .ref o), (1, .int (Zi v))], [.int (Zi 1), .int (Zi ((L_pl xs v : Int))), .ref a2, .int (Zi ((L_pl xs v : Int))), .ref a2])) (fun _ => rfl) ?_
            refine Z_iadd rfl ?_
            refine Z_go (f2 := (71, [(2, .int (Zi ((L_pl xs v : Int)))), (0, .ref o), (1, .int (Zi v))], [.ref o, .int (Zi ((L_pl xs v : Int) + 1)), .ref a2, .int (Zi ((L_pl xs v : Int))), .ref a2])) (fun _ => rfl) ?_
            refine C_gi rfl hs rk (by decide) (Nat.le_of_ble_eq_true rfl) rfl ?_
            rw [show C_F (u) o 1 = (xs.length : Int) from (by first | exact rm | exact (if_neg (fun e => absurd e.1 (by assumption))).trans rm)]
            show B_R _ _ (74, [(2, .int (Zi ((L_pl xs v : Int)))), (0, .ref o), (1, .int (Zi v))], [.int (Zi ((xs.length : Int))), .int (Zi ((L_pl xs v : Int) + 1)), .ref a2, .int (Zi ((L_pl xs v : Int))), .ref a2]) _ _ _
            refine Z_go (f2 := (75, [(2, .int (Zi ((L_pl xs v : Int)))), (0, .ref o), (1, .int (Zi v))], [.int (Zi ((L_pl xs v : Int))), .int (Zi ((xs.length : Int))), .int (Zi ((L_pl xs v : Int) + 1)), .ref a2, .int (Zi ((L_pl xs v : Int))), .ref a2])) (fun _ => rfl) ?_
            refine Z_isub rfl ?_
            refine C_cp rfl hs ra ra (by decide) (by omega) (by omega) (by omega) (by omega) (by omega) (Nat.le_of_ble_eq_true rfl) (fun h hs => ?_)
            show B_R _ _ (79, [(2, .int (Zi ((L_pl xs v : Int)))), (0, .ref o), (1, .int (Zi v))], []) _ _ _
            refine Z_go (f2 := (80, [(2, .int (Zi ((L_pl xs v : Int)))), (0, .ref o), (1, .int (Zi v))], [.ref o])) (fun _ => rfl) ?_
            refine C_gr rfl hs rk (by decide) (Nat.le_of_ble_eq_true rfl) rfl rp ?_
            refine Z_go (f2 := (84, [(2, .int (Zi ((L_pl xs v : Int)))), (0, .ref o), (1, .int (Zi v))], [.int (Zi ((L_pl xs v : Int))), .ref a2])) (fun _ => rfl) ?_
            refine Z_go (f2 := (85, [(2, .int (Zi ((L_pl xs v : Int)))), (0, .ref o), (1, .int (Zi v))], [.int (Zi v), .int (Zi ((L_pl xs v : Int))), .ref a2])) (fun _ => rfl) ?_
            refine C_is_ rfl hs ra (by omega) (by omega) (by first | exact hs.zF _ _ | exact Zor_r _ _ | exact hs.zA _ _ | assumption | exact zA _ _ | exact zS _ | exact Zr_not (hs.zA _ _) | exact hs.1.1 _ _ | exact ⟨by omega, by omega⟩) (fun h hs => ?_)
            refine Z_go (f2 := (87, [(2, .int (Zi ((L_pl xs v : Int)))), (0, .ref o), (1, .int (Zi v))], [.ref o])) (fun _ => rfl) ?_
            refine Z_go (f2 := (88, [(2, .int (Zi ((L_pl xs v : Int)))), (0, .ref o), (1, .int (Zi v))], [.ref o, .ref o])) (fun _ => rfl) ?_
            refine C_gi rfl hs rk (by decide) (Nat.le_of_ble_eq_true rfl) rfl ?_
            rw [show C_F (C_sA (C_sAf u a2 (fun j => if (L_pl xs v : Int) + 1 ≤ j ∧ j < ((L_pl xs v : Int) + 1) + ((xs.length : Int) - (L_pl xs v : Int)) then C_A u a2 ((L_pl xs v : Int) + (j - ((L_pl xs v : Int) + 1))) else C_A u a2 j)) a2 (L_pl xs v : Int) v) o 1 = (xs.length : Int) from (by first | exact rm | exact (if_neg (fun e => absurd e.1 (by assumption))).trans rm)]
            show B_R _ _ (91, [(2, .int (Zi ((L_pl xs v : Int)))), (0, .ref o), (1, .int (Zi v))], [.int (Zi ((xs.length : Int))), .ref o]) _ _ _
            refine Z_go (f2 := (92, [(2, .int (Zi ((L_pl xs v : Int)))), (0, .ref o), (1, .int (Zi v))], [.int (Zi 1), .int (Zi ((xs.length : Int))), .ref o])) (fun _ => rfl) ?_
            refine Z_iadd rfl ?_
            refine C_pi rfl hs rk (by decide) (Nat.le_of_ble_eq_true rfl) (.inl rfl) rfl rfl rfl (by first | exact hs.zF _ _ | exact Zor_r _ _ | exact hs.zA _ _ | assumption | exact zA _ _ | exact zS _ | exact Zr_not (hs.zA _ _) | exact hs.1.1 _ _ | exact ⟨by omega, by omega⟩) (fun h hs => ?_)
            refine Z_ret rfl rfl ⟨_, hs, ?_⟩
            try dsimp only
            have hni : v ∉ xs := fun e => by have := hm.mp e; omega
            exact ⟨rfl, a2, cap2, D_Row_ins hru hni rfl (by omega) (fun j => rfl), ((fr.sAf rs).sA rs).sF rt, by omega, g2, by omega⟩
    · refine Z_ret rfl rfl ⟨_, hs, ?_⟩
      try dsimp only
      have hin := hm.mpr ⟨by omega, by omega⟩
      rw [L_ins_in so hin]
      exact ⟨rfl, a, cap, hr0, C_fr.refl _ _, by omega, by omega, .inl (by omega)⟩
theorem D_Row_cp {s : C_S} {p : List Nat} {o a cap : Nat} {xs : List Int} {q : List Nat} {o2 b cap2 : Nat} {ys : List Int} {g : Int → Int} (hr : D_Row s p o a cap xs) (hq : D_Row s q o2 b cap2 ys) (hl : ys.length ≤ cap) (hg : ∀ j : Int, g j = if 0 ≤ j ∧ j < 0 + (ys.length : Int) then C_A s b (0 + (j - 0)) else C_A s a j) : D_Row (C_sF (C_sAf (C_sF s o 1 0) a g) o 1 ys.length) p o a cap ys := by
  obtain ⟨rk, rt, rp, ra, rs, rm, rl, r8, ri⟩ := hr
  refine ⟨rk, rt, rp, ra, rs, if_pos ⟨rfl, rfl⟩, hl, r8, fun i i0 i1 => ?_⟩
  show (if a = a then g else C_A s a) i = _
  rw [if_pos rfl, hg, if_pos (by omega), show (0 : Int) + (i - 0) = i by omega]
  exact hq.2.2.2.2.2.2.2.2 i i0 i1
theorem C_copyRow (d : Nat) {s : C_S} {p : List Nat} {o a cap : Nat} {xs : List Int} {q : List Nat} {o2 b cap3 : Nat} {ys : List Int} (hr : D_Row s p o a cap xs) (hq : D_Row s q o2 b cap3 ys) (ne : p ≠ q) (m1 : ys.length ≤ 33554432) : C_ok (d + 3) 93 [.ref o, .ref o2] s (fun x s2 n => x = none ∧ D_rw p o cap ys ys.length s s2 n) := by
  refine C_enter (M := E_m93) rfl (Nat.le_of_ble_eq_true rfl) (fun h0 h hs => ?_)
  show B_R (d + 2) _ (0, [(0, .ref o), (1, .ref o2)], []) _ _ _
  have hr0 := hr
  have hq0 := hq
  have w := hs.1
  obtain ⟨rk, rt, rp, ra, rs, rm, rl, r8, ri⟩ := hr
  have z := D_Row.zr hs ⟨rk, rt, rp, ra, rs, rm, rl, r8, ri⟩
  have z3 := D_Row.zr hs hq
  obtain ⟨qk, qt, qp, qa, qs, qm, ql, q8, qi⟩ := hq
  have neo : o2 ≠ o := fun e => ne (by rw [← rt, ← qt, e])
  refine Z_go (f2 := (1, [(0, .ref o), (1, .ref o2)], [.ref o])) (fun _ => rfl) ?_
  refine Z_go (f2 := (2, [(0, .ref o), (1, .ref o2)], [.ref o2, .ref o])) (fun _ => rfl) ?_
  refine C_gi rfl hs qk (by decide) (Nat.le_of_ble_eq_true rfl) rfl ?_
  rw [show C_F (s) o2 1 = (ys.length : Int) from (by first | exact qm | exact (if_neg (fun e => absurd e.1 (by assumption))).trans qm)]
  show B_R _ _ (5, [(0, .ref o), (1, .ref o2)], [.int (Zi ((ys.length : Int))), .ref o]) _ _ _
  refine C_callV (As := [.int (Zi ((ys.length : Int)))]) (rest := []) rfl (by decide) rfl (by decide) rfl rfl (by decide +kernel) (Nat.le_of_ble_eq_true rfl) hs rk (C_room _ hr0 (m := (ys.length : Int)) ⟨by omega, by omega⟩ (by omega)) (fun x h u n hs q => ?_)
  obtain ⟨rfl, ⟨a2, cap2, hr2, fr, g1, g2, g3⟩, hc⟩ := q
  have hc := hc a2 cap2 _ hr2
  have hru := hr2
  obtain ⟨rk, rt, rp, ra, rs, rm, rl, r8, ri⟩ := hr2
  have z := D_Row.zr hs ⟨rk, rt, rp, ra, rs, rm, rl, r8, ri⟩
  have hq1 := hq0.fr w fr (fun e => ne e.symm)
  have hqu := hq1
  obtain ⟨qk, qt, qp, qa, qs, qm, ql, q8, qi⟩ := hq1
  show B_R _ _ (8, [(0, .ref o), (1, .ref o2)], []) _ _ _
  refine Z_go (f2 := (9, [(0, .ref o), (1, .ref o2)], [.ref o])) (fun _ => rfl) ?_
  refine Z_go (f2 := (10, [(0, .ref o), (1, .ref o2)], [.int (Zi 0), .ref o])) (fun _ => rfl) ?_
  refine C_pi rfl hs rk (by decide) (Nat.le_of_ble_eq_true rfl) (.inl rfl) rfl rfl rfl (by first | exact hs.zF _ _ | exact Zor_r _ _ | exact hs.zA _ _ | assumption | exact zA _ _ | exact zS _ | exact Zr_not (hs.zA _ _) | exact hs.1.1 _ _ | exact ⟨by omega, by omega⟩) (fun h hs => ?_)
  refine Z_go (f2 := (14, [(0, .ref o), (1, .ref o2)], [.ref o2])) (fun _ => rfl) ?_
  refine C_gi rfl hs qk (by decide) (Nat.le_of_ble_eq_true rfl) rfl ?_
  rw [show C_F (C_sF u o 1 0) o2 1 = (ys.length : Int) from (by first | exact qm | exact (if_neg (fun e => absurd e.1 (by assumption))).trans qm)]
  show B_R _ _ (17, [(0, .ref o), (1, .ref o2)], [.int (Zi ((ys.length : Int)))]) _ _ _
  refine Z_ilt rfl rfl (by first | exact hs.zF _ _ | exact Zor_r _ _ | exact hs.zA _ _ | assumption | exact zA _ _ | exact zS _ | exact Zr_not (hs.zA _ _) | exact hs.1.1 _ _ | exact ⟨by omega, by omega⟩) (fun c1 => ?_) (fun c1 => ?_)
  · refine Z_ret rfl rfl ⟨_, hs, ?_⟩
    try dsimp only
    exfalso; omega
  · refine Z_go (f2 := (21, [(0, .ref o), (1, .ref o2)], [.ref o2])) (fun _ => rfl) ?_
    refine C_gi rfl hs qk (by decide) (Nat.le_of_ble_eq_true rfl) rfl ?_
    rw [show C_F (C_sF u o 1 0) o2 1 = (ys.length : Int) from (by first | exact qm | exact (if_neg (fun e => absurd e.1 (by assumption))).trans qm)]
    show B_R _ _ (24, [(0, .ref o), (1, .ref o2)], [.int (Zi ((ys.length : Int)))]) _ _ _
    refine Z_go (f2 := (25, [(0, .ref o), (1, .ref o2)], [.ref o, .int (Zi ((ys.length : Int)))])) (fun _ => rfl) ?_
    refine C_gr rfl hs rk (by decide) (Nat.le_of_ble_eq_true rfl) rfl rp ?_
    refine C_al rfl hs ra (by decide) ?_
    show B_R _ _ (29, [(0, .ref o), (1, .ref o2)], [.int (Zi ((cap2 : Int))), .int (Zi ((ys.length : Int)))]) _ _ _
    refine Z_cgt rfl rfl (by first | exact hs.zF _ _ | exact Zor_r _ _ | exact hs.zA _ _ | assumption | exact zA _ _ | exact zS _ | exact Zr_not (hs.zA _ _) | exact hs.1.1 _ _ | exact ⟨by omega, by omega⟩) (by first | exact hs.zF _ _ | exact Zor_r _ _ | exact hs.zA _ _ | assumption | exact zA _ _ | exact zS _ | exact Zr_not (hs.zA _ _) | exact hs.1.1 _ _ | exact ⟨by omega, by omega⟩) (fun c2 => ?_) (fun c2 => ?_)
    · refine Z_ret rfl rfl ⟨_, hs, ?_⟩
      try dsimp only
      exfalso; omega
    · refine Z_go (f2 := (33, [(0, .ref o), (1, .ref o2)], [.ref o2])) (fun _ => rfl) ?_
      refine C_gi rfl hs qk (by decide) (Nat.le_of_ble_eq_true rfl) rfl ?_
      rw [show C_F (C_sF u o 1 0) o2 1 = (ys.length : Int) from (by first | exact qm | exact (if_neg (fun e => absurd e.1 (by assumption))).trans qm)]
      show B_R _ _ (36, [(0, .ref o), (1, .ref o2)], [.int (Zi ((ys.length : Int)))]) _ _ _
      refine Z_go (f2 := (37, [(0, .ref o), (1, .ref o2)], [.ref o2, .int (Zi ((ys.length : Int)))])) (fun _ => rfl) ?_
      refine C_gr rfl hs qk (by decide) (Nat.le_of_ble_eq_true rfl) rfl qp ?_
      refine C_al rfl hs qa (by decide) ?_
      show B_R _ _ (41, [(0, .ref o), (1, .ref o2)], [.int (Zi ((cap3 : Int))), .int (Zi ((ys.length : Int)))]) _ _ _
      refine Z_cgt rfl rfl (by first | exact hs.zF _ _ | exact Zor_r _ _ | exact hs.zA _ _ | assumption | exact zA _ _ | exact zS _ | exact Zr_not (hs.zA _ _) | exact hs.1.1 _ _ | exact ⟨by omega, by omega⟩) (by first | exact hs.zF _ _ | exact Zor_r _ _ | exact hs.zA _ _ | assumption | exact zA _ _ | exact zS _ | exact Zr_not (hs.zA _ _) | exact hs.1.1 _ _ | exact ⟨by omega, by omega⟩) (fun c3 => ?_) (fun c3 => ?_)
      · refine Z_ret rfl rfl ⟨_, hs, ?_⟩
        try dsimp only
        exfalso; omega
      · refine Z_go (f2 := (45, [(0, .ref o), (1, .ref o2)], [.ref o2])) (fun _ => rfl) ?_
        refine C_gr rfl hs qk (by decide) (Nat.le_of_ble_eq_true rfl) rfl qp ?_
        refine Z_go (f2 := (49, [(0, .ref o), (1, .ref o2)], [.int (Zi 0), .ref b])) (fun _ => rfl) ?_
        refine Z_go (f2 := (50, [(0, .ref o), (1, .ref o2)], [.ref o, .int (Zi 0), .ref b])) (fun _ => rfl) ?_
        refine C_gr rfl hs rk (by decide) (Nat.le_of_ble_eq_true rfl) rfl rp ?_
        refine Z_go (f2 := (54, [(0, .ref o), (1, .ref o2)], [.int (Zi 0), .ref a2, .int (Zi 0), .ref b])) (fun _ => rfl) ?_
        refine Z_go (f2 := (55, [(0, .ref o), (1, .ref o2)], [.ref o2, .int (Zi 0), .ref a2, .int (Zi 0), .ref b])) (fun _ => rfl) ?_
        refine C_gi rfl hs qk (by decide) (Nat.le_of_ble_eq_true rfl) rfl ?_
        rw [show C_F (C_sF u o 1 0) o2 1 = (ys.length : Int) from (by first | exact qm | exact (if_neg (fun e => absurd e.1 (by assumption))).trans qm)]
        show B_R _ _ (58, [(0, .ref o), (1, .ref o2)], [.int (Zi ((ys.length : Int))), .int (Zi 0), .ref a2, .int (Zi 0), .ref b]) _ _ _
        refine C_cp rfl hs qa ra (by decide) (by omega) (by omega) (by omega) (by omega) (by omega) (Nat.le_of_ble_eq_true rfl) (fun h hs => ?_)
        show B_R _ _ (61, [(0, .ref o), (1, .ref o2)], []) _ _ _
        refine Z_go (f2 := (62, [(0, .ref o), (1, .ref o2)], [.ref o])) (fun _ => rfl) ?_
        refine Z_go (f2 := (63, [(0, .ref o), (1, .ref o2)], [.ref o2, .ref o])) (fun _ => rfl) ?_
        refine C_gi rfl hs qk (by decide) (Nat.le_of_ble_eq_true rfl) rfl ?_
        rw [show C_F (C_sAf (C_sF u o 1 0) a2 (fun j => if 0 ≤ j ∧ j < 0 + (ys.length : Int) then C_A (C_sF u o 1 0) b (0 + (j - 0)) else C_A (C_sF u o 1 0) a2 j)) o2 1 = (ys.length : Int) from (by first | exact qm | exact (if_neg (fun e => absurd e.1 (by assumption))).trans qm)]
        show B_R _ _ (66, [(0, .ref o), (1, .ref o2)], [.int (Zi ((ys.length : Int))), .ref o]) _ _ _
        refine C_pi rfl hs rk (by decide) (Nat.le_of_ble_eq_true rfl) (.inl rfl) rfl rfl rfl (by first | exact hs.zF _ _ | exact Zor_r _ _ | exact hs.zA _ _ | assumption | exact zA _ _ | exact zS _ | exact Zr_not (hs.zA _ _) | exact hs.1.1 _ _ | exact ⟨by omega, by omega⟩) (fun h hs => ?_)
        refine Z_ret rfl rfl ⟨_, hs, ?_⟩
        try dsimp only
        exact ⟨rfl, a2, cap2, D_Row_cp hru hqu (by omega) (fun j => rfl), (((fr.sF rt).sAf rs).sF rt), by omega, g2, by omega⟩
