/-! the class: Machine: places without size -/
/-- the bytes of a text, -1 outside -/
def C_wb (s : C_S) (tb N : Nat) (i : Int) : Int := if 0 ≤ i ∧ i < N then C_A s tb i % 256 else -1
theorem C_wb_zr (s : C_S) (tb N : Nat) (i : Int) : -1 ≤ C_wb s tb N i ∧ C_wb s tb N i < 256 := by
  unfold C_wb
  split <;> omega
theorem C_mhold (d : Nat) {s : C_S} {p : List Nat} {o : Nat} {A : Nat → Nat} {tb N : Nat} {k i : Int} (hm : D_M0 s p o A) (et : C_P s o 14 = some tb) (kt : C_K s tb = (1, N)) (zk : Zr k) (i0 : 0 ≤ i) (i1 : i ≤ N) (N1 : N ≤ 2000000) : C_rd (d + 2) 29 [.ref o, .int (Zi k), .int (Zi i)] s (fun x => ∃ z : Int, x = some (.int (Zi z)) ∧ (z = 1 ∧ M_hold (C_wb s tb N) N (k - 2) i ∨ z = 0 ∧ ¬ M_hold (C_wb s tb N) N (k - 2) i)) := by
  refine C_enterR (M := E_m29) rfl (Nat.le_of_ble_eq_true rfl) (fun h0 h hs => ?_)
  show B_R (d + 1) _ (0, [(0, .ref o), (1, .int (Zi k)), (2, .int (Zi i))], []) _ _ _
  have w := hs.1
  have ok := hm.1
  obtain ⟨e1, k1, t1⟩ := hm.2.2.1 1 (by omega)
  obtain ⟨e2, k2, t2⟩ := hm.2.2.1 2 (by omega)
  obtain ⟨e3, k3, t3⟩ := hm.2.2.1 3 (by omega)
  obtain ⟨e4, k4, t4⟩ := hm.2.2.1 4 (by omega)
  obtain ⟨e7, k7, t7⟩ := hm.2.2.1 7 (by omega)
  obtain ⟨e8, k8, t8⟩ := hm.2.2.1 8 (by omega)
  obtain ⟨e10, k10, t10⟩ := hm.2.2.1 10 (by omega)
  obtain ⟨e12, k12, t12⟩ := hm.2.2.1 12 (by omega)
  have zi : Zr i := ⟨by omega, by omega⟩
  have b1 := C_wb_zr s tb N (i - 1)
  have b2 := C_wb_zr s tb N i
  have zb1 : Zr (C_wb s tb N (i - 1)) := ⟨by omega, by omega⟩
  have zb2 : Zr (C_wb s tb N i) := ⟨by omega, by omega⟩
  refine Z_go (f2 := (1, [(0, .ref o), (1, .int (Zi k)), (2, .int (Zi i))], [.ref o])) (fun _ => rfl) ?_
  refine C_gr rfl hs ok (by decide) (Nat.le_of_ble_eq_true rfl) rfl et ?_
  refine Z_go (f2 := (5, [(0, .ref o), (1, .int (Zi k)), (2, .int (Zi i))], [.int (Zi i), .ref tb])) (fun _ => rfl) ?_
  refine Z_go (f2 := (6, [(0, .ref o), (1, .int (Zi k)), (2, .int (Zi i))], [.int (Zi 1), .int (Zi i), .ref tb])) (fun _ => rfl) ?_
  refine Z_isub rfl ?_
  refine C_callSR (vs := [.ref tb, .int (Zi (i - 1))]) (rest := []) rfl (by decide) rfl rfl rfl (Nat.le_of_ble_eq_true rfl) hs (C_byteOf _ kt (i := i - 1) ⟨by omega, by omega⟩) (fun x q => ?_)
  obtain rfl := q
  skip
  show B_R _ _ (10, [(0, .ref o), (1, .int (Zi k)), (2, .int (Zi i))], [.int (Zi (C_wb s tb N (i - 1)))]) _ _ _
  refine Z_go (f2 := (11, [(3, .int (Zi (C_wb s tb N (i - 1)))), (0, .ref o), (1, .int (Zi k)), (2, .int (Zi i))], [])) (fun _ => rfl) ?_
  refine Z_go (f2 := (12, [(3, .int (Zi (C_wb s tb N (i - 1)))), (0, .ref o), (1, .int (Zi k)), (2, .int (Zi i))], [.ref o])) (fun _ => rfl) ?_
  refine C_gr rfl hs ok (by decide) (Nat.le_of_ble_eq_true rfl) rfl et ?_
  refine Z_go (f2 := (16, [(3, .int (Zi (C_wb s tb N (i - 1)))), (0, .ref o), (1, .int (Zi k)), (2, .int (Zi i))], [.int (Zi i), .ref tb])) (fun _ => rfl) ?_
  refine C_callSR (vs := [.ref tb, .int (Zi i)]) (rest := []) rfl (by decide) rfl rfl rfl (Nat.le_of_ble_eq_true rfl) hs (C_byteOf _ kt (i := i) ⟨by omega, by omega⟩) (fun x q => ?_)
  obtain rfl := q
  skip
  show B_R _ _ (19, [(3, .int (Zi (C_wb s tb N (i - 1)))), (0, .ref o), (1, .int (Zi k)), (2, .int (Zi i))], [.int (Zi (C_wb s tb N i))]) _ _ _
  refine Z_go (f2 := (21, [(4, .int (Zi (C_wb s tb N i))), (3, .int (Zi (C_wb s tb N (i - 1)))), (0, .ref o), (1, .int (Zi k)), (2, .int (Zi i))], [])) (fun _ => rfl) ?_
  refine Z_go (f2 := (22, [(4, .int (Zi (C_wb s tb N i))), (3, .int (Zi (C_wb s tb N (i - 1)))), (0, .ref o), (1, .int (Zi k)), (2, .int (Zi i))], [.int (Zi k)])) (fun _ => rfl) ?_
  rcases (by omega : k = 4 ∨ k = 5 ∨ k = 6 ∨ (k < 4 ∨ 6 < k)) with y1 | y1 | y1 | y1
  · refine Z_swk (f2 := (48, [(4, .int (Zi (C_wb s tb N i))), (3, .int (Zi (C_wb s tb N (i - 1)))), (0, .ref o), (1, .int (Zi k)), (2, .int (Zi i))], [])) y1 (fun _ => rfl) ?_
    refine Z_go (f2 := (49, [(4, .int (Zi (C_wb s tb N i))), (3, .int (Zi (C_wb s tb N (i - 1)))), (0, .ref o), (1, .int (Zi k)), (2, .int (Zi i))], [.int (Zi i)])) (fun _ => rfl) ?_
    refine Z_ieq rfl rfl (by first | exact hs.zF _ _ | exact Zor_r _ _ | exact hs.zA _ _ | assumption | exact zA _ _ | exact zS _ | exact Zr_not (hs.zA _ _) | exact hs.1.1 _ _ | exact ⟨by omega, by omega⟩) (fun y2 => ?_) (fun y2 => ?_)
    · refine Z_go (f2 := (59, [(4, .int (Zi (C_wb s tb N i))), (3, .int (Zi (C_wb s tb N (i - 1)))), (0, .ref o), (1, .int (Zi k)), (2, .int (Zi i))], [.int (Zi 1)])) (fun _ => rfl) ?_
      refine Z_go (f2 := (63, [(4, .int (Zi (C_wb s tb N i))), (3, .int (Zi (C_wb s tb N (i - 1)))), (0, .ref o), (1, .int (Zi k)), (2, .int (Zi i))], [.int (Zi 1)])) (fun _ => rfl) ?_
      refine Z_iret rfl rfl (by first | rfl | decide | exact narrow_b01 (by omega)) ⟨rfl, rfl, ?_⟩
      try dsimp only
      have hk : M_hold (C_wb s tb N) N (k - 2) i ↔ (i = 0 ∨ C_wb s tb N (i - 1) = 10) := by
        unfold M_hold
        constructor
        · rintro (⟨_, h⟩ | ⟨e, _⟩ | ⟨e, _⟩)
          · exact h
          · omega
          · omega
        · intro h; exact .inl ⟨by omega, h⟩
      rw [hk]
      exact ⟨1, rfl, by omega⟩
    · refine Z_go (f2 := (53, [(4, .int (Zi (C_wb s tb N i))), (3, .int (Zi (C_wb s tb N (i - 1)))), (0, .ref o), (1, .int (Zi k)), (2, .int (Zi i))], [.int (Zi (C_wb s tb N (i - 1)))])) (fun _ => rfl) ?_
      refine Z_go (f2 := (55, [(4, .int (Zi (C_wb s tb N i))), (3, .int (Zi (C_wb s tb N (i - 1)))), (0, .ref o), (1, .int (Zi k)), (2, .int (Zi i))], [.int (Zi 10), .int (Zi (C_wb s tb N (i - 1)))])) (fun _ => rfl) ?_
      refine Z_cne rfl rfl (by first | exact hs.zF _ _ | exact Zor_r _ _ | exact hs.zA _ _ | assumption | exact zA _ _ | exact zS _ | exact Zr_not (hs.zA _ _) | exact hs.1.1 _ _ | exact ⟨by omega, by omega⟩) (by first | exact hs.zF _ _ | exact Zor_r _ _ | exact hs.zA _ _ | assumption | exact zA _ _ | exact zS _ | exact Zr_not (hs.zA _ _) | exact hs.1.1 _ _ | exact ⟨by omega, by omega⟩) (fun y3 => ?_) (fun y3 => ?_)
      · refine Z_go (f2 := (63, [(4, .int (Zi (C_wb s tb N i))), (3, .int (Zi (C_wb s tb N (i - 1)))), (0, .ref o), (1, .int (Zi k)), (2, .int (Zi i))], [.int (Zi 0)])) (fun _ => rfl) ?_
        refine Z_iret rfl rfl (by first | rfl | decide | exact narrow_b01 (by omega)) ⟨rfl, rfl, ?_⟩
        try dsimp only
        have hk : M_hold (C_wb s tb N) N (k - 2) i ↔ (i = 0 ∨ C_wb s tb N (i - 1) = 10) := by
          unfold M_hold
          constructor
          · rintro (⟨_, h⟩ | ⟨e, _⟩ | ⟨e, _⟩)
            · exact h
            · omega
            · omega
          · intro h; exact .inl ⟨by omega, h⟩
        rw [hk]
        exact ⟨0, rfl, by omega⟩
      · refine Z_go (f2 := (59, [(4, .int (Zi (C_wb s tb N i))), (3, .int (Zi (C_wb s tb N (i - 1)))), (0, .ref o), (1, .int (Zi k)), (2, .int (Zi i))], [.int (Zi 1)])) (fun _ => rfl) ?_
        refine Z_go (f2 := (63, [(4, .int (Zi (C_wb s tb N i))), (3, .int (Zi (C_wb s tb N (i - 1)))), (0, .ref o), (1, .int (Zi k)), (2, .int (Zi i))], [.int (Zi 1)])) (fun _ => rfl) ?_
        refine Z_iret rfl rfl (by first | rfl | decide | exact narrow_b01 (by omega)) ⟨rfl, rfl, ?_⟩
        try dsimp only
        have hk : M_hold (C_wb s tb N) N (k - 2) i ↔ (i = 0 ∨ C_wb s tb N (i - 1) = 10) := by
          unfold M_hold
          constructor
          · rintro (⟨_, h⟩ | ⟨e, _⟩ | ⟨e, _⟩)
            · exact h
            · omega
            · omega
          · intro h; exact .inl ⟨by omega, h⟩
        rw [hk]
        exact ⟨1, rfl, by omega⟩
  · refine Z_swk (f2 := (64, [(4, .int (Zi (C_wb s tb N i))), (3, .int (Zi (C_wb s tb N (i - 1)))), (0, .ref o), (1, .int (Zi k)), (2, .int (Zi i))], [])) y1 (fun _ => rfl) ?_
    refine Z_go (f2 := (65, [(4, .int (Zi (C_wb s tb N i))), (3, .int (Zi (C_wb s tb N (i - 1)))), (0, .ref o), (1, .int (Zi k)), (2, .int (Zi i))], [.int (Zi i)])) (fun _ => rfl) ?_
    refine Z_go (f2 := (66, [(4, .int (Zi (C_wb s tb N i))), (3, .int (Zi (C_wb s tb N (i - 1)))), (0, .ref o), (1, .int (Zi k)), (2, .int (Zi i))], [.ref o, .int (Zi i)])) (fun _ => rfl) ?_
    refine C_gr rfl hs ok (by decide) (Nat.le_of_ble_eq_true rfl) rfl et ?_
    refine C_al rfl hs kt (by decide) ?_
    show B_R _ _ (70, [(4, .int (Zi (C_wb s tb N i))), (3, .int (Zi (C_wb s tb N (i - 1)))), (0, .ref o), (1, .int (Zi k)), (2, .int (Zi i))], [.int (Zi ((N : Int))), .int (Zi i)]) _ _ _
    refine Z_ceq rfl rfl (by first | exact hs.zF _ _ | exact Zor_r _ _ | exact hs.zA _ _ | assumption | exact zA _ _ | exact zS _ | exact Zr_not (hs.zA _ _) | exact hs.1.1 _ _ | exact ⟨by omega, by omega⟩) (by first | exact hs.zF _ _ | exact Zor_r _ _ | exact hs.zA _ _ | assumption | exact zA _ _ | exact zS _ | exact Zr_not (hs.zA _ _) | exact hs.1.1 _ _ | exact ⟨by omega, by omega⟩) (fun y4 => ?_) (fun y4 => ?_)
    · refine Z_go (f2 := (81, [(4, .int (Zi (C_wb s tb N i))), (3, .int (Zi (C_wb s tb N (i - 1)))), (0, .ref o), (1, .int (Zi k)), (2, .int (Zi i))], [.int (Zi 1)])) (fun _ => rfl) ?_
      refine Z_go (f2 := (85, [(4, .int (Zi (C_wb s tb N i))), (3, .int (Zi (C_wb s tb N (i - 1)))), (0, .ref o), (1, .int (Zi k)), (2, .int (Zi i))], [.int (Zi 1)])) (fun _ => rfl) ?_
      refine Z_iret rfl rfl (by first | rfl | decide | exact narrow_b01 (by omega)) ⟨rfl, rfl, ?_⟩
      try dsimp only
      have hk : M_hold (C_wb s tb N) N (k - 2) i ↔ (i = N ∨ C_wb s tb N i = 10) := by
        unfold M_hold
        constructor
        · rintro (⟨e, _⟩ | ⟨_, h⟩ | ⟨e, _⟩)
          · omega
          · exact h
          · omega
        · intro h; exact .inr (.inl ⟨by omega, h⟩)
      rw [hk]
      exact ⟨1, rfl, by omega⟩
    · refine Z_go (f2 := (75, [(4, .int (Zi (C_wb s tb N i))), (3, .int (Zi (C_wb s tb N (i - 1)))), (0, .ref o), (1, .int (Zi k)), (2, .int (Zi i))], [.int (Zi (C_wb s tb N i))])) (fun _ => rfl) ?_
      refine Z_go (f2 := (77, [(4, .int (Zi (C_wb s tb N i))), (3, .int (Zi (C_wb s tb N (i - 1)))), (0, .ref o), (1, .int (Zi k)), (2, .int (Zi i))], [.int (Zi 10), .int (Zi (C_wb s tb N i))])) (fun _ => rfl) ?_
      refine Z_cne rfl rfl (by first | exact hs.zF _ _ | exact Zor_r _ _ | exact hs.zA _ _ | assumption | exact zA _ _ | exact zS _ | exact Zr_not (hs.zA _ _) | exact hs.1.1 _ _ | exact ⟨by omega, by omega⟩) (by first | exact hs.zF _ _ | exact Zor_r _ _ | exact hs.zA _ _ | assumption | exact zA _ _ | exact zS _ | exact Zr_not (hs.zA _ _) | exact hs.1.1 _ _ | exact ⟨by omega, by omega⟩) (fun y5 => ?_) (fun y5 => ?_)
      · refine Z_go (f2 := (85, [(4, .int (Zi (C_wb s tb N i))), (3, .int (Zi (C_wb s tb N (i - 1)))), (0, .ref o), (1, .int (Zi k)), (2, .int (Zi i))], [.int (Zi 0)])) (fun _ => rfl) ?_
        refine Z_iret rfl rfl (by first | rfl | decide | exact narrow_b01 (by omega)) ⟨rfl, rfl, ?_⟩
        try dsimp only
        have hk : M_hold (C_wb s tb N) N (k - 2) i ↔ (i = N ∨ C_wb s tb N i = 10) := by
          unfold M_hold
          constructor
          · rintro (⟨e, _⟩ | ⟨_, h⟩ | ⟨e, _⟩)
            · omega
            · exact h
            · omega
          · intro h; exact .inr (.inl ⟨by omega, h⟩)
        rw [hk]
        exact ⟨0, rfl, by omega⟩
      · refine Z_go (f2 := (81, [(4, .int (Zi (C_wb s tb N i))), (3, .int (Zi (C_wb s tb N (i - 1)))), (0, .ref o), (1, .int (Zi k)), (2, .int (Zi i))], [.int (Zi 1)])) (fun _ => rfl) ?_
        refine Z_go (f2 := (85, [(4, .int (Zi (C_wb s tb N i))), (3, .int (Zi (C_wb s tb N (i - 1)))), (0, .ref o), (1, .int (Zi k)), (2, .int (Zi i))], [.int (Zi 1)])) (fun _ => rfl) ?_
        refine Z_iret rfl rfl (by first | rfl | decide | exact narrow_b01 (by omega)) ⟨rfl, rfl, ?_⟩
        try dsimp only
        have hk : M_hold (C_wb s tb N) N (k - 2) i ↔ (i = N ∨ C_wb s tb N i = 10) := by
          unfold M_hold
          constructor
          · rintro (⟨e, _⟩ | ⟨_, h⟩ | ⟨e, _⟩)
            · omega
            · exact h
            · omega
          · intro h; exact .inr (.inl ⟨by omega, h⟩)
        rw [hk]
        exact ⟨1, rfl, by omega⟩
  · refine Z_swk (f2 := (86, [(4, .int (Zi (C_wb s tb N i))), (3, .int (Zi (C_wb s tb N (i - 1)))), (0, .ref o), (1, .int (Zi k)), (2, .int (Zi i))], [])) y1 (fun _ => rfl) ?_
    refine Z_go (f2 := (87, [(4, .int (Zi (C_wb s tb N i))), (3, .int (Zi (C_wb s tb N (i - 1)))), (0, .ref o), (1, .int (Zi k)), (2, .int (Zi i))], [.int (Zi (C_wb s tb N (i - 1)))])) (fun _ => rfl) ?_
    refine Z_callQ (vs := [.int (Zi (C_wb s tb N (i - 1)))]) (rest := []) rfl (by decide) rfl rfl rfl (Nat.le_of_ble_eq_true rfl) (C_isWrd _ (c := C_wb s tb N (i - 1)) zb1) (fun x q => ?_)
    obtain ⟨v85, rfl, hv85_a⟩ := q
    have zv85 : Zr v85 := by rcases hv85_a with ⟨e, _⟩ | ⟨e, _⟩ <;> exact ⟨by omega, by omega⟩
    show B_R _ _ (90, [(4, .int (Zi (C_wb s tb N i))), (3, .int (Zi (C_wb s tb N (i - 1)))), (0, .ref o), (1, .int (Zi k)), (2, .int (Zi i))], [.int (Zi v85)]) _ _ _
    refine Z_go (f2 := (92, [(4, .int (Zi (C_wb s tb N i))), (3, .int (Zi (C_wb s tb N (i - 1)))), (0, .ref o), (1, .int (Zi k)), (2, .int (Zi i))], [.int (Zi (C_wb s tb N i)), .int (Zi v85)])) (fun _ => rfl) ?_
    refine Z_callQ (vs := [.int (Zi (C_wb s tb N i))]) (rest := [.int (Zi v85)]) rfl (by decide) rfl rfl rfl (Nat.le_of_ble_eq_true rfl) (C_isWrd _ (c := C_wb s tb N i) zb2) (fun x q => ?_)
    obtain ⟨v86, rfl, hv86_b⟩ := q
    have zv86 : Zr v86 := by rcases hv86_b with ⟨e, _⟩ | ⟨e, _⟩ <;> exact ⟨by omega, by omega⟩
    show B_R _ _ (95, [(4, .int (Zi (C_wb s tb N i))), (3, .int (Zi (C_wb s tb N (i - 1)))), (0, .ref o), (1, .int (Zi k)), (2, .int (Zi i))], [.int (Zi v86), .int (Zi v85)]) _ _ _
    refine Z_ceq rfl rfl (by first | exact hs.zF _ _ | exact Zor_r _ _ | exact hs.zA _ _ | assumption | exact zA _ _ | exact zS _ | exact Zr_not (hs.zA _ _) | exact hs.1.1 _ _ | exact ⟨by omega, by omega⟩) (by first | exact hs.zF _ _ | exact Zor_r _ _ | exact hs.zA _ _ | assumption | exact zA _ _ | exact zS _ | exact Zr_not (hs.zA _ _) | exact hs.1.1 _ _ | exact ⟨by omega, by omega⟩) (fun y6 => ?_) (fun y6 => ?_)
    · refine Z_go (f2 := (103, [(4, .int (Zi (C_wb s tb N i))), (3, .int (Zi (C_wb s tb N (i - 1)))), (0, .ref o), (1, .int (Zi k)), (2, .int (Zi i))], [.int (Zi 0)])) (fun _ => rfl) ?_
      refine Z_iret rfl rfl (by first | rfl | decide | exact narrow_b01 (by omega)) ⟨rfl, rfl, ?_⟩
      try dsimp only
      have hk : M_hold (C_wb s tb N) N (k - 2) i ↔ ¬ (D_wrd (C_wb s tb N (i - 1)) ↔ D_wrd (C_wb s tb N i)) := by
        unfold M_hold
        constructor
        · rintro (⟨e, _⟩ | ⟨e, _⟩ | ⟨_, h⟩)
          · omega
          · omega
          · exact h
        · intro h; exact .inr (.inr ⟨by omega, h⟩)
      rw [hk]
      refine ⟨0, rfl, ?_⟩
      rcases hv85_a with ⟨p1, p2⟩ | ⟨p1, p2⟩ <;> rcases hv86_b with ⟨p3, p4⟩ | ⟨p3, p4⟩ <;> first | (exfalso; clear hk; omega) | exact .inl ⟨rfl, fun h => absurd (h.mp p2) p4⟩ | exact .inl ⟨rfl, fun h => absurd (h.mpr p4) p2⟩ | exact .inr ⟨rfl, fun h => h ⟨fun _ => p4, fun _ => p2⟩⟩ | exact .inr ⟨rfl, fun h => h ⟨fun h => absurd h p2, fun h => absurd h p4⟩⟩
    · refine Z_go (f2 := (99, [(4, .int (Zi (C_wb s tb N i))), (3, .int (Zi (C_wb s tb N (i - 1)))), (0, .ref o), (1, .int (Zi k)), (2, .int (Zi i))], [.int (Zi 1)])) (fun _ => rfl) ?_
      refine Z_go (f2 := (103, [(4, .int (Zi (C_wb s tb N i))), (3, .int (Zi (C_wb s tb N (i - 1)))), (0, .ref o), (1, .int (Zi k)), (2, .int (Zi i))], [.int (Zi 1)])) (fun _ => rfl) ?_
      refine Z_iret rfl rfl (by first | rfl | decide | exact narrow_b01 (by omega)) ⟨rfl, rfl, ?_⟩
      try dsimp only
      have hk : M_hold (C_wb s tb N) N (k - 2) i ↔ ¬ (D_wrd (C_wb s tb N (i - 1)) ↔ D_wrd (C_wb s tb N i)) := by
        unfold M_hold
        constructor
        · rintro (⟨e, _⟩ | ⟨e, _⟩ | ⟨_, h⟩)
          · omega
          · omega
          · exact h
        · intro h; exact .inr (.inr ⟨by omega, h⟩)
      rw [hk]
      refine ⟨1, rfl, ?_⟩
      rcases hv85_a with ⟨p1, p2⟩ | ⟨p1, p2⟩ <;> rcases hv86_b with ⟨p3, p4⟩ | ⟨p3, p4⟩ <;> first | (exfalso; clear hk; omega) | exact .inl ⟨rfl, fun h => absurd (h.mp p2) p4⟩ | exact .inl ⟨rfl, fun h => absurd (h.mpr p4) p2⟩ | exact .inr ⟨rfl, fun h => h ⟨fun _ => p4, fun _ => p2⟩⟩ | exact .inr ⟨rfl, fun h => h ⟨fun h => absurd h p2, fun h => absurd h p4⟩⟩
  · refine Z_tswd rfl (by first | exact hs.zF _ _ | exact Zor_r _ _ | exact hs.zA _ _ | assumption | exact zA _ _ | exact zS _ | exact Zr_not (hs.zA _ _) | exact hs.1.1 _ _ | exact ⟨by omega, by omega⟩) y1 (by rfl) ?_
    show B_R _ _ (104, [(4, .int (Zi (C_wb s tb N i))), (3, .int (Zi (C_wb s tb N (i - 1)))), (0, .ref o), (1, .int (Zi k)), (2, .int (Zi i))], []) _ _ _
    refine Z_go (f2 := (105, [(4, .int (Zi (C_wb s tb N i))), (3, .int (Zi (C_wb s tb N (i - 1)))), (0, .ref o), (1, .int (Zi k)), (2, .int (Zi i))], [.int (Zi 0)])) (fun _ => rfl) ?_
    refine Z_iret rfl rfl (by first | rfl | decide | exact narrow_b01 (by omega)) ⟨rfl, rfl, ?_⟩
    try dsimp only
    refine ⟨0, rfl, .inr ⟨rfl, ?_⟩⟩
    rintro (⟨e, _⟩ | ⟨e, _⟩ | ⟨e, _⟩) <;> omega
