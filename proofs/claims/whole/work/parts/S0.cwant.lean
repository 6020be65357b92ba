/-! the joining: what is wanted, told; counts; end -/
theorem R_choice9 (d : Nat) (s : R_S) {c : Int}  (zc : Zr c) (c70 : 0 ≤ s.1 70) (h56 : 0 < s.1 70 → 0 ≤ s.1 56 ∧ s.1 56 ≤ 24) : R_ok (d + 1) 280 [.int (Zi c)] s (fun x s2 => s2 = s ∧ ∃ v : Int, x = some (.int (Zi v)) ∧ (v = s.1 56 ∧ 0 < s.1 70 ∧ c = -1 ∨ v = s.2.1 122 c ∧ 0 < s.1 70 ∧ 0 ≤ c ∧ c < s.1 56 ∨ v = -1 ∧ ¬ (0 < s.1 70 ∧ -1 ≤ c ∧ c < s.1 56))) := by
  refine R_enter (M := E_m280) rfl (Nat.le_of_ble_eq_true rfl) (fun h0 h hs => ?_)
  show B_R d _ (0, [(0, .ref 83), (1, .int (Zi c))], []) _ _ _
  refine Z_go (f2 := (1, [(0, .ref 83), (1, .int (Zi c))], [.ref 83])) (fun _ => rfl) ?_
  refine R_gi rfl hs rfl ?_
  show B_R _ _ (4, [(0, .ref 83), (1, .int (Zi c))], [.int (Zi (s.1 70))]) _ _ _
  refine Z_ine rfl rfl (by first | exact hs.zF _ | exact Zor_r _ _ | exact hs.zA _ _ | assumption | exact zA _ _ | exact zS _ | exact Zr_not (hs.zA _ _) | exact ⟨by omega, by omega⟩) (fun c1 => ?_) (fun c1 => ?_)
  · refine Z_go (f2 := (10, [(0, .ref 83), (1, .int (Zi c))], [.int (Zi c)])) (fun _ => rfl) ?_
    refine Z_go (f2 := (11, [(0, .ref 83), (1, .int (Zi c))], [.int (Zi (-1)), .int (Zi c)])) (fun _ => rfl) ?_
    refine Z_cne rfl rfl (by first | exact hs.zF _ | exact Zor_r _ _ | exact hs.zA _ _ | assumption | exact zA _ _ | exact zS _ | exact Zr_not (hs.zA _ _) | exact ⟨by omega, by omega⟩) (by first | exact hs.zF _ | exact Zor_r _ _ | exact hs.zA _ _ | assumption | exact zA _ _ | exact zS _ | exact Zr_not (hs.zA _ _) | exact ⟨by omega, by omega⟩) (fun c2 => ?_) (fun c2 => ?_)
    · refine Z_go (f2 := (20, [(0, .ref 83), (1, .int (Zi c))], [.int (Zi c)])) (fun _ => rfl) ?_
      refine Z_ilt rfl rfl (by first | exact hs.zF _ | exact Zor_r _ _ | exact hs.zA _ _ | assumption | exact zA _ _ | exact zS _ | exact Zr_not (hs.zA _ _) | exact ⟨by omega, by omega⟩) (fun c3 => ?_) (fun c3 => ?_)
      · refine Z_go (f2 := (41, [(0, .ref 83), (1, .int (Zi c))], [.int (Zi (-1))])) (fun _ => rfl) ?_
        refine Z_iret rfl rfl (by first | rfl | decide | exact narrow_b01 (by omega)) ⟨_, hs, ?_, rfl⟩
        exact ⟨rfl, _, rfl, by omega⟩
      · refine Z_go (f2 := (24, [(0, .ref 83), (1, .int (Zi c))], [.int (Zi c)])) (fun _ => rfl) ?_
        refine Z_go (f2 := (25, [(0, .ref 83), (1, .int (Zi c))], [.ref 83, .int (Zi c)])) (fun _ => rfl) ?_
        refine R_gi rfl hs rfl ?_
        show B_R _ _ (28, [(0, .ref 83), (1, .int (Zi c))], [.int (Zi (s.1 56)), .int (Zi c)]) _ _ _
        refine Z_cge rfl rfl (by first | exact hs.zF _ | exact Zor_r _ _ | exact hs.zA _ _ | assumption | exact zA _ _ | exact zS _ | exact Zr_not (hs.zA _ _) | exact ⟨by omega, by omega⟩) (by first | exact hs.zF _ | exact Zor_r _ _ | exact hs.zA _ _ | assumption | exact zA _ _ | exact zS _ | exact Zr_not (hs.zA _ _) | exact ⟨by omega, by omega⟩) (fun c4 => ?_) (fun c4 => ?_)
        · refine Z_go (f2 := (41, [(0, .ref 83), (1, .int (Zi c))], [.int (Zi (-1))])) (fun _ => rfl) ?_
          refine Z_iret rfl rfl (by first | rfl | decide | exact narrow_b01 (by omega)) ⟨_, hs, ?_, rfl⟩
          exact ⟨rfl, _, rfl, by omega⟩
        · refine Z_go (f2 := (32, [(0, .ref 83), (1, .int (Zi c))], [.ref 83])) (fun _ => rfl) ?_
          refine R_gr (q := 120) rfl hs rfl ?_
          show B_R _ _ (35, [(0, .ref 83), (1, .int (Zi c))], [.ref 122]) _ _ _
          refine Z_go (f2 := (36, [(0, .ref 83), (1, .int (Zi c))], [.int (Zi c), .ref 122])) (fun _ => rfl) ?_
          refine R_ia (q := 38) rfl hs rfl rfl (by omega) (by omega) (by decide) ?_
          refine Z_go (f2 := (41, [(0, .ref 83), (1, .int (Zi c))], [.int (Zi (s.2.1 122 c))])) (fun _ => rfl) ?_
          refine Z_iret rfl rfl (by first | rfl | decide | exact narrow_b01 (by omega)) ⟨_, hs, ?_, rfl⟩
          exact ⟨rfl, _, rfl, by omega⟩
    · refine Z_go (f2 := (15, [(0, .ref 83), (1, .int (Zi c))], [.ref 83])) (fun _ => rfl) ?_
      refine R_gi rfl hs rfl ?_
      show B_R _ _ (18, [(0, .ref 83), (1, .int (Zi c))], [.int (Zi (s.1 56))]) _ _ _
      refine Z_iret rfl rfl (by first | rfl | decide | exact narrow_b01 (by omega)) ⟨_, hs, ?_, rfl⟩
      exact ⟨rfl, _, rfl, by omega⟩
  · refine Z_go (f2 := (8, [(0, .ref 83), (1, .int (Zi c))], [.int (Zi (-1))])) (fun _ => rfl) ?_
    refine Z_iret rfl rfl (by first | rfl | decide | exact narrow_b01 (by omega)) ⟨_, hs, ?_, rfl⟩
    exact ⟨rfl, _, rfl, by omega⟩
theorem R_gram9 (d : Nat) (s : R_S) {c k : Int}  (zc : Zr c) (zk : Zr k) (h56 : 0 < s.1 70 → s.1 56 ≤ 24) (h122 : 0 < s.1 70 → 0 ≤ c → c < s.1 56 → s.2.1 122 c ≤ 640) : R_ok (d + 1) 281 [.int (Zi c), .int (Zi k)] s (fun x s2 => s2 = s ∧ ∃ v : Int, x = some (.int (Zi v)) ∧ (v = s.2.1 123 (640 * c + k) ∧ 0 < s.1 70 ∧ 0 ≤ c ∧ c < s.1 56 ∧ 0 ≤ k ∧ k < s.2.1 122 c ∨ v = -1 ∧ ¬ (0 < s.1 70 ∧ 0 ≤ c ∧ c < s.1 56 ∧ 0 ≤ k ∧ k < s.2.1 122 c))) := by
  refine R_enter (M := E_m281) rfl (Nat.le_of_ble_eq_true rfl) (fun h0 h hs => ?_)
  show B_R d _ (0, [(0, .ref 83), (1, .int (Zi c)), (2, .int (Zi k))], []) _ _ _
  refine Z_go (f2 := (1, [(0, .ref 83), (1, .int (Zi c)), (2, .int (Zi k))], [.ref 83])) (fun _ => rfl) ?_
  refine R_gi rfl hs rfl ?_
  show B_R _ _ (4, [(0, .ref 83), (1, .int (Zi c)), (2, .int (Zi k))], [.int (Zi (s.1 70))]) _ _ _
  refine Z_ile rfl rfl (by first | exact hs.zF _ | exact Zor_r _ _ | exact hs.zA _ _ | assumption | exact zA _ _ | exact zS _ | exact Zr_not (hs.zA _ _) | exact ⟨by omega, by omega⟩) (fun c1 => ?_) (fun c1 => ?_)
  · refine Z_go (f2 := (49, [(0, .ref 83), (1, .int (Zi c)), (2, .int (Zi k))], [.int (Zi (-1))])) (fun _ => rfl) ?_
    refine Z_iret rfl rfl (by first | rfl | decide | exact narrow_b01 (by omega)) ⟨_, hs, ?_, rfl⟩
    exact ⟨rfl, _, rfl, by omega⟩
  · refine Z_go (f2 := (8, [(0, .ref 83), (1, .int (Zi c)), (2, .int (Zi k))], [.int (Zi c)])) (fun _ => rfl) ?_
    refine Z_ilt rfl rfl (by first | exact hs.zF _ | exact Zor_r _ _ | exact hs.zA _ _ | assumption | exact zA _ _ | exact zS _ | exact Zr_not (hs.zA _ _) | exact ⟨by omega, by omega⟩) (fun c2 => ?_) (fun c2 => ?_)
    · refine Z_go (f2 := (49, [(0, .ref 83), (1, .int (Zi c)), (2, .int (Zi k))], [.int (Zi (-1))])) (fun _ => rfl) ?_
      refine Z_iret rfl rfl (by first | rfl | decide | exact narrow_b01 (by omega)) ⟨_, hs, ?_, rfl⟩
      exact ⟨rfl, _, rfl, by omega⟩
    · refine Z_go (f2 := (12, [(0, .ref 83), (1, .int (Zi c)), (2, .int (Zi k))], [.int (Zi c)])) (fun _ => rfl) ?_
      refine Z_go (f2 := (13, [(0, .ref 83), (1, .int (Zi c)), (2, .int (Zi k))], [.ref 83, .int (Zi c)])) (fun _ => rfl) ?_
      refine R_gi rfl hs rfl ?_
      show B_R _ _ (16, [(0, .ref 83), (1, .int (Zi c)), (2, .int (Zi k))], [.int (Zi (s.1 56)), .int (Zi c)]) _ _ _
      refine Z_cge rfl rfl (by first | exact hs.zF _ | exact Zor_r _ _ | exact hs.zA _ _ | assumption | exact zA _ _ | exact zS _ | exact Zr_not (hs.zA _ _) | exact ⟨by omega, by omega⟩) (by first | exact hs.zF _ | exact Zor_r _ _ | exact hs.zA _ _ | assumption | exact zA _ _ | exact zS _ | exact Zr_not (hs.zA _ _) | exact ⟨by omega, by omega⟩) (fun c3 => ?_) (fun c3 => ?_)
      · refine Z_go (f2 := (49, [(0, .ref 83), (1, .int (Zi c)), (2, .int (Zi k))], [.int (Zi (-1))])) (fun _ => rfl) ?_
        refine Z_iret rfl rfl (by first | rfl | decide | exact narrow_b01 (by omega)) ⟨_, hs, ?_, rfl⟩
        exact ⟨rfl, _, rfl, by omega⟩
      · refine Z_go (f2 := (20, [(0, .ref 83), (1, .int (Zi c)), (2, .int (Zi k))], [.int (Zi k)])) (fun _ => rfl) ?_
        refine Z_ilt rfl rfl (by first | exact hs.zF _ | exact Zor_r _ _ | exact hs.zA _ _ | assumption | exact zA _ _ | exact zS _ | exact Zr_not (hs.zA _ _) | exact ⟨by omega, by omega⟩) (fun c4 => ?_) (fun c4 => ?_)
        · refine Z_go (f2 := (49, [(0, .ref 83), (1, .int (Zi c)), (2, .int (Zi k))], [.int (Zi (-1))])) (fun _ => rfl) ?_
          refine Z_iret rfl rfl (by first | rfl | decide | exact narrow_b01 (by omega)) ⟨_, hs, ?_, rfl⟩
          exact ⟨rfl, _, rfl, by omega⟩
        · refine Z_go (f2 := (24, [(0, .ref 83), (1, .int (Zi c)), (2, .int (Zi k))], [.int (Zi k)])) (fun _ => rfl) ?_
          refine Z_go (f2 := (25, [(0, .ref 83), (1, .int (Zi c)), (2, .int (Zi k))], [.ref 83, .int (Zi k)])) (fun _ => rfl) ?_
          refine R_gr (q := 120) rfl hs rfl ?_
          show B_R _ _ (28, [(0, .ref 83), (1, .int (Zi c)), (2, .int (Zi k))], [.ref 122, .int (Zi k)]) _ _ _
          refine Z_go (f2 := (29, [(0, .ref 83), (1, .int (Zi c)), (2, .int (Zi k))], [.int (Zi c), .ref 122, .int (Zi k)])) (fun _ => rfl) ?_
          refine R_ia (q := 38) rfl hs rfl rfl (by omega) (by omega) (by decide) ?_
          refine Z_cge rfl rfl (by first | exact hs.zF _ | exact Zor_r _ _ | exact hs.zA _ _ | assumption | exact zA _ _ | exact zS _ | exact Zr_not (hs.zA _ _) | exact ⟨by omega, by omega⟩) (by first | exact hs.zF _ | exact Zor_r _ _ | exact hs.zA _ _ | assumption | exact zA _ _ | exact zS _ | exact Zr_not (hs.zA _ _) | exact ⟨by omega, by omega⟩) (fun c5 => ?_) (fun c5 => ?_)
          · refine Z_go (f2 := (49, [(0, .ref 83), (1, .int (Zi c)), (2, .int (Zi k))], [.int (Zi (-1))])) (fun _ => rfl) ?_
            refine Z_iret rfl rfl (by first | rfl | decide | exact narrow_b01 (by omega)) ⟨_, hs, ?_, rfl⟩
            exact ⟨rfl, _, rfl, by omega⟩
          · refine Z_go (f2 := (34, [(0, .ref 83), (1, .int (Zi c)), (2, .int (Zi k))], [.ref 83])) (fun _ => rfl) ?_
            refine R_gr (q := 121) rfl hs rfl ?_
            show B_R _ _ (37, [(0, .ref 83), (1, .int (Zi c)), (2, .int (Zi k))], [.ref 123]) _ _ _
            refine Z_go (f2 := (40, [(0, .ref 83), (1, .int (Zi c)), (2, .int (Zi k))], [.int (Zi 640), .ref 123])) (fun _ => rfl) ?_
            refine Z_go (f2 := (41, [(0, .ref 83), (1, .int (Zi c)), (2, .int (Zi k))], [.int (Zi c), .int (Zi 640), .ref 123])) (fun _ => rfl) ?_
            refine Z_imul rfl ?_
            refine Z_go (f2 := (43, [(0, .ref 83), (1, .int (Zi c)), (2, .int (Zi k))], [.int (Zi k), .int (Zi (640 * c)), .ref 123])) (fun _ => rfl) ?_
            refine Z_iadd rfl ?_
            refine R_ia (q := 39) rfl hs rfl rfl (by omega) (by omega) (by decide) ?_
            refine Z_go (f2 := (49, [(0, .ref 83), (1, .int (Zi c)), (2, .int (Zi k))], [.int (Zi (s.2.1 123 (640 * c + k)))])) (fun _ => rfl) ?_
            refine Z_iret rfl rfl (by first | rfl | decide | exact narrow_b01 (by omega)) ⟨_, hs, ?_, rfl⟩
            exact ⟨rfl, _, rfl, by omega⟩
theorem R_text9 (d : Nat) (s : R_S) {w i k : Int}  (zw : Zr w) (zi : Zr i) (zk : Zr k) (c70 : 0 ≤ s.1 70) (h124 : 0 < s.1 70 → 0 ≤ w → w < 3 → s.2.1 124 w ≤ 12) (h125 : 0 < s.1 70 → 0 ≤ w → w < 3 → 0 ≤ i → i < s.2.1 124 w → s.2.1 125 (12 * w + i) ≤ 60) : R_ok (d + 1) 283 [.int (Zi w), .int (Zi i), .int (Zi k)] s (fun x s2 => s2 = s ∧ ∃ v : Int, x = some (.int (Zi v)) ∧ (v = s.2.1 126 (60 * (12 * w + i) + k) ∧ 0 < s.1 70 ∧ 0 ≤ w ∧ w < 3 ∧ 0 ≤ i ∧ i < s.2.1 124 w ∧ 0 ≤ k ∧ k < s.2.1 125 (12 * w + i) ∨ v = -1 ∧ ¬ (0 < s.1 70 ∧ 0 ≤ w ∧ w < 3 ∧ 0 ≤ i ∧ i < s.2.1 124 w ∧ 0 ≤ k ∧ k < s.2.1 125 (12 * w + i)))) := by
  refine R_enter (M := E_m283) rfl (Nat.le_of_ble_eq_true rfl) (fun h0 h hs => ?_)
  show B_R d _ (0, [(0, .ref 83), (1, .int (Zi w)), (2, .int (Zi i)), (3, .int (Zi k))], []) _ _ _
  refine Z_go (f2 := (1, [(0, .ref 83), (1, .int (Zi w)), (2, .int (Zi i)), (3, .int (Zi k))], [.ref 83])) (fun _ => rfl) ?_
  refine R_gi rfl hs rfl ?_
  show B_R _ _ (4, [(0, .ref 83), (1, .int (Zi w)), (2, .int (Zi i)), (3, .int (Zi k))], [.int (Zi (s.1 70))]) _ _ _
  refine Z_ieq rfl rfl (by first | exact hs.zF _ | exact Zor_r _ _ | exact hs.zA _ _ | assumption | exact zA _ _ | exact zS _ | exact Zr_not (hs.zA _ _) | exact ⟨by omega, by omega⟩) (fun c1 => ?_) (fun c1 => ?_)
  · refine Z_go (f2 := (31, [(0, .ref 83), (1, .int (Zi w)), (2, .int (Zi i)), (3, .int (Zi k))], [.int (Zi (-1))])) (fun _ => rfl) ?_
    refine Z_iret rfl rfl (by first | rfl | decide | exact narrow_b01 (by omega)) ⟨_, hs, ?_, rfl⟩
    exact ⟨rfl, _, rfl, by omega⟩
  · refine Z_go (f2 := (8, [(0, .ref 83), (1, .int (Zi w)), (2, .int (Zi i)), (3, .int (Zi k))], [.int (Zi w)])) (fun _ => rfl) ?_
    refine Z_ilt rfl rfl (by first | exact hs.zF _ | exact Zor_r _ _ | exact hs.zA _ _ | assumption | exact zA _ _ | exact zS _ | exact Zr_not (hs.zA _ _) | exact ⟨by omega, by omega⟩) (fun c2 => ?_) (fun c2 => ?_)
    · refine Z_go (f2 := (31, [(0, .ref 83), (1, .int (Zi w)), (2, .int (Zi i)), (3, .int (Zi k))], [.int (Zi (-1))])) (fun _ => rfl) ?_
      refine Z_iret rfl rfl (by first | rfl | decide | exact narrow_b01 (by omega)) ⟨_, hs, ?_, rfl⟩
      exact ⟨rfl, _, rfl, by omega⟩
    · refine Z_go (f2 := (12, [(0, .ref 83), (1, .int (Zi w)), (2, .int (Zi i)), (3, .int (Zi k))], [.int (Zi w)])) (fun _ => rfl) ?_
      refine Z_go (f2 := (13, [(0, .ref 83), (1, .int (Zi w)), (2, .int (Zi i)), (3, .int (Zi k))], [.int (Zi 2), .int (Zi w)])) (fun _ => rfl) ?_
      refine Z_cgt rfl rfl (by first | exact hs.zF _ | exact Zor_r _ _ | exact hs.zA _ _ | assumption | exact zA _ _ | exact zS _ | exact Zr_not (hs.zA _ _) | exact ⟨by omega, by omega⟩) (by first | exact hs.zF _ | exact Zor_r _ _ | exact hs.zA _ _ | assumption | exact zA _ _ | exact zS _ | exact Zr_not (hs.zA _ _) | exact ⟨by omega, by omega⟩) (fun c3 => ?_) (fun c3 => ?_)
      · refine Z_go (f2 := (31, [(0, .ref 83), (1, .int (Zi w)), (2, .int (Zi i)), (3, .int (Zi k))], [.int (Zi (-1))])) (fun _ => rfl) ?_
        refine Z_iret rfl rfl (by first | rfl | decide | exact narrow_b01 (by omega)) ⟨_, hs, ?_, rfl⟩
        exact ⟨rfl, _, rfl, by omega⟩
      · refine Z_go (f2 := (17, [(0, .ref 83), (1, .int (Zi w)), (2, .int (Zi i)), (3, .int (Zi k))], [.int (Zi i)])) (fun _ => rfl) ?_
        refine Z_ilt rfl rfl (by first | exact hs.zF _ | exact Zor_r _ _ | exact hs.zA _ _ | assumption | exact zA _ _ | exact zS _ | exact Zr_not (hs.zA _ _) | exact ⟨by omega, by omega⟩) (fun c4 => ?_) (fun c4 => ?_)
        · refine Z_go (f2 := (31, [(0, .ref 83), (1, .int (Zi w)), (2, .int (Zi i)), (3, .int (Zi k))], [.int (Zi (-1))])) (fun _ => rfl) ?_
          refine Z_iret rfl rfl (by first | rfl | decide | exact narrow_b01 (by omega)) ⟨_, hs, ?_, rfl⟩
          exact ⟨rfl, _, rfl, by omega⟩
        · refine Z_go (f2 := (21, [(0, .ref 83), (1, .int (Zi w)), (2, .int (Zi i)), (3, .int (Zi k))], [.int (Zi i)])) (fun _ => rfl) ?_
          refine Z_go (f2 := (22, [(0, .ref 83), (1, .int (Zi w)), (2, .int (Zi i)), (3, .int (Zi k))], [.ref 83, .int (Zi i)])) (fun _ => rfl) ?_
          refine R_gr (q := 122) rfl hs rfl ?_
          show B_R _ _ (25, [(0, .ref 83), (1, .int (Zi w)), (2, .int (Zi i)), (3, .int (Zi k))], [.ref 124, .int (Zi i)]) _ _ _
          refine Z_go (f2 := (26, [(0, .ref 83), (1, .int (Zi w)), (2, .int (Zi i)), (3, .int (Zi k))], [.int (Zi w), .ref 124, .int (Zi i)])) (fun _ => rfl) ?_
          refine R_ia (q := 40) rfl hs rfl rfl (by omega) (by omega) (by decide) ?_
          refine Z_clt rfl rfl (by first | exact hs.zF _ | exact Zor_r _ _ | exact hs.zA _ _ | assumption | exact zA _ _ | exact zS _ | exact Zr_not (hs.zA _ _) | exact ⟨by omega, by omega⟩) (by first | exact hs.zF _ | exact Zor_r _ _ | exact hs.zA _ _ | assumption | exact zA _ _ | exact zS _ | exact Zr_not (hs.zA _ _) | exact ⟨by omega, by omega⟩) (fun c5 => ?_) (fun c5 => ?_)
          · refine Z_go (f2 := (33, [(0, .ref 83), (1, .int (Zi w)), (2, .int (Zi i)), (3, .int (Zi k))], [.int (Zi k)])) (fun _ => rfl) ?_
            refine Z_ilt rfl rfl (by first | exact hs.zF _ | exact Zor_r _ _ | exact hs.zA _ _ | assumption | exact zA _ _ | exact zS _ | exact Zr_not (hs.zA _ _) | exact ⟨by omega, by omega⟩) (fun c6 => ?_) (fun c6 => ?_)
            · refine Z_go (f2 := (71, [(0, .ref 83), (1, .int (Zi w)), (2, .int (Zi i)), (3, .int (Zi k))], [.int (Zi (-1))])) (fun _ => rfl) ?_
              refine Z_iret rfl rfl (by first | rfl | decide | exact narrow_b01 (by omega)) ⟨_, hs, ?_, rfl⟩
              exact ⟨rfl, _, rfl, by omega⟩
            · refine Z_go (f2 := (37, [(0, .ref 83), (1, .int (Zi w)), (2, .int (Zi i)), (3, .int (Zi k))], [.int (Zi k)])) (fun _ => rfl) ?_
              refine Z_go (f2 := (38, [(0, .ref 83), (1, .int (Zi w)), (2, .int (Zi i)), (3, .int (Zi k))], [.ref 83, .int (Zi k)])) (fun _ => rfl) ?_
              refine R_gr (q := 123) rfl hs rfl ?_
              show B_R _ _ (41, [(0, .ref 83), (1, .int (Zi w)), (2, .int (Zi i)), (3, .int (Zi k))], [.ref 125, .int (Zi k)]) _ _ _
              refine Z_go (f2 := (43, [(0, .ref 83), (1, .int (Zi w)), (2, .int (Zi i)), (3, .int (Zi k))], [.int (Zi 12), .ref 125, .int (Zi k)])) (fun _ => rfl) ?_
              refine Z_go (f2 := (44, [(0, .ref 83), (1, .int (Zi w)), (2, .int (Zi i)), (3, .int (Zi k))], [.int (Zi w), .int (Zi 12), .ref 125, .int (Zi k)])) (fun _ => rfl) ?_
              refine Z_imul rfl ?_
              refine Z_go (f2 := (46, [(0, .ref 83), (1, .int (Zi w)), (2, .int (Zi i)), (3, .int (Zi k))], [.int (Zi i), .int (Zi (12 * w)), .ref 125, .int (Zi k)])) (fun _ => rfl) ?_
              refine Z_iadd rfl ?_
              refine R_ia (q := 41) rfl hs rfl rfl (by omega) (by omega) (by decide) ?_
              refine Z_cge rfl rfl (by first | exact hs.zF _ | exact Zor_r _ _ | exact hs.zA _ _ | assumption | exact zA _ _ | exact zS _ | exact Zr_not (hs.zA _ _) | exact ⟨by omega, by omega⟩) (by first | exact hs.zF _ | exact Zor_r _ _ | exact hs.zA _ _ | assumption | exact zA _ _ | exact zS _ | exact Zr_not (hs.zA _ _) | exact ⟨by omega, by omega⟩) (fun c7 => ?_) (fun c7 => ?_)
              · refine Z_go (f2 := (71, [(0, .ref 83), (1, .int (Zi w)), (2, .int (Zi i)), (3, .int (Zi k))], [.int (Zi (-1))])) (fun _ => rfl) ?_
                refine Z_iret rfl rfl (by first | rfl | decide | exact narrow_b01 (by omega)) ⟨_, hs, ?_, rfl⟩
                exact ⟨rfl, _, rfl, by omega⟩
              · refine Z_go (f2 := (52, [(0, .ref 83), (1, .int (Zi w)), (2, .int (Zi i)), (3, .int (Zi k))], [.ref 83])) (fun _ => rfl) ?_
                refine R_gr (q := 124) rfl hs rfl ?_
                show B_R _ _ (55, [(0, .ref 83), (1, .int (Zi w)), (2, .int (Zi i)), (3, .int (Zi k))], [.ref 126]) _ _ _
                refine Z_go (f2 := (57, [(0, .ref 83), (1, .int (Zi w)), (2, .int (Zi i)), (3, .int (Zi k))], [.int (Zi 60), .ref 126])) (fun _ => rfl) ?_
                refine Z_go (f2 := (59, [(0, .ref 83), (1, .int (Zi w)), (2, .int (Zi i)), (3, .int (Zi k))], [.int (Zi 12), .int (Zi 60), .ref 126])) (fun _ => rfl) ?_
                refine Z_go (f2 := (60, [(0, .ref 83), (1, .int (Zi w)), (2, .int (Zi i)), (3, .int (Zi k))], [.int (Zi w), .int (Zi 12), .int (Zi 60), .ref 126])) (fun _ => rfl) ?_
                refine Z_imul rfl ?_
                refine Z_go (f2 := (62, [(0, .ref 83), (1, .int (Zi w)), (2, .int (Zi i)), (3, .int (Zi k))], [.int (Zi i), .int (Zi (12 * w)), .int (Zi 60), .ref 126])) (fun _ => rfl) ?_
                refine Z_iadd rfl ?_
                refine Z_imul rfl ?_
                refine Z_go (f2 := (65, [(0, .ref 83), (1, .int (Zi w)), (2, .int (Zi i)), (3, .int (Zi k))], [.int (Zi k), .int (Zi (60 * (12 * w + i))), .ref 126])) (fun _ => rfl) ?_
                refine Z_iadd rfl ?_
                refine R_ia (q := 42) rfl hs rfl rfl (by omega) (by omega) (by decide) ?_
                refine Z_go (f2 := (71, [(0, .ref 83), (1, .int (Zi w)), (2, .int (Zi i)), (3, .int (Zi k))], [.int (Zi (s.2.1 126 (60 * (12 * w + i) + k)))])) (fun _ => rfl) ?_
                refine Z_iret rfl rfl (by first | rfl | decide | exact narrow_b01 (by omega)) ⟨_, hs, ?_, rfl⟩
                exact ⟨rfl, _, rfl, by omega⟩
          · refine Z_go (f2 := (31, [(0, .ref 83), (1, .int (Zi w)), (2, .int (Zi i)), (3, .int (Zi k))], [.int (Zi (-1))])) (fun _ => rfl) ?_
            refine Z_iret rfl rfl (by first | rfl | decide | exact narrow_b01 (by omega)) ⟨_, hs, ?_, rfl⟩
            exact ⟨rfl, _, rfl, by omega⟩
theorem R_told.t1 {u : R_S} {v : P_V} (h : R_told u v) {w : Int} (w0 : 0 ≤ w) (w3 : w < 3) : R_t1 u w (J_tx v w) := by
  obtain ⟨_, h0, h1, h2⟩ := h
  unfold J_tx
  obtain rfl | rfl | rfl : w = 0 ∨ w = 1 ∨ w = 2 := by omega
  · exact h0
  · exact h1
  · exact h2
theorem J_r.f4 {u u2 : R_S} {X : List Int} {fs : Int → Option (List Int)} {ca th tg f pq : Int} {Q : Option P_T} {O : List Int} {H : List (List Int)} {n3 n4 n5 n6 : Int} (jr : J_r u X fs ca th tg f pq Q O H n3 n4 n5 n6) (k : R_f4 [] [89] [] u u2) : J_r u2 X fs ca th tg f pq Q O H n3 n4 n5 n6 := by
  obtain ⟨w, hf, e8, e7, e3, e1, e84, e20, e21, hol, hhl, e70, e71, e72, e73, hto⟩ := jr
  have F : ∀ b, u2.1 b = u.1 b := fun b => k.1 b (by simp)
  have A : ∀ q, q ≠ 89 → ∀ j, u2.2.1 q j = u.2.1 q j := fun q hq => k.2.1 q (by simpa using hq)
  refine ⟨w.cong (F 8) (F 3) (by rw [F]; exact w.t0) (by rw [F]; exact w.t1) (fun q q0 q1 => A q (by omega)), fun g g0 g1 => ?_, (F 8).trans e8, (F 7).trans e7, (F 3).trans e3, (F 1).trans e1, fun i i0 i1 => (A 84 (by decide) i).trans (e84 i i0 i1), (F 20).trans e20, (F 21).trans e21, ⟨(F 68).trans hol.1, fun i hi => (A 131 (by decide) i).trans (hol.2 i hi)⟩, ⟨(F 63).trans hhl.1, hhl.2.1, fun i hi q hq => (A (127 + q) (by omega) i).trans (hhl.2.2 i hi q hq)⟩, (F 70).trans e70, (F 71).trans e71, (F 72).trans e72, by rw [k.2.2.1]; exact e73, ?_⟩
  · unfold R_by
    rw [A 88 (by decide), A 87 (by decide), A 86 (by decide)]
    rcases hf g g0 (by rw [← F 8]; exact g1) with h | ⟨h1, Y, h2, h3, h4⟩
    · exact .inl h
    · exact .inr ⟨h1, Y, h2, h3, fun i i0 i1 => by rw [A 85 (by decide)]; exact h4 i i0 i1⟩
  · cases Q with
    | none => trivial
    | some t =>
      obtain ⟨t1, t2, t3, t4⟩ := hto
      exact ⟨t1.keep (F 56) (A 122 (by decide)) (A 123 (by decide)), t2.keep (A 124 (by decide) _) (fun j _ _ => A 125 (by decide) j) (fun j _ _ => A 126 (by decide) j), t3.keep (A 124 (by decide) _) (fun j _ _ => A 125 (by decide) j) (fun j _ _ => A 126 (by decide) j), t4.keep (A 124 (by decide) _) (fun j _ _ => A 125 (by decide) j) (fun j _ _ => A 126 (by decide) j)⟩
theorem J_12 {z t : Nat} {h : E_H} {sl : Nat} {s : C_S} {u : R_S} {tb sh pa pl ma re : Nat} {X : List Int} {fs : Int → Option (List Int)} {ca th tg f pq : Int} {Q : Option P_T} {O : List Int} {H : List (List Int)} {n3 n4 n5 n6 : Int} {W RC RS : Nat} {a : Int} (hc : C_is h h s) (hr : R_is h h u) (jc : J_c s 0 tb sh pa pl ma re X fs ca th tg f pq Q O H n3 n4 n5 n6 W) (jr : J_r u X fs ca th tg f pq Q O H n3 n4 n5 n6) (ji : J_in fs ca th tg Q O H n3 n4 n5 n6 t) (r1 : sl + 5 * X.length ≤ z + 2 * W + 150 * t) (r2 : 8 * C_n s ≤ 2000 + W + 2160 * t) (t5 : t ≤ 512) (b : J_bd z t RC RS) (z_a : Zr a) : L_two 300 157 280 RC RS [Zi a] h sl (J_st z (t + 1)) := by
  obtain ⟨ea, u0, v0, tr, A2, m2, sm, τ, β, G, P, ω, Am, ru, rv, hg, hby, hd, hq, htr, hzb, hp, hQ, hm, e0, hrp, eW⟩ := id jc
  obtain ⟨w, hf, e8, e7, e3, e1, e84, e20, e21, hol, hhl, e70, e71, e72, e73, hto⟩ := id jr
  obtain ⟨i1, i2, i3, i4, i5, i6, i7, i8, i9, i10, i11, i12, i13, i14, i15, i16, i17, i18, i19, i20⟩ := id ji
  have h3 : 0 ≤ n3 ∧ n3 ≤ 1000000 := ⟨i13, by omega⟩
  have hx : 0 < u.1 70 → 0 ≤ u.1 56 ∧ u.1 56 ≤ 24 := fun e => by
    cases Q with
    | none => have : n3 = 0 := i9.mp rfl; omega
    | some t => obtain ⟨⟨L, l1, l2, l3, _⟩, _⟩ := hto; omega
  refine J_keep (as := [a]) hc hr jc jr ji r1 r2 (b · tb sh pa pl ma re) (C_choice 294 jc h3 i9 z_a) ((R_choice9 299 u z_a (by omega) hx).jk jr) (fun x y p q => ?_)
  obtain ⟨v1, rfl, p⟩ := p
  obtain ⟨v2, rfl, q⟩ := q
  rw [e70] at q
  obtain rfl : v1 = v2 := by
    cases Q with
    | none =>
      have e3 : n3 = 0 := i9.mp rfl
      have p : v1 = -1 := p
      omega
    | some t =>
      have e3 : n3 ≠ 0 := fun e => by have := i9.mpr e; cases this
      obtain ⟨L, hL, rfl⟩ := p
      obtain ⟨⟨L2, l1, l2, l3, l4, l5⟩, _⟩ := hto
      obtain rfl := X_srt_lt hL l1
      rcases q with ⟨rfl, _, q⟩ | ⟨rfl, _, q1, q2⟩ | ⟨rfl, q⟩
      · rw [if_pos q]; omega
      · rw [if_neg (by omega), if_pos (by omega)]
        obtain ⟨n, rfl⟩ := Int.eq_ofNat_of_zero_le q1
        have hn : n < L.length := by omega
        rw [X_at_g hn, ← (l5 n hn).1, Int.zero_add]
      · rw [if_neg (by omega), if_neg (by omega)]
  exact ⟨v1, rfl, rfl⟩
theorem J_13 {z t : Nat} {h : E_H} {sl : Nat} {s : C_S} {u : R_S} {tb sh pa pl ma re : Nat} {X : List Int} {fs : Int → Option (List Int)} {ca th tg f pq : Int} {Q : Option P_T} {O : List Int} {H : List (List Int)} {n3 n4 n5 n6 : Int} {W RC RS : Nat} {a : Int} {c : Int} (hc : C_is h h s) (hr : R_is h h u) (jc : J_c s 0 tb sh pa pl ma re X fs ca th tg f pq Q O H n3 n4 n5 n6 W) (jr : J_r u X fs ca th tg f pq Q O H n3 n4 n5 n6) (ji : J_in fs ca th tg Q O H n3 n4 n5 n6 t) (r1 : sl + 5 * X.length ≤ z + 2 * W + 150 * t) (r2 : 8 * C_n s ≤ 2000 + W + 2160 * t) (t5 : t ≤ 512) (b : J_bd z t RC RS) (z_a : Zr a) (z_c : Zr c) : L_two 300 158 281 RC RS [Zi a, Zi c] h sl (J_st z (t + 1)) := by
  obtain ⟨ea, u0, v0, tr, A2, m2, sm, τ, β, G, P, ω, Am, ru, rv, hg, hby, hd, hq, htr, hzb, hp, hQ, hm, e0, hrp, eW⟩ := id jc
  obtain ⟨w, hf, e8, e7, e3, e1, e84, e20, e21, hol, hhl, e70, e71, e72, e73, hto⟩ := id jr
  obtain ⟨i1, i2, i3, i4, i5, i6, i7, i8, i9, i10, i11, i12, i13, i14, i15, i16, i17, i18, i19, i20⟩ := id ji
  have h3 : 0 ≤ n3 ∧ n3 ≤ 1000000 := ⟨i13, by omega⟩
  have hx : 0 < u.1 70 → u.1 56 ≤ 24 := fun e => by
    cases Q with
    | none => have : n3 = 0 := i9.mp rfl; omega
    | some t => obtain ⟨⟨L, l1, l2, l3, _⟩, _⟩ := hto; omega
  have hy : 0 < u.1 70 → 0 ≤ a → a < u.1 56 → u.2.1 122 a ≤ 640 := fun e a0 a1 => by
    cases Q with
    | none => have : n3 = 0 := i9.mp rfl; omega
    | some t =>
      obtain ⟨⟨L, l1, l2, l3, l4, l5⟩, _⟩ := hto
      obtain ⟨n, rfl⟩ := Int.eq_ofNat_of_zero_le a0
      have hn : n < L.length := by omega
      have m1 := (l5 n hn).1
      rw [Int.zero_add] at m1
      have := l4 L[n] (List.getElem_mem hn)
      omega
  refine J_keep (as := [a, c]) hc hr jc jr ji r1 r2 (b · tb sh pa pl ma re) (C_gram 294 jc h3 i9 z_a z_c) ((R_gram9 299 u z_a z_c hx hy).jk jr) (fun x y p q => ?_)
  obtain ⟨v1, rfl, p⟩ := p
  obtain ⟨v2, rfl, q⟩ := q
  rw [e70] at q
  obtain rfl : v1 = v2 := by
    cases Q with
    | none =>
      have e3 : n3 = 0 := i9.mp rfl
      have p : v1 = -1 := p
      omega
    | some t =>
      have e3 : n3 ≠ 0 := fun e => by have := i9.mpr e; cases this
      obtain ⟨L, hL, rfl⟩ := p
      obtain ⟨⟨L2, l1, l2, l3, l4, l5⟩, _⟩ := hto
      obtain rfl := X_srt_lt hL l1
      by_cases ci : 0 ≤ a ∧ a < L.length
      · rw [if_pos ci]
        obtain ⟨n, rfl⟩ := Int.eq_ofNat_of_zero_le ci.1
        have hn : n < L.length := by omega
        obtain ⟨m1, m2⟩ := l5 n hn
        rw [Int.zero_add] at m1
        rw [X_at_g hn]
        by_cases ck : 0 ≤ c ∧ c < L[n].length
        · obtain ⟨x, rfl⟩ := Int.eq_ofNat_of_zero_le ck.1
          have hx2 : x < L[n].length := by omega
          have m2 := m2 x hx2
          rw [Int.zero_add] at m2
          rw [L_at_get hx2]
          rcases q with ⟨rfl, _⟩ | ⟨_, q⟩
          · exact m2.symm
          · exact absurd ⟨by omega, by omega, by omega, by omega, by omega⟩ q
        · rcases q with ⟨_, q⟩ | ⟨rfl, _⟩
          · omega
          · by_cases c0 : 0 ≤ c
            · exact L_at_end (by omega)
            · unfold L_at; rw [if_neg c0]
      · rw [if_neg ci]
        rcases q with ⟨_, q⟩ | ⟨rfl, _⟩
        · omega
        · rfl
  exact ⟨v1, rfl, rfl⟩
theorem J_14 {z t : Nat} {h : E_H} {sl : Nat} {s : C_S} {u : R_S} {tb sh pa pl ma re : Nat} {X : List Int} {fs : Int → Option (List Int)} {ca th tg f pq : Int} {Q : Option P_T} {O : List Int} {H : List (List Int)} {n3 n4 n5 n6 : Int} {W RC RS : Nat} {a : Int} (hc : C_is h h s) (hr : R_is h h u) (jc : J_c s 0 tb sh pa pl ma re X fs ca th tg f pq Q O H n3 n4 n5 n6 W) (jr : J_r u X fs ca th tg f pq Q O H n3 n4 n5 n6) (ji : J_in fs ca th tg Q O H n3 n4 n5 n6 t) (r1 : sl + 5 * X.length ≤ z + 2 * W + 150 * t) (r2 : 8 * C_n s ≤ 2000 + W + 2160 * t) (t5 : t ≤ 512) (b : J_bd z t RC RS) (z_a : Zr a) : L_two 300 159 282 RC RS [Zi a] h sl (J_st z (t + 1)) := by
  obtain ⟨ea, u0, v0, tr, A2, m2, sm, τ, β, G, P, ω, Am, ru, rv, hg, hby, hd, hq, htr, hzb, hp, hQ, hm, e0, hrp, eW⟩ := id jc
  obtain ⟨w, hf, e8, e7, e3, e1, e84, e20, e21, hol, hhl, e70, e71, e72, e73, hto⟩ := id jr
  obtain ⟨i1, i2, i3, i4, i5, i6, i7, i8, i9, i10, i11, i12, i13, i14, i15, i16, i17, i18, i19, i20⟩ := id ji
  have h3 : 0 ≤ n3 ∧ n3 ≤ 1000000 := ⟨i13, by omega⟩
  refine J_keep (as := [a]) hc hr jc jr ji r1 r2 (b · tb sh pa pl ma re) (C_texts 294 jc h3 i9 z_a) ((R_texts 299 u z_a).jk jr) (fun x y p q => ?_)
  obtain ⟨v1, rfl, p⟩ := p
  obtain ⟨v2, rfl, q⟩ := q
  rw [e70] at q
  obtain rfl : v1 = v2 := by
    cases Q with
    | none =>
      have e3 : n3 = 0 := i9.mp rfl
      have p : v1 = -1 := p
      omega
    | some t =>
      have e3 : n3 ≠ 0 := fun e => by have := i9.mpr e; cases this
      have p : if 0 ≤ a ∧ a < 3 then ∃ L, X_srt L (J_tx (P_plan t) a) ∧ v1 = (L.length : Int) else v1 = -1 := p
      by_cases ca3 : 0 ≤ a ∧ a < 3
      · rw [if_pos ca3] at p
        obtain ⟨L, hL, rfl⟩ := p
        obtain ⟨L2, l1, l2, l3, l4, l5⟩ := R_told.t1 hto ca3.1 ca3.2
        obtain rfl := X_srt_lt hL l1
        omega
      · rw [if_neg ca3] at p
        omega
  exact ⟨v1, rfl, rfl⟩
theorem J_15 {z t : Nat} {h : E_H} {sl : Nat} {s : C_S} {u : R_S} {tb sh pa pl ma re : Nat} {X : List Int} {fs : Int → Option (List Int)} {ca th tg f pq : Int} {Q : Option P_T} {O : List Int} {H : List (List Int)} {n3 n4 n5 n6 : Int} {W RC RS : Nat} {a : Int} {c : Int} {k : Int} (hc : C_is h h s) (hr : R_is h h u) (jc : J_c s 0 tb sh pa pl ma re X fs ca th tg f pq Q O H n3 n4 n5 n6 W) (jr : J_r u X fs ca th tg f pq Q O H n3 n4 n5 n6) (ji : J_in fs ca th tg Q O H n3 n4 n5 n6 t) (r1 : sl + 5 * X.length ≤ z + 2 * W + 150 * t) (r2 : 8 * C_n s ≤ 2000 + W + 2160 * t) (t5 : t ≤ 512) (b : J_bd z t RC RS) (z_a : Zr a) (z_c : Zr c) (z_k : Zr k) : L_two 300 160 283 RC RS [Zi a, Zi c, Zi k] h sl (J_st z (t + 1)) := by
  obtain ⟨ea, u0, v0, tr, A2, m2, sm, τ, β, G, P, ω, Am, ru, rv, hg, hby, hd, hq, htr, hzb, hp, hQ, hm, e0, hrp, eW⟩ := id jc
  obtain ⟨w, hf, e8, e7, e3, e1, e84, e20, e21, hol, hhl, e70, e71, e72, e73, hto⟩ := id jr
  obtain ⟨i1, i2, i3, i4, i5, i6, i7, i8, i9, i10, i11, i12, i13, i14, i15, i16, i17, i18, i19, i20⟩ := id ji
  have h3 : 0 ≤ n3 ∧ n3 ≤ 1000000 := ⟨i13, by omega⟩
  have hx : 0 < u.1 70 → 0 ≤ a → a < 3 → u.2.1 124 a ≤ 12 := fun e a0 a1 => by
    cases Q with
    | none => have : n3 = 0 := i9.mp rfl; omega
    | some t => obtain ⟨L, l1, l2, l3, _⟩ := R_told.t1 hto a0 a1; omega
  have hy : 0 < u.1 70 → 0 ≤ a → a < 3 → 0 ≤ c → c < u.2.1 124 a → u.2.1 125 (12 * a + c) ≤ 60 := fun e a0 a1 c0 c1 => by
    cases Q with
    | none => have : n3 = 0 := i9.mp rfl; omega
    | some t =>
      obtain ⟨L, l1, l2, l3, l4, l5⟩ := R_told.t1 hto a0 a1
      obtain ⟨n, rfl⟩ := Int.eq_ofNat_of_zero_le c0
      have hn : n < L.length := by omega
      have m1 := (l5 n hn).1
      have := l4 L[n] (List.getElem_mem hn)
      omega
  refine J_keep (as := [a, c, k]) hc hr jc jr ji r1 r2 (b · tb sh pa pl ma re) (C_text 293 jc h3 i9 z_a z_c z_k) ((R_text9 299 u z_a z_c z_k (by omega) hx hy).jk jr) (fun x y p q => ?_)
  obtain ⟨v1, rfl, p⟩ := p
  obtain ⟨v2, rfl, q⟩ := q
  rw [e70] at q
  obtain rfl : v1 = v2 := by
    cases Q with
    | none =>
      have e3 : n3 = 0 := i9.mp rfl
      have p : v1 = -1 := p
      omega
    | some t =>
      have e3 : n3 ≠ 0 := fun e => by have := i9.mpr e; cases this
      have p : if 0 ≤ a ∧ a < 3 then ∃ L, X_srt L (J_tx (P_plan t) a) ∧ v1 = (if 0 ≤ c ∧ c < L.length then L_at (X_at L c) k else -1) else v1 = -1 := p
      by_cases ca3 : 0 ≤ a ∧ a < 3
      · rw [if_pos ca3] at p
        obtain ⟨L, hL, rfl⟩ := p
        obtain ⟨L2, l1, l2, l3, l4, l5⟩ := R_told.t1 hto ca3.1 ca3.2
        obtain rfl := X_srt_lt hL l1
        by_cases ci : 0 ≤ c ∧ c < L.length
        · rw [if_pos ci]
          obtain ⟨n, rfl⟩ := Int.eq_ofNat_of_zero_le ci.1
          have hn : n < L.length := by omega
          obtain ⟨m1, m2⟩ := l5 n hn
          rw [X_at_g hn]
          by_cases ck : 0 ≤ k ∧ k < L[n].length
          · obtain ⟨x, rfl⟩ := Int.eq_ofNat_of_zero_le ck.1
            have hx2 : x < L[n].length := by omega
            have m2 := m2 x hx2
            rw [L_at_get hx2]
            rcases q with ⟨rfl, _⟩ | ⟨_, q⟩
            · exact m2.symm
            · exact absurd ⟨by omega, by omega, by omega, by omega, by omega, by omega, by omega⟩ q
          · rcases q with ⟨_, q⟩ | ⟨rfl, _⟩
            · omega
            · by_cases c0 : 0 ≤ k
              · exact L_at_end (by omega)
              · unfold L_at; rw [if_neg c0]
        · rw [if_neg ci]
          rcases q with ⟨_, q⟩ | ⟨rfl, _⟩
          · omega
          · rfl
      · rw [if_neg ca3] at p
        omega
  exact ⟨v1, rfl, rfl⟩
