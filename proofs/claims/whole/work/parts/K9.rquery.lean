/-! the reference: what is asked of the report -/
theorem R_fault (d : Nat) (s : R_S) {w : Int}  (zw : Zr w) : R_ok (d + 1) 277 [.int (Zi w)] s (fun x s2 => s2 = s ∧ ∃ v : Int, x = some (.int (Zi v)) ∧ (v = s.1 20 ∧ w = 0 ∨ v = s.1 21 ∧ w = 1 ∨ v = -1 ∧ w ≠ 0 ∧ w ≠ 1)) := by
  refine R_enter (M := E_m277) rfl (Nat.le_of_ble_eq_true rfl) (fun h0 h hs => ?_)
  show B_R d _ (0, [(0, .ref 83), (1, .int (Zi w))], []) _ _ _
  refine Z_go (f2 := (1, [(0, .ref 83), (1, .int (Zi w))], [.int (Zi w)])) (fun _ => rfl) ?_
  refine Z_ine rfl rfl (by first | exact hs.zF _ | exact Zor_r _ _ | exact hs.zA _ _ | assumption | exact zA _ _ | exact zS _ | exact Zr_not (hs.zA _ _) | exact ⟨by omega, by omega⟩) (fun c1 => ?_) (fun c1 => ?_)
  · refine Z_go (f2 := (12, [(0, .ref 83), (1, .int (Zi w))], [.int (Zi w)])) (fun _ => rfl) ?_
    refine Z_go (f2 := (13, [(0, .ref 83), (1, .int (Zi w))], [.int (Zi 1), .int (Zi w)])) (fun _ => rfl) ?_
    refine Z_cne rfl rfl (by first | exact hs.zF _ | exact Zor_r _ _ | exact hs.zA _ _ | assumption | exact zA _ _ | exact zS _ | exact Zr_not (hs.zA _ _) | exact ⟨by omega, by omega⟩) (by first | exact hs.zF _ | exact Zor_r _ _ | exact hs.zA _ _ | assumption | exact zA _ _ | exact zS _ | exact Zr_not (hs.zA _ _) | exact ⟨by omega, by omega⟩) (fun c2 => ?_) (fun c2 => ?_)
    · refine Z_go (f2 := (24, [(0, .ref 83), (1, .int (Zi w))], [.int (Zi (-1))])) (fun _ => rfl) ?_
      refine Z_iret rfl rfl (by first | rfl | decide | exact narrow_b01 (by omega)) ⟨_, hs, ?_, rfl⟩
      exact ⟨rfl, _, rfl, by omega⟩
    · refine Z_go (f2 := (17, [(0, .ref 83), (1, .int (Zi w))], [.ref 83])) (fun _ => rfl) ?_
      refine R_gi rfl hs rfl ?_
      show B_R _ _ (20, [(0, .ref 83), (1, .int (Zi w))], [.int (Zi (s.1 21))]) _ _ _
      refine Z_go (f2 := (24, [(0, .ref 83), (1, .int (Zi w))], [.int (Zi (s.1 21))])) (fun _ => rfl) ?_
      refine Z_iret rfl rfl (by first | rfl | decide | exact narrow_b01 (by omega)) ⟨_, hs, ?_, rfl⟩
      exact ⟨rfl, _, rfl, by omega⟩
  · refine Z_go (f2 := (5, [(0, .ref 83), (1, .int (Zi w))], [.ref 83])) (fun _ => rfl) ?_
    refine R_gi rfl hs rfl ?_
    show B_R _ _ (8, [(0, .ref 83), (1, .int (Zi w))], [.int (Zi (s.1 20))]) _ _ _
    refine Z_go (f2 := (24, [(0, .ref 83), (1, .int (Zi w))], [.int (Zi (s.1 20))])) (fun _ => rfl) ?_
    refine Z_iret rfl rfl (by first | rfl | decide | exact narrow_b01 (by omega)) ⟨_, hs, ?_, rfl⟩
    exact ⟨rfl, _, rfl, by omega⟩
theorem R_hit (d : Nat) (s : R_S) {i w : Int}  (zi : Zr i) (zw : Zr w) (h63 : s.1 63 ≤ 40) : R_ok (d + 1) 278 [.int (Zi i), .int (Zi w)] s (fun x s2 => s2 = s ∧ ∃ v : Int, x = some (.int (Zi v)) ∧ (0 ≤ i ∧ i < s.1 63 ∧ (v = s.2.1 127 i ∧ w = 0 ∨ v = s.2.1 128 i ∧ w = 1 ∨ v = s.2.1 129 i ∧ w = 2 ∨ v = s.2.1 130 i ∧ w = 3) ∨ v = -1 ∧ ¬ (0 ≤ i ∧ i < s.1 63 ∧ 0 ≤ w ∧ w ≤ 3))) := by
  refine R_enter (M := E_m278) rfl (Nat.le_of_ble_eq_true rfl) (fun h0 h hs => ?_)
  show B_R d _ (0, [(0, .ref 83), (1, .int (Zi i)), (2, .int (Zi w))], []) _ _ _
  refine Z_go (f2 := (1, [(0, .ref 83), (1, .int (Zi i)), (2, .int (Zi w))], [.int (Zi i)])) (fun _ => rfl) ?_
  refine Z_ilt rfl rfl (by first | exact hs.zF _ | exact Zor_r _ _ | exact hs.zA _ _ | assumption | exact zA _ _ | exact zS _ | exact Zr_not (hs.zA _ _) | exact ⟨by omega, by omega⟩) (fun c1 => ?_) (fun c1 => ?_)
  · refine Z_go (f2 := (13, [(0, .ref 83), (1, .int (Zi i)), (2, .int (Zi w))], [.int (Zi (-1))])) (fun _ => rfl) ?_
    refine Z_iret rfl rfl (by first | rfl | decide | exact narrow_b01 (by omega)) ⟨_, hs, ?_, rfl⟩
    exact ⟨rfl, _, rfl, by omega⟩
  · refine Z_go (f2 := (5, [(0, .ref 83), (1, .int (Zi i)), (2, .int (Zi w))], [.int (Zi i)])) (fun _ => rfl) ?_
    refine Z_go (f2 := (6, [(0, .ref 83), (1, .int (Zi i)), (2, .int (Zi w))], [.ref 83, .int (Zi i)])) (fun _ => rfl) ?_
    refine R_gi rfl hs rfl ?_
    show B_R _ _ (9, [(0, .ref 83), (1, .int (Zi i)), (2, .int (Zi w))], [.int (Zi (s.1 63)), .int (Zi i)]) _ _ _
    refine Z_clt rfl rfl (by first | exact hs.zF _ | exact Zor_r _ _ | exact hs.zA _ _ | assumption | exact zA _ _ | exact zS _ | exact Zr_not (hs.zA _ _) | exact ⟨by omega, by omega⟩) (by first | exact hs.zF _ | exact Zor_r _ _ | exact hs.zA _ _ | assumption | exact zA _ _ | exact zS _ | exact Zr_not (hs.zA _ _) | exact ⟨by omega, by omega⟩) (fun c2 => ?_) (fun c2 => ?_)
    · refine Z_go (f2 := (15, [(0, .ref 83), (1, .int (Zi i)), (2, .int (Zi w))], [.int (Zi w)])) (fun _ => rfl) ?_
      rcases (by omega : w = 0 ∨ w = 1 ∨ w = 2 ∨ w = 3 ∨ (w < 0 ∨ 3 < w)) with c3 | c3 | c3 | c3 | c3
      · refine Z_swk (f2 := (44, [(0, .ref 83), (1, .int (Zi i)), (2, .int (Zi w))], [])) c3 (fun _ => rfl) ?_
        refine Z_go (f2 := (45, [(0, .ref 83), (1, .int (Zi i)), (2, .int (Zi w))], [.ref 83])) (fun _ => rfl) ?_
        refine R_gr (q := 125) rfl hs rfl ?_
        show B_R _ _ (48, [(0, .ref 83), (1, .int (Zi i)), (2, .int (Zi w))], [.ref 127]) _ _ _
        refine Z_go (f2 := (49, [(0, .ref 83), (1, .int (Zi i)), (2, .int (Zi w))], [.int (Zi i), .ref 127])) (fun _ => rfl) ?_
        refine R_ia (q := 43) rfl hs rfl rfl (by omega) (by omega) (by decide) ?_
        refine Z_iret rfl rfl (by first | rfl | decide | exact narrow_b01 (by omega)) ⟨_, hs, ?_, rfl⟩
        exact ⟨rfl, _, rfl, by omega⟩
      · refine Z_swk (f2 := (51, [(0, .ref 83), (1, .int (Zi i)), (2, .int (Zi w))], [])) c3 (fun _ => rfl) ?_
        refine Z_go (f2 := (52, [(0, .ref 83), (1, .int (Zi i)), (2, .int (Zi w))], [.ref 83])) (fun _ => rfl) ?_
        refine R_gr (q := 126) rfl hs rfl ?_
        show B_R _ _ (55, [(0, .ref 83), (1, .int (Zi i)), (2, .int (Zi w))], [.ref 128]) _ _ _
        refine Z_go (f2 := (56, [(0, .ref 83), (1, .int (Zi i)), (2, .int (Zi w))], [.int (Zi i), .ref 128])) (fun _ => rfl) ?_
        refine R_ia (q := 44) rfl hs rfl rfl (by omega) (by omega) (by decide) ?_
        refine Z_iret rfl rfl (by first | rfl | decide | exact narrow_b01 (by omega)) ⟨_, hs, ?_, rfl⟩
        exact ⟨rfl, _, rfl, by omega⟩
      · refine Z_swk (f2 := (58, [(0, .ref 83), (1, .int (Zi i)), (2, .int (Zi w))], [])) c3 (fun _ => rfl) ?_
        refine Z_go (f2 := (59, [(0, .ref 83), (1, .int (Zi i)), (2, .int (Zi w))], [.ref 83])) (fun _ => rfl) ?_
        refine R_gr (q := 127) rfl hs rfl ?_
        show B_R _ _ (62, [(0, .ref 83), (1, .int (Zi i)), (2, .int (Zi w))], [.ref 129]) _ _ _
        refine Z_go (f2 := (63, [(0, .ref 83), (1, .int (Zi i)), (2, .int (Zi w))], [.int (Zi i), .ref 129])) (fun _ => rfl) ?_
        refine R_ia (q := 45) rfl hs rfl rfl (by omega) (by omega) (by decide) ?_
        refine Z_iret rfl rfl (by first | rfl | decide | exact narrow_b01 (by omega)) ⟨_, hs, ?_, rfl⟩
        exact ⟨rfl, _, rfl, by omega⟩
      · refine Z_swk (f2 := (65, [(0, .ref 83), (1, .int (Zi i)), (2, .int (Zi w))], [])) c3 (fun _ => rfl) ?_
        refine Z_go (f2 := (66, [(0, .ref 83), (1, .int (Zi i)), (2, .int (Zi w))], [.ref 83])) (fun _ => rfl) ?_
        refine R_gr (q := 128) rfl hs rfl ?_
        show B_R _ _ (69, [(0, .ref 83), (1, .int (Zi i)), (2, .int (Zi w))], [.ref 130]) _ _ _
        refine Z_go (f2 := (70, [(0, .ref 83), (1, .int (Zi i)), (2, .int (Zi w))], [.int (Zi i), .ref 130])) (fun _ => rfl) ?_
        refine R_ia (q := 46) rfl hs rfl rfl (by omega) (by omega) (by decide) ?_
        refine Z_iret rfl rfl (by first | rfl | decide | exact narrow_b01 (by omega)) ⟨_, hs, ?_, rfl⟩
        exact ⟨rfl, _, rfl, by omega⟩
      · refine Z_tswd rfl (by first | exact hs.zF _ | exact Zor_r _ _ | exact hs.zA _ _ | assumption | exact zA _ _ | exact zS _ | exact Zr_not (hs.zA _ _) | exact ⟨by omega, by omega⟩) c3 (by rfl) ?_
        show B_R _ _ (72, [(0, .ref 83), (1, .int (Zi i)), (2, .int (Zi w))], []) _ _ _
        refine Z_go (f2 := (73, [(0, .ref 83), (1, .int (Zi i)), (2, .int (Zi w))], [.int (Zi (-1))])) (fun _ => rfl) ?_
        refine Z_iret rfl rfl (by first | rfl | decide | exact narrow_b01 (by omega)) ⟨_, hs, ?_, rfl⟩
        exact ⟨rfl, _, rfl, by omega⟩
    · refine Z_go (f2 := (13, [(0, .ref 83), (1, .int (Zi i)), (2, .int (Zi w))], [.int (Zi (-1))])) (fun _ => rfl) ?_
      refine Z_iret rfl rfl (by first | rfl | decide | exact narrow_b01 (by omega)) ⟨_, hs, ?_, rfl⟩
      exact ⟨rfl, _, rfl, by omega⟩
theorem R_opened (d : Nat) (s : R_S) {i : Int}  (zi : Zr i) (h68 : s.1 68 ≤ 40) : R_ok (d + 1) 279 [.int (Zi i)] s (fun x s2 => s2 = s ∧ ∃ v : Int, x = some (.int (Zi v)) ∧ (v = s.2.1 131 i ∧ 0 ≤ i ∧ i < s.1 68 ∨ v = -1 ∧ ¬ (0 ≤ i ∧ i < s.1 68))) := by
  refine R_enter (M := E_m279) rfl (Nat.le_of_ble_eq_true rfl) (fun h0 h hs => ?_)
  show B_R d _ (0, [(0, .ref 83), (1, .int (Zi i))], []) _ _ _
  refine Z_go (f2 := (1, [(0, .ref 83), (1, .int (Zi i))], [.int (Zi i)])) (fun _ => rfl) ?_
  refine Z_ilt rfl rfl (by first | exact hs.zF _ | exact Zor_r _ _ | exact hs.zA _ _ | assumption | exact zA _ _ | exact zS _ | exact Zr_not (hs.zA _ _) | exact ⟨by omega, by omega⟩) (fun c1 => ?_) (fun c1 => ?_)
  · refine Z_go (f2 := (22, [(0, .ref 83), (1, .int (Zi i))], [.int (Zi (-1))])) (fun _ => rfl) ?_
    refine Z_iret rfl rfl (by first | rfl | decide | exact narrow_b01 (by omega)) ⟨_, hs, ?_, rfl⟩
    exact ⟨rfl, _, rfl, by omega⟩
  · refine Z_go (f2 := (5, [(0, .ref 83), (1, .int (Zi i))], [.int (Zi i)])) (fun _ => rfl) ?_
    refine Z_go (f2 := (6, [(0, .ref 83), (1, .int (Zi i))], [.ref 83, .int (Zi i)])) (fun _ => rfl) ?_
    refine R_gi rfl hs rfl ?_
    show B_R _ _ (9, [(0, .ref 83), (1, .int (Zi i))], [.int (Zi (s.1 68)), .int (Zi i)]) _ _ _
    refine Z_cge rfl rfl (by first | exact hs.zF _ | exact Zor_r _ _ | exact hs.zA _ _ | assumption | exact zA _ _ | exact zS _ | exact Zr_not (hs.zA _ _) | exact ⟨by omega, by omega⟩) (by first | exact hs.zF _ | exact Zor_r _ _ | exact hs.zA _ _ | assumption | exact zA _ _ | exact zS _ | exact Zr_not (hs.zA _ _) | exact ⟨by omega, by omega⟩) (fun c2 => ?_) (fun c2 => ?_)
    · refine Z_go (f2 := (22, [(0, .ref 83), (1, .int (Zi i))], [.int (Zi (-1))])) (fun _ => rfl) ?_
      refine Z_iret rfl rfl (by first | rfl | decide | exact narrow_b01 (by omega)) ⟨_, hs, ?_, rfl⟩
      exact ⟨rfl, _, rfl, by omega⟩
    · refine Z_go (f2 := (13, [(0, .ref 83), (1, .int (Zi i))], [.ref 83])) (fun _ => rfl) ?_
      refine R_gr (q := 129) rfl hs rfl ?_
      show B_R _ _ (16, [(0, .ref 83), (1, .int (Zi i))], [.ref 131]) _ _ _
      refine Z_go (f2 := (17, [(0, .ref 83), (1, .int (Zi i))], [.int (Zi i), .ref 131])) (fun _ => rfl) ?_
      refine R_ia (q := 47) rfl hs rfl rfl (by omega) (by omega) (by decide) ?_
      refine Z_go (f2 := (22, [(0, .ref 83), (1, .int (Zi i))], [.int (Zi (s.2.1 131 i))])) (fun _ => rfl) ?_
      refine Z_iret rfl rfl (by first | rfl | decide | exact narrow_b01 (by omega)) ⟨_, hs, ?_, rfl⟩
      exact ⟨rfl, _, rfl, by omega⟩
theorem R_choice (d : Nat) (s : R_S) {c : Int}  (zc : Zr c) (c70 : 0 ≤ s.1 70) (h56 : 0 ≤ s.1 56 ∧ s.1 56 ≤ 24) : R_ok (d + 1) 280 [.int (Zi c)] s (fun x s2 => s2 = s ∧ ∃ v : Int, x = some (.int (Zi v)) ∧ (v = s.1 56 ∧ 0 < s.1 70 ∧ c = -1 ∨ v = s.2.1 122 c ∧ 0 < s.1 70 ∧ 0 ≤ c ∧ c < s.1 56 ∨ v = -1 ∧ ¬ (0 < s.1 70 ∧ -1 ≤ c ∧ c < s.1 56))) := by
  refine R_enter (M := E_m280) rfl (Nat.le_of_ble_eq_true rfl) (fun h0 h hs => ?_)
  show B_R d _ (0, [(0, .ref 83), (1, .int (Zi c))], []) _ _ _
  refine Z_go (f2 := (1, [(0, .ref 83), (1, .int (Zi c))], [.ref 83])) (fun _ => rfl) ?_
  refine R_gi rfl hs rfl ?_
  show B_R _ _ (4, [(0, .ref 83), (1, .int (Zi c))], [.int (Zi (s.1 70))]) _ _ _
  refine Z_ine rfl rfl (by first | exact hs.zF _ | exact Zor_r _ _ | exact hs.zA _ _ | assumption | exact zA _ _ | exact zS _ | exact Zr_not (hs.zA _ _) | exact ⟨by omega, by omega⟩) (fun c1 => ?_) (fun c1 => ?_)
  · refine Z_go (f2 := (10, [(0, .ref 83), (1, .int (Zi c))], [.int (Zi c)])) (fun _ => rfl) ?_
    refine Z_go (f2 := (11, [(0, .ref 83), (1, .int (Zi c))], [.int (Zi (-1)), .int (Zi c)])) (fun _ => rfl) ?_
    refine Z_cne rfl rfl (by first | exact hs.zF _ | exact Zor_r _ _ | exact hs.zA _ _ | assumption | exact zA _ _ | exact zS _ | exact Zr_not (hs.zA _ _) | exact ⟨by omega, by omega⟩) (by first | exact hs.zF _ | exact Zor_r _ _ | exact hs.zA _ _ | assumption | exact zA _ _ | exact zS _ | exact Zr_not (hs.zA _ _) | exact ⟨by omega, by omega⟩) (fun c2 => ?_) (fun c2 => ?_)
    · refine Z_go (f2 := (20, [(0, .ref 83), (1, .int (Zi c))], [.int (Zi c)])) (fun _ => rfl) ?_
      refine Z_ilt rfl rfl (by first | exact hs.zF _ | exact Zor_r _ _ | exact hs.zA _ _ | assumption | exact zA _ _ | exact zS _ | exact Zr_not (hs.zA _ _) | exact ⟨by omega, by omega⟩) (fun c3 => ?_) (fun c3 => ?_)
      · refine Z_go (f2 := (41, [(0, .ref 83), (1, .int (Zi c))], [.int (Zi (-1))])) (fun _ => rfl) ?_
        refine Z_iret rfl rfl (by first | rfl | decide | exact narrow_b01 (by omega)) ⟨_, hs, ?_, rfl⟩
        exact ⟨rfl, _, rfl, by omega⟩
      · refine Z_go (f2 := (24, [(0, .ref 83), (1, .int (Zi c))], [.int (Zi c)])) (fun _ => rfl) ?_
        refine Z_go (f2 := (25, [(0, .ref 83), (1, .int (Zi c))], [.ref 83, .int (Zi c)])) (fun _ => rfl) ?_
        refine R_gi rfl hs rfl ?_
        show B_R _ _ (28, [(0, .ref 83), (1, .int (Zi c))], [.int (Zi (s.1 56)), .int (Zi c)]) _ _ _
        refine Z_cge rfl rfl (by first | exact hs.zF _ | exact Zor_r _ _ | exact hs.zA _ _ | assumption | exact zA _ _ | exact zS _ | exact Zr_not (hs.zA _ _) | exact ⟨by omega, by omega⟩) (by first | exact hs.zF _ | exact Zor_r _ _ | exact hs.zA _ _ | assumption | exact zA _ _ | exact zS _ | exact Zr_not (hs.zA _ _) | exact ⟨by omega, by omega⟩) (fun c4 => ?_) (fun c4 => ?_)
        · refine Z_go (f2 := (41, [(0, .ref 83), (1, .int (Zi c))], [.int (Zi (-1))])) (fun _ => rfl) ?_
          refine Z_iret rfl rfl (by first | rfl | decide | exact narrow_b01 (by omega)) ⟨_, hs, ?_, rfl⟩
          exact ⟨rfl, _, rfl, by omega⟩
        · refine Z_go (f2 := (32, [(0, .ref 83), (1, .int (Zi c))], [.ref 83])) (fun _ => rfl) ?_
          refine R_gr (q := 120) rfl hs rfl ?_
          show B_R _ _ (35, [(0, .ref 83), (1, .int (Zi c))], [.ref 122]) _ _ _
          refine Z_go (f2 := (36, [(0, .ref 83), (1, .int (Zi c))], [.int (Zi c), .ref 122])) (fun _ => rfl) ?_
          refine R_ia (q := 38) rfl hs rfl rfl (by omega) (by omega) (by decide) ?_
          refine Z_go (f2 := (41, [(0, .ref 83), (1, .int (Zi c))], [.int (Zi (s.2.1 122 c))])) (fun _ => rfl) ?_
          refine Z_iret rfl rfl (by first | rfl | decide | exact narrow_b01 (by omega)) ⟨_, hs, ?_, rfl⟩
          exact ⟨rfl, _, rfl, by omega⟩
    · refine Z_go (f2 := (15, [(0, .ref 83), (1, .int (Zi c))], [.ref 83])) (fun _ => rfl) ?_
      refine R_gi rfl hs rfl ?_
      show B_R _ _ (18, [(0, .ref 83), (1, .int (Zi c))], [.int (Zi (s.1 56))]) _ _ _
      refine Z_iret rfl rfl (by first | rfl | decide | exact narrow_b01 (by omega)) ⟨_, hs, ?_, rfl⟩
      exact ⟨rfl, _, rfl, by omega⟩
  · refine Z_go (f2 := (8, [(0, .ref 83), (1, .int (Zi c))], [.int (Zi (-1))])) (fun _ => rfl) ?_
    refine Z_iret rfl rfl (by first | rfl | decide | exact narrow_b01 (by omega)) ⟨_, hs, ?_, rfl⟩
    exact ⟨rfl, _, rfl, by omega⟩
theorem R_gram (d : Nat) (s : R_S) {c k : Int}  (zc : Zr c) (zk : Zr k) (h56 : s.1 56 ≤ 24) (h122 : s.2.1 122 c ≤ 640) : R_ok (d + 1) 281 [.int (Zi c), .int (Zi k)] s (fun x s2 => s2 = s ∧ ∃ v : Int, x = some (.int (Zi v)) ∧ (v = s.2.1 123 (640 * c + k) ∧ 0 < s.1 70 ∧ 0 ≤ c ∧ c < s.1 56 ∧ 0 ≤ k ∧ k < s.2.1 122 c ∨ v = -1 ∧ ¬ (0 < s.1 70 ∧ 0 ≤ c ∧ c < s.1 56 ∧ 0 ≤ k ∧ k < s.2.1 122 c))) := by
  refine R_enter (M := E_m281) rfl (Nat.le_of_ble_eq_true rfl) (fun h0 h hs => ?_)
  show B_R d _ (0, [(0, .ref 83), (1, .int (Zi c)), (2, .int (Zi k))], []) _ _ _
  refine Z_go (f2 := (1, [(0, .ref 83), (1, .int (Zi c)), (2, .int (Zi k))], [.ref 83])) (fun _ => rfl) ?_
  refine R_gi rfl hs rfl ?_
  show B_R _ _ (4, [(0, .ref 83), (1, .int (Zi c)), (2, .int (Zi k))], [.int (Zi (s.1 70))]) _ _ _
  refine Z_ile rfl rfl (by first | exact hs.zF _ | exact Zor_r _ _ | exact hs.zA _ _ | assumption | exact zA _ _ | exact zS _ | exact Zr_not (hs.zA _ _) | exact ⟨by omega, by omega⟩) (fun c1 => ?_) (fun c1 => ?_)
  · refine Z_go (f2 := (49, [(0, .ref 83), (1, .int (Zi c)), (2, .int (Zi k))], [.int (Zi (-1))])) (fun _ => rfl) ?_
    refine Z_iret rfl rfl (by first | rfl | decide | exact narrow_b01 (by omega)) ⟨_, hs, ?_, rfl⟩
    exact ⟨rfl, _, rfl, by omega⟩
  · refine Z_go (f2 := (8, [(0, .ref 83), (1, .int (Zi c)), (2, .int (Zi k))], [.int (Zi c)])) (fun _ => rfl) ?_
    refine Z_ilt rfl rfl (by first | exact hs.zF _ | exact Zor_r _ _ | exact hs.zA _ _ | assumption | exact zA _ _ | exact zS _ | exact Zr_not (hs.zA _ _) | exact ⟨by omega, by omega⟩) (fun c2 => ?_) (fun c2 => ?_)
    · refine Z_go (f2 := (49, [(0, .ref 83), (1, .int (Zi c)), (2, .int (Zi k))], [.int (Zi (-1))])) (fun _ => rfl) ?_
      refine Z_iret rfl rfl (by first | rfl | decide | exact narrow_b01 (by omega)) ⟨_, hs, ?_, rfl⟩
      exact ⟨rfl, _, rfl, by omega⟩
    · refine Z_go (f2 := (12, [(0, .ref 83), (1, .int (Zi c)), (2, .int (Zi k))], [.int (Zi c)])) (fun _ => rfl) ?_
      refine Z_go (f2 := (13, [(0, .ref 83), (1, .int (Zi c)), (2, .int (Zi k))], [.ref 83, .int (Zi c)])) (fun _ => rfl) ?_
      refine R_gi rfl hs rfl ?_
      show B_R _ _ (16, [(0, .ref 83), (1, .int (Zi c)), (2, .int (Zi k))], [.int (Zi (s.1 56)), .int (Zi c)]) _ _ _
      refine Z_cge rfl rfl (by first | exact hs.zF _ | exact Zor_r _ _ | exact hs.zA _ _ | assumption | exact zA _ _ | exact zS _ | exact Zr_not (hs.zA _ _) | exact ⟨by omega, by omega⟩) (by first | exact hs.zF _ | exact Zor_r _ _ | exact hs.zA _ _ | assumption | exact zA _ _ | exact zS _ | exact Zr_not (hs.zA _ _) | exact ⟨by omega, by omega⟩) (fun c3 => ?_) (fun c3 => ?_)
      · refine Z_go (f2 := (49, [(0, .ref 83), (1, .int (Zi c)), (2, .int (Zi k))], [.int (Zi (-1))])) (fun _ => rfl) ?_
        refine Z_iret rfl rfl (by first | rfl | decide | exact narrow_b01 (by omega)) ⟨_, hs, ?_, rfl⟩
        exact ⟨rfl, _, rfl, by omega⟩
      · refine Z_go (f2 := (20, [(0, .ref 83), (1, .int (Zi c)), (2, .int (Zi k))], [.int (Zi k)])) (fun _ => rfl) ?_
        refine Z_ilt rfl rfl (by first | exact hs.zF _ | exact Zor_r _ _ | exact hs.zA _ _ | assumption | exact zA _ _ | exact zS _ | exact Zr_not (hs.zA _ _) | exact ⟨by omega, by omega⟩) (fun c4 => ?_) (fun c4 => ?_)
        · refine Z_go (f2 := (49, [(0, .ref 83), (1, .int (Zi c)), (2, .int (Zi k))], [.int (Zi (-1))])) (fun _ => rfl) ?_
          refine Z_iret rfl rfl (by first | rfl | decide | exact narrow_b01 (by omega)) ⟨_, hs, ?_, rfl⟩
          exact ⟨rfl, _, rfl, by omega⟩
        · refine Z_go (f2 := (24, [(0, .ref 83), (1, .int (Zi c)), (2, .int (Zi k))], [.int (Zi k)])) (fun _ => rfl) ?_
          refine Z_go (f2 := (25, [(0, .ref 83), (1, .int (Zi c)), (2, .int (Zi k))], [.ref 83, .int (Zi k)])) (fun _ => rfl) ?_
          refine R_gr (q := 120) rfl hs rfl ?_
          show B_R _ _ (28, [(0, .ref 83), (1, .int (Zi c)), (2, .int (Zi k))], [.ref 122, .int (Zi k)]) _ _ _
          refine Z_go (f2 := (29, [(0, .ref 83), (1, .int (Zi c)), (2, .int (Zi k))], [.int (Zi c), .ref 122, .int (Zi k)])) (fun _ => rfl) ?_
          refine R_ia (q := 38) rfl hs rfl rfl (by omega) (by omega) (by decide) ?_
          refine Z_cge rfl rfl (by first | exact hs.zF _ | exact Zor_r _ _ | exact hs.zA _ _ | assumption | exact zA _ _ | exact zS _ | exact Zr_not (hs.zA _ _) | exact ⟨by omega, by omega⟩) (by first | exact hs.zF _ | exact Zor_r _ _ | exact hs.zA _ _ | assumption | exact zA _ _ | exact zS _ | exact Zr_not (hs.zA _ _) | exact ⟨by omega, by omega⟩) (fun c5 => ?_) (fun c5 => ?_)
          · refine Z_go (f2 := (49, [(0, .ref 83), (1, .int (Zi c)), (2, .int (Zi k))], [.int (Zi (-1))])) (fun _ => rfl) ?_
            refine Z_iret rfl rfl (by first | rfl | decide | exact narrow_b01 (by omega)) ⟨_, hs, ?_, rfl⟩
            exact ⟨rfl, _, rfl, by omega⟩
          · refine Z_go (f2 := (34, [(0, .ref 83), (1, .int (Zi c)), (2, .int (Zi k))], [.ref 83])) (fun _ => rfl) ?_
            refine R_gr (q := 121) rfl hs rfl ?_
            show B_R _ _ (37, [(0, .ref 83), (1, .int (Zi c)), (2, .int (Zi k))], [.ref 123]) _ _ _
            refine Z_go (f2 := (40, [(0, .ref 83), (1, .int (Zi c)), (2, .int (Zi k))], [.int (Zi 640), .ref 123])) (fun _ => rfl) ?_
            refine Z_go (f2 := (41, [(0, .ref 83), (1, .int (Zi c)), (2, .int (Zi k))], [.int (Zi c), .int (Zi 640), .ref 123])) (fun _ => rfl) ?_
            refine Z_imul rfl ?_
            refine Z_go (f2 := (43, [(0, .ref 83), (1, .int (Zi c)), (2, .int (Zi k))], [.int (Zi k), .int (Zi (640 * c)), .ref 123])) (fun _ => rfl) ?_
            refine Z_iadd rfl ?_
            refine R_ia (q := 39) rfl hs rfl rfl (by omega) (by omega) (by decide) ?_
            refine Z_go (f2 := (49, [(0, .ref 83), (1, .int (Zi c)), (2, .int (Zi k))], [.int (Zi (s.2.1 123 (640 * c + k)))])) (fun _ => rfl) ?_
            refine Z_iret rfl rfl (by first | rfl | decide | exact narrow_b01 (by omega)) ⟨_, hs, ?_, rfl⟩
            exact ⟨rfl, _, rfl, by omega⟩
theorem R_texts (d : Nat) (s : R_S) {w : Int}  (zw : Zr w) : R_ok (d + 1) 282 [.int (Zi w)] s (fun x s2 => s2 = s ∧ ∃ v : Int, x = some (.int (Zi v)) ∧ (v = s.2.1 124 w ∧ 0 < s.1 70 ∧ 0 ≤ w ∧ w < 3 ∨ v = -1 ∧ ¬ (0 < s.1 70 ∧ 0 ≤ w ∧ w < 3))) := by
  refine R_enter (M := E_m282) rfl (Nat.le_of_ble_eq_true rfl) (fun h0 h hs => ?_)
  show B_R d _ (0, [(0, .ref 83), (1, .int (Zi w))], []) _ _ _
  refine Z_go (f2 := (1, [(0, .ref 83), (1, .int (Zi w))], [.ref 83])) (fun _ => rfl) ?_
  refine R_gi rfl hs rfl ?_
  show B_R _ _ (4, [(0, .ref 83), (1, .int (Zi w))], [.int (Zi (s.1 70))]) _ _ _
  refine Z_ile rfl rfl (by first | exact hs.zF _ | exact Zor_r _ _ | exact hs.zA _ _ | assumption | exact zA _ _ | exact zS _ | exact Zr_not (hs.zA _ _) | exact ⟨by omega, by omega⟩) (fun c1 => ?_) (fun c1 => ?_)
  · refine Z_go (f2 := (26, [(0, .ref 83), (1, .int (Zi w))], [.int (Zi (-1))])) (fun _ => rfl) ?_
    refine Z_iret rfl rfl (by first | rfl | decide | exact narrow_b01 (by omega)) ⟨_, hs, ?_, rfl⟩
    exact ⟨rfl, _, rfl, by omega⟩
  · refine Z_go (f2 := (8, [(0, .ref 83), (1, .int (Zi w))], [.int (Zi w)])) (fun _ => rfl) ?_
    refine Z_ilt rfl rfl (by first | exact hs.zF _ | exact Zor_r _ _ | exact hs.zA _ _ | assumption | exact zA _ _ | exact zS _ | exact Zr_not (hs.zA _ _) | exact ⟨by omega, by omega⟩) (fun c2 => ?_) (fun c2 => ?_)
    · refine Z_go (f2 := (26, [(0, .ref 83), (1, .int (Zi w))], [.int (Zi (-1))])) (fun _ => rfl) ?_
      refine Z_iret rfl rfl (by first | rfl | decide | exact narrow_b01 (by omega)) ⟨_, hs, ?_, rfl⟩
      exact ⟨rfl, _, rfl, by omega⟩
    · refine Z_go (f2 := (12, [(0, .ref 83), (1, .int (Zi w))], [.int (Zi w)])) (fun _ => rfl) ?_
      refine Z_go (f2 := (13, [(0, .ref 83), (1, .int (Zi w))], [.int (Zi 3), .int (Zi w)])) (fun _ => rfl) ?_
      refine Z_cge rfl rfl (by first | exact hs.zF _ | exact Zor_r _ _ | exact hs.zA _ _ | assumption | exact zA _ _ | exact zS _ | exact Zr_not (hs.zA _ _) | exact ⟨by omega, by omega⟩) (by first | exact hs.zF _ | exact Zor_r _ _ | exact hs.zA _ _ | assumption | exact zA _ _ | exact zS _ | exact Zr_not (hs.zA _ _) | exact ⟨by omega, by omega⟩) (fun c3 => ?_) (fun c3 => ?_)
      · refine Z_go (f2 := (26, [(0, .ref 83), (1, .int (Zi w))], [.int (Zi (-1))])) (fun _ => rfl) ?_
        refine Z_iret rfl rfl (by first | rfl | decide | exact narrow_b01 (by omega)) ⟨_, hs, ?_, rfl⟩
        exact ⟨rfl, _, rfl, by omega⟩
      · refine Z_go (f2 := (17, [(0, .ref 83), (1, .int (Zi w))], [.ref 83])) (fun _ => rfl) ?_
        refine R_gr (q := 122) rfl hs rfl ?_
        show B_R _ _ (20, [(0, .ref 83), (1, .int (Zi w))], [.ref 124]) _ _ _
        refine Z_go (f2 := (21, [(0, .ref 83), (1, .int (Zi w))], [.int (Zi w), .ref 124])) (fun _ => rfl) ?_
        refine R_ia (q := 40) rfl hs rfl rfl (by omega) (by omega) (by decide) ?_
        refine Z_go (f2 := (26, [(0, .ref 83), (1, .int (Zi w))], [.int (Zi (s.2.1 124 w))])) (fun _ => rfl) ?_
        refine Z_iret rfl rfl (by first | rfl | decide | exact narrow_b01 (by omega)) ⟨_, hs, ?_, rfl⟩
        exact ⟨rfl, _, rfl, by omega⟩
theorem R_text (d : Nat) (s : R_S) {w i k : Int}  (zw : Zr w) (zi : Zr i) (zk : Zr k) (c70 : 0 ≤ s.1 70) (h124 : s.2.1 124 w ≤ 12) (h125 : s.2.1 125 (12 * w + i) ≤ 60) : R_ok (d + 1) 283 [.int (Zi w), .int (Zi i), .int (Zi k)] s (fun x s2 => s2 = s ∧ ∃ v : Int, x = some (.int (Zi v)) ∧ (v = s.2.1 126 (60 * (12 * w + i) + k) ∧ 0 < s.1 70 ∧ 0 ≤ w ∧ w < 3 ∧ 0 ≤ i ∧ i < s.2.1 124 w ∧ 0 ≤ k ∧ k < s.2.1 125 (12 * w + i) ∨ v = -1 ∧ ¬ (0 < s.1 70 ∧ 0 ≤ w ∧ w < 3 ∧ 0 ≤ i ∧ i < s.2.1 124 w ∧ 0 ≤ k ∧ k < s.2.1 125 (12 * w + i)))) := by
  refine R_enter (M := E_m283) rfl (Nat.le_of_ble_eq_true rfl) (fun h0 h hs => ?_)
  show B_R d _ (0, [(0, .ref 83), (1, .int (Zi w)), (2, .int (Zi i)), (3, .int (Zi k))], []) _ _ _
  refine Z_go (f2 := (1, [(0, .ref 83), (1, .int (Zi w)), (2, .int (Zi i)), (3, .int (Zi k))], [.ref 83])) (fun _ => rfl) ?_
  refine R_gi rfl hs rfl ?_
  show B_R _ _ (4, [(0, .ref 83), (1, .int (Zi w)), (2, .int (Zi i)), (3, .int (Zi k))], [.int (Zi (s.1 70))]) _ _ _
  refine Z_ieq rfl rfl (by first | exact hs.zF _ | exact Zor_r _ _ | exact hs.zA _ _ | assumption | exact zA _ _ | exact zS _ | exact Zr_not (hs.zA _ _) | exact ⟨by omega, by omega⟩) (fun c1 => ?_) (fun c1 => ?_)
  · refine Z_go (f2 := (31, [(0, .ref 83), (1, .int (Zi w)), (2, .int (Zi i)), (3, .int (Zi k))], [.int (Zi (-1))])) (fun _ => rfl) ?_
    refine Z_iret rfl rfl (by first | rfl | decide | exact narrow_b01 (by omega)) ⟨_, hs, ?_, rfl⟩
    exact ⟨rfl, _, rfl, by omega⟩
  · refine Z_go (f2 := (8, [(0, .ref 83), (1, .int (Zi w)), (2, .int (Zi i)), (3, .int (Zi k))], [.int (Zi w)])) (fun _ => rfl) ?_
    refine Z_ilt rfl rfl (by first | exact hs.zF _ | exact Zor_r _ _ | exact hs.zA _ _ | assumption | exact zA _ _ | exact zS _ | exact Zr_not (hs.zA _ _) | exact ⟨by omega, by omega⟩) (fun c2 => ?_) (fun c2 => ?_)
    · refine Z_go (f2 := (31, [(0, .ref 83), (1, .int (Zi w)), (2, .int (Zi i)), (3, .int (Zi k))], [.int (Zi (-1))])) (fun _ => rfl) ?_
      refine Z_iret rfl rfl (by first | rfl | decide | exact narrow_b01 (by omega)) ⟨_, hs, ?_, rfl⟩
      exact ⟨rfl, _, rfl, by omega⟩
    · refine Z_go (f2 := (12, [(0, .ref 83), (1, .int (Zi w)), (2, .int (Zi i)), (3, .int (Zi k))], [.int (Zi w)])) (fun _ => rfl) ?_
      refine Z_go (f2 := (13, [(0, .ref 83), (1, .int (Zi w)), (2, .int (Zi i)), (3, .int (Zi k))], [.int (Zi 2), .int (Zi w)])) (fun _ => rfl) ?_
      refine Z_cgt rfl rfl (by first | exact hs.zF _ | exact Zor_r _ _ | exact hs.zA _ _ | assumption | exact zA _ _ | exact zS _ | exact Zr_not (hs.zA _ _) | exact ⟨by omega, by omega⟩) (by first | exact hs.zF _ | exact Zor_r _ _ | exact hs.zA _ _ | assumption | exact zA _ _ | exact zS _ | exact Zr_not (hs.zA _ _) | exact ⟨by omega, by omega⟩) (fun c3 => ?_) (fun c3 => ?_)
      · refine Z_go (f2 := (31, [(0, .ref 83), (1, .int (Zi w)), (2, .int (Zi i)), (3, .int (Zi k))], [.int (Zi (-1))])) (fun _ => rfl) ?_
        refine Z_iret rfl rfl (by first | rfl | decide | exact narrow_b01 (by omega)) ⟨_, hs, ?_, rfl⟩
        exact ⟨rfl, _, rfl, by omega⟩
      · refine Z_go (f2 := (17, [(0, .ref 83), (1, .int (Zi w)), (2, .int (Zi i)), (3, .int (Zi k))], [.int (Zi i)])) (fun _ => rfl) ?_
        refine Z_ilt rfl rfl (by first | exact hs.zF _ | exact Zor_r _ _ | exact hs.zA _ _ | assumption | exact zA _ _ | exact zS _ | exact Zr_not (hs.zA _ _) | exact ⟨by omega, by omega⟩) (fun c4 => ?_) (fun c4 => ?_)
        · refine Z_go (f2 := (31, [(0, .ref 83), (1, .int (Zi w)), (2, .int (Zi i)), (3, .int (Zi k))], [.int (Zi (-1))])) (fun _ => rfl) ?_
          refine Z_iret rfl rfl (by first | rfl | decide | exact narrow_b01 (by omega)) ⟨_, hs, ?_, rfl⟩
          exact ⟨rfl, _, rfl, by omega⟩
        · refine Z_go (f2 := (21, [(0, .ref 83), (1, .int (Zi w)), (2, .int (Zi i)), (3, .int (Zi k))], [.int (Zi i)])) (fun _ => rfl) ?_
          refine Z_go (f2 := (22, [(0, .ref 83), (1, .int (Zi w)), (2, .int (Zi i)), (3, .int (Zi k))], [.ref 83, .int (Zi i)])) (fun _ => rfl) ?_
          refine R_gr (q := 122) rfl hs rfl ?_
          show B_R _ _ (25, [(0, .ref 83), (1, .int (Zi w)), (2, .int (Zi i)), (3, .int (Zi k))], [.ref 124, .int (Zi i)]) _ _ _
          refine Z_go (f2 := (26, [(0, .ref 83), (1, .int (Zi w)), (2, .int (Zi i)), (3, .int (Zi k))], [.int (Zi w), .ref 124, .int (Zi i)])) (fun _ => rfl) ?_
          refine R_ia (q := 40) rfl hs rfl rfl (by omega) (by omega) (by decide) ?_
          refine Z_clt rfl rfl (by first | exact hs.zF _ | exact Zor_r _ _ | exact hs.zA _ _ | assumption | exact zA _ _ | exact zS _ | exact Zr_not (hs.zA _ _) | exact ⟨by omega, by omega⟩) (by first | exact hs.zF _ | exact Zor_r _ _ | exact hs.zA _ _ | assumption | exact zA _ _ | exact zS _ | exact Zr_not (hs.zA _ _) | exact ⟨by omega, by omega⟩) (fun c5 => ?_) (fun c5 => ?_)
          · refine Z_go (f2 := (33, [(0, .ref 83), (1, .int (Zi w)), (2, .int (Zi i)), (3, .int (Zi k))], [.int (Zi k)])) (fun _ => rfl) ?_
            refine Z_ilt rfl rfl (by first | exact hs.zF _ | exact Zor_r _ _ | exact hs.zA _ _ | assumption | exact zA _ _ | exact zS _ | exact Zr_not (hs.zA _ _) | exact ⟨by omega, by omega⟩) (fun c6 => ?_) (fun c6 => ?_)
            · refine Z_go (f2 := (71, [(0, .ref 83), (1, .int (Zi w)), (2, .int (Zi i)), (3, .int (Zi k))], [.int (Zi (-1))])) (fun _ => rfl) ?_
              refine Z_iret rfl rfl (by first | rfl | decide | exact narrow_b01 (by omega)) ⟨_, hs, ?_, rfl⟩
              exact ⟨rfl, _, rfl, by omega⟩
            · refine Z_go (f2 := (37, [(0, .ref 83), (1, .int (Zi w)), (2, .int (Zi i)), (3, .int (Zi k))], [.int (Zi k)])) (fun _ => rfl) ?_
              refine Z_go (f2 := (38, [(0, .ref 83), (1, .int (Zi w)), (2, .int (Zi i)), (3, .int (Zi k))], [.ref 83, .int (Zi k)])) (fun _ => rfl) ?_
              refine R_gr (q := 123) rfl hs rfl ?_
              show B_R _ _ (41, [(0, .ref 83), (1, .int (Zi w)), (2, .int (Zi i)), (3, .int (Zi k))], [.ref 125, .int (Zi k)]) _ _ _
              refine Z_go (f2 := (43, [(0, .ref 83), (1, .int (Zi w)), (2, .int (Zi i)), (3, .int (Zi k))], [.int (Zi 12), .ref 125, .int (Zi k)])) (fun _ => rfl) ?_
              refine Z_go (f2 := (44, [(0, .ref 83), (1, .int (Zi w)), (2, .int (Zi i)), (3, .int (Zi k))], [.int (Zi w), .int (Zi 12), .ref 125, .int (Zi k)])) (fun _ => rfl) ?_
              refine Z_imul rfl ?_
              refine Z_go (f2 := (46, [(0, .ref 83), (1, .int (Zi w)), (2, .int (Zi i)), (3, .int (Zi k))], [.int (Zi i), .int (Zi (12 * w)), .ref 125, .int (Zi k)])) (fun _ => rfl) ?_
              refine Z_iadd rfl ?_
              refine R_ia (q := 41) rfl hs rfl rfl (by omega) (by omega) (by decide) ?_
              refine Z_cge rfl rfl (by first | exact hs.zF _ | exact Zor_r _ _ | exact hs.zA _ _ | assumption | exact zA _ _ | exact zS _ | exact Zr_not (hs.zA _ _) | exact ⟨by omega, by omega⟩) (by first | exact hs.zF _ | exact Zor_r _ _ | exact hs.zA _ _ | assumption | exact zA _ _ | exact zS _ | exact Zr_not (hs.zA _ _) | exact ⟨by omega, by omega⟩) (fun c7 => ?_) (fun c7 => ?_)
              · refine Z_go (f2 := (71, [(0, .ref 83), (1, .int (Zi w)), (2, .int (Zi i)), (3, .int (Zi k))], [.int (Zi (-1))])) (fun _ => rfl) ?_
                refine Z_iret rfl rfl (by first | rfl | decide | exact narrow_b01 (by omega)) ⟨_, hs, ?_, rfl⟩
                exact ⟨rfl, _, rfl, by omega⟩
              · refine Z_go (f2 := (52, [(0, .ref 83), (1, .int (Zi w)), (2, .int (Zi i)), (3, .int (Zi k))], [.ref 83])) (fun _ => rfl) ?_
                refine R_gr (q := 124) rfl hs rfl ?_
                show B_R _ _ (55, [(0, .ref 83), (1, .int (Zi w)), (2, .int (Zi i)), (3, .int (Zi k))], [.ref 126]) _ _ _
                refine Z_go (f2 := (57, [(0, .ref 83), (1, .int (Zi w)), (2, .int (Zi i)), (3, .int (Zi k))], [.int (Zi 60), .ref 126])) (fun _ => rfl) ?_
                refine Z_go (f2 := (59, [(0, .ref 83), (1, .int (Zi w)), (2, .int (Zi i)), (3, .int (Zi k))], [.int (Zi 12), .int (Zi 60), .ref 126])) (fun _ => rfl) ?_
                refine Z_go (f2 := (60, [(0, .ref 83), (1, .int (Zi w)), (2, .int (Zi i)), (3, .int (Zi k))], [.int (Zi w), .int (Zi 12), .int (Zi 60), .ref 126])) (fun _ => rfl) ?_
                refine Z_imul rfl ?_
                refine Z_go (f2 := (62, [(0, .ref 83), (1, .int (Zi w)), (2, .int (Zi i)), (3, .int (Zi k))], [.int (Zi i), .int (Zi (12 * w)), .int (Zi 60), .ref 126])) (fun _ => rfl) ?_
                refine Z_iadd rfl ?_
                refine Z_imul rfl ?_
                refine Z_go (f2 := (65, [(0, .ref 83), (1, .int (Zi w)), (2, .int (Zi i)), (3, .int (Zi k))], [.int (Zi k), .int (Zi (60 * (12 * w + i))), .ref 126])) (fun _ => rfl) ?_
                refine Z_iadd rfl ?_
                refine R_ia (q := 42) rfl hs rfl rfl (by omega) (by omega) (by decide) ?_
                refine Z_go (f2 := (71, [(0, .ref 83), (1, .int (Zi w)), (2, .int (Zi i)), (3, .int (Zi k))], [.int (Zi (s.2.1 126 (60 * (12 * w + i) + k)))])) (fun _ => rfl) ?_
                refine Z_iret rfl rfl (by first | rfl | decide | exact narrow_b01 (by omega)) ⟨_, hs, ?_, rfl⟩
                exact ⟨rfl, _, rfl, by omega⟩
          · refine Z_go (f2 := (31, [(0, .ref 83), (1, .int (Zi w)), (2, .int (Zi i)), (3, .int (Zi k))], [.int (Zi (-1))])) (fun _ => rfl) ?_
            refine Z_iret rfl rfl (by first | rfl | decide | exact narrow_b01 (by omega)) ⟨_, hs, ?_, rfl⟩
            exact ⟨rfl, _, rfl, by omega⟩
