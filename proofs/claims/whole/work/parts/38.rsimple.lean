/-! the reference, method by method -/
def R_isF (s : R_S) (f : Int) : Prop := 0 ≤ f ∧ f < s.1 8 ∧ s.2.1 88 f = 1
def R_w1 (s : R_S) : Prop := 0 ≤ s.1 8 ∧ s.1 8 ≤ 200 ∧ (∀ f, s.2.1 88 f = 0 ∨ s.2.1 88 f = 1)
theorem R_isFile (d : Nat) (s : R_S) {f : Int}  (zf : Zr f) (w : R_w1 s) : R_ok (d + 1) 177 [.int (Zi f)] s (fun x s2 => s2 = s ∧ ∃ v : Int, x = some (.int (Zi v)) ∧ (v = 1 ∧ R_isF s f ∨ v = 0 ∧ ¬ R_isF s f)) := by
  refine R_enter (M := E_m177) rfl (Nat.le_of_ble_eq_true rfl) (fun h0 h hs => ?_)
  show B_R d _ (0, [(0, .ref 83), (1, .int (Zi f))], []) _ _ _
  obtain ⟨w1, w2, w3⟩ := w
  refine Z_go (f2 := (1, [(0, .ref 83), (1, .int (Zi f))], [.int (Zi f)])) (fun _ => rfl) ?_
  refine Z_ilt rfl rfl (by first | exact hs.zF _ | exact Zor_r _ _ | exact hs.zA _ _ | assumption | exact zA _ _ | exact zS _ | exact Zr_not (hs.zA _ _) | exact ⟨by omega, by omega⟩) (fun c1 => ?_) (fun c1 => ?_)
  · refine Z_go (f2 := (26, [(0, .ref 83), (1, .int (Zi f))], [.int (Zi 0)])) (fun _ => rfl) ?_
    refine Z_iret rfl rfl (by first | rfl | decide | exact narrow_b01 (by omega)) ⟨_, hs, ?_, rfl⟩
    have := w3 f
    exact ⟨rfl, _, rfl, by unfold R_isF; omega⟩
  · refine Z_go (f2 := (5, [(0, .ref 83), (1, .int (Zi f))], [.int (Zi f)])) (fun _ => rfl) ?_
    refine Z_go (f2 := (6, [(0, .ref 83), (1, .int (Zi f))], [.ref 83, .int (Zi f)])) (fun _ => rfl) ?_
    refine R_gi rfl hs rfl ?_
    show B_R _ _ (9, [(0, .ref 83), (1, .int (Zi f))], [.int (Zi (s.1 8)), .int (Zi f)]) _ _ _
    refine Z_cge rfl rfl (by first | exact hs.zF _ | exact Zor_r _ _ | exact hs.zA _ _ | assumption | exact zA _ _ | exact zS _ | exact Zr_not (hs.zA _ _) | exact ⟨by omega, by omega⟩) (by first | exact hs.zF _ | exact Zor_r _ _ | exact hs.zA _ _ | assumption | exact zA _ _ | exact zS _ | exact Zr_not (hs.zA _ _) | exact ⟨by omega, by omega⟩) (fun c2 => ?_) (fun c2 => ?_)
    · refine Z_go (f2 := (26, [(0, .ref 83), (1, .int (Zi f))], [.int (Zi 0)])) (fun _ => rfl) ?_
      refine Z_iret rfl rfl (by first | rfl | decide | exact narrow_b01 (by omega)) ⟨_, hs, ?_, rfl⟩
      have := w3 f
      exact ⟨rfl, _, rfl, by unfold R_isF; omega⟩
    · refine Z_go (f2 := (13, [(0, .ref 83), (1, .int (Zi f))], [.ref 83])) (fun _ => rfl) ?_
      refine R_gr (q := 86) rfl hs rfl ?_
      show B_R _ _ (16, [(0, .ref 83), (1, .int (Zi f))], [.ref 88]) _ _ _
      refine Z_go (f2 := (17, [(0, .ref 83), (1, .int (Zi f))], [.int (Zi f), .ref 88])) (fun _ => rfl) ?_
      refine R_ba (q := 4) rfl hs rfl rfl (by omega) (by omega) (by decide) ?_
      refine Z_ieq rfl rfl (by first | exact hs.zF _ | exact Zor_r _ _ | exact hs.zA _ _ | assumption | exact zA _ _ | exact zS _ | exact Zr_not (hs.zA _ _) | exact ⟨by omega, by omega⟩) (fun c3 => ?_) (fun c3 => ?_)
      · refine Z_go (f2 := (26, [(0, .ref 83), (1, .int (Zi f))], [.int (Zi 0)])) (fun _ => rfl) ?_
        refine Z_iret rfl rfl (by first | rfl | decide | exact narrow_b01 (by omega)) ⟨_, hs, ?_, rfl⟩
        have := w3 f
        exact ⟨rfl, _, rfl, by unfold R_isF; omega⟩
      · refine Z_go (f2 := (22, [(0, .ref 83), (1, .int (Zi f))], [.int (Zi 1)])) (fun _ => rfl) ?_
        refine Z_go (f2 := (26, [(0, .ref 83), (1, .int (Zi f))], [.int (Zi 1)])) (fun _ => rfl) ?_
        refine Z_iret rfl rfl (by first | rfl | decide | exact narrow_b01 (by omega)) ⟨_, hs, ?_, rfl⟩
        have := w3 f
        exact ⟨rfl, _, rfl, by unfold R_isF; omega⟩
theorem R_end (d : Nat) (s : R_S) {n : Int}  (zn : Zr n) : R_ok (d + 1) 176 [.int (Zi n)] s (fun x s2 => ∃ v : Int, x = some (.int (Zi v)) ∧ (v = 0 ∧ s2 = s ∧ ¬ (0 ≤ n ∧ n ≤ s.1 1) ∨ v = 1 ∧ s2 = R_sF s 1 n ∧ 0 ≤ n ∧ n ≤ s.1 1)) := by
  refine R_enter (M := E_m176) rfl (Nat.le_of_ble_eq_true rfl) (fun h0 h hs => ?_)
  show B_R d _ (0, [(0, .ref 83), (1, .int (Zi n))], []) _ _ _
  refine Z_go (f2 := (1, [(0, .ref 83), (1, .int (Zi n))], [.int (Zi n)])) (fun _ => rfl) ?_
  refine Z_ilt rfl rfl (by first | exact hs.zF _ | exact Zor_r _ _ | exact hs.zA _ _ | assumption | exact zA _ _ | exact zS _ | exact Zr_not (hs.zA _ _) | exact ⟨by omega, by omega⟩) (fun c1 => ?_) (fun c1 => ?_)
  · refine Z_go (f2 := (13, [(0, .ref 83), (1, .int (Zi n))], [.int (Zi 0)])) (fun _ => rfl) ?_
    refine Z_iret rfl rfl (by first | rfl | decide | exact narrow_b01 (by omega)) ⟨_, hs, ?_, rfl⟩
    exact ⟨_, rfl, .inl ⟨rfl, rfl, by omega⟩⟩
  · refine Z_go (f2 := (5, [(0, .ref 83), (1, .int (Zi n))], [.int (Zi n)])) (fun _ => rfl) ?_
    refine Z_go (f2 := (6, [(0, .ref 83), (1, .int (Zi n))], [.ref 83, .int (Zi n)])) (fun _ => rfl) ?_
    refine R_gi rfl hs rfl ?_
    show B_R _ _ (9, [(0, .ref 83), (1, .int (Zi n))], [.int (Zi (s.1 1)), .int (Zi n)]) _ _ _
    refine Z_cle rfl rfl (by first | exact hs.zF _ | exact Zor_r _ _ | exact hs.zA _ _ | assumption | exact zA _ _ | exact zS _ | exact Zr_not (hs.zA _ _) | exact ⟨by omega, by omega⟩) (by first | exact hs.zF _ | exact Zor_r _ _ | exact hs.zA _ _ | assumption | exact zA _ _ | exact zS _ | exact Zr_not (hs.zA _ _) | exact ⟨by omega, by omega⟩) (fun c2 => ?_) (fun c2 => ?_)
    · refine Z_go (f2 := (15, [(0, .ref 83), (1, .int (Zi n))], [.ref 83])) (fun _ => rfl) ?_
      refine Z_go (f2 := (16, [(0, .ref 83), (1, .int (Zi n))], [.int (Zi n), .ref 83])) (fun _ => rfl) ?_
      refine R_pf rfl hs rfl (by first | exact hs.zF _ | exact Zor_r _ _ | exact hs.zA _ _ | assumption | exact zA _ _ | exact zS _ | exact Zr_not (hs.zA _ _) | exact ⟨by omega, by omega⟩) ⟨rfl, rfl, rfl⟩ (fun h hs => ?_)
      refine Z_go (f2 := (20, [(0, .ref 83), (1, .int (Zi n))], [.int (Zi 1)])) (fun _ => rfl) ?_
      refine Z_iret rfl rfl (by first | rfl | decide | exact narrow_b01 (by omega)) ⟨_, hs, ?_, rfl⟩
      exact ⟨_, rfl, .inr ⟨rfl, rfl, by omega⟩⟩
    · refine Z_go (f2 := (13, [(0, .ref 83), (1, .int (Zi n))], [.int (Zi 0)])) (fun _ => rfl) ?_
      refine Z_iret rfl rfl (by first | rfl | decide | exact narrow_b01 (by omega)) ⟨_, hs, ?_, rfl⟩
      exact ⟨_, rfl, .inl ⟨rfl, rfl, by omega⟩⟩
theorem R_size (d : Nat) (s : R_S) {f : Int}  (zf : Zr f) (w : R_w1 s) : R_ok (d + 2) 183 [.int (Zi f)] s (fun x s2 => s2 = s ∧ ∃ v : Int, x = some (.int (Zi v)) ∧ (v = s.2.1 87 f ∧ R_isF s f ∨ v = -1 ∧ ¬ R_isF s f)) := by
  refine R_enter (M := E_m183) rfl (Nat.le_of_ble_eq_true rfl) (fun h0 h hs => ?_)
  show B_R (d + 1) _ (0, [(0, .ref 83), (1, .int (Zi f))], []) _ _ _
  obtain ⟨w1, w2, w3⟩ := id w
  refine Z_go (f2 := (1, [(0, .ref 83), (1, .int (Zi f))], [.ref 83])) (fun _ => rfl) ?_
  refine Z_go (f2 := (2, [(0, .ref 83), (1, .int (Zi f))], [.int (Zi f), .ref 83])) (fun _ => rfl) ?_
  refine R_call (As := [.int (Zi f)]) (rest := []) rfl (by decide) rfl rfl rfl rfl (by decide +kernel) (Nat.le_of_ble_eq_true rfl) hs (R_isFile _ s (by first | assumption) (by assumption)) (fun x h s2 hs q => ?_)
  obtain ⟨q0, v, rfl, hv⟩ := q
  rw [q0] at hs
  unfold R_isF at hv
  show B_R _ _ (5, [(0, .ref 83), (1, .int (Zi f))], [.int (Zi v)]) _ _ _
  refine Z_ieq rfl rfl (by first | exact hs.zF _ | exact Zor_r _ _ | exact hs.zA _ _ | assumption | exact zA _ _ | exact zS _ | exact Zr_not (hs.zA _ _) | exact ⟨by omega, by omega⟩) (fun c1 => ?_) (fun c1 => ?_)
  · refine Z_go (f2 := (18, [(0, .ref 83), (1, .int (Zi f))], [.int (Zi (-1))])) (fun _ => rfl) ?_
    refine Z_iret rfl rfl (by first | rfl | decide | exact narrow_b01 (by omega)) ⟨_, hs, ?_, rfl⟩
    exact ⟨rfl, _, rfl, by unfold R_isF; omega⟩
  · refine Z_go (f2 := (9, [(0, .ref 83), (1, .int (Zi f))], [.ref 83])) (fun _ => rfl) ?_
    refine R_gr (q := 85) rfl hs rfl ?_
    show B_R _ _ (12, [(0, .ref 83), (1, .int (Zi f))], [.ref 87]) _ _ _
    refine Z_go (f2 := (13, [(0, .ref 83), (1, .int (Zi f))], [.int (Zi f), .ref 87])) (fun _ => rfl) ?_
    refine R_ia (q := 3) rfl hs rfl rfl (by omega) (by omega) (by decide) ?_
    refine Z_go (f2 := (18, [(0, .ref 83), (1, .int (Zi f))], [.int (Zi (s.2.1 87 f))])) (fun _ => rfl) ?_
    refine Z_iret rfl rfl (by first | rfl | decide | exact narrow_b01 (by omega)) ⟨_, hs, ?_, rfl⟩
    exact ⟨rfl, _, rfl, by unfold R_isF; omega⟩
theorem R_byteAt (d : Nat) (s : R_S) {f i : Int}  (zf : Zr f) (zi : Zr i) (w : R_w1 s) (wb : R_isF s f → 0 ≤ s.2.1 86 f ∧ s.2.1 86 f + s.2.1 87 f ≤ 16000) : R_ok (d + 2) 184 [.int (Zi f), .int (Zi i)] s (fun x s2 => s2 = s ∧ ∃ v : Int, x = some (.int (Zi v)) ∧ (v = s.2.1 85 (s.2.1 86 f + i) ∧ R_isF s f ∧ 0 ≤ i ∧ i < s.2.1 87 f ∨ v = -1 ∧ ¬ (R_isF s f ∧ 0 ≤ i ∧ i < s.2.1 87 f))) := by
  refine R_enter (M := E_m184) rfl (Nat.le_of_ble_eq_true rfl) (fun h0 h hs => ?_)
  show B_R (d + 1) _ (0, [(0, .ref 83), (1, .int (Zi f)), (2, .int (Zi i))], []) _ _ _
  obtain ⟨w1, w2, w3⟩ := id w
  unfold R_isF at wb
  refine Z_go (f2 := (1, [(0, .ref 83), (1, .int (Zi f)), (2, .int (Zi i))], [.ref 83])) (fun _ => rfl) ?_
  refine Z_go (f2 := (2, [(0, .ref 83), (1, .int (Zi f)), (2, .int (Zi i))], [.int (Zi f), .ref 83])) (fun _ => rfl) ?_
  refine R_call (As := [.int (Zi f)]) (rest := []) rfl (by decide) rfl rfl rfl rfl (by decide +kernel) (Nat.le_of_ble_eq_true rfl) hs (R_isFile _ s (by first | assumption) (by assumption)) (fun x h s2 hs q => ?_)
  obtain ⟨q0, v, rfl, hv⟩ := q
  rw [q0] at hs
  unfold R_isF at hv
  show B_R _ _ (5, [(0, .ref 83), (1, .int (Zi f)), (2, .int (Zi i))], [.int (Zi v)]) _ _ _
  refine Z_ieq rfl rfl (by first | exact hs.zF _ | exact Zor_r _ _ | exact hs.zA _ _ | assumption | exact zA _ _ | exact zS _ | exact Zr_not (hs.zA _ _) | exact ⟨by omega, by omega⟩) (fun c1 => ?_) (fun c1 => ?_)
  · refine Z_go (f2 := (39, [(0, .ref 83), (1, .int (Zi f)), (2, .int (Zi i))], [.int (Zi (-1))])) (fun _ => rfl) ?_
    refine Z_iret rfl rfl (by first | rfl | decide | exact narrow_b01 (by omega)) ⟨_, hs, ?_, rfl⟩
    exact ⟨rfl, _, rfl, by unfold R_isF; omega⟩
  · refine Z_go (f2 := (9, [(0, .ref 83), (1, .int (Zi f)), (2, .int (Zi i))], [.int (Zi i)])) (fun _ => rfl) ?_
    refine Z_ilt rfl rfl (by first | exact hs.zF _ | exact Zor_r _ _ | exact hs.zA _ _ | assumption | exact zA _ _ | exact zS _ | exact Zr_not (hs.zA _ _) | exact ⟨by omega, by omega⟩) (fun c2 => ?_) (fun c2 => ?_)
    · refine Z_go (f2 := (39, [(0, .ref 83), (1, .int (Zi f)), (2, .int (Zi i))], [.int (Zi (-1))])) (fun _ => rfl) ?_
      refine Z_iret rfl rfl (by first | rfl | decide | exact narrow_b01 (by omega)) ⟨_, hs, ?_, rfl⟩
      exact ⟨rfl, _, rfl, by unfold R_isF; omega⟩
    · refine Z_go (f2 := (13, [(0, .ref 83), (1, .int (Zi f)), (2, .int (Zi i))], [.int (Zi i)])) (fun _ => rfl) ?_
      refine Z_go (f2 := (14, [(0, .ref 83), (1, .int (Zi f)), (2, .int (Zi i))], [.ref 83, .int (Zi i)])) (fun _ => rfl) ?_
      refine R_gr (q := 85) rfl hs rfl ?_
      show B_R _ _ (17, [(0, .ref 83), (1, .int (Zi f)), (2, .int (Zi i))], [.ref 87, .int (Zi i)]) _ _ _
      refine Z_go (f2 := (18, [(0, .ref 83), (1, .int (Zi f)), (2, .int (Zi i))], [.int (Zi f), .ref 87, .int (Zi i)])) (fun _ => rfl) ?_
      refine R_ia (q := 3) rfl hs rfl rfl (by omega) (by omega) (by decide) ?_
      refine Z_cge rfl rfl (by first | exact hs.zF _ | exact Zor_r _ _ | exact hs.zA _ _ | assumption | exact zA _ _ | exact zS _ | exact Zr_not (hs.zA _ _) | exact ⟨by omega, by omega⟩) (by first | exact hs.zF _ | exact Zor_r _ _ | exact hs.zA _ _ | assumption | exact zA _ _ | exact zS _ | exact Zr_not (hs.zA _ _) | exact ⟨by omega, by omega⟩) (fun c3 => ?_) (fun c3 => ?_)
      · refine Z_go (f2 := (39, [(0, .ref 83), (1, .int (Zi f)), (2, .int (Zi i))], [.int (Zi (-1))])) (fun _ => rfl) ?_
        refine Z_iret rfl rfl (by first | rfl | decide | exact narrow_b01 (by omega)) ⟨_, hs, ?_, rfl⟩
        exact ⟨rfl, _, rfl, by unfold R_isF; omega⟩
      · refine Z_go (f2 := (23, [(0, .ref 83), (1, .int (Zi f)), (2, .int (Zi i))], [.ref 83])) (fun _ => rfl) ?_
        refine R_gr (q := 83) rfl hs rfl ?_
        show B_R _ _ (26, [(0, .ref 83), (1, .int (Zi f)), (2, .int (Zi i))], [.ref 85]) _ _ _
        refine Z_go (f2 := (27, [(0, .ref 83), (1, .int (Zi f)), (2, .int (Zi i))], [.ref 83, .ref 85])) (fun _ => rfl) ?_
        refine R_gr (q := 84) rfl hs rfl ?_
        show B_R _ _ (30, [(0, .ref 83), (1, .int (Zi f)), (2, .int (Zi i))], [.ref 86, .ref 85]) _ _ _
        refine Z_go (f2 := (31, [(0, .ref 83), (1, .int (Zi f)), (2, .int (Zi i))], [.int (Zi f), .ref 86, .ref 85])) (fun _ => rfl) ?_
        refine R_ia (q := 2) rfl hs rfl rfl (by omega) (by omega) (by decide) ?_
        refine Z_go (f2 := (33, [(0, .ref 83), (1, .int (Zi f)), (2, .int (Zi i))], [.int (Zi i), .int (Zi (s.2.1 86 f)), .ref 85])) (fun _ => rfl) ?_
        refine Z_iadd rfl ?_
        refine R_ia (q := 1) rfl hs rfl rfl (by omega) (by omega) (by decide) ?_
        refine Z_go (f2 := (39, [(0, .ref 83), (1, .int (Zi f)), (2, .int (Zi i))], [.int (Zi (s.2.1 85 (s.2.1 86 f + i)))])) (fun _ => rfl) ?_
        refine Z_iret rfl rfl (by first | rfl | decide | exact narrow_b01 (by omega)) ⟨_, hs, ?_, rfl⟩
        exact ⟨rfl, _, rfl, by unfold R_isF; omega⟩
abbrev D_dig (c : Int) : Prop := 48 ≤ c ∧ c ≤ 57
abbrev D_let (c : Int) : Prop := 97 ≤ c ∧ c ≤ 122 ∨ 65 ≤ c ∧ c ≤ 90
abbrev D_wrd (c : Int) : Prop := D_let c ∨ D_dig c ∨ c = 95
abbrev D_sgn (c : Int) : Prop := 32 ≤ c ∧ c ≤ 126 ∧ ¬ D_let c ∧ ¬ D_dig c
abbrev D_pln (c : Int) : Prop := 32 ≤ c ∧ c ≤ 126 ∧ c ≠ 92 ∧ c ≠ 124 ∧ c ≠ 42 ∧ c ≠ 43 ∧ c ≠ 63 ∧ c ≠ 123 ∧ c ≠ 125 ∧ c ≠ 40 ∧ c ≠ 41 ∧ c ≠ 91 ∧ c ≠ 93 ∧ c ≠ 46 ∧ c ≠ 94 ∧ c ≠ 36
theorem R_isDigit (d : Nat) {c : Int}  (zc : Zr c) : Q_ok (d + 1) 193 [.int (Zi c)] (fun x => ∃ v : Int, x = some (.int (Zi v)) ∧ (v = 1 ∧ D_dig c ∨ v = 0 ∧ ¬ D_dig c)) := by
  refine Q_enter (M := E_m193) rfl (Nat.le_of_ble_eq_true rfl) (fun h => ?_)
  show B_R d _ (0, [(0, .int (Zi c))], []) _ _ _
  refine Z_go (f2 := (1, [(0, .int (Zi c))], [.int (Zi c)])) (fun _ => rfl) ?_
  refine Z_go (f2 := (3, [(0, .int (Zi c))], [.int (Zi 48), .int (Zi c)])) (fun _ => rfl) ?_
  refine Z_clt rfl rfl (by first | exact hs.zF _ | exact Zor_r _ _ | exact hs.zA _ _ | assumption | exact zA _ _ | exact zS _ | exact Zr_not (hs.zA _ _) | exact ⟨by omega, by omega⟩) (by first | exact hs.zF _ | exact Zor_r _ _ | exact hs.zA _ _ | assumption | exact zA _ _ | exact zS _ | exact Zr_not (hs.zA _ _) | exact ⟨by omega, by omega⟩) (fun c1 => ?_) (fun c1 => ?_)
  · refine Z_go (f2 := (17, [(0, .int (Zi c))], [.int (Zi 0)])) (fun _ => rfl) ?_
    refine Z_iret rfl rfl (by first | rfl | decide | exact narrow_b01 (by omega)) ⟨rfl, rfl, ?_⟩
    exact ⟨_, rfl, by unfold D_dig; omega⟩
  · refine Z_go (f2 := (7, [(0, .int (Zi c))], [.int (Zi c)])) (fun _ => rfl) ?_
    refine Z_go (f2 := (9, [(0, .int (Zi c))], [.int (Zi 57), .int (Zi c)])) (fun _ => rfl) ?_
    refine Z_cgt rfl rfl (by first | exact hs.zF _ | exact Zor_r _ _ | exact hs.zA _ _ | assumption | exact zA _ _ | exact zS _ | exact Zr_not (hs.zA _ _) | exact ⟨by omega, by omega⟩) (by first | exact hs.zF _ | exact Zor_r _ _ | exact hs.zA _ _ | assumption | exact zA _ _ | exact zS _ | exact Zr_not (hs.zA _ _) | exact ⟨by omega, by omega⟩) (fun c2 => ?_) (fun c2 => ?_)
    · refine Z_go (f2 := (17, [(0, .int (Zi c))], [.int (Zi 0)])) (fun _ => rfl) ?_
      refine Z_iret rfl rfl (by first | rfl | decide | exact narrow_b01 (by omega)) ⟨rfl, rfl, ?_⟩
      exact ⟨_, rfl, by unfold D_dig; omega⟩
    · refine Z_go (f2 := (13, [(0, .int (Zi c))], [.int (Zi 1)])) (fun _ => rfl) ?_
      refine Z_go (f2 := (17, [(0, .int (Zi c))], [.int (Zi 1)])) (fun _ => rfl) ?_
      refine Z_iret rfl rfl (by first | rfl | decide | exact narrow_b01 (by omega)) ⟨rfl, rfl, ?_⟩
      exact ⟨_, rfl, by unfold D_dig; omega⟩
theorem R_isLetter (d : Nat) {c : Int}  (zc : Zr c) : Q_ok (d + 1) 194 [.int (Zi c)] (fun x => ∃ v : Int, x = some (.int (Zi v)) ∧ (v = 1 ∧ D_let c ∨ v = 0 ∧ ¬ D_let c)) := by
  refine Q_enter (M := E_m194) rfl (Nat.le_of_ble_eq_true rfl) (fun h => ?_)
  show B_R d _ (0, [(0, .int (Zi c))], []) _ _ _
  refine Z_go (f2 := (1, [(0, .int (Zi c))], [.int (Zi c)])) (fun _ => rfl) ?_
  refine Z_go (f2 := (3, [(0, .int (Zi c))], [.int (Zi 97), .int (Zi c)])) (fun _ => rfl) ?_
  refine Z_clt rfl rfl (by first | exact hs.zF _ | exact Zor_r _ _ | exact hs.zA _ _ | assumption | exact zA _ _ | exact zS _ | exact Zr_not (hs.zA _ _) | exact ⟨by omega, by omega⟩) (by first | exact hs.zF _ | exact Zor_r _ _ | exact hs.zA _ _ | assumption | exact zA _ _ | exact zS _ | exact Zr_not (hs.zA _ _) | exact ⟨by omega, by omega⟩) (fun c1 => ?_) (fun c1 => ?_)
  · refine Z_go (f2 := (13, [(0, .int (Zi c))], [.int (Zi c)])) (fun _ => rfl) ?_
    refine Z_go (f2 := (15, [(0, .int (Zi c))], [.int (Zi 65), .int (Zi c)])) (fun _ => rfl) ?_
    refine Z_clt rfl rfl (by first | exact hs.zF _ | exact Zor_r _ _ | exact hs.zA _ _ | assumption | exact zA _ _ | exact zS _ | exact Zr_not (hs.zA _ _) | exact ⟨by omega, by omega⟩) (by first | exact hs.zF _ | exact Zor_r _ _ | exact hs.zA _ _ | assumption | exact zA _ _ | exact zS _ | exact Zr_not (hs.zA _ _) | exact ⟨by omega, by omega⟩) (fun c2 => ?_) (fun c2 => ?_)
    · refine Z_go (f2 := (29, [(0, .int (Zi c))], [.int (Zi 0)])) (fun _ => rfl) ?_
      refine Z_iret rfl rfl (by first | rfl | decide | exact narrow_b01 (by omega)) ⟨rfl, rfl, ?_⟩
      exact ⟨_, rfl, by unfold D_let; omega⟩
    · refine Z_go (f2 := (19, [(0, .int (Zi c))], [.int (Zi c)])) (fun _ => rfl) ?_
      refine Z_go (f2 := (21, [(0, .int (Zi c))], [.int (Zi 90), .int (Zi c)])) (fun _ => rfl) ?_
      refine Z_cgt rfl rfl (by first | exact hs.zF _ | exact Zor_r _ _ | exact hs.zA _ _ | assumption | exact zA _ _ | exact zS _ | exact Zr_not (hs.zA _ _) | exact ⟨by omega, by omega⟩) (by first | exact hs.zF _ | exact Zor_r _ _ | exact hs.zA _ _ | assumption | exact zA _ _ | exact zS _ | exact Zr_not (hs.zA _ _) | exact ⟨by omega, by omega⟩) (fun c3 => ?_) (fun c3 => ?_)
      · refine Z_go (f2 := (29, [(0, .int (Zi c))], [.int (Zi 0)])) (fun _ => rfl) ?_
        refine Z_iret rfl rfl (by first | rfl | decide | exact narrow_b01 (by omega)) ⟨rfl, rfl, ?_⟩
        exact ⟨_, rfl, by unfold D_let; omega⟩
      · refine Z_go (f2 := (25, [(0, .int (Zi c))], [.int (Zi 1)])) (fun _ => rfl) ?_
        refine Z_go (f2 := (29, [(0, .int (Zi c))], [.int (Zi 1)])) (fun _ => rfl) ?_
        refine Z_iret rfl rfl (by first | rfl | decide | exact narrow_b01 (by omega)) ⟨rfl, rfl, ?_⟩
        exact ⟨_, rfl, by unfold D_let; omega⟩
  · refine Z_go (f2 := (7, [(0, .int (Zi c))], [.int (Zi c)])) (fun _ => rfl) ?_
    refine Z_go (f2 := (9, [(0, .int (Zi c))], [.int (Zi 122), .int (Zi c)])) (fun _ => rfl) ?_
    refine Z_cle rfl rfl (by first | exact hs.zF _ | exact Zor_r _ _ | exact hs.zA _ _ | assumption | exact zA _ _ | exact zS _ | exact Zr_not (hs.zA _ _) | exact ⟨by omega, by omega⟩) (by first | exact hs.zF _ | exact Zor_r _ _ | exact hs.zA _ _ | assumption | exact zA _ _ | exact zS _ | exact Zr_not (hs.zA _ _) | exact ⟨by omega, by omega⟩) (fun c4 => ?_) (fun c4 => ?_)
    · refine Z_go (f2 := (25, [(0, .int (Zi c))], [.int (Zi 1)])) (fun _ => rfl) ?_
      refine Z_go (f2 := (29, [(0, .int (Zi c))], [.int (Zi 1)])) (fun _ => rfl) ?_
      refine Z_iret rfl rfl (by first | rfl | decide | exact narrow_b01 (by omega)) ⟨rfl, rfl, ?_⟩
      exact ⟨_, rfl, by unfold D_let; omega⟩
    · refine Z_go (f2 := (13, [(0, .int (Zi c))], [.int (Zi c)])) (fun _ => rfl) ?_
      refine Z_go (f2 := (15, [(0, .int (Zi c))], [.int (Zi 65), .int (Zi c)])) (fun _ => rfl) ?_
      refine Z_clt rfl rfl (by first | exact hs.zF _ | exact Zor_r _ _ | exact hs.zA _ _ | assumption | exact zA _ _ | exact zS _ | exact Zr_not (hs.zA _ _) | exact ⟨by omega, by omega⟩) (by first | exact hs.zF _ | exact Zor_r _ _ | exact hs.zA _ _ | assumption | exact zA _ _ | exact zS _ | exact Zr_not (hs.zA _ _) | exact ⟨by omega, by omega⟩) (fun c5 => ?_) (fun c5 => ?_)
      · refine Z_go (f2 := (29, [(0, .int (Zi c))], [.int (Zi 0)])) (fun _ => rfl) ?_
        refine Z_iret rfl rfl (by first | rfl | decide | exact narrow_b01 (by omega)) ⟨rfl, rfl, ?_⟩
        exact ⟨_, rfl, by unfold D_let; omega⟩
      · refine Z_go (f2 := (19, [(0, .int (Zi c))], [.int (Zi c)])) (fun _ => rfl) ?_
        refine Z_go (f2 := (21, [(0, .int (Zi c))], [.int (Zi 90), .int (Zi c)])) (fun _ => rfl) ?_
        refine Z_cgt rfl rfl (by first | exact hs.zF _ | exact Zor_r _ _ | exact hs.zA _ _ | assumption | exact zA _ _ | exact zS _ | exact Zr_not (hs.zA _ _) | exact ⟨by omega, by omega⟩) (by first | exact hs.zF _ | exact Zor_r _ _ | exact hs.zA _ _ | assumption | exact zA _ _ | exact zS _ | exact Zr_not (hs.zA _ _) | exact ⟨by omega, by omega⟩) (fun c6 => ?_) (fun c6 => ?_)
        · refine Z_go (f2 := (29, [(0, .int (Zi c))], [.int (Zi 0)])) (fun _ => rfl) ?_
          refine Z_iret rfl rfl (by first | rfl | decide | exact narrow_b01 (by omega)) ⟨rfl, rfl, ?_⟩
          exact ⟨_, rfl, by unfold D_let; omega⟩
        · refine Z_go (f2 := (25, [(0, .int (Zi c))], [.int (Zi 1)])) (fun _ => rfl) ?_
          refine Z_go (f2 := (29, [(0, .int (Zi c))], [.int (Zi 1)])) (fun _ => rfl) ?_
          refine Z_iret rfl rfl (by first | rfl | decide | exact narrow_b01 (by omega)) ⟨rfl, rfl, ?_⟩
          exact ⟨_, rfl, by unfold D_let; omega⟩
theorem R_isWordByte (d : Nat) {c : Int}  (zc : Zr c) : Q_ok (d + 2) 195 [.int (Zi c)] (fun x => ∃ v : Int, x = some (.int (Zi v)) ∧ (v = 1 ∧ D_wrd c ∨ v = 0 ∧ ¬ D_wrd c)) := by
  refine Q_enter (M := E_m195) rfl (Nat.le_of_ble_eq_true rfl) (fun h => ?_)
  show B_R (d + 1) _ (0, [(0, .int (Zi c))], []) _ _ _
  refine Z_go (f2 := (1, [(0, .int (Zi c))], [.int (Zi c)])) (fun _ => rfl) ?_
  refine Z_callQ (vs := [.int (Zi c)]) (rest := []) rfl (by decide) rfl rfl rfl (Nat.le_of_ble_eq_true rfl) (R_isLetter _ (by first | assumption | exact hs.zF _ | exact hs.zA _ _ | exact ⟨by omega, by omega⟩)) (fun x q => ?_)
  obtain ⟨v, rfl, hv⟩ := q
  unfold D_let at hv
  show B_R _ _ (4, [(0, .int (Zi c))], [.int (Zi v)]) _ _ _
  refine Z_ine rfl rfl (by first | exact hs.zF _ | exact Zor_r _ _ | exact hs.zA _ _ | assumption | exact zA _ _ | exact zS _ | exact Zr_not (hs.zA _ _) | exact ⟨by omega, by omega⟩) (fun c1 => ?_) (fun c1 => ?_)
  · refine Z_go (f2 := (21, [(0, .int (Zi c))], [.int (Zi 1)])) (fun _ => rfl) ?_
    refine Z_go (f2 := (25, [(0, .int (Zi c))], [.int (Zi 1)])) (fun _ => rfl) ?_
    refine Z_iret rfl rfl (by first | rfl | decide | exact narrow_b01 (by omega)) ⟨rfl, rfl, ?_⟩
    exact ⟨_, rfl, by unfold D_wrd D_let D_dig; omega⟩
  · refine Z_go (f2 := (8, [(0, .int (Zi c))], [.int (Zi c)])) (fun _ => rfl) ?_
    refine Z_callQ (vs := [.int (Zi c)]) (rest := []) rfl (by decide) rfl rfl rfl (Nat.le_of_ble_eq_true rfl) (R_isDigit _ (by first | assumption | exact hs.zF _ | exact hs.zA _ _ | exact ⟨by omega, by omega⟩)) (fun x q => ?_)
    obtain ⟨v, rfl, hv⟩ := q
    unfold D_dig at hv
    show B_R _ _ (11, [(0, .int (Zi c))], [.int (Zi v)]) _ _ _
    refine Z_ine rfl rfl (by first | exact hs.zF _ | exact Zor_r _ _ | exact hs.zA _ _ | assumption | exact zA _ _ | exact zS _ | exact Zr_not (hs.zA _ _) | exact ⟨by omega, by omega⟩) (fun c2 => ?_) (fun c2 => ?_)
    · refine Z_go (f2 := (21, [(0, .int (Zi c))], [.int (Zi 1)])) (fun _ => rfl) ?_
      refine Z_go (f2 := (25, [(0, .int (Zi c))], [.int (Zi 1)])) (fun _ => rfl) ?_
      refine Z_iret rfl rfl (by first | rfl | decide | exact narrow_b01 (by omega)) ⟨rfl, rfl, ?_⟩
      exact ⟨_, rfl, by unfold D_wrd D_let D_dig; omega⟩
    · refine Z_go (f2 := (15, [(0, .int (Zi c))], [.int (Zi c)])) (fun _ => rfl) ?_
      refine Z_go (f2 := (17, [(0, .int (Zi c))], [.int (Zi 95), .int (Zi c)])) (fun _ => rfl) ?_
      refine Z_cne rfl rfl (by first | exact hs.zF _ | exact Zor_r _ _ | exact hs.zA _ _ | assumption | exact zA _ _ | exact zS _ | exact Zr_not (hs.zA _ _) | exact ⟨by omega, by omega⟩) (by first | exact hs.zF _ | exact Zor_r _ _ | exact hs.zA _ _ | assumption | exact zA _ _ | exact zS _ | exact Zr_not (hs.zA _ _) | exact ⟨by omega, by omega⟩) (fun c3 => ?_) (fun c3 => ?_)
      · refine Z_go (f2 := (25, [(0, .int (Zi c))], [.int (Zi 0)])) (fun _ => rfl) ?_
        refine Z_iret rfl rfl (by first | rfl | decide | exact narrow_b01 (by omega)) ⟨rfl, rfl, ?_⟩
        exact ⟨_, rfl, by unfold D_wrd D_let D_dig; omega⟩
      · refine Z_go (f2 := (21, [(0, .int (Zi c))], [.int (Zi 1)])) (fun _ => rfl) ?_
        refine Z_go (f2 := (25, [(0, .int (Zi c))], [.int (Zi 1)])) (fun _ => rfl) ?_
        refine Z_iret rfl rfl (by first | rfl | decide | exact narrow_b01 (by omega)) ⟨rfl, rfl, ?_⟩
        exact ⟨_, rfl, by unfold D_wrd D_let D_dig; omega⟩
theorem R_isSign (d : Nat) {c : Int}  (zc : Zr c) : Q_ok (d + 2) 196 [.int (Zi c)] (fun x => ∃ v : Int, x = some (.int (Zi v)) ∧ (v = 1 ∧ D_sgn c ∨ v = 0 ∧ ¬ D_sgn c)) := by
  refine Q_enter (M := E_m196) rfl (Nat.le_of_ble_eq_true rfl) (fun h => ?_)
  show B_R (d + 1) _ (0, [(0, .int (Zi c))], []) _ _ _
  refine Z_go (f2 := (1, [(0, .int (Zi c))], [.int (Zi c)])) (fun _ => rfl) ?_
  refine Z_go (f2 := (3, [(0, .int (Zi c))], [.int (Zi 32), .int (Zi c)])) (fun _ => rfl) ?_
  refine Z_clt rfl rfl (by first | exact hs.zF _ | exact Zor_r _ _ | exact hs.zA _ _ | assumption | exact zA _ _ | exact zS _ | exact Zr_not (hs.zA _ _) | exact ⟨by omega, by omega⟩) (by first | exact hs.zF _ | exact Zor_r _ _ | exact hs.zA _ _ | assumption | exact zA _ _ | exact zS _ | exact Zr_not (hs.zA _ _) | exact ⟨by omega, by omega⟩) (fun c1 => ?_) (fun c1 => ?_)
  · refine Z_go (f2 := (31, [(0, .int (Zi c))], [.int (Zi 0)])) (fun _ => rfl) ?_
    refine Z_iret rfl rfl (by first | rfl | decide | exact narrow_b01 (by omega)) ⟨rfl, rfl, ?_⟩
    exact ⟨_, rfl, by unfold D_sgn D_let D_dig; omega⟩
  · refine Z_go (f2 := (7, [(0, .int (Zi c))], [.int (Zi c)])) (fun _ => rfl) ?_
    refine Z_go (f2 := (9, [(0, .int (Zi c))], [.int (Zi 126), .int (Zi c)])) (fun _ => rfl) ?_
    refine Z_cgt rfl rfl (by first | exact hs.zF _ | exact Zor_r _ _ | exact hs.zA _ _ | assumption | exact zA _ _ | exact zS _ | exact Zr_not (hs.zA _ _) | exact ⟨by omega, by omega⟩) (by first | exact hs.zF _ | exact Zor_r _ _ | exact hs.zA _ _ | assumption | exact zA _ _ | exact zS _ | exact Zr_not (hs.zA _ _) | exact ⟨by omega, by omega⟩) (fun c2 => ?_) (fun c2 => ?_)
    · refine Z_go (f2 := (31, [(0, .int (Zi c))], [.int (Zi 0)])) (fun _ => rfl) ?_
      refine Z_iret rfl rfl (by first | rfl | decide | exact narrow_b01 (by omega)) ⟨rfl, rfl, ?_⟩
      exact ⟨_, rfl, by unfold D_sgn D_let D_dig; omega⟩
    · refine Z_go (f2 := (13, [(0, .int (Zi c))], [.int (Zi c)])) (fun _ => rfl) ?_
      refine Z_callQ (vs := [.int (Zi c)]) (rest := []) rfl (by decide) rfl rfl rfl (Nat.le_of_ble_eq_true rfl) (R_isLetter _ (by first | assumption | exact hs.zF _ | exact hs.zA _ _ | exact ⟨by omega, by omega⟩)) (fun x q => ?_)
      obtain ⟨v, rfl, hv⟩ := q
      unfold D_let at hv
      show B_R _ _ (16, [(0, .int (Zi c))], [.int (Zi v)]) _ _ _
      refine Z_ine rfl rfl (by first | exact hs.zF _ | exact Zor_r _ _ | exact hs.zA _ _ | assumption | exact zA _ _ | exact zS _ | exact Zr_not (hs.zA _ _) | exact ⟨by omega, by omega⟩) (fun c3 => ?_) (fun c3 => ?_)
      · refine Z_go (f2 := (31, [(0, .int (Zi c))], [.int (Zi 0)])) (fun _ => rfl) ?_
        refine Z_iret rfl rfl (by first | rfl | decide | exact narrow_b01 (by omega)) ⟨rfl, rfl, ?_⟩
        exact ⟨_, rfl, by unfold D_sgn D_let D_dig; omega⟩
      · refine Z_go (f2 := (20, [(0, .int (Zi c))], [.int (Zi c)])) (fun _ => rfl) ?_
        refine Z_callQ (vs := [.int (Zi c)]) (rest := []) rfl (by decide) rfl rfl rfl (Nat.le_of_ble_eq_true rfl) (R_isDigit _ (by first | assumption | exact hs.zF _ | exact hs.zA _ _ | exact ⟨by omega, by omega⟩)) (fun x q => ?_)
        obtain ⟨v, rfl, hv⟩ := q
        unfold D_dig at hv
        show B_R _ _ (23, [(0, .int (Zi c))], [.int (Zi v)]) _ _ _
        refine Z_ine rfl rfl (by first | exact hs.zF _ | exact Zor_r _ _ | exact hs.zA _ _ | assumption | exact zA _ _ | exact zS _ | exact Zr_not (hs.zA _ _) | exact ⟨by omega, by omega⟩) (fun c4 => ?_) (fun c4 => ?_)
        · refine Z_go (f2 := (31, [(0, .int (Zi c))], [.int (Zi 0)])) (fun _ => rfl) ?_
          refine Z_iret rfl rfl (by first | rfl | decide | exact narrow_b01 (by omega)) ⟨rfl, rfl, ?_⟩
          exact ⟨_, rfl, by unfold D_sgn D_let D_dig; omega⟩
        · refine Z_go (f2 := (27, [(0, .int (Zi c))], [.int (Zi 1)])) (fun _ => rfl) ?_
          refine Z_go (f2 := (31, [(0, .int (Zi c))], [.int (Zi 1)])) (fun _ => rfl) ?_
          refine Z_iret rfl rfl (by first | rfl | decide | exact narrow_b01 (by omega)) ⟨rfl, rfl, ?_⟩
          exact ⟨_, rfl, by unfold D_sgn D_let D_dig; omega⟩
theorem R_isPlain (d : Nat) {c : Int}  (zc : Zr c) : Q_ok (d + 1) 197 [.int (Zi c)] (fun x => ∃ v : Int, x = some (.int (Zi v)) ∧ (v = 1 ∧ D_pln c ∨ v = 0 ∧ ¬ D_pln c)) := by
  refine Q_enter (M := E_m197) rfl (Nat.le_of_ble_eq_true rfl) (fun h => ?_)
  show B_R d _ (0, [(0, .int (Zi c))], []) _ _ _
  refine Z_go (f2 := (1, [(0, .int (Zi c))], [.int (Zi c)])) (fun _ => rfl) ?_
  refine Z_go (f2 := (3, [(0, .int (Zi c))], [.int (Zi 32), .int (Zi c)])) (fun _ => rfl) ?_
  refine Z_clt rfl rfl (by first | exact hs.zF _ | exact Zor_r _ _ | exact hs.zA _ _ | assumption | exact zA _ _ | exact zS _ | exact Zr_not (hs.zA _ _) | exact ⟨by omega, by omega⟩) (by first | exact hs.zF _ | exact Zor_r _ _ | exact hs.zA _ _ | assumption | exact zA _ _ | exact zS _ | exact Zr_not (hs.zA _ _) | exact ⟨by omega, by omega⟩) (fun c1 => ?_) (fun c1 => ?_)
  · refine Z_go (f2 := (13, [(0, .int (Zi c))], [.int (Zi 0)])) (fun _ => rfl) ?_
    refine Z_iret rfl rfl (by first | rfl | decide | exact narrow_b01 (by omega)) ⟨rfl, rfl, ?_⟩
    exact ⟨_, rfl, by unfold D_pln; omega⟩
  · refine Z_go (f2 := (7, [(0, .int (Zi c))], [.int (Zi c)])) (fun _ => rfl) ?_
    refine Z_go (f2 := (9, [(0, .int (Zi c))], [.int (Zi 126), .int (Zi c)])) (fun _ => rfl) ?_
    refine Z_cle rfl rfl (by first | exact hs.zF _ | exact Zor_r _ _ | exact hs.zA _ _ | assumption | exact zA _ _ | exact zS _ | exact Zr_not (hs.zA _ _) | exact ⟨by omega, by omega⟩) (by first | exact hs.zF _ | exact Zor_r _ _ | exact hs.zA _ _ | assumption | exact zA _ _ | exact zS _ | exact Zr_not (hs.zA _ _) | exact ⟨by omega, by omega⟩) (fun c2 => ?_) (fun c2 => ?_)
    · refine Z_go (f2 := (15, [(0, .int (Zi c))], [.int (Zi c)])) (fun _ => rfl) ?_
      refine Z_go (f2 := (17, [(0, .int (Zi c))], [.int (Zi 92), .int (Zi c)])) (fun _ => rfl) ?_
      refine Z_ceq rfl rfl (by first | exact hs.zF _ | exact Zor_r _ _ | exact hs.zA _ _ | assumption | exact zA _ _ | exact zS _ | exact Zr_not (hs.zA _ _) | exact ⟨by omega, by omega⟩) (by first | exact hs.zF _ | exact Zor_r _ _ | exact hs.zA _ _ | assumption | exact zA _ _ | exact zS _ | exact Zr_not (hs.zA _ _) | exact ⟨by omega, by omega⟩) (fun c3 => ?_) (fun c3 => ?_)
      · refine Z_go (f2 := (103, [(0, .int (Zi c))], [.int (Zi 0)])) (fun _ => rfl) ?_
        refine Z_iret rfl rfl (by first | rfl | decide | exact narrow_b01 (by omega)) ⟨rfl, rfl, ?_⟩
        exact ⟨_, rfl, by unfold D_pln; omega⟩
      · refine Z_go (f2 := (21, [(0, .int (Zi c))], [.int (Zi c)])) (fun _ => rfl) ?_
        refine Z_go (f2 := (23, [(0, .int (Zi c))], [.int (Zi 124), .int (Zi c)])) (fun _ => rfl) ?_
        refine Z_ceq rfl rfl (by first | exact hs.zF _ | exact Zor_r _ _ | exact hs.zA _ _ | assumption | exact zA _ _ | exact zS _ | exact Zr_not (hs.zA _ _) | exact ⟨by omega, by omega⟩) (by first | exact hs.zF _ | exact Zor_r _ _ | exact hs.zA _ _ | assumption | exact zA _ _ | exact zS _ | exact Zr_not (hs.zA _ _) | exact ⟨by omega, by omega⟩) (fun c4 => ?_) (fun c4 => ?_)
        · refine Z_go (f2 := (103, [(0, .int (Zi c))], [.int (Zi 0)])) (fun _ => rfl) ?_
          refine Z_iret rfl rfl (by first | rfl | decide | exact narrow_b01 (by omega)) ⟨rfl, rfl, ?_⟩
          exact ⟨_, rfl, by unfold D_pln; omega⟩
        · refine Z_go (f2 := (27, [(0, .int (Zi c))], [.int (Zi c)])) (fun _ => rfl) ?_
          refine Z_go (f2 := (29, [(0, .int (Zi c))], [.int (Zi 42), .int (Zi c)])) (fun _ => rfl) ?_
          refine Z_ceq rfl rfl (by first | exact hs.zF _ | exact Zor_r _ _ | exact hs.zA _ _ | assumption | exact zA _ _ | exact zS _ | exact Zr_not (hs.zA _ _) | exact ⟨by omega, by omega⟩) (by first | exact hs.zF _ | exact Zor_r _ _ | exact hs.zA _ _ | assumption | exact zA _ _ | exact zS _ | exact Zr_not (hs.zA _ _) | exact ⟨by omega, by omega⟩) (fun c5 => ?_) (fun c5 => ?_)
          · refine Z_go (f2 := (103, [(0, .int (Zi c))], [.int (Zi 0)])) (fun _ => rfl) ?_
            refine Z_iret rfl rfl (by first | rfl | decide | exact narrow_b01 (by omega)) ⟨rfl, rfl, ?_⟩
            exact ⟨_, rfl, by unfold D_pln; omega⟩
          · refine Z_go (f2 := (33, [(0, .int (Zi c))], [.int (Zi c)])) (fun _ => rfl) ?_
            refine Z_go (f2 := (35, [(0, .int (Zi c))], [.int (Zi 43), .int (Zi c)])) (fun _ => rfl) ?_
            refine Z_ceq rfl rfl (by first | exact hs.zF _ | exact Zor_r _ _ | exact hs.zA _ _ | assumption | exact zA _ _ | exact zS _ | exact Zr_not (hs.zA _ _) | exact ⟨by omega, by omega⟩) (by first | exact hs.zF _ | exact Zor_r _ _ | exact hs.zA _ _ | assumption | exact zA _ _ | exact zS _ | exact Zr_not (hs.zA _ _) | exact ⟨by omega, by omega⟩) (fun c6 => ?_) (fun c6 => ?_)
            · refine Z_go (f2 := (103, [(0, .int (Zi c))], [.int (Zi 0)])) (fun _ => rfl) ?_
              refine Z_iret rfl rfl (by first | rfl | decide | exact narrow_b01 (by omega)) ⟨rfl, rfl, ?_⟩
              exact ⟨_, rfl, by unfold D_pln; omega⟩
            · refine Z_go (f2 := (39, [(0, .int (Zi c))], [.int (Zi c)])) (fun _ => rfl) ?_
              refine Z_go (f2 := (41, [(0, .int (Zi c))], [.int (Zi 63), .int (Zi c)])) (fun _ => rfl) ?_
              refine Z_ceq rfl rfl (by first | exact hs.zF _ | exact Zor_r _ _ | exact hs.zA _ _ | assumption | exact zA _ _ | exact zS _ | exact Zr_not (hs.zA _ _) | exact ⟨by omega, by omega⟩) (by first | exact hs.zF _ | exact Zor_r _ _ | exact hs.zA _ _ | assumption | exact zA _ _ | exact zS _ | exact Zr_not (hs.zA _ _) | exact ⟨by omega, by omega⟩) (fun c7 => ?_) (fun c7 => ?_)
              · refine Z_go (f2 := (103, [(0, .int (Zi c))], [.int (Zi 0)])) (fun _ => rfl) ?_
                refine Z_iret rfl rfl (by first | rfl | decide | exact narrow_b01 (by omega)) ⟨rfl, rfl, ?_⟩
                exact ⟨_, rfl, by unfold D_pln; omega⟩
              · refine Z_go (f2 := (45, [(0, .int (Zi c))], [.int (Zi c)])) (fun _ => rfl) ?_
                refine Z_go (f2 := (47, [(0, .int (Zi c))], [.int (Zi 123), .int (Zi c)])) (fun _ => rfl) ?_
                refine Z_ceq rfl rfl (by first | exact hs.zF _ | exact Zor_r _ _ | exact hs.zA _ _ | assumption | exact zA _ _ | exact zS _ | exact Zr_not (hs.zA _ _) | exact ⟨by omega, by omega⟩) (by first | exact hs.zF _ | exact Zor_r _ _ | exact hs.zA _ _ | assumption | exact zA _ _ | exact zS _ | exact Zr_not (hs.zA _ _) | exact ⟨by omega, by omega⟩) (fun c8 => ?_) (fun c8 => ?_)
                · refine Z_go (f2 := (103, [(0, .int (Zi c))], [.int (Zi 0)])) (fun _ => rfl) ?_
                  refine Z_iret rfl rfl (by first | rfl | decide | exact narrow_b01 (by omega)) ⟨rfl, rfl, ?_⟩
                  exact ⟨_, rfl, by unfold D_pln; omega⟩
                · refine Z_go (f2 := (51, [(0, .int (Zi c))], [.int (Zi c)])) (fun _ => rfl) ?_
                  refine Z_go (f2 := (53, [(0, .int (Zi c))], [.int (Zi 125), .int (Zi c)])) (fun _ => rfl) ?_
                  refine Z_ceq rfl rfl (by first | exact hs.zF _ | exact Zor_r _ _ | exact hs.zA _ _ | assumption | exact zA _ _ | exact zS _ | exact Zr_not (hs.zA _ _) | exact ⟨by omega, by omega⟩) (by first | exact hs.zF _ | exact Zor_r _ _ | exact hs.zA _ _ | assumption | exact zA _ _ | exact zS _ | exact Zr_not (hs.zA _ _) | exact ⟨by omega, by omega⟩) (fun c9 => ?_) (fun c9 => ?_)
                  · refine Z_go (f2 := (103, [(0, .int (Zi c))], [.int (Zi 0)])) (fun _ => rfl) ?_
                    refine Z_iret rfl rfl (by first | rfl | decide | exact narrow_b01 (by omega)) ⟨rfl, rfl, ?_⟩
                    exact ⟨_, rfl, by unfold D_pln; omega⟩
                  · refine Z_go (f2 := (57, [(0, .int (Zi c))], [.int (Zi c)])) (fun _ => rfl) ?_
                    refine Z_go (f2 := (59, [(0, .int (Zi c))], [.int (Zi 40), .int (Zi c)])) (fun _ => rfl) ?_
                    refine Z_ceq rfl rfl (by first | exact hs.zF _ | exact Zor_r _ _ | exact hs.zA _ _ | assumption | exact zA _ _ | exact zS _ | exact Zr_not (hs.zA _ _) | exact ⟨by omega, by omega⟩) (by first | exact hs.zF _ | exact Zor_r _ _ | exact hs.zA _ _ | assumption | exact zA _ _ | exact zS _ | exact Zr_not (hs.zA _ _) | exact ⟨by omega, by omega⟩) (fun c10 => ?_) (fun c10 => ?_)
                    · refine Z_go (f2 := (103, [(0, .int (Zi c))], [.int (Zi 0)])) (fun _ => rfl) ?_
                      refine Z_iret rfl rfl (by first | rfl | decide | exact narrow_b01 (by omega)) ⟨rfl, rfl, ?_⟩
                      exact ⟨_, rfl, by unfold D_pln; omega⟩
                    · refine Z_go (f2 := (63, [(0, .int (Zi c))], [.int (Zi c)])) (fun _ => rfl) ?_
                      refine Z_go (f2 := (65, [(0, .int (Zi c))], [.int (Zi 41), .int (Zi c)])) (fun _ => rfl) ?_
                      refine Z_ceq rfl rfl (by first | exact hs.zF _ | exact Zor_r _ _ | exact hs.zA _ _ | assumption | exact zA _ _ | exact zS _ | exact Zr_not (hs.zA _ _) | exact ⟨by omega, by omega⟩) (by first | exact hs.zF _ | exact Zor_r _ _ | exact hs.zA _ _ | assumption | exact zA _ _ | exact zS _ | exact Zr_not (hs.zA _ _) | exact ⟨by omega, by omega⟩) (fun c11 => ?_) (fun c11 => ?_)
                      · refine Z_go (f2 := (103, [(0, .int (Zi c))], [.int (Zi 0)])) (fun _ => rfl) ?_
                        refine Z_iret rfl rfl (by first | rfl | decide | exact narrow_b01 (by omega)) ⟨rfl, rfl, ?_⟩
                        exact ⟨_, rfl, by unfold D_pln; omega⟩
                      · refine Z_go (f2 := (69, [(0, .int (Zi c))], [.int (Zi c)])) (fun _ => rfl) ?_
                        refine Z_go (f2 := (71, [(0, .int (Zi c))], [.int (Zi 91), .int (Zi c)])) (fun _ => rfl) ?_
                        refine Z_ceq rfl rfl (by first | exact hs.zF _ | exact Zor_r _ _ | exact hs.zA _ _ | assumption | exact zA _ _ | exact zS _ | exact Zr_not (hs.zA _ _) | exact ⟨by omega, by omega⟩) (by first | exact hs.zF _ | exact Zor_r _ _ | exact hs.zA _ _ | assumption | exact zA _ _ | exact zS _ | exact Zr_not (hs.zA _ _) | exact ⟨by omega, by omega⟩) (fun c12 => ?_) (fun c12 => ?_)
                        · refine Z_go (f2 := (103, [(0, .int (Zi c))], [.int (Zi 0)])) (fun _ => rfl) ?_
                          refine Z_iret rfl rfl (by first | rfl | decide | exact narrow_b01 (by omega)) ⟨rfl, rfl, ?_⟩
                          exact ⟨_, rfl, by unfold D_pln; omega⟩
                        · refine Z_go (f2 := (75, [(0, .int (Zi c))], [.int (Zi c)])) (fun _ => rfl) ?_
                          refine Z_go (f2 := (77, [(0, .int (Zi c))], [.int (Zi 93), .int (Zi c)])) (fun _ => rfl) ?_
                          refine Z_ceq rfl rfl (by first | exact hs.zF _ | exact Zor_r _ _ | exact hs.zA _ _ | assumption | exact zA _ _ | exact zS _ | exact Zr_not (hs.zA _ _) | exact ⟨by omega, by omega⟩) (by first | exact hs.zF _ | exact Zor_r _ _ | exact hs.zA _ _ | assumption | exact zA _ _ | exact zS _ | exact Zr_not (hs.zA _ _) | exact ⟨by omega, by omega⟩) (fun c13 => ?_) (fun c13 => ?_)
                          · refine Z_go (f2 := (103, [(0, .int (Zi c))], [.int (Zi 0)])) (fun _ => rfl) ?_
                            refine Z_iret rfl rfl (by first | rfl | decide | exact narrow_b01 (by omega)) ⟨rfl, rfl, ?_⟩
                            exact ⟨_, rfl, by unfold D_pln; omega⟩
                          · refine Z_go (f2 := (81, [(0, .int (Zi c))], [.int (Zi c)])) (fun _ => rfl) ?_
                            refine Z_go (f2 := (83, [(0, .int (Zi c))], [.int (Zi 46), .int (Zi c)])) (fun _ => rfl) ?_
                            refine Z_ceq rfl rfl (by first | exact hs.zF _ | exact Zor_r _ _ | exact hs.zA _ _ | assumption | exact zA _ _ | exact zS _ | exact Zr_not (hs.zA _ _) | exact ⟨by omega, by omega⟩) (by first | exact hs.zF _ | exact Zor_r _ _ | exact hs.zA _ _ | assumption | exact zA _ _ | exact zS _ | exact Zr_not (hs.zA _ _) | exact ⟨by omega, by omega⟩) (fun c14 => ?_) (fun c14 => ?_)
                            · refine Z_go (f2 := (103, [(0, .int (Zi c))], [.int (Zi 0)])) (fun _ => rfl) ?_
                              refine Z_iret rfl rfl (by first | rfl | decide | exact narrow_b01 (by omega)) ⟨rfl, rfl, ?_⟩
                              exact ⟨_, rfl, by unfold D_pln; omega⟩
                            · refine Z_go (f2 := (87, [(0, .int (Zi c))], [.int (Zi c)])) (fun _ => rfl) ?_
                              refine Z_go (f2 := (89, [(0, .int (Zi c))], [.int (Zi 94), .int (Zi c)])) (fun _ => rfl) ?_
                              refine Z_ceq rfl rfl (by first | exact hs.zF _ | exact Zor_r _ _ | exact hs.zA _ _ | assumption | exact zA _ _ | exact zS _ | exact Zr_not (hs.zA _ _) | exact ⟨by omega, by omega⟩) (by first | exact hs.zF _ | exact Zor_r _ _ | exact hs.zA _ _ | assumption | exact zA _ _ | exact zS _ | exact Zr_not (hs.zA _ _) | exact ⟨by omega, by omega⟩) (fun c15 => ?_) (fun c15 => ?_)
                              · refine Z_go (f2 := (103, [(0, .int (Zi c))], [.int (Zi 0)])) (fun _ => rfl) ?_
                                refine Z_iret rfl rfl (by first | rfl | decide | exact narrow_b01 (by omega)) ⟨rfl, rfl, ?_⟩
                                exact ⟨_, rfl, by unfold D_pln; omega⟩
                              · refine Z_go (f2 := (93, [(0, .int (Zi c))], [.int (Zi c)])) (fun _ => rfl) ?_
                                refine Z_go (f2 := (95, [(0, .int (Zi c))], [.int (Zi 36), .int (Zi c)])) (fun _ => rfl) ?_
                                refine Z_ceq rfl rfl (by first | exact hs.zF _ | exact Zor_r _ _ | exact hs.zA _ _ | assumption | exact zA _ _ | exact zS _ | exact Zr_not (hs.zA _ _) | exact ⟨by omega, by omega⟩) (by first | exact hs.zF _ | exact Zor_r _ _ | exact hs.zA _ _ | assumption | exact zA _ _ | exact zS _ | exact Zr_not (hs.zA _ _) | exact ⟨by omega, by omega⟩) (fun c16 => ?_) (fun c16 => ?_)
                                · refine Z_go (f2 := (103, [(0, .int (Zi c))], [.int (Zi 0)])) (fun _ => rfl) ?_
                                  refine Z_iret rfl rfl (by first | rfl | decide | exact narrow_b01 (by omega)) ⟨rfl, rfl, ?_⟩
                                  exact ⟨_, rfl, by unfold D_pln; omega⟩
                                · refine Z_go (f2 := (99, [(0, .int (Zi c))], [.int (Zi 1)])) (fun _ => rfl) ?_
                                  refine Z_go (f2 := (103, [(0, .int (Zi c))], [.int (Zi 1)])) (fun _ => rfl) ?_
                                  refine Z_iret rfl rfl (by first | rfl | decide | exact narrow_b01 (by omega)) ⟨rfl, rfl, ?_⟩
                                  exact ⟨_, rfl, by unfold D_pln; omega⟩
    · refine Z_go (f2 := (13, [(0, .int (Zi c))], [.int (Zi 0)])) (fun _ => rfl) ?_
      refine Z_iret rfl rfl (by first | rfl | decide | exact narrow_b01 (by omega)) ⟨rfl, rfl, ?_⟩
      exact ⟨_, rfl, by unfold D_pln; omega⟩
theorem R_see (d : Nat) (s : R_S) {k : Int}  (zk : Zr k) (k0 : 0 ≤ k) (w : s.1 1 ≤ 1000) : R_ok (d + 1) 191 [.int (Zi k)] s (fun x s2 => s2 = s ∧ ∃ v : Int, x = some (.int (Zi v)) ∧ (v = s.2.1 84 k ∧ k < s.1 1 ∨ v = -1 ∧ s.1 1 ≤ k)) := by
  refine R_enter (M := E_m191) rfl (Nat.le_of_ble_eq_true rfl) (fun h0 h hs => ?_)
  show B_R d _ (0, [(0, .ref 83), (1, .int (Zi k))], []) _ _ _
  refine Z_go (f2 := (1, [(0, .ref 83), (1, .int (Zi k))], [.int (Zi k)])) (fun _ => rfl) ?_
  refine Z_go (f2 := (2, [(0, .ref 83), (1, .int (Zi k))], [.ref 83, .int (Zi k)])) (fun _ => rfl) ?_
  refine R_gi rfl hs rfl ?_
  show B_R _ _ (5, [(0, .ref 83), (1, .int (Zi k))], [.int (Zi (s.1 1)), .int (Zi k)]) _ _ _
  refine Z_cge rfl rfl (by first | exact hs.zF _ | exact Zor_r _ _ | exact hs.zA _ _ | assumption | exact zA _ _ | exact zS _ | exact Zr_not (hs.zA _ _) | exact ⟨by omega, by omega⟩) (by first | exact hs.zF _ | exact Zor_r _ _ | exact hs.zA _ _ | assumption | exact zA _ _ | exact zS _ | exact Zr_not (hs.zA _ _) | exact ⟨by omega, by omega⟩) (fun c1 => ?_) (fun c1 => ?_)
  · refine Z_go (f2 := (18, [(0, .ref 83), (1, .int (Zi k))], [.int (Zi (-1))])) (fun _ => rfl) ?_
    refine Z_iret rfl rfl (by first | rfl | decide | exact narrow_b01 (by omega)) ⟨_, hs, ?_, rfl⟩
    exact ⟨rfl, _, rfl, by omega⟩
  · refine Z_go (f2 := (9, [(0, .ref 83), (1, .int (Zi k))], [.ref 83])) (fun _ => rfl) ?_
    refine R_gr (q := 82) rfl hs rfl ?_
    show B_R _ _ (12, [(0, .ref 83), (1, .int (Zi k))], [.ref 84]) _ _ _
    refine Z_go (f2 := (13, [(0, .ref 83), (1, .int (Zi k))], [.int (Zi k), .ref 84])) (fun _ => rfl) ?_
    refine R_ia (q := 0) rfl hs rfl rfl (by omega) (by omega) (by decide) ?_
    refine Z_go (f2 := (18, [(0, .ref 83), (1, .int (Zi k))], [.int (Zi (s.2.1 84 k))])) (fun _ => rfl) ?_
    refine Z_iret rfl rfl (by first | rfl | decide | exact narrow_b01 (by omega)) ⟨_, hs, ?_, rfl⟩
    exact ⟨rfl, _, rfl, by omega⟩
theorem R_emit (d : Nat) (s : R_S) {op p q : Int}  (zop : Zr op) (zp : Zr p) (zq : Zr q) (w0 : 0 ≤ s.1 13) (w : s.1 13 < 400) : R_ok (d + 1) 192 [.int (Zi op), .int (Zi p), .int (Zi q)] s (fun x s2 => x = none ∧ s2 = R_sF (R_sA (R_sA (R_sA s 90 (s.1 13) op) 91 (s.1 13) p) 92 (s.1 13) q) 13 (s.1 13 + 1)) := by
  refine R_enter (M := E_m192) rfl (Nat.le_of_ble_eq_true rfl) (fun h0 h hs => ?_)
  show B_R d _ (0, [(0, .ref 83), (1, .int (Zi op)), (2, .int (Zi p)), (3, .int (Zi q))], []) _ _ _
  refine Z_go (f2 := (1, [(0, .ref 83), (1, .int (Zi op)), (2, .int (Zi p)), (3, .int (Zi q))], [.ref 83])) (fun _ => rfl) ?_
  refine R_gr (q := 88) rfl hs rfl ?_
  show B_R _ _ (4, [(0, .ref 83), (1, .int (Zi op)), (2, .int (Zi p)), (3, .int (Zi q))], [.ref 90]) _ _ _
  refine Z_go (f2 := (5, [(0, .ref 83), (1, .int (Zi op)), (2, .int (Zi p)), (3, .int (Zi q))], [.ref 83, .ref 90])) (fun _ => rfl) ?_
  refine R_gi rfl hs rfl ?_
  show B_R _ _ (8, [(0, .ref 83), (1, .int (Zi op)), (2, .int (Zi p)), (3, .int (Zi q))], [.int (Zi (s.1 13)), .ref 90]) _ _ _
  refine Z_go (f2 := (9, [(0, .ref 83), (1, .int (Zi op)), (2, .int (Zi p)), (3, .int (Zi q))], [.int (Zi op), .int (Zi (s.1 13)), .ref 90])) (fun _ => rfl) ?_
  refine R_is_ (q := 6) rfl hs rfl rfl (by omega) (by omega) (by decide) (by first | exact hs.zF _ | exact Zor_r _ _ | exact hs.zA _ _ | assumption | exact zA _ _ | exact zS _ | exact Zr_not (hs.zA _ _) | exact ⟨by omega, by omega⟩) (fun h hs => ?_)
  refine Z_go (f2 := (11, [(0, .ref 83), (1, .int (Zi op)), (2, .int (Zi p)), (3, .int (Zi q))], [.ref 83])) (fun _ => rfl) ?_
  refine R_gr (q := 89) rfl hs rfl ?_
  show B_R _ _ (14, [(0, .ref 83), (1, .int (Zi op)), (2, .int (Zi p)), (3, .int (Zi q))], [.ref 91]) _ _ _
  refine Z_go (f2 := (15, [(0, .ref 83), (1, .int (Zi op)), (2, .int (Zi p)), (3, .int (Zi q))], [.ref 83, .ref 91])) (fun _ => rfl) ?_
  refine R_gi rfl hs rfl ?_
  show B_R _ _ (18, [(0, .ref 83), (1, .int (Zi op)), (2, .int (Zi p)), (3, .int (Zi q))], [.int (Zi (s.1 13)), .ref 91]) _ _ _
  refine Z_go (f2 := (19, [(0, .ref 83), (1, .int (Zi op)), (2, .int (Zi p)), (3, .int (Zi q))], [.int (Zi p), .int (Zi (s.1 13)), .ref 91])) (fun _ => rfl) ?_
  refine R_is_ (q := 7) rfl hs rfl rfl (by omega) (by omega) (by decide) (by first | exact hs.zF _ | exact Zor_r _ _ | exact hs.zA _ _ | assumption | exact zA _ _ | exact zS _ | exact Zr_not (hs.zA _ _) | exact ⟨by omega, by omega⟩) (fun h hs => ?_)
  refine Z_go (f2 := (21, [(0, .ref 83), (1, .int (Zi op)), (2, .int (Zi p)), (3, .int (Zi q))], [.ref 83])) (fun _ => rfl) ?_
  refine R_gr (q := 90) rfl hs rfl ?_
  show B_R _ _ (24, [(0, .ref 83), (1, .int (Zi op)), (2, .int (Zi p)), (3, .int (Zi q))], [.ref 92]) _ _ _
  refine Z_go (f2 := (25, [(0, .ref 83), (1, .int (Zi op)), (2, .int (Zi p)), (3, .int (Zi q))], [.ref 83, .ref 92])) (fun _ => rfl) ?_
  refine R_gi rfl hs rfl ?_
  show B_R _ _ (28, [(0, .ref 83), (1, .int (Zi op)), (2, .int (Zi p)), (3, .int (Zi q))], [.int (Zi (s.1 13)), .ref 92]) _ _ _
  refine Z_go (f2 := (29, [(0, .ref 83), (1, .int (Zi op)), (2, .int (Zi p)), (3, .int (Zi q))], [.int (Zi q), .int (Zi (s.1 13)), .ref 92])) (fun _ => rfl) ?_
  refine R_is_ (q := 8) rfl hs rfl rfl (by omega) (by omega) (by decide) (by first | exact hs.zF _ | exact Zor_r _ _ | exact hs.zA _ _ | assumption | exact zA _ _ | exact zS _ | exact Zr_not (hs.zA _ _) | exact ⟨by omega, by omega⟩) (fun h hs => ?_)
  refine Z_go (f2 := (31, [(0, .ref 83), (1, .int (Zi op)), (2, .int (Zi p)), (3, .int (Zi q))], [.ref 83])) (fun _ => rfl) ?_
  refine Z_go (f2 := (32, [(0, .ref 83), (1, .int (Zi op)), (2, .int (Zi p)), (3, .int (Zi q))], [.ref 83, .ref 83])) (fun _ => rfl) ?_
  refine R_gi rfl hs rfl ?_
  show B_R _ _ (35, [(0, .ref 83), (1, .int (Zi op)), (2, .int (Zi p)), (3, .int (Zi q))], [.int (Zi (s.1 13)), .ref 83]) _ _ _
  refine Z_go (f2 := (36, [(0, .ref 83), (1, .int (Zi op)), (2, .int (Zi p)), (3, .int (Zi q))], [.int (Zi 1), .int (Zi (s.1 13)), .ref 83])) (fun _ => rfl) ?_
  refine Z_iadd rfl ?_
  refine R_pf rfl hs rfl (by first | exact hs.zF _ | exact Zor_r _ _ | exact hs.zA _ _ | assumption | exact zA _ _ | exact zS _ | exact Zr_not (hs.zA _ _) | exact ⟨by omega, by omega⟩) ⟨rfl, rfl, rfl⟩ (fun h hs => ?_)
  refine Z_ret rfl rfl ⟨_, hs, ?_, rfl⟩
  exact ⟨rfl, rfl⟩
theorem R_fail (d : Nat) (s : R_S) {kd wh : Int}  (zkd : Zr kd) (zwh : Zr wh) : R_ok (d + 1) 190 [.int (Zi kd), .int (Zi wh)] s (fun x s2 => x = none ∧ (s2 = s ∧ s.1 18 ≠ 0 ∧ (s.1 19 < wh ∨ s.1 19 = wh ∧ s.1 18 ≤ kd) ∨ s2 = R_sF (R_sF s 18 kd) 19 wh ∧ ¬ (s.1 18 ≠ 0 ∧ (s.1 19 < wh ∨ s.1 19 = wh ∧ s.1 18 ≤ kd)))) := by
  refine R_enter (M := E_m190) rfl (Nat.le_of_ble_eq_true rfl) (fun h0 h hs => ?_)
  show B_R d _ (0, [(0, .ref 83), (1, .int (Zi kd)), (2, .int (Zi wh))], []) _ _ _
  refine Z_go (f2 := (1, [(0, .ref 83), (1, .int (Zi kd)), (2, .int (Zi wh))], [.ref 83])) (fun _ => rfl) ?_
  refine R_gi rfl hs rfl ?_
  show B_R _ _ (4, [(0, .ref 83), (1, .int (Zi kd)), (2, .int (Zi wh))], [.int (Zi (s.1 18))]) _ _ _
  refine Z_ieq rfl rfl (by first | exact hs.zF _ | exact Zor_r _ _ | exact hs.zA _ _ | assumption | exact zA _ _ | exact zS _ | exact Zr_not (hs.zA _ _) | exact ⟨by omega, by omega⟩) (fun c1 => ?_) (fun c1 => ?_)
  · refine Z_go (f2 := (33, [(0, .ref 83), (1, .int (Zi kd)), (2, .int (Zi wh))], [.ref 83])) (fun _ => rfl) ?_
    refine Z_go (f2 := (34, [(0, .ref 83), (1, .int (Zi kd)), (2, .int (Zi wh))], [.int (Zi kd), .ref 83])) (fun _ => rfl) ?_
    refine R_pf rfl hs rfl (by first | exact hs.zF _ | exact Zor_r _ _ | exact hs.zA _ _ | assumption | exact zA _ _ | exact zS _ | exact Zr_not (hs.zA _ _) | exact ⟨by omega, by omega⟩) ⟨rfl, rfl, rfl⟩ (fun h hs => ?_)
    refine Z_go (f2 := (38, [(0, .ref 83), (1, .int (Zi kd)), (2, .int (Zi wh))], [.ref 83])) (fun _ => rfl) ?_
    refine Z_go (f2 := (39, [(0, .ref 83), (1, .int (Zi kd)), (2, .int (Zi wh))], [.int (Zi wh), .ref 83])) (fun _ => rfl) ?_
    refine R_pf rfl hs rfl (by first | exact hs.zF _ | exact Zor_r _ _ | exact hs.zA _ _ | assumption | exact zA _ _ | exact zS _ | exact Zr_not (hs.zA _ _) | exact ⟨by omega, by omega⟩) ⟨rfl, rfl, rfl⟩ (fun h hs => ?_)
    refine Z_ret rfl rfl ⟨_, hs, ?_, rfl⟩
    first | exact ⟨rfl, .inl ⟨rfl, by omega, by omega⟩⟩ | exact ⟨rfl, .inr ⟨rfl, by omega⟩⟩
  · refine Z_go (f2 := (8, [(0, .ref 83), (1, .int (Zi kd)), (2, .int (Zi wh))], [.ref 83])) (fun _ => rfl) ?_
    refine R_gi rfl hs rfl ?_
    show B_R _ _ (11, [(0, .ref 83), (1, .int (Zi kd)), (2, .int (Zi wh))], [.int (Zi (s.1 19))]) _ _ _
    refine Z_go (f2 := (12, [(0, .ref 83), (1, .int (Zi kd)), (2, .int (Zi wh))], [.int (Zi wh), .int (Zi (s.1 19))])) (fun _ => rfl) ?_
    refine Z_clt rfl rfl (by first | exact hs.zF _ | exact Zor_r _ _ | exact hs.zA _ _ | assumption | exact zA _ _ | exact zS _ | exact Zr_not (hs.zA _ _) | exact ⟨by omega, by omega⟩) (by first | exact hs.zF _ | exact Zor_r _ _ | exact hs.zA _ _ | assumption | exact zA _ _ | exact zS _ | exact Zr_not (hs.zA _ _) | exact ⟨by omega, by omega⟩) (fun c2 => ?_) (fun c2 => ?_)
    · refine Z_ret rfl rfl ⟨_, hs, ?_, rfl⟩
      first | exact ⟨rfl, .inl ⟨rfl, by omega, by omega⟩⟩ | exact ⟨rfl, .inr ⟨rfl, by omega⟩⟩
    · refine Z_go (f2 := (16, [(0, .ref 83), (1, .int (Zi kd)), (2, .int (Zi wh))], [.ref 83])) (fun _ => rfl) ?_
      refine R_gi rfl hs rfl ?_
      show B_R _ _ (19, [(0, .ref 83), (1, .int (Zi kd)), (2, .int (Zi wh))], [.int (Zi (s.1 19))]) _ _ _
      refine Z_go (f2 := (20, [(0, .ref 83), (1, .int (Zi kd)), (2, .int (Zi wh))], [.int (Zi wh), .int (Zi (s.1 19))])) (fun _ => rfl) ?_
      refine Z_cne rfl rfl (by first | exact hs.zF _ | exact Zor_r _ _ | exact hs.zA _ _ | assumption | exact zA _ _ | exact zS _ | exact Zr_not (hs.zA _ _) | exact ⟨by omega, by omega⟩) (by first | exact hs.zF _ | exact Zor_r _ _ | exact hs.zA _ _ | assumption | exact zA _ _ | exact zS _ | exact Zr_not (hs.zA _ _) | exact ⟨by omega, by omega⟩) (fun c3 => ?_) (fun c3 => ?_)
      · refine Z_go (f2 := (33, [(0, .ref 83), (1, .int (Zi kd)), (2, .int (Zi wh))], [.ref 83])) (fun _ => rfl) ?_
        refine Z_go (f2 := (34, [(0, .ref 83), (1, .int (Zi kd)), (2, .int (Zi wh))], [.int (Zi kd), .ref 83])) (fun _ => rfl) ?_
        refine R_pf rfl hs rfl (by first | exact hs.zF _ | exact Zor_r _ _ | exact hs.zA _ _ | assumption | exact zA _ _ | exact zS _ | exact Zr_not (hs.zA _ _) | exact ⟨by omega, by omega⟩) ⟨rfl, rfl, rfl⟩ (fun h hs => ?_)
        refine Z_go (f2 := (38, [(0, .ref 83), (1, .int (Zi kd)), (2, .int (Zi wh))], [.ref 83])) (fun _ => rfl) ?_
        refine Z_go (f2 := (39, [(0, .ref 83), (1, .int (Zi kd)), (2, .int (Zi wh))], [.int (Zi wh), .ref 83])) (fun _ => rfl) ?_
        refine R_pf rfl hs rfl (by first | exact hs.zF _ | exact Zor_r _ _ | exact hs.zA _ _ | assumption | exact zA _ _ | exact zS _ | exact Zr_not (hs.zA _ _) | exact ⟨by omega, by omega⟩) ⟨rfl, rfl, rfl⟩ (fun h hs => ?_)
        refine Z_ret rfl rfl ⟨_, hs, ?_, rfl⟩
        first | exact ⟨rfl, .inl ⟨rfl, by omega, by omega⟩⟩ | exact ⟨rfl, .inr ⟨rfl, by omega⟩⟩
      · refine Z_go (f2 := (24, [(0, .ref 83), (1, .int (Zi kd)), (2, .int (Zi wh))], [.ref 83])) (fun _ => rfl) ?_
        refine R_gi rfl hs rfl ?_
        show B_R _ _ (27, [(0, .ref 83), (1, .int (Zi kd)), (2, .int (Zi wh))], [.int (Zi (s.1 18))]) _ _ _
        refine Z_go (f2 := (28, [(0, .ref 83), (1, .int (Zi kd)), (2, .int (Zi wh))], [.int (Zi kd), .int (Zi (s.1 18))])) (fun _ => rfl) ?_
        refine Z_cgt rfl rfl (by first | exact hs.zF _ | exact Zor_r _ _ | exact hs.zA _ _ | assumption | exact zA _ _ | exact zS _ | exact Zr_not (hs.zA _ _) | exact ⟨by omega, by omega⟩) (by first | exact hs.zF _ | exact Zor_r _ _ | exact hs.zA _ _ | assumption | exact zA _ _ | exact zS _ | exact Zr_not (hs.zA _ _) | exact ⟨by omega, by omega⟩) (fun c4 => ?_) (fun c4 => ?_)
        · refine Z_go (f2 := (33, [(0, .ref 83), (1, .int (Zi kd)), (2, .int (Zi wh))], [.ref 83])) (fun _ => rfl) ?_
          refine Z_go (f2 := (34, [(0, .ref 83), (1, .int (Zi kd)), (2, .int (Zi wh))], [.int (Zi kd), .ref 83])) (fun _ => rfl) ?_
          refine R_pf rfl hs rfl (by first | exact hs.zF _ | exact Zor_r _ _ | exact hs.zA _ _ | assumption | exact zA _ _ | exact zS _ | exact Zr_not (hs.zA _ _) | exact ⟨by omega, by omega⟩) ⟨rfl, rfl, rfl⟩ (fun h hs => ?_)
          refine Z_go (f2 := (38, [(0, .ref 83), (1, .int (Zi kd)), (2, .int (Zi wh))], [.ref 83])) (fun _ => rfl) ?_
          refine Z_go (f2 := (39, [(0, .ref 83), (1, .int (Zi kd)), (2, .int (Zi wh))], [.int (Zi wh), .ref 83])) (fun _ => rfl) ?_
          refine R_pf rfl hs rfl (by first | exact hs.zF _ | exact Zor_r _ _ | exact hs.zA _ _ | assumption | exact zA _ _ | exact zS _ | exact Zr_not (hs.zA _ _) | exact ⟨by omega, by omega⟩) ⟨rfl, rfl, rfl⟩ (fun h hs => ?_)
          refine Z_ret rfl rfl ⟨_, hs, ?_, rfl⟩
          first | exact ⟨rfl, .inl ⟨rfl, by omega, by omega⟩⟩ | exact ⟨rfl, .inr ⟨rfl, by omega⟩⟩
        · refine Z_ret rfl rfl ⟨_, hs, ?_, rfl⟩
          first | exact ⟨rfl, .inl ⟨rfl, by omega, by omega⟩⟩ | exact ⟨rfl, .inr ⟨rfl, by omega⟩⟩
theorem R_addShort (d : Nat) (s : R_S) {e : Int}  (ze : Zr e) (w0 : 0 ≤ s.1 41) (w : s.1 41 < 160) : R_ok (d + 1) 221 [.int (Zi e)] s (fun x s2 => x = none ∧ s2 = R_sF (R_sA s 110 (s.1 41) e) 41 (s.1 41 + 1)) := by
  refine R_enter (M := E_m221) rfl (Nat.le_of_ble_eq_true rfl) (fun h0 h hs => ?_)
  show B_R d _ (0, [(0, .ref 83), (1, .int (Zi e))], []) _ _ _
  refine Z_go (f2 := (1, [(0, .ref 83), (1, .int (Zi e))], [.ref 83])) (fun _ => rfl) ?_
  refine R_gr (q := 108) rfl hs rfl ?_
  show B_R _ _ (4, [(0, .ref 83), (1, .int (Zi e))], [.ref 110]) _ _ _
  refine Z_go (f2 := (5, [(0, .ref 83), (1, .int (Zi e))], [.ref 83, .ref 110])) (fun _ => rfl) ?_
  refine R_gi rfl hs rfl ?_
  show B_R _ _ (8, [(0, .ref 83), (1, .int (Zi e))], [.int (Zi (s.1 41)), .ref 110]) _ _ _
  refine Z_go (f2 := (9, [(0, .ref 83), (1, .int (Zi e))], [.int (Zi e), .int (Zi (s.1 41)), .ref 110])) (fun _ => rfl) ?_
  refine R_is_ (q := 26) rfl hs rfl rfl (by omega) (by omega) (by decide) (by first | exact hs.zF _ | exact Zor_r _ _ | exact hs.zA _ _ | assumption | exact zA _ _ | exact zS _ | exact Zr_not (hs.zA _ _) | exact ⟨by omega, by omega⟩) (fun h hs => ?_)
  refine Z_go (f2 := (11, [(0, .ref 83), (1, .int (Zi e))], [.ref 83])) (fun _ => rfl) ?_
  refine Z_go (f2 := (12, [(0, .ref 83), (1, .int (Zi e))], [.ref 83, .ref 83])) (fun _ => rfl) ?_
  refine R_gi rfl hs rfl ?_
  show B_R _ _ (15, [(0, .ref 83), (1, .int (Zi e))], [.int (Zi (s.1 41)), .ref 83]) _ _ _
  refine Z_go (f2 := (16, [(0, .ref 83), (1, .int (Zi e))], [.int (Zi 1), .int (Zi (s.1 41)), .ref 83])) (fun _ => rfl) ?_
  refine Z_iadd rfl ?_
  refine R_pf rfl hs rfl (by first | exact hs.zF _ | exact Zor_r _ _ | exact hs.zA _ _ | assumption | exact zA _ _ | exact zS _ | exact Zr_not (hs.zA _ _) | exact ⟨by omega, by omega⟩) ⟨rfl, rfl, rfl⟩ (fun h hs => ?_)
  refine Z_ret rfl rfl ⟨_, hs, ?_, rfl⟩
  exact ⟨rfl, rfl⟩
theorem R_textByte (d : Nat) (s : R_S) {sl k i : Int}  (zsl : Zr sl) (zk : Zr k) (zi : Zr i) (w0 : 0 ≤ 60 * (8 * sl + k) + i) (w1 : 60 * (8 * sl + k) + i < 21120) : R_ok (d + 1) 222 [.int (Zi sl), .int (Zi k), .int (Zi i)] s (fun x s2 => s2 = s ∧ ∃ v : Int, x = some (.int (Zi v)) ∧ (v = s.2.1 99 (60 * (8 * sl + k) + i))) := by
  refine R_enter (M := E_m222) rfl (Nat.le_of_ble_eq_true rfl) (fun h0 h hs => ?_)
  show B_R d _ (0, [(0, .ref 83), (1, .int (Zi sl)), (2, .int (Zi k)), (3, .int (Zi i))], []) _ _ _
  refine Z_go (f2 := (1, [(0, .ref 83), (1, .int (Zi sl)), (2, .int (Zi k)), (3, .int (Zi i))], [.ref 83])) (fun _ => rfl) ?_
  refine R_gr (q := 97) rfl hs rfl ?_
  show B_R _ _ (4, [(0, .ref 83), (1, .int (Zi sl)), (2, .int (Zi k)), (3, .int (Zi i))], [.ref 99]) _ _ _
  refine Z_go (f2 := (6, [(0, .ref 83), (1, .int (Zi sl)), (2, .int (Zi k)), (3, .int (Zi i))], [.int (Zi 60), .ref 99])) (fun _ => rfl) ?_
  refine Z_go (f2 := (8, [(0, .ref 83), (1, .int (Zi sl)), (2, .int (Zi k)), (3, .int (Zi i))], [.int (Zi 8), .int (Zi 60), .ref 99])) (fun _ => rfl) ?_
  refine Z_go (f2 := (9, [(0, .ref 83), (1, .int (Zi sl)), (2, .int (Zi k)), (3, .int (Zi i))], [.int (Zi sl), .int (Zi 8), .int (Zi 60), .ref 99])) (fun _ => rfl) ?_
  refine Z_imul rfl ?_
  refine Z_go (f2 := (11, [(0, .ref 83), (1, .int (Zi sl)), (2, .int (Zi k)), (3, .int (Zi i))], [.int (Zi k), .int (Zi (8 * sl)), .int (Zi 60), .ref 99])) (fun _ => rfl) ?_
  refine Z_iadd rfl ?_
  refine Z_imul rfl ?_
  refine Z_go (f2 := (14, [(0, .ref 83), (1, .int (Zi sl)), (2, .int (Zi k)), (3, .int (Zi i))], [.int (Zi i), .int (Zi (60 * (8 * sl + k))), .ref 99])) (fun _ => rfl) ?_
  refine Z_iadd rfl ?_
  refine R_ia (q := 15) rfl hs rfl rfl (by omega) (by omega) (by decide) ?_
  refine Z_iret rfl rfl (by first | rfl | decide | exact narrow_b01 (by omega)) ⟨_, hs, ?_, rfl⟩
  exact ⟨rfl, _, rfl, by omega⟩
