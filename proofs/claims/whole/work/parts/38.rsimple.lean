/-! the reference, method by method -/
def R_isF (s : R_S) (f : Int) : Prop := 0 ≤ f ∧ f < s.1 8 ∧ s.2.1 88 f = 1
def R_w1 (s : R_S) : Prop := 0 ≤ s.1 8 ∧ s.1 8 ≤ 200 ∧ (∀ f, s.2.1 88 f = 0 ∨ s.2.1 88 f = 1)
theorem R_isFile (d : Nat) (s : R_S) {f : Int}  (zf : Zr f) (w : R_w1 s) : R_ok (d + 1) 177 [.int (Zi f)] s (fun x s2 => s2 = s ∧ ∃ v : Int, x = some (.int (Zi v)) ∧ (v = 1 ∧ R_isF s f ∨ v = 0 ∧ ¬ R_isF s f)) := by
  refine R_enter (M := E_m177) rfl (Nat.le_of_ble_eq_true rfl) (fun h0 h hs => ?_)
  show B_R d _ (0, [(0, .ref 83), (1, .int (Zi f))], []) _ _ _
  obtain ⟨w1, w2, w3⟩ := w
  refine Z_go (f2 := (1, [(0, .ref 83), (1, .int (Zi f))], [.int (Zi f)])) (fun _ => rfl) ?_
  refine Z_ilt rfl rfl (by first | exact hs.zF _ | exact hs.zA _ _ | assumption | exact ⟨by omega, by omega⟩) (fun c1 => ?_) (fun c1 => ?_)
  · refine Z_go (f2 := (26, [(0, .ref 83), (1, .int (Zi f))], [.int (Zi 0)])) (fun _ => rfl) ?_
    refine Z_iret rfl rfl (by first | rfl | decide) ⟨_, hs, ?_, rfl⟩
    have := w3 f
    exact ⟨rfl, _, rfl, by unfold R_isF; omega⟩
  · refine Z_go (f2 := (5, [(0, .ref 83), (1, .int (Zi f))], [.int (Zi f)])) (fun _ => rfl) ?_
    refine Z_go (f2 := (6, [(0, .ref 83), (1, .int (Zi f))], [.ref 83, .int (Zi f)])) (fun _ => rfl) ?_
    refine R_gi rfl hs rfl ?_
    show B_R _ _ (9, [(0, .ref 83), (1, .int (Zi f))], [.int (Zi (s.1 8)), .int (Zi f)]) _ _ _
    refine Z_cge rfl rfl (by first | exact hs.zF _ | exact hs.zA _ _ | assumption | exact ⟨by omega, by omega⟩) (by first | exact hs.zF _ | exact hs.zA _ _ | assumption | exact ⟨by omega, by omega⟩) (fun c2 => ?_) (fun c2 => ?_)
    · refine Z_go (f2 := (26, [(0, .ref 83), (1, .int (Zi f))], [.int (Zi 0)])) (fun _ => rfl) ?_
      refine Z_iret rfl rfl (by first | rfl | decide) ⟨_, hs, ?_, rfl⟩
      have := w3 f
      exact ⟨rfl, _, rfl, by unfold R_isF; omega⟩
    · refine Z_go (f2 := (13, [(0, .ref 83), (1, .int (Zi f))], [.ref 83])) (fun _ => rfl) ?_
      refine R_gr (q := 86) rfl hs rfl ?_
      show B_R _ _ (16, [(0, .ref 83), (1, .int (Zi f))], [.ref 88]) _ _ _
      refine Z_go (f2 := (17, [(0, .ref 83), (1, .int (Zi f))], [.int (Zi f), .ref 88])) (fun _ => rfl) ?_
      refine R_ba (q := 4) rfl hs rfl rfl (by omega) (by omega) (by decide) ?_
      refine Z_ieq rfl rfl (by first | exact hs.zF _ | exact hs.zA _ _ | assumption | exact ⟨by omega, by omega⟩) (fun c3 => ?_) (fun c3 => ?_)
      · refine Z_go (f2 := (26, [(0, .ref 83), (1, .int (Zi f))], [.int (Zi 0)])) (fun _ => rfl) ?_
        refine Z_iret rfl rfl (by first | rfl | decide) ⟨_, hs, ?_, rfl⟩
        have := w3 f
        exact ⟨rfl, _, rfl, by unfold R_isF; omega⟩
      · refine Z_go (f2 := (22, [(0, .ref 83), (1, .int (Zi f))], [.int (Zi 1)])) (fun _ => rfl) ?_
        refine Z_go (f2 := (26, [(0, .ref 83), (1, .int (Zi f))], [.int (Zi 1)])) (fun _ => rfl) ?_
        refine Z_iret rfl rfl (by first | rfl | decide) ⟨_, hs, ?_, rfl⟩
        have := w3 f
        exact ⟨rfl, _, rfl, by unfold R_isF; omega⟩
theorem R_end (d : Nat) (s : R_S) {n : Int}  (zn : Zr n) : R_ok (d + 1) 176 [.int (Zi n)] s (fun x s2 => ∃ v : Int, x = some (.int (Zi v)) ∧ (v = 0 ∧ s2 = s ∧ ¬ (0 ≤ n ∧ n ≤ s.1 1) ∨ v = 1 ∧ s2 = R_sF s 1 n ∧ 0 ≤ n ∧ n ≤ s.1 1)) := by
  refine R_enter (M := E_m176) rfl (Nat.le_of_ble_eq_true rfl) (fun h0 h hs => ?_)
  show B_R d _ (0, [(0, .ref 83), (1, .int (Zi n))], []) _ _ _
  refine Z_go (f2 := (1, [(0, .ref 83), (1, .int (Zi n))], [.int (Zi n)])) (fun _ => rfl) ?_
  refine Z_ilt rfl rfl (by first | exact hs.zF _ | exact hs.zA _ _ | assumption | exact ⟨by omega, by omega⟩) (fun c1 => ?_) (fun c1 => ?_)
  · refine Z_go (f2 := (13, [(0, .ref 83), (1, .int (Zi n))], [.int (Zi 0)])) (fun _ => rfl) ?_
    refine Z_iret rfl rfl (by first | rfl | decide) ⟨_, hs, ?_, rfl⟩
    exact ⟨_, rfl, .inl ⟨rfl, rfl, by omega⟩⟩
  · refine Z_go (f2 := (5, [(0, .ref 83), (1, .int (Zi n))], [.int (Zi n)])) (fun _ => rfl) ?_
    refine Z_go (f2 := (6, [(0, .ref 83), (1, .int (Zi n))], [.ref 83, .int (Zi n)])) (fun _ => rfl) ?_
    refine R_gi rfl hs rfl ?_
    show B_R _ _ (9, [(0, .ref 83), (1, .int (Zi n))], [.int (Zi (s.1 1)), .int (Zi n)]) _ _ _
    refine Z_cle rfl rfl (by first | exact hs.zF _ | exact hs.zA _ _ | assumption | exact ⟨by omega, by omega⟩) (by first | exact hs.zF _ | exact hs.zA _ _ | assumption | exact ⟨by omega, by omega⟩) (fun c2 => ?_) (fun c2 => ?_)
    · refine Z_go (f2 := (15, [(0, .ref 83), (1, .int (Zi n))], [.ref 83])) (fun _ => rfl) ?_
      refine Z_go (f2 := (16, [(0, .ref 83), (1, .int (Zi n))], [.int (Zi n), .ref 83])) (fun _ => rfl) ?_
      refine R_pf rfl hs rfl (by first | exact hs.zF _ | exact hs.zA _ _ | assumption | exact ⟨by omega, by omega⟩) ⟨rfl, rfl, rfl⟩ (fun h hs => ?_)
      refine Z_go (f2 := (20, [(0, .ref 83), (1, .int (Zi n))], [.int (Zi 1)])) (fun _ => rfl) ?_
      refine Z_iret rfl rfl (by first | rfl | decide) ⟨_, hs, ?_, rfl⟩
      exact ⟨_, rfl, .inr ⟨rfl, rfl, by omega⟩⟩
    · refine Z_go (f2 := (13, [(0, .ref 83), (1, .int (Zi n))], [.int (Zi 0)])) (fun _ => rfl) ?_
      refine Z_iret rfl rfl (by first | rfl | decide) ⟨_, hs, ?_, rfl⟩
      exact ⟨_, rfl, .inl ⟨rfl, rfl, by omega⟩⟩
theorem R_size (d : Nat) (s : R_S) {f : Int}  (zf : Zr f) (w : R_w1 s) : R_ok (d + 2) 183 [.int (Zi f)] s (fun x s2 => s2 = s ∧ ∃ v : Int, x = some (.int (Zi v)) ∧ (v = s.2.1 87 f ∧ R_isF s f ∨ v = -1 ∧ ¬ R_isF s f)) := by
  refine R_enter (M := E_m183) rfl (Nat.le_of_ble_eq_true rfl) (fun h0 h hs => ?_)
  show B_R (d + 1) _ (0, [(0, .ref 83), (1, .int (Zi f))], []) _ _ _
  obtain ⟨w1, w2, w3⟩ := id w
  refine Z_go (f2 := (1, [(0, .ref 83), (1, .int (Zi f))], [.ref 83])) (fun _ => rfl) ?_
  refine Z_go (f2 := (2, [(0, .ref 83), (1, .int (Zi f))], [.int (Zi f), .ref 83])) (fun _ => rfl) ?_
  refine R_call (As := [.int (Zi f)]) (rest := []) rfl (by decide) rfl rfl rfl rfl (by decide +kernel) (Nat.le_of_ble_eq_true rfl) hs (R_isFile _ s (by first | assumption) (by assumption)) (fun x h s2 hs q => ?_)
  obtain ⟨q0, v, rfl, hv⟩ := q
  rw [q0] at hs
  unfold R_isF at hv
  show B_R _ _ (5, [(0, .ref 83), (1, .int (Zi f))], [.int (Zi v)]) _ _ _
  refine Z_ieq rfl rfl (by first | exact hs.zF _ | exact hs.zA _ _ | assumption | exact ⟨by omega, by omega⟩) (fun c1 => ?_) (fun c1 => ?_)
  · refine Z_go (f2 := (18, [(0, .ref 83), (1, .int (Zi f))], [.int (Zi (-1))])) (fun _ => rfl) ?_
    refine Z_iret rfl rfl (by first | rfl | decide) ⟨_, hs, ?_, rfl⟩
    exact ⟨rfl, _, rfl, by unfold R_isF; omega⟩
  · refine Z_go (f2 := (9, [(0, .ref 83), (1, .int (Zi f))], [.ref 83])) (fun _ => rfl) ?_
    refine R_gr (q := 85) rfl hs rfl ?_
    show B_R _ _ (12, [(0, .ref 83), (1, .int (Zi f))], [.ref 87]) _ _ _
    refine Z_go (f2 := (13, [(0, .ref 83), (1, .int (Zi f))], [.int (Zi f), .ref 87])) (fun _ => rfl) ?_
    refine R_ia (q := 3) rfl hs rfl rfl (by omega) (by omega) (by decide) ?_
    refine Z_go (f2 := (18, [(0, .ref 83), (1, .int (Zi f))], [.int (Zi (s.2.1 87 f))])) (fun _ => rfl) ?_
    refine Z_iret rfl rfl (by first | rfl | decide) ⟨_, hs, ?_, rfl⟩
    exact ⟨rfl, _, rfl, by unfold R_isF; omega⟩
theorem R_byteAt (d : Nat) (s : R_S) {f i : Int}  (zf : Zr f) (zi : Zr i) (w : R_w1 s) (wb : R_isF s f → 0 ≤ s.2.1 86 f ∧ s.2.1 86 f + s.2.1 87 f ≤ 16000) : R_ok (d + 2) 184 [.int (Zi f), .int (Zi i)] s (fun x s2 => s2 = s ∧ ∃ v : Int, x = some (.int (Zi v)) ∧ (v = s.2.1 85 (s.2.1 86 f + i) ∧ R_isF s f ∧ 0 ≤ i ∧ i < s.2.1 87 f ∨ v = -1 ∧ ¬ (R_isF s f ∧ 0 ≤ i ∧ i < s.2.1 87 f))) := by
  refine R_enter (M := E_m184) rfl (Nat.le_of_ble_eq_true rfl) (fun h0 h hs => ?_)
  show B_R (d + 1) _ (0, [(0, .ref 83), (1, .int (Zi f)), (2, .int (Zi i))], []) _ _ _
  obtain ⟨w1, w2, w3⟩ := id w
  unfold R_isF at wb
  refine Z_go (f2 := (1, [(0, .ref 83), (1, .int (Zi f)), (2, .int (Zi i))], [.ref 83])) (fun _ => rfl) ?_
  refine Z_go (f2 := (2, [(0, .ref 83), (1, .int (Zi f)), (2, .int (Zi i))], [.int (Zi f), .ref 83])) (fun _ => rfl) ?_
  refine R_call (As := [.int (Zi f)]) (rest := []) rfl (by decide) rfl rfl rfl rfl (by decide +kernel) (Nat.le_of_ble_eq_true rfl) hs (R_isFile _ s (by first | assumption) (by assumption)) (fun x h s2 hs q => ?_)
  obtain ⟨q0, v, rfl, hv⟩ := q
  rw [q0] at hs
  unfold R_isF at hv
  show B_R _ _ (5, [(0, .ref 83), (1, .int (Zi f)), (2, .int (Zi i))], [.int (Zi v)]) _ _ _
  refine Z_ieq rfl rfl (by first | exact hs.zF _ | exact hs.zA _ _ | assumption | exact ⟨by omega, by omega⟩) (fun c1 => ?_) (fun c1 => ?_)
  · refine Z_go (f2 := (39, [(0, .ref 83), (1, .int (Zi f)), (2, .int (Zi i))], [.int (Zi (-1))])) (fun _ => rfl) ?_
    refine Z_iret rfl rfl (by first | rfl | decide) ⟨_, hs, ?_, rfl⟩
    exact ⟨rfl, _, rfl, by unfold R_isF; omega⟩
  · refine Z_go (f2 := (9, [(0, .ref 83), (1, .int (Zi f)), (2, .int (Zi i))], [.int (Zi i)])) (fun _ => rfl) ?_
    refine Z_ilt rfl rfl (by first | exact hs.zF _ | exact hs.zA _ _ | assumption | exact ⟨by omega, by omega⟩) (fun c2 => ?_) (fun c2 => ?_)
    · refine Z_go (f2 := (39, [(0, .ref 83), (1, .int (Zi f)), (2, .int (Zi i))], [.int (Zi (-1))])) (fun _ => rfl) ?_
      refine Z_iret rfl rfl (by first | rfl | decide) ⟨_, hs, ?_, rfl⟩
      exact ⟨rfl, _, rfl, by unfold R_isF; omega⟩
    · refine Z_go (f2 := (13, [(0, .ref 83), (1, .int (Zi f)), (2, .int (Zi i))], [.int (Zi i)])) (fun _ => rfl) ?_
      refine Z_go (f2 := (14, [(0, .ref 83), (1, .int (Zi f)), (2, .int (Zi i))], [.ref 83, .int (Zi i)])) (fun _ => rfl) ?_
      refine R_gr (q := 85) rfl hs rfl ?_
      show B_R _ _ (17, [(0, .ref 83), (1, .int (Zi f)), (2, .int (Zi i))], [.ref 87, .int (Zi i)]) _ _ _
      refine Z_go (f2 := (18, [(0, .ref 83), (1, .int (Zi f)), (2, .int (Zi i))], [.int (Zi f), .ref 87, .int (Zi i)])) (fun _ => rfl) ?_
      refine R_ia (q := 3) rfl hs rfl rfl (by omega) (by omega) (by decide) ?_
      refine Z_cge rfl rfl (by first | exact hs.zF _ | exact hs.zA _ _ | assumption | exact ⟨by omega, by omega⟩) (by first | exact hs.zF _ | exact hs.zA _ _ | assumption | exact ⟨by omega, by omega⟩) (fun c3 => ?_) (fun c3 => ?_)
      · refine Z_go (f2 := (39, [(0, .ref 83), (1, .int (Zi f)), (2, .int (Zi i))], [.int (Zi (-1))])) (fun _ => rfl) ?_
        refine Z_iret rfl rfl (by first | rfl | decide) ⟨_, hs, ?_, rfl⟩
        exact ⟨rfl, _, rfl, by unfold R_isF; omega⟩
      · refine Z_go (f2 := (23, [(0, .ref 83), (1, .int (Zi f)), (2, .int (Zi i))], [.ref 83])) (fun _ => rfl) ?_
        refine R_gr (q := 83) rfl hs rfl ?_
        show B_R _ _ (26, [(0, .ref 83), (1, .int (Zi f)), (2, .int (Zi i))], [.ref 85]) _ _ _
        refine Z_go (f2 := (27, [(0, .ref 83), (1, .int (Zi f)), (2, .int (Zi i))], [.ref 83, .ref 85])) (fun _ => rfl) ?_
        refine R_gr (q := 84) rfl hs rfl ?_
        show B_R _ _ (30, [(0, .ref 83), (1, .int (Zi f)), (2, .int (Zi i))], [.ref 86, .ref 85]) _ _ _
        refine Z_go (f2 := (31, [(0, .ref 83), (1, .int (Zi f)), (2, .int (Zi i))], [.int (Zi f), .ref 86, .ref 85])) (fun _ => rfl) ?_
        refine R_ia (q := 2) rfl hs rfl rfl (by omega) (by omega) (by decide) ?_
        refine Z_go (f2 := (33, [(0, .ref 83), (1, .int (Zi f)), (2, .int (Zi i))], [.int (Zi i), .int (Zi (s.2.1 86 f)), .ref 85])) (fun _ => rfl) ?_
        refine Z_iadd rfl ?_
        refine R_ia (q := 1) rfl hs rfl rfl (by omega) (by omega) (by decide) ?_
        refine Z_go (f2 := (39, [(0, .ref 83), (1, .int (Zi f)), (2, .int (Zi i))], [.int (Zi (s.2.1 85 (s.2.1 86 f + i)))])) (fun _ => rfl) ?_
        refine Z_iret rfl rfl (by first | rfl | decide) ⟨_, hs, ?_, rfl⟩
        exact ⟨rfl, _, rfl, by unfold R_isF; omega⟩
