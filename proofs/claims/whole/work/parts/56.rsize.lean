/-! the reference: the size of a regex -/
def T_sz (t : P_T) : Int := T_ev (0, (fun _ => 1), (fun x y => x + y), (fun x y => x + y + 1), (fun x op lo hi => if op = 11 then (if hi = -1 then (lo + 1) * x + 1 else hi * x + hi - lo) else x + 1)) t
theorem T_sz_atm {A : P_A} (h : A_ok A) : T_sz (T_atm A) = 1 := T_ev_atm _ h
theorem T_sz_beh {l r : P_T} (h1 : T_is l) (h2 : T_is r) : T_sz (T_beh l r) = T_sz l + T_sz r := T_ev_beh _ h1 h2
theorem T_sz_or {l r : P_T} (h1 : T_is l) (h2 : T_is r) : T_sz (T_or l r) = T_sz l + T_sz r + 1 := T_ev_or _ h1 h2
theorem T_sz_cnt {t : P_T} {op lo hi : Int} (hc : T_cok op lo hi) (h1 : T_is t) : T_sz (T_cnt t op lo hi) = if op = 11 then (if hi = -1 then (lo + 1) * T_sz t + 1 else hi * T_sz t + hi - lo) else T_sz t + 1 := T_ev_cnt _ hc h1
theorem T_sz_b {t : P_T} (hw : T_is t) : 0 ≤ T_sz t ∧ T_sz t ≤ T_by t * 21 ^ T_h t := by
  have pw : ∀ a b : Nat, a ≤ b → (21 : Int) ^ a ≤ 21 ^ b := fun a b h => by
    have := Nat.pow_le_pow_right (show 0 < 21 by decide) h
    exact_mod_cast this
  have p1 : ∀ a : Nat, (1 : Int) ≤ 21 ^ a := fun a => pw 0 a (Nat.zero_le _)
  refine T_ind (P := fun t => 0 ≤ T_sz t ∧ T_sz t ≤ T_by t * 21 ^ T_h t) hw ?_ ?_ ?_ ?_ ?_
  · exact ⟨Int.le_refl _, by show (0 : Int) ≤ 0 * _; omega⟩
  · intro A hA
    show 0 ≤ T_sz (T_atm A) ∧ T_sz (T_atm A) ≤ T_by (T_atm A) * 21 ^ T_h (T_atm A)
    rw [T_sz_atm hA, T_by_atm hA, T_h_atm hA]
    decide
  · rintro l r h1 h2 ⟨a1, a2⟩ ⟨b1, b2⟩
    show 0 ≤ T_sz (T_beh l r) ∧ T_sz (T_beh l r) ≤ T_by (T_beh l r) * 21 ^ T_h (T_beh l r)
    rw [T_sz_beh h1 h2, T_by_beh h1 h2, T_h_beh h1 h2]
    have e1 := pw (T_h l) (max (T_h l) (T_h r)) (by omega)
    have e2 := pw (T_h r) (max (T_h l) (T_h r)) (by omega)
    have f1 := Int.mul_le_mul_of_nonneg_left e1 (T_by_pos h1)
    have f2 := Int.mul_le_mul_of_nonneg_left e2 (T_by_pos h2)
    rw [Int.add_mul]
    exact ⟨by omega, by omega⟩
  · rintro l r h1 h2 ⟨a1, a2⟩ ⟨b1, b2⟩
    show 0 ≤ T_sz (T_or l r) ∧ T_sz (T_or l r) ≤ T_by (T_or l r) * 21 ^ T_h (T_or l r)
    rw [T_sz_or h1 h2, T_by_or h1 h2, T_h_or h1 h2]
    have e1 := pw (T_h l) (max (T_h l) (T_h r)) (by omega)
    have e2 := pw (T_h r) (max (T_h l) (T_h r)) (by omega)
    have f1 := Int.mul_le_mul_of_nonneg_left e1 (T_by_pos h1)
    have f2 := Int.mul_le_mul_of_nonneg_left e2 (T_by_pos h2)
    have f3 := p1 (max (T_h l) (T_h r))
    rw [Int.add_mul, Int.add_mul]
    exact ⟨by omega, by omega⟩
  · rintro t op lo hi hc h1 ⟨a1, a2⟩
    show 0 ≤ T_sz (T_cnt t op lo hi) ∧ T_sz (T_cnt t op lo hi) ≤ T_by (T_cnt t op lo hi) * 21 ^ T_h (T_cnt t op lo hi)
    rw [T_sz_cnt hc h1, T_by_cnt hc h1, T_h_cnt hc h1]
    have f0 := p1 (T_h t)
    have fb := T_by_pos h1
    by_cases c : op = 11
    · rw [if_pos c, if_pos c]
      have hc : 0 ≤ lo ∧ lo ≤ 20 ∧ (hi = -1 ∨ lo ≤ hi ∧ hi ≤ 20) := by
        rcases hc with ⟨x, _⟩ | ⟨_, x⟩
        · omega
        · exact x
      have h3 : 3 ≤ C_by op lo hi := by unfold C_by; rw [if_pos c]; repeat' split <;> omega
      have g1 : (21 : Int) ^ (T_h t + 1) = 21 * 21 ^ T_h t := by rw [Int.pow_succ, Int.mul_comm]
      have g5 : (T_by t + C_by op lo hi) * (21 * 21 ^ T_h t) = T_by t * (21 * 21 ^ T_h t) + C_by op lo hi * (21 * 21 ^ T_h t) := Int.add_mul _ _ _
      rw [g1, g5]
      have g2 : T_by t * (21 * 21 ^ T_h t) = 21 * (T_by t * 21 ^ T_h t) := by rw [← Int.mul_assoc, Int.mul_comm (T_by t) 21, Int.mul_assoc]
      have g3 : 3 * (21 * 21 ^ T_h t) ≤ C_by op lo hi * (21 * 21 ^ T_h t) := Int.mul_le_mul_of_nonneg_right h3 (by omega)
      rw [g2]
      have g4 : ∀ x : Int, 0 ≤ x → x ≤ 21 → 0 ≤ x * T_sz t ∧ x * T_sz t ≤ 21 * T_sz t := fun x x0 x1 => ⟨Int.mul_nonneg x0 a1, Int.mul_le_mul_of_nonneg_right x1 a1⟩
      by_cases c2 : hi = -1
      · rw [if_pos c2]
        have := g4 (lo + 1) (by omega) (by omega)
        exact ⟨by omega, by omega⟩
      · rw [if_neg c2]
        have := g4 hi (by omega) (by omega)
        exact ⟨by omega, by omega⟩
    · rw [if_neg c, if_neg c]
      have g3 : 1 * 21 ^ T_h t ≤ C_by op lo hi * 21 ^ T_h t := Int.mul_le_mul_of_nonneg_right (C_by_pos op lo hi) (by omega)
      rw [Int.add_mul]
      exact ⟨by omega, by omega⟩
theorem T_sz_max {t : P_T} (hw : T_is t) (hb : T_by t ≤ 80) (hh : T_h t ≤ 11) : 0 ≤ T_sz t ∧ T_sz t ≤ 28022200043377680 := by
  obtain ⟨h1, h2⟩ := T_sz_b hw
  have e : (21 : Int) ^ T_h t ≤ 21 ^ 11 := by
    have := Nat.pow_le_pow_right (show 0 < 21 by decide) hh
    exact_mod_cast this
  have f1 := Int.mul_le_mul_of_nonneg_left e (T_by_pos hw)
  have f2 : T_by t * 21 ^ 11 ≤ 80 * 21 ^ 11 := Int.mul_le_mul_of_nonneg_right hb (by decide)
  have f3 : (80 : Int) * 21 ^ 11 = 28022200043377680 := by decide
  exact ⟨h1, by omega⟩
/-- the operators of E stand from k on -/
def R_at_ (s : R_S) (k : Int) (E : List (Int × Int × Int)) : Prop := ∀ (i : Nat) (h : i < E.length), s.2.1 90 (k + i) = E[i].1 ∧ s.2.1 91 (k + i) = E[i].2.1 ∧ s.2.1 92 (k + i) = E[i].2.2
theorem R_at_.app {s : R_S} {k : Int} {E F : List (Int × Int × Int)} (h : R_at_ s k (E ++ F)) : R_at_ s k E ∧ R_at_ s (k + E.length) F := by
  refine ⟨fun i hi => ?_, fun i hi => ?_⟩
  · have := h i (by rw [List.length_append]; omega)
    rw [List.getElem_append_left hi] at this
    exact this
  · have := h (E.length + i) (by rw [List.length_append]; omega)
    rw [List.getElem_append_right (by omega)] at this
    simp only [Nat.add_sub_cancel_left] at this
    rw [show k + (E.length : Int) + (i : Int) = k + ((E.length + i : Nat) : Int) by omega]
    exact this
theorem R_at_.one {s : R_S} {k x y z : Int} (h : R_at_ s k [(x, y, z)]) : s.2.1 90 k = x ∧ s.2.1 91 k = y ∧ s.2.1 92 k = z := by
  have := h 0 Nat.one_pos
  simpa using this
/-- u is s, but the long array 95 -/
def R_lo (s u : R_S) : Prop := u.1 = s.1 ∧ u.2.1 = s.2.1 ∧ u.2.2.1 = s.2.2.1 ∧ ∀ q j, q ≠ 95 → u.2.2.2 q j = s.2.2.2 q j
theorem R_lo.st {s u : R_S} (h : R_lo s u) (i : Int) (v : Int64) : R_lo s (R_sM u 95 i v) := ⟨h.1, h.2.1, h.2.2.1, fun q j hq => by
  show R_upL2 u.2.2.2 95 i v q j = _
  unfold R_upL2
  rw [if_neg (fun e => hq e.1)]
  exact h.2.2.2 q j hq⟩
theorem R_sM_s (u : R_S) (q : Nat) (i : Int) (v : Int64) : (R_sM u q i v).2.2.2 q i = v := by show R_upL2 u.2.2.2 q i v q i = v; unfold R_upL2; rw [if_pos ⟨rfl, rfl⟩]
theorem R_sM_n (u : R_S) (q : Nat) {i j : Int} (v : Int64) (h : j ≠ i) : (R_sM u q i v).2.2.2 q j = u.2.2.2 q j := by show R_upL2 u.2.2.2 q i v q j = _; unfold R_upL2; rw [if_neg (fun e => h e.2)]
theorem Z_goto {d : Nat} {M : E_MI} {h : E_H} {sl pc a b p2 : Nat} {L : E_L} {st : List Value} {Φ : E_R → Prop} {off : Int} (hf : E_find M.2.2.2.2.2.2.2 pc = some (.goto off, 3, a, b)) (ht : E_tok pc off = true) (hn : E_tg pc off = p2) (k : B_R d M (p2, L, st) h sl Φ) : B_R d M (pc, L, st) h sl Φ := by
  subst hn
  refine Z_go (f2 := (E_tg pc off, L, st)) (fun o => ?_) k
  unfold E_step
  rw [hf]
  dsimp only
  unfold E_heap E_f1 E_pure E_goto
  dsimp only
  rw [if_pos ⟨rfl, ht⟩]
  rfl
theorem R_sz_push {d : Nat} {h0 h : E_H} {u : R_S} {sl : Nat} {Φ : E_R → Prop} {k n : Int} (hs : R_is h0 h u) (k0 : 0 ≤ k) (k1 : k < u.1 13) (k2 : u.1 13 ≤ 400) (n0 : 0 ≤ n) (n1 : n ≤ 60) (n2 : n < 60) (o1 : u.2.1 90 k ≤ 5) (o2 : u.2.1 90 k ≠ 5) (kont : ∀ h : E_H, R_is h0 h (R_sM u 95 n 1) → B_R d E_m212 (4, [(2, .int (Zi (k + 1))), (1, .int (Zi (n + 1))), (0, .ref 83)], []) h sl Φ) : B_R d E_m212 (4, [(2, .int (Zi k)), (1, .int (Zi n)), (0, .ref 83)], []) h sl Φ := by
  refine Z_go (f2 := (5, [(2, .int (Zi k)), (1, .int (Zi n)), (0, .ref 83)], [.int (Zi k)])) (fun _ => rfl) ?_
  refine Z_go (f2 := (6, [(2, .int (Zi k)), (1, .int (Zi n)), (0, .ref 83)], [.ref 83, .int (Zi k)])) (fun _ => rfl) ?_
  refine R_gi rfl hs rfl ?_
  show B_R _ _ (9, [(2, .int (Zi k)), (1, .int (Zi n)), (0, .ref 83)], [.int (Zi (u.1 13)), .int (Zi k)]) _ _ _
  refine Z_cge rfl rfl (by first | exact hs.zF _ | exact Zor_r _ _ | exact hs.zA _ _ | assumption | exact zS _ | exact Zr_not (hs.zA _ _) | exact ⟨by omega, by omega⟩) (by first | exact hs.zF _ | exact Zor_r _ _ | exact hs.zA _ _ | assumption | exact zS _ | exact Zr_not (hs.zA _ _) | exact ⟨by omega, by omega⟩) (fun c1 => ?_) (fun c1 => ?_)
  · exfalso; omega
  · refine Z_go (f2 := (13, [(2, .int (Zi k)), (1, .int (Zi n)), (0, .ref 83)], [.ref 83])) (fun _ => rfl) ?_
    refine R_gr (q := 88) rfl hs rfl ?_
    show B_R _ _ (16, [(2, .int (Zi k)), (1, .int (Zi n)), (0, .ref 83)], [.ref 90]) _ _ _
    refine Z_go (f2 := (17, [(2, .int (Zi k)), (1, .int (Zi n)), (0, .ref 83)], [.int (Zi k), .ref 90])) (fun _ => rfl) ?_
    refine R_ia (q := 6) rfl hs rfl rfl (by omega) (by omega) (by decide) ?_
    refine Z_go (f2 := (19, [(3, .int (Zi (u.2.1 90 k))), (2, .int (Zi k)), (1, .int (Zi n)), (0, .ref 83)], [])) (fun _ => rfl) ?_
    refine Z_go (f2 := (20, [(3, .int (Zi (u.2.1 90 k))), (2, .int (Zi k)), (1, .int (Zi n)), (0, .ref 83)], [.int (Zi (u.2.1 90 k))])) (fun _ => rfl) ?_
    refine Z_go (f2 := (21, [(3, .int (Zi (u.2.1 90 k))), (2, .int (Zi k)), (1, .int (Zi n)), (0, .ref 83)], [.int (Zi 5), .int (Zi (u.2.1 90 k))])) (fun _ => rfl) ?_
    refine Z_cgt rfl rfl (by first | exact hs.zF _ | exact Zor_r _ _ | exact hs.zA _ _ | assumption | exact zS _ | exact Zr_not (hs.zA _ _) | exact ⟨by omega, by omega⟩) (by first | exact hs.zF _ | exact Zor_r _ _ | exact hs.zA _ _ | assumption | exact zS _ | exact Zr_not (hs.zA _ _) | exact ⟨by omega, by omega⟩) (fun c2 => ?_) (fun c2 => ?_)
    · exfalso; omega
    · refine Z_go (f2 := (25, [(3, .int (Zi (u.2.1 90 k))), (2, .int (Zi k)), (1, .int (Zi n)), (0, .ref 83)], [.ref 83])) (fun _ => rfl) ?_
      refine R_gr (q := 93) rfl hs rfl ?_
      show B_R _ _ (28, [(3, .int (Zi (u.2.1 90 k))), (2, .int (Zi k)), (1, .int (Zi n)), (0, .ref 83)], [.ref 95]) _ _ _
      refine Z_go (f2 := (29, [(3, .int (Zi (u.2.1 90 k))), (2, .int (Zi k)), (1, .int (Zi n)), (0, .ref 83)], [.int (Zi n), .ref 95])) (fun _ => rfl) ?_
      refine Z_go (f2 := (30, [(3, .int (Zi (u.2.1 90 k))), (2, .int (Zi k)), (1, .int (Zi n)), (0, .ref 83)], [.int (Zi (u.2.1 90 k)), .int (Zi n), .ref 95])) (fun _ => rfl) ?_
      refine Z_go (f2 := (31, [(3, .int (Zi (u.2.1 90 k))), (2, .int (Zi k)), (1, .int (Zi n)), (0, .ref 83)], [.int (Zi 5), .int (Zi (u.2.1 90 k)), .int (Zi n), .ref 95])) (fun _ => rfl) ?_
      refine Z_cne rfl rfl (by first | exact hs.zF _ | exact Zor_r _ _ | exact hs.zA _ _ | assumption | exact zS _ | exact Zr_not (hs.zA _ _) | exact ⟨by omega, by omega⟩) (by first | exact hs.zF _ | exact Zor_r _ _ | exact hs.zA _ _ | assumption | exact zS _ | exact Zr_not (hs.zA _ _) | exact ⟨by omega, by omega⟩) (fun c3 => ?_) (fun c3 => ?_)
      · refine Z_go (f2 := (39, [(3, .int (Zi (u.2.1 90 k))), (2, .int (Zi k)), (1, .int (Zi n)), (0, .ref 83)], [.long (1), .int (Zi n), .ref 95])) (fun _ => rfl) ?_
        refine R_ls (q := 11) rfl hs rfl rfl (by omega) (by omega) (by decide) (fun h hs => ?_)
        refine Z_iinc (L2 := [(1, .int (Zi (n + 1))), (3, .int (Zi (u.2.1 90 k))), (2, .int (Zi k)), (0, .ref 83)]) rfl rfl (by decide) rfl ?_
        refine Z_go (f2 := (179, [(1, .int (Zi (n + 1))), (3, .int (Zi (u.2.1 90 k))), (2, .int (Zi k)), (0, .ref 83)], [])) (fun _ => rfl) ?_
        refine Z_iinc (L2 := [(2, .int (Zi (k + 1))), (1, .int (Zi (n + 1))), (3, .int (Zi (u.2.1 90 k))), (0, .ref 83)]) rfl rfl (by decide) rfl ?_
        refine Z_goto (p2 := 4) rfl (by decide +kernel) (by decide +kernel) ?_
        refine B_loc (K := [(2, .int (Zi (k + 1))), (1, .int (Zi (n + 1))), (0, .ref 83)]) (N_all_sub ⟨rfl, rfl, rfl, trivial⟩) (show ([2, 1, 0] : List Nat).Nodup by decide) ?_
        exact kont _ hs
      · exfalso; omega
theorem R_sz_pushe {d : Nat} {h0 h : E_H} {u : R_S} {sl : Nat} {Φ : E_R → Prop} {k n : Int} (hs : R_is h0 h u) (k0 : 0 ≤ k) (k1 : k < u.1 13) (k2 : u.1 13 ≤ 400) (n0 : 0 ≤ n) (n1 : n ≤ 60) (n2 : n < 60) (o1 : u.2.1 90 k = 5) (kont : ∀ h : E_H, R_is h0 h (R_sM u 95 n 0) → B_R d E_m212 (4, [(2, .int (Zi (k + 1))), (1, .int (Zi (n + 1))), (0, .ref 83)], []) h sl Φ) : B_R d E_m212 (4, [(2, .int (Zi k)), (1, .int (Zi n)), (0, .ref 83)], []) h sl Φ := by
  refine Z_go (f2 := (5, [(2, .int (Zi k)), (1, .int (Zi n)), (0, .ref 83)], [.int (Zi k)])) (fun _ => rfl) ?_
  refine Z_go (f2 := (6, [(2, .int (Zi k)), (1, .int (Zi n)), (0, .ref 83)], [.ref 83, .int (Zi k)])) (fun _ => rfl) ?_
  refine R_gi rfl hs rfl ?_
  show B_R _ _ (9, [(2, .int (Zi k)), (1, .int (Zi n)), (0, .ref 83)], [.int (Zi (u.1 13)), .int (Zi k)]) _ _ _
  refine Z_cge rfl rfl (by first | exact hs.zF _ | exact Zor_r _ _ | exact hs.zA _ _ | assumption | exact zS _ | exact Zr_not (hs.zA _ _) | exact ⟨by omega, by omega⟩) (by first | exact hs.zF _ | exact Zor_r _ _ | exact hs.zA _ _ | assumption | exact zS _ | exact Zr_not (hs.zA _ _) | exact ⟨by omega, by omega⟩) (fun c1 => ?_) (fun c1 => ?_)
  · exfalso; omega
  · refine Z_go (f2 := (13, [(2, .int (Zi k)), (1, .int (Zi n)), (0, .ref 83)], [.ref 83])) (fun _ => rfl) ?_
    refine R_gr (q := 88) rfl hs rfl ?_
    show B_R _ _ (16, [(2, .int (Zi k)), (1, .int (Zi n)), (0, .ref 83)], [.ref 90]) _ _ _
    refine Z_go (f2 := (17, [(2, .int (Zi k)), (1, .int (Zi n)), (0, .ref 83)], [.int (Zi k), .ref 90])) (fun _ => rfl) ?_
    refine R_ia (q := 6) rfl hs rfl rfl (by omega) (by omega) (by decide) ?_
    refine Z_go (f2 := (19, [(3, .int (Zi (u.2.1 90 k))), (2, .int (Zi k)), (1, .int (Zi n)), (0, .ref 83)], [])) (fun _ => rfl) ?_
    refine Z_go (f2 := (20, [(3, .int (Zi (u.2.1 90 k))), (2, .int (Zi k)), (1, .int (Zi n)), (0, .ref 83)], [.int (Zi (u.2.1 90 k))])) (fun _ => rfl) ?_
    refine Z_go (f2 := (21, [(3, .int (Zi (u.2.1 90 k))), (2, .int (Zi k)), (1, .int (Zi n)), (0, .ref 83)], [.int (Zi 5), .int (Zi (u.2.1 90 k))])) (fun _ => rfl) ?_
    refine Z_cgt rfl rfl (by first | exact hs.zF _ | exact Zor_r _ _ | exact hs.zA _ _ | assumption | exact zS _ | exact Zr_not (hs.zA _ _) | exact ⟨by omega, by omega⟩) (by first | exact hs.zF _ | exact Zor_r _ _ | exact hs.zA _ _ | assumption | exact zS _ | exact Zr_not (hs.zA _ _) | exact ⟨by omega, by omega⟩) (fun c2 => ?_) (fun c2 => ?_)
    · exfalso; omega
    · refine Z_go (f2 := (25, [(3, .int (Zi (u.2.1 90 k))), (2, .int (Zi k)), (1, .int (Zi n)), (0, .ref 83)], [.ref 83])) (fun _ => rfl) ?_
      refine R_gr (q := 93) rfl hs rfl ?_
      show B_R _ _ (28, [(3, .int (Zi (u.2.1 90 k))), (2, .int (Zi k)), (1, .int (Zi n)), (0, .ref 83)], [.ref 95]) _ _ _
      refine Z_go (f2 := (29, [(3, .int (Zi (u.2.1 90 k))), (2, .int (Zi k)), (1, .int (Zi n)), (0, .ref 83)], [.int (Zi n), .ref 95])) (fun _ => rfl) ?_
      refine Z_go (f2 := (30, [(3, .int (Zi (u.2.1 90 k))), (2, .int (Zi k)), (1, .int (Zi n)), (0, .ref 83)], [.int (Zi (u.2.1 90 k)), .int (Zi n), .ref 95])) (fun _ => rfl) ?_
      refine Z_go (f2 := (31, [(3, .int (Zi (u.2.1 90 k))), (2, .int (Zi k)), (1, .int (Zi n)), (0, .ref 83)], [.int (Zi 5), .int (Zi (u.2.1 90 k)), .int (Zi n), .ref 95])) (fun _ => rfl) ?_
      refine Z_cne rfl rfl (by first | exact hs.zF _ | exact Zor_r _ _ | exact hs.zA _ _ | assumption | exact zS _ | exact Zr_not (hs.zA _ _) | exact ⟨by omega, by omega⟩) (by first | exact hs.zF _ | exact Zor_r _ _ | exact hs.zA _ _ | assumption | exact zS _ | exact Zr_not (hs.zA _ _) | exact ⟨by omega, by omega⟩) (fun c3 => ?_) (fun c3 => ?_)
      · exfalso; omega
      · refine Z_go (f2 := (35, [(3, .int (Zi (u.2.1 90 k))), (2, .int (Zi k)), (1, .int (Zi n)), (0, .ref 83)], [.long (0), .int (Zi n), .ref 95])) (fun _ => rfl) ?_
        refine Z_go (f2 := (39, [(3, .int (Zi (u.2.1 90 k))), (2, .int (Zi k)), (1, .int (Zi n)), (0, .ref 83)], [.long (0), .int (Zi n), .ref 95])) (fun _ => rfl) ?_
        refine R_ls (q := 11) rfl hs rfl rfl (by omega) (by omega) (by decide) (fun h hs => ?_)
        refine Z_iinc (L2 := [(1, .int (Zi (n + 1))), (3, .int (Zi (u.2.1 90 k))), (2, .int (Zi k)), (0, .ref 83)]) rfl rfl (by decide) rfl ?_
        refine Z_go (f2 := (179, [(1, .int (Zi (n + 1))), (3, .int (Zi (u.2.1 90 k))), (2, .int (Zi k)), (0, .ref 83)], [])) (fun _ => rfl) ?_
        refine Z_iinc (L2 := [(2, .int (Zi (k + 1))), (1, .int (Zi (n + 1))), (3, .int (Zi (u.2.1 90 k))), (0, .ref 83)]) rfl rfl (by decide) rfl ?_
        refine Z_goto (p2 := 4) rfl (by decide +kernel) (by decide +kernel) ?_
        refine B_loc (K := [(2, .int (Zi (k + 1))), (1, .int (Zi (n + 1))), (0, .ref 83)]) (N_all_sub ⟨rfl, rfl, rfl, trivial⟩) (show ([2, 1, 0] : List Nat).Nodup by decide) ?_
        exact kont _ hs
theorem R_sz_beh {d : Nat} {h0 h : E_H} {u : R_S} {sl : Nat} {Φ : E_R → Prop} {k n : Int} (hs : R_is h0 h u) (k0 : 0 ≤ k) (k1 : k < u.1 13) (k2 : u.1 13 ≤ 400) (n0 : 0 ≤ n) (n1 : n ≤ 60) (n2 : 2 ≤ n) (o1 : u.2.1 90 k = 6) (kont : ∀ h : E_H, R_is h0 h (R_sM u 95 (n - 2) (u.2.2.2 95 (n - 2) + (u.2.2.2 95 (n - 1) + 0))) → B_R d E_m212 (4, [(2, .int (Zi (k + 1))), (1, .int (Zi (n - 1))), (0, .ref 83)], []) h sl Φ) : B_R d E_m212 (4, [(2, .int (Zi k)), (1, .int (Zi n)), (0, .ref 83)], []) h sl Φ := by
  refine Z_go (f2 := (5, [(2, .int (Zi k)), (1, .int (Zi n)), (0, .ref 83)], [.int (Zi k)])) (fun _ => rfl) ?_
  refine Z_go (f2 := (6, [(2, .int (Zi k)), (1, .int (Zi n)), (0, .ref 83)], [.ref 83, .int (Zi k)])) (fun _ => rfl) ?_
  refine R_gi rfl hs rfl ?_
  show B_R _ _ (9, [(2, .int (Zi k)), (1, .int (Zi n)), (0, .ref 83)], [.int (Zi (u.1 13)), .int (Zi k)]) _ _ _
  refine Z_cge rfl rfl (by first | exact hs.zF _ | exact Zor_r _ _ | exact hs.zA _ _ | assumption | exact zS _ | exact Zr_not (hs.zA _ _) | exact ⟨by omega, by omega⟩) (by first | exact hs.zF _ | exact Zor_r _ _ | exact hs.zA _ _ | assumption | exact zS _ | exact Zr_not (hs.zA _ _) | exact ⟨by omega, by omega⟩) (fun c1 => ?_) (fun c1 => ?_)
  · exfalso; omega
  · refine Z_go (f2 := (13, [(2, .int (Zi k)), (1, .int (Zi n)), (0, .ref 83)], [.ref 83])) (fun _ => rfl) ?_
    refine R_gr (q := 88) rfl hs rfl ?_
    show B_R _ _ (16, [(2, .int (Zi k)), (1, .int (Zi n)), (0, .ref 83)], [.ref 90]) _ _ _
    refine Z_go (f2 := (17, [(2, .int (Zi k)), (1, .int (Zi n)), (0, .ref 83)], [.int (Zi k), .ref 90])) (fun _ => rfl) ?_
    refine R_ia (q := 6) rfl hs rfl rfl (by omega) (by omega) (by decide) ?_
    refine Z_go (f2 := (19, [(3, .int (Zi (u.2.1 90 k))), (2, .int (Zi k)), (1, .int (Zi n)), (0, .ref 83)], [])) (fun _ => rfl) ?_
    refine Z_go (f2 := (20, [(3, .int (Zi (u.2.1 90 k))), (2, .int (Zi k)), (1, .int (Zi n)), (0, .ref 83)], [.int (Zi (u.2.1 90 k))])) (fun _ => rfl) ?_
    refine Z_go (f2 := (21, [(3, .int (Zi (u.2.1 90 k))), (2, .int (Zi k)), (1, .int (Zi n)), (0, .ref 83)], [.int (Zi 5), .int (Zi (u.2.1 90 k))])) (fun _ => rfl) ?_
    refine Z_cgt rfl rfl (by first | exact hs.zF _ | exact Zor_r _ _ | exact hs.zA _ _ | assumption | exact zS _ | exact Zr_not (hs.zA _ _) | exact ⟨by omega, by omega⟩) (by first | exact hs.zF _ | exact Zor_r _ _ | exact hs.zA _ _ | assumption | exact zS _ | exact Zr_not (hs.zA _ _) | exact ⟨by omega, by omega⟩) (fun c2 => ?_) (fun c2 => ?_)
    · refine Z_go (f2 := (47, [(3, .int (Zi (u.2.1 90 k))), (2, .int (Zi k)), (1, .int (Zi n)), (0, .ref 83)], [.int (Zi (u.2.1 90 k))])) (fun _ => rfl) ?_
      refine Z_go (f2 := (49, [(3, .int (Zi (u.2.1 90 k))), (2, .int (Zi k)), (1, .int (Zi n)), (0, .ref 83)], [.int (Zi 7), .int (Zi (u.2.1 90 k))])) (fun _ => rfl) ?_
      refine Z_cgt rfl rfl (by first | exact hs.zF _ | exact Zor_r _ _ | exact hs.zA _ _ | assumption | exact zS _ | exact Zr_not (hs.zA _ _) | exact ⟨by omega, by omega⟩) (by first | exact hs.zF _ | exact Zor_r _ _ | exact hs.zA _ _ | assumption | exact zS _ | exact Zr_not (hs.zA _ _) | exact ⟨by omega, by omega⟩) (fun c3 => ?_) (fun c3 => ?_)
      · exfalso; omega
      · refine Z_iinc (L2 := [(1, .int (Zi (n + (-1)))), (3, .int (Zi (u.2.1 90 k))), (2, .int (Zi k)), (0, .ref 83)]) rfl rfl (by decide) rfl ?_
        refine Z_go (f2 := (56, [(1, .int (Zi (n + (-1)))), (3, .int (Zi (u.2.1 90 k))), (2, .int (Zi k)), (0, .ref 83)], [.ref 83])) (fun _ => rfl) ?_
        refine R_gr (q := 93) rfl hs rfl ?_
        show B_R _ _ (59, [(1, .int (Zi (n + (-1)))), (3, .int (Zi (u.2.1 90 k))), (2, .int (Zi k)), (0, .ref 83)], [.ref 95]) _ _ _
        refine Z_go (f2 := (60, [(1, .int (Zi (n + (-1)))), (3, .int (Zi (u.2.1 90 k))), (2, .int (Zi k)), (0, .ref 83)], [.int (Zi (n + (-1))), .ref 95])) (fun _ => rfl) ?_
        refine Z_go (f2 := (61, [(1, .int (Zi (n + (-1)))), (3, .int (Zi (u.2.1 90 k))), (2, .int (Zi k)), (0, .ref 83)], [.int (Zi 1), .int (Zi (n + (-1))), .ref 95])) (fun _ => rfl) ?_
        refine Z_isub rfl ?_
        refine Z_go (f2 := (63, [(1, .int (Zi (n + (-1)))), (3, .int (Zi (u.2.1 90 k))), (2, .int (Zi k)), (0, .ref 83)], [.int (Zi (n + (-1) - 1)), .ref 95, .int (Zi (n + (-1) - 1)), .ref 95])) (fun _ => rfl) ?_
        refine R_la (q := 11) rfl hs rfl rfl (by omega) (by omega) (by decide) ?_
        refine Z_go (f2 := (65, [(1, .int (Zi (n + (-1)))), (3, .int (Zi (u.2.1 90 k))), (2, .int (Zi k)), (0, .ref 83)], [.ref 83, .long (u.2.2.2 95 (n + (-1) - 1)), .int (Zi (n + (-1) - 1)), .ref 95])) (fun _ => rfl) ?_
        refine R_gr (q := 93) rfl hs rfl ?_
        show B_R _ _ (68, [(1, .int (Zi (n + (-1)))), (3, .int (Zi (u.2.1 90 k))), (2, .int (Zi k)), (0, .ref 83)], [.ref 95, .long (u.2.2.2 95 (n + (-1) - 1)), .int (Zi (n + (-1) - 1)), .ref 95]) _ _ _
        refine Z_go (f2 := (69, [(1, .int (Zi (n + (-1)))), (3, .int (Zi (u.2.1 90 k))), (2, .int (Zi k)), (0, .ref 83)], [.int (Zi (n + (-1))), .ref 95, .long (u.2.2.2 95 (n + (-1) - 1)), .int (Zi (n + (-1) - 1)), .ref 95])) (fun _ => rfl) ?_
        refine R_la (q := 11) rfl hs rfl rfl (by omega) (by omega) (by decide) ?_
        refine Z_go (f2 := (71, [(1, .int (Zi (n + (-1)))), (3, .int (Zi (u.2.1 90 k))), (2, .int (Zi k)), (0, .ref 83)], [.int (Zi (u.2.1 90 k)), .long (u.2.2.2 95 (n + (-1))), .long (u.2.2.2 95 (n + (-1) - 1)), .int (Zi (n + (-1) - 1)), .ref 95])) (fun _ => rfl) ?_
        refine Z_go (f2 := (73, [(1, .int (Zi (n + (-1)))), (3, .int (Zi (u.2.1 90 k))), (2, .int (Zi k)), (0, .ref 83)], [.int (Zi 7), .int (Zi (u.2.1 90 k)), .long (u.2.2.2 95 (n + (-1))), .long (u.2.2.2 95 (n + (-1) - 1)), .int (Zi (n + (-1) - 1)), .ref 95])) (fun _ => rfl) ?_
        refine Z_cne rfl rfl (by first | exact hs.zF _ | exact Zor_r _ _ | exact hs.zA _ _ | assumption | exact zS _ | exact Zr_not (hs.zA _ _) | exact ⟨by omega, by omega⟩) (by first | exact hs.zF _ | exact Zor_r _ _ | exact hs.zA _ _ | assumption | exact zS _ | exact Zr_not (hs.zA _ _) | exact ⟨by omega, by omega⟩) (fun c4 => ?_) (fun c4 => ?_)
        · refine Z_go (f2 := (81, [(1, .int (Zi (n + (-1)))), (3, .int (Zi (u.2.1 90 k))), (2, .int (Zi k)), (0, .ref 83)], [.long (0), .long (u.2.2.2 95 (n + (-1))), .long (u.2.2.2 95 (n + (-1) - 1)), .int (Zi (n + (-1) - 1)), .ref 95])) (fun _ => rfl) ?_
          refine Z_go (f2 := (82, [(1, .int (Zi (n + (-1)))), (3, .int (Zi (u.2.1 90 k))), (2, .int (Zi k)), (0, .ref 83)], [.long ((u.2.2.2 95 (n + (-1))) + 0), .long (u.2.2.2 95 (n + (-1) - 1)), .int (Zi (n + (-1) - 1)), .ref 95])) (fun _ => rfl) ?_
          refine Z_go (f2 := (83, [(1, .int (Zi (n + (-1)))), (3, .int (Zi (u.2.1 90 k))), (2, .int (Zi k)), (0, .ref 83)], [.long ((u.2.2.2 95 (n + (-1) - 1)) + ((u.2.2.2 95 (n + (-1))) + 0)), .int (Zi (n + (-1) - 1)), .ref 95])) (fun _ => rfl) ?_
          refine R_ls (q := 11) rfl hs rfl rfl (by omega) (by omega) (by decide) (fun h hs => ?_)
          refine Z_go (f2 := (179, [(1, .int (Zi (n + (-1)))), (3, .int (Zi (u.2.1 90 k))), (2, .int (Zi k)), (0, .ref 83)], [])) (fun _ => rfl) ?_
          refine Z_iinc (L2 := [(2, .int (Zi (k + 1))), (1, .int (Zi (n + (-1)))), (3, .int (Zi (u.2.1 90 k))), (0, .ref 83)]) rfl rfl (by decide) rfl ?_
          refine Z_goto (p2 := 4) rfl (by decide +kernel) (by decide +kernel) ?_
          refine B_loc (K := [(2, .int (Zi (k + 1))), (1, .int (Zi (n + (-1)))), (0, .ref 83)]) (N_all_sub ⟨rfl, rfl, rfl, trivial⟩) (show ([2, 1, 0] : List Nat).Nodup by decide) ?_
          rw [show n + (-1) - 1 = n - 2 by omega] at hs
          rw [show n + (-1) = n - 1 by omega] at hs ⊢
          exact kont _ hs
        · exfalso; omega
    · exfalso; omega
theorem R_sz_or {d : Nat} {h0 h : E_H} {u : R_S} {sl : Nat} {Φ : E_R → Prop} {k n : Int} (hs : R_is h0 h u) (k0 : 0 ≤ k) (k1 : k < u.1 13) (k2 : u.1 13 ≤ 400) (n0 : 0 ≤ n) (n1 : n ≤ 60) (n2 : 2 ≤ n) (o1 : u.2.1 90 k = 7) (kont : ∀ h : E_H, R_is h0 h (R_sM u 95 (n - 2) (u.2.2.2 95 (n - 2) + (u.2.2.2 95 (n - 1) + 1))) → B_R d E_m212 (4, [(2, .int (Zi (k + 1))), (1, .int (Zi (n - 1))), (0, .ref 83)], []) h sl Φ) : B_R d E_m212 (4, [(2, .int (Zi k)), (1, .int (Zi n)), (0, .ref 83)], []) h sl Φ := by
  refine Z_go (f2 := (5, [(2, .int (Zi k)), (1, .int (Zi n)), (0, .ref 83)], [.int (Zi k)])) (fun _ => rfl) ?_
  refine Z_go (f2 := (6, [(2, .int (Zi k)), (1, .int (Zi n)), (0, .ref 83)], [.ref 83, .int (Zi k)])) (fun _ => rfl) ?_
  refine R_gi rfl hs rfl ?_
  show B_R _ _ (9, [(2, .int (Zi k)), (1, .int (Zi n)), (0, .ref 83)], [.int (Zi (u.1 13)), .int (Zi k)]) _ _ _
  refine Z_cge rfl rfl (by first | exact hs.zF _ | exact Zor_r _ _ | exact hs.zA _ _ | assumption | exact zS _ | exact Zr_not (hs.zA _ _) | exact ⟨by omega, by omega⟩) (by first | exact hs.zF _ | exact Zor_r _ _ | exact hs.zA _ _ | assumption | exact zS _ | exact Zr_not (hs.zA _ _) | exact ⟨by omega, by omega⟩) (fun c1 => ?_) (fun c1 => ?_)
  · exfalso; omega
  · refine Z_go (f2 := (13, [(2, .int (Zi k)), (1, .int (Zi n)), (0, .ref 83)], [.ref 83])) (fun _ => rfl) ?_
    refine R_gr (q := 88) rfl hs rfl ?_
    show B_R _ _ (16, [(2, .int (Zi k)), (1, .int (Zi n)), (0, .ref 83)], [.ref 90]) _ _ _
    refine Z_go (f2 := (17, [(2, .int (Zi k)), (1, .int (Zi n)), (0, .ref 83)], [.int (Zi k), .ref 90])) (fun _ => rfl) ?_
    refine R_ia (q := 6) rfl hs rfl rfl (by omega) (by omega) (by decide) ?_
    refine Z_go (f2 := (19, [(3, .int (Zi (u.2.1 90 k))), (2, .int (Zi k)), (1, .int (Zi n)), (0, .ref 83)], [])) (fun _ => rfl) ?_
    refine Z_go (f2 := (20, [(3, .int (Zi (u.2.1 90 k))), (2, .int (Zi k)), (1, .int (Zi n)), (0, .ref 83)], [.int (Zi (u.2.1 90 k))])) (fun _ => rfl) ?_
    refine Z_go (f2 := (21, [(3, .int (Zi (u.2.1 90 k))), (2, .int (Zi k)), (1, .int (Zi n)), (0, .ref 83)], [.int (Zi 5), .int (Zi (u.2.1 90 k))])) (fun _ => rfl) ?_
    refine Z_cgt rfl rfl (by first | exact hs.zF _ | exact Zor_r _ _ | exact hs.zA _ _ | assumption | exact zS _ | exact Zr_not (hs.zA _ _) | exact ⟨by omega, by omega⟩) (by first | exact hs.zF _ | exact Zor_r _ _ | exact hs.zA _ _ | assumption | exact zS _ | exact Zr_not (hs.zA _ _) | exact ⟨by omega, by omega⟩) (fun c2 => ?_) (fun c2 => ?_)
    · refine Z_go (f2 := (47, [(3, .int (Zi (u.2.1 90 k))), (2, .int (Zi k)), (1, .int (Zi n)), (0, .ref 83)], [.int (Zi (u.2.1 90 k))])) (fun _ => rfl) ?_
      refine Z_go (f2 := (49, [(3, .int (Zi (u.2.1 90 k))), (2, .int (Zi k)), (1, .int (Zi n)), (0, .ref 83)], [.int (Zi 7), .int (Zi (u.2.1 90 k))])) (fun _ => rfl) ?_
      refine Z_cgt rfl rfl (by first | exact hs.zF _ | exact Zor_r _ _ | exact hs.zA _ _ | assumption | exact zS _ | exact Zr_not (hs.zA _ _) | exact ⟨by omega, by omega⟩) (by first | exact hs.zF _ | exact Zor_r _ _ | exact hs.zA _ _ | assumption | exact zS _ | exact Zr_not (hs.zA _ _) | exact ⟨by omega, by omega⟩) (fun c3 => ?_) (fun c3 => ?_)
      · exfalso; omega
      · refine Z_iinc (L2 := [(1, .int (Zi (n + (-1)))), (3, .int (Zi (u.2.1 90 k))), (2, .int (Zi k)), (0, .ref 83)]) rfl rfl (by decide) rfl ?_
        refine Z_go (f2 := (56, [(1, .int (Zi (n + (-1)))), (3, .int (Zi (u.2.1 90 k))), (2, .int (Zi k)), (0, .ref 83)], [.ref 83])) (fun _ => rfl) ?_
        refine R_gr (q := 93) rfl hs rfl ?_
        show B_R _ _ (59, [(1, .int (Zi (n + (-1)))), (3, .int (Zi (u.2.1 90 k))), (2, .int (Zi k)), (0, .ref 83)], [.ref 95]) _ _ _
        refine Z_go (f2 := (60, [(1, .int (Zi (n + (-1)))), (3, .int (Zi (u.2.1 90 k))), (2, .int (Zi k)), (0, .ref 83)], [.int (Zi (n + (-1))), .ref 95])) (fun _ => rfl) ?_
        refine Z_go (f2 := (61, [(1, .int (Zi (n + (-1)))), (3, .int (Zi (u.2.1 90 k))), (2, .int (Zi k)), (0, .ref 83)], [.int (Zi 1), .int (Zi (n + (-1))), .ref 95])) (fun _ => rfl) ?_
        refine Z_isub rfl ?_
        refine Z_go (f2 := (63, [(1, .int (Zi (n + (-1)))), (3, .int (Zi (u.2.1 90 k))), (2, .int (Zi k)), (0, .ref 83)], [.int (Zi (n + (-1) - 1)), .ref 95, .int (Zi (n + (-1) - 1)), .ref 95])) (fun _ => rfl) ?_
        refine R_la (q := 11) rfl hs rfl rfl (by omega) (by omega) (by decide) ?_
        refine Z_go (f2 := (65, [(1, .int (Zi (n + (-1)))), (3, .int (Zi (u.2.1 90 k))), (2, .int (Zi k)), (0, .ref 83)], [.ref 83, .long (u.2.2.2 95 (n + (-1) - 1)), .int (Zi (n + (-1) - 1)), .ref 95])) (fun _ => rfl) ?_
        refine R_gr (q := 93) rfl hs rfl ?_
        show B_R _ _ (68, [(1, .int (Zi (n + (-1)))), (3, .int (Zi (u.2.1 90 k))), (2, .int (Zi k)), (0, .ref 83)], [.ref 95, .long (u.2.2.2 95 (n + (-1) - 1)), .int (Zi (n + (-1) - 1)), .ref 95]) _ _ _
        refine Z_go (f2 := (69, [(1, .int (Zi (n + (-1)))), (3, .int (Zi (u.2.1 90 k))), (2, .int (Zi k)), (0, .ref 83)], [.int (Zi (n + (-1))), .ref 95, .long (u.2.2.2 95 (n + (-1) - 1)), .int (Zi (n + (-1) - 1)), .ref 95])) (fun _ => rfl) ?_
        refine R_la (q := 11) rfl hs rfl rfl (by omega) (by omega) (by decide) ?_
        refine Z_go (f2 := (71, [(1, .int (Zi (n + (-1)))), (3, .int (Zi (u.2.1 90 k))), (2, .int (Zi k)), (0, .ref 83)], [.int (Zi (u.2.1 90 k)), .long (u.2.2.2 95 (n + (-1))), .long (u.2.2.2 95 (n + (-1) - 1)), .int (Zi (n + (-1) - 1)), .ref 95])) (fun _ => rfl) ?_
        refine Z_go (f2 := (73, [(1, .int (Zi (n + (-1)))), (3, .int (Zi (u.2.1 90 k))), (2, .int (Zi k)), (0, .ref 83)], [.int (Zi 7), .int (Zi (u.2.1 90 k)), .long (u.2.2.2 95 (n + (-1))), .long (u.2.2.2 95 (n + (-1) - 1)), .int (Zi (n + (-1) - 1)), .ref 95])) (fun _ => rfl) ?_
        refine Z_cne rfl rfl (by first | exact hs.zF _ | exact Zor_r _ _ | exact hs.zA _ _ | assumption | exact zS _ | exact Zr_not (hs.zA _ _) | exact ⟨by omega, by omega⟩) (by first | exact hs.zF _ | exact Zor_r _ _ | exact hs.zA _ _ | assumption | exact zS _ | exact Zr_not (hs.zA _ _) | exact ⟨by omega, by omega⟩) (fun c4 => ?_) (fun c4 => ?_)
        · exfalso; omega
        · refine Z_go (f2 := (77, [(1, .int (Zi (n + (-1)))), (3, .int (Zi (u.2.1 90 k))), (2, .int (Zi k)), (0, .ref 83)], [.long (1), .long (u.2.2.2 95 (n + (-1))), .long (u.2.2.2 95 (n + (-1) - 1)), .int (Zi (n + (-1) - 1)), .ref 95])) (fun _ => rfl) ?_
          refine Z_go (f2 := (81, [(1, .int (Zi (n + (-1)))), (3, .int (Zi (u.2.1 90 k))), (2, .int (Zi k)), (0, .ref 83)], [.long (1), .long (u.2.2.2 95 (n + (-1))), .long (u.2.2.2 95 (n + (-1) - 1)), .int (Zi (n + (-1) - 1)), .ref 95])) (fun _ => rfl) ?_
          refine Z_go (f2 := (82, [(1, .int (Zi (n + (-1)))), (3, .int (Zi (u.2.1 90 k))), (2, .int (Zi k)), (0, .ref 83)], [.long ((u.2.2.2 95 (n + (-1))) + 1), .long (u.2.2.2 95 (n + (-1) - 1)), .int (Zi (n + (-1) - 1)), .ref 95])) (fun _ => rfl) ?_
          refine Z_go (f2 := (83, [(1, .int (Zi (n + (-1)))), (3, .int (Zi (u.2.1 90 k))), (2, .int (Zi k)), (0, .ref 83)], [.long ((u.2.2.2 95 (n + (-1) - 1)) + ((u.2.2.2 95 (n + (-1))) + 1)), .int (Zi (n + (-1) - 1)), .ref 95])) (fun _ => rfl) ?_
          refine R_ls (q := 11) rfl hs rfl rfl (by omega) (by omega) (by decide) (fun h hs => ?_)
          refine Z_go (f2 := (179, [(1, .int (Zi (n + (-1)))), (3, .int (Zi (u.2.1 90 k))), (2, .int (Zi k)), (0, .ref 83)], [])) (fun _ => rfl) ?_
          refine Z_iinc (L2 := [(2, .int (Zi (k + 1))), (1, .int (Zi (n + (-1)))), (3, .int (Zi (u.2.1 90 k))), (0, .ref 83)]) rfl rfl (by decide) rfl ?_
          refine Z_goto (p2 := 4) rfl (by decide +kernel) (by decide +kernel) ?_
          refine B_loc (K := [(2, .int (Zi (k + 1))), (1, .int (Zi (n + (-1)))), (0, .ref 83)]) (N_all_sub ⟨rfl, rfl, rfl, trivial⟩) (show ([2, 1, 0] : List Nat).Nodup by decide) ?_
          rw [show n + (-1) - 1 = n - 2 by omega] at hs
          rw [show n + (-1) = n - 1 by omega] at hs ⊢
          exact kont _ hs
    · exfalso; omega
theorem R_sz_inc {d : Nat} {h0 h : E_H} {u : R_S} {sl : Nat} {Φ : E_R → Prop} {k n : Int} (hs : R_is h0 h u) (k0 : 0 ≤ k) (k1 : k < u.1 13) (k2 : u.1 13 ≤ 400) (n0 : 0 ≤ n) (n1 : n ≤ 60) (n2 : 1 ≤ n) (o1 : 8 ≤ u.2.1 90 k) (o2 : u.2.1 90 k < 11) (kont : ∀ h : E_H, R_is h0 h (R_sM u 95 (n - 1) (u.2.2.2 95 (n - 1) + 1)) → B_R d E_m212 (4, [(2, .int (Zi (k + 1))), (1, .int (Zi (n))), (0, .ref 83)], []) h sl Φ) : B_R d E_m212 (4, [(2, .int (Zi k)), (1, .int (Zi n)), (0, .ref 83)], []) h sl Φ := by
  refine Z_go (f2 := (5, [(2, .int (Zi k)), (1, .int (Zi n)), (0, .ref 83)], [.int (Zi k)])) (fun _ => rfl) ?_
  refine Z_go (f2 := (6, [(2, .int (Zi k)), (1, .int (Zi n)), (0, .ref 83)], [.ref 83, .int (Zi k)])) (fun _ => rfl) ?_
  refine R_gi rfl hs rfl ?_
  show B_R _ _ (9, [(2, .int (Zi k)), (1, .int (Zi n)), (0, .ref 83)], [.int (Zi (u.1 13)), .int (Zi k)]) _ _ _
  refine Z_cge rfl rfl (by first | exact hs.zF _ | exact Zor_r _ _ | exact hs.zA _ _ | assumption | exact zS _ | exact Zr_not (hs.zA _ _) | exact ⟨by omega, by omega⟩) (by first | exact hs.zF _ | exact Zor_r _ _ | exact hs.zA _ _ | assumption | exact zS _ | exact Zr_not (hs.zA _ _) | exact ⟨by omega, by omega⟩) (fun c1 => ?_) (fun c1 => ?_)
  · exfalso; omega
  · refine Z_go (f2 := (13, [(2, .int (Zi k)), (1, .int (Zi n)), (0, .ref 83)], [.ref 83])) (fun _ => rfl) ?_
    refine R_gr (q := 88) rfl hs rfl ?_
    show B_R _ _ (16, [(2, .int (Zi k)), (1, .int (Zi n)), (0, .ref 83)], [.ref 90]) _ _ _
    refine Z_go (f2 := (17, [(2, .int (Zi k)), (1, .int (Zi n)), (0, .ref 83)], [.int (Zi k), .ref 90])) (fun _ => rfl) ?_
    refine R_ia (q := 6) rfl hs rfl rfl (by omega) (by omega) (by decide) ?_
    refine Z_go (f2 := (19, [(3, .int (Zi (u.2.1 90 k))), (2, .int (Zi k)), (1, .int (Zi n)), (0, .ref 83)], [])) (fun _ => rfl) ?_
    refine Z_go (f2 := (20, [(3, .int (Zi (u.2.1 90 k))), (2, .int (Zi k)), (1, .int (Zi n)), (0, .ref 83)], [.int (Zi (u.2.1 90 k))])) (fun _ => rfl) ?_
    refine Z_go (f2 := (21, [(3, .int (Zi (u.2.1 90 k))), (2, .int (Zi k)), (1, .int (Zi n)), (0, .ref 83)], [.int (Zi 5), .int (Zi (u.2.1 90 k))])) (fun _ => rfl) ?_
    refine Z_cgt rfl rfl (by first | exact hs.zF _ | exact Zor_r _ _ | exact hs.zA _ _ | assumption | exact zS _ | exact Zr_not (hs.zA _ _) | exact ⟨by omega, by omega⟩) (by first | exact hs.zF _ | exact Zor_r _ _ | exact hs.zA _ _ | assumption | exact zS _ | exact Zr_not (hs.zA _ _) | exact ⟨by omega, by omega⟩) (fun c2 => ?_) (fun c2 => ?_)
    · refine Z_go (f2 := (47, [(3, .int (Zi (u.2.1 90 k))), (2, .int (Zi k)), (1, .int (Zi n)), (0, .ref 83)], [.int (Zi (u.2.1 90 k))])) (fun _ => rfl) ?_
      refine Z_go (f2 := (49, [(3, .int (Zi (u.2.1 90 k))), (2, .int (Zi k)), (1, .int (Zi n)), (0, .ref 83)], [.int (Zi 7), .int (Zi (u.2.1 90 k))])) (fun _ => rfl) ?_
      refine Z_cgt rfl rfl (by first | exact hs.zF _ | exact Zor_r _ _ | exact hs.zA _ _ | assumption | exact zS _ | exact Zr_not (hs.zA _ _) | exact ⟨by omega, by omega⟩) (by first | exact hs.zF _ | exact Zor_r _ _ | exact hs.zA _ _ | assumption | exact zS _ | exact Zr_not (hs.zA _ _) | exact ⟨by omega, by omega⟩) (fun c3 => ?_) (fun c3 => ?_)
      · refine Z_go (f2 := (88, [(3, .int (Zi (u.2.1 90 k))), (2, .int (Zi k)), (1, .int (Zi n)), (0, .ref 83)], [.int (Zi (u.2.1 90 k))])) (fun _ => rfl) ?_
        refine Z_go (f2 := (90, [(3, .int (Zi (u.2.1 90 k))), (2, .int (Zi k)), (1, .int (Zi n)), (0, .ref 83)], [.int (Zi 11), .int (Zi (u.2.1 90 k))])) (fun _ => rfl) ?_
        refine Z_cge rfl rfl (by first | exact hs.zF _ | exact Zor_r _ _ | exact hs.zA _ _ | assumption | exact zS _ | exact Zr_not (hs.zA _ _) | exact ⟨by omega, by omega⟩) (by first | exact hs.zF _ | exact Zor_r _ _ | exact hs.zA _ _ | assumption | exact zS _ | exact Zr_not (hs.zA _ _) | exact ⟨by omega, by omega⟩) (fun c4 => ?_) (fun c4 => ?_)
        · exfalso; omega
        · refine Z_go (f2 := (94, [(3, .int (Zi (u.2.1 90 k))), (2, .int (Zi k)), (1, .int (Zi n)), (0, .ref 83)], [.ref 83])) (fun _ => rfl) ?_
          refine R_gr (q := 93) rfl hs rfl ?_
          show B_R _ _ (97, [(3, .int (Zi (u.2.1 90 k))), (2, .int (Zi k)), (1, .int (Zi n)), (0, .ref 83)], [.ref 95]) _ _ _
          refine Z_go (f2 := (98, [(3, .int (Zi (u.2.1 90 k))), (2, .int (Zi k)), (1, .int (Zi n)), (0, .ref 83)], [.int (Zi n), .ref 95])) (fun _ => rfl) ?_
          refine Z_go (f2 := (99, [(3, .int (Zi (u.2.1 90 k))), (2, .int (Zi k)), (1, .int (Zi n)), (0, .ref 83)], [.int (Zi 1), .int (Zi n), .ref 95])) (fun _ => rfl) ?_
          refine Z_isub rfl ?_
          refine Z_go (f2 := (101, [(3, .int (Zi (u.2.1 90 k))), (2, .int (Zi k)), (1, .int (Zi n)), (0, .ref 83)], [.int (Zi (n - 1)), .ref 95, .int (Zi (n - 1)), .ref 95])) (fun _ => rfl) ?_
          refine R_la (q := 11) rfl hs rfl rfl (by omega) (by omega) (by decide) ?_
          refine Z_go (f2 := (103, [(3, .int (Zi (u.2.1 90 k))), (2, .int (Zi k)), (1, .int (Zi n)), (0, .ref 83)], [.long (1), .long (u.2.2.2 95 (n - 1)), .int (Zi (n - 1)), .ref 95])) (fun _ => rfl) ?_
          refine Z_go (f2 := (104, [(3, .int (Zi (u.2.1 90 k))), (2, .int (Zi k)), (1, .int (Zi n)), (0, .ref 83)], [.long ((u.2.2.2 95 (n - 1)) + 1), .int (Zi (n - 1)), .ref 95])) (fun _ => rfl) ?_
          refine R_ls (q := 11) rfl hs rfl rfl (by omega) (by omega) (by decide) (fun h hs => ?_)
          refine Z_go (f2 := (179, [(3, .int (Zi (u.2.1 90 k))), (2, .int (Zi k)), (1, .int (Zi n)), (0, .ref 83)], [])) (fun _ => rfl) ?_
          refine Z_iinc (L2 := [(2, .int (Zi (k + 1))), (3, .int (Zi (u.2.1 90 k))), (1, .int (Zi n)), (0, .ref 83)]) rfl rfl (by decide) rfl ?_
          refine Z_goto (p2 := 4) rfl (by decide +kernel) (by decide +kernel) ?_
          refine B_loc (K := [(2, .int (Zi (k + 1))), (1, .int (Zi n)), (0, .ref 83)]) (N_all_sub ⟨rfl, rfl, rfl, trivial⟩) (show ([2, 1, 0] : List Nat).Nodup by decide) ?_
          exact kont _ hs
      · exfalso; omega
    · exfalso; omega
theorem R_sz_on {d : Nat} {h0 h : E_H} {u : R_S} {sl : Nat} {Φ : E_R → Prop} {k n : Int} (hs : R_is h0 h u) (k0 : 0 ≤ k) (k1 : k < u.1 13) (k2 : u.1 13 ≤ 400) (n0 : 0 ≤ n) (n1 : n ≤ 60) (n2 : 1 ≤ n) (o1 : u.2.1 90 k = 11) (hi : u.2.1 92 k = -1) (kont : ∀ h : E_H, R_is h0 h (R_sM u 95 (n - 1) ((Zi (u.2.1 91 k + 1)).toInt64 * u.2.2.2 95 (n - 1) + 1)) → B_R d E_m212 (4, [(2, .int (Zi (k + 1))), (1, .int (Zi (n))), (0, .ref 83)], []) h sl Φ) : B_R d E_m212 (4, [(2, .int (Zi k)), (1, .int (Zi n)), (0, .ref 83)], []) h sl Φ := by
  refine Z_go (f2 := (5, [(2, .int (Zi k)), (1, .int (Zi n)), (0, .ref 83)], [.int (Zi k)])) (fun _ => rfl) ?_
  refine Z_go (f2 := (6, [(2, .int (Zi k)), (1, .int (Zi n)), (0, .ref 83)], [.ref 83, .int (Zi k)])) (fun _ => rfl) ?_
  refine R_gi rfl hs rfl ?_
  show B_R _ _ (9, [(2, .int (Zi k)), (1, .int (Zi n)), (0, .ref 83)], [.int (Zi (u.1 13)), .int (Zi k)]) _ _ _
  refine Z_cge rfl rfl (by first | exact hs.zF _ | exact Zor_r _ _ | exact hs.zA _ _ | assumption | exact zS _ | exact Zr_not (hs.zA _ _) | exact ⟨by omega, by omega⟩) (by first | exact hs.zF _ | exact Zor_r _ _ | exact hs.zA _ _ | assumption | exact zS _ | exact Zr_not (hs.zA _ _) | exact ⟨by omega, by omega⟩) (fun c1 => ?_) (fun c1 => ?_)
  · exfalso; omega
  · refine Z_go (f2 := (13, [(2, .int (Zi k)), (1, .int (Zi n)), (0, .ref 83)], [.ref 83])) (fun _ => rfl) ?_
    refine R_gr (q := 88) rfl hs rfl ?_
    show B_R _ _ (16, [(2, .int (Zi k)), (1, .int (Zi n)), (0, .ref 83)], [.ref 90]) _ _ _
    refine Z_go (f2 := (17, [(2, .int (Zi k)), (1, .int (Zi n)), (0, .ref 83)], [.int (Zi k), .ref 90])) (fun _ => rfl) ?_
    refine R_ia (q := 6) rfl hs rfl rfl (by omega) (by omega) (by decide) ?_
    refine Z_go (f2 := (19, [(3, .int (Zi (u.2.1 90 k))), (2, .int (Zi k)), (1, .int (Zi n)), (0, .ref 83)], [])) (fun _ => rfl) ?_
    refine Z_go (f2 := (20, [(3, .int (Zi (u.2.1 90 k))), (2, .int (Zi k)), (1, .int (Zi n)), (0, .ref 83)], [.int (Zi (u.2.1 90 k))])) (fun _ => rfl) ?_
    refine Z_go (f2 := (21, [(3, .int (Zi (u.2.1 90 k))), (2, .int (Zi k)), (1, .int (Zi n)), (0, .ref 83)], [.int (Zi 5), .int (Zi (u.2.1 90 k))])) (fun _ => rfl) ?_
    refine Z_cgt rfl rfl (by first | exact hs.zF _ | exact Zor_r _ _ | exact hs.zA _ _ | assumption | exact zS _ | exact Zr_not (hs.zA _ _) | exact ⟨by omega, by omega⟩) (by first | exact hs.zF _ | exact Zor_r _ _ | exact hs.zA _ _ | assumption | exact zS _ | exact Zr_not (hs.zA _ _) | exact ⟨by omega, by omega⟩) (fun c2 => ?_) (fun c2 => ?_)
    · refine Z_go (f2 := (47, [(3, .int (Zi (u.2.1 90 k))), (2, .int (Zi k)), (1, .int (Zi n)), (0, .ref 83)], [.int (Zi (u.2.1 90 k))])) (fun _ => rfl) ?_
      refine Z_go (f2 := (49, [(3, .int (Zi (u.2.1 90 k))), (2, .int (Zi k)), (1, .int (Zi n)), (0, .ref 83)], [.int (Zi 7), .int (Zi (u.2.1 90 k))])) (fun _ => rfl) ?_
      refine Z_cgt rfl rfl (by first | exact hs.zF _ | exact Zor_r _ _ | exact hs.zA _ _ | assumption | exact zS _ | exact Zr_not (hs.zA _ _) | exact ⟨by omega, by omega⟩) (by first | exact hs.zF _ | exact Zor_r _ _ | exact hs.zA _ _ | assumption | exact zS _ | exact Zr_not (hs.zA _ _) | exact ⟨by omega, by omega⟩) (fun c3 => ?_) (fun c3 => ?_)
      · refine Z_go (f2 := (88, [(3, .int (Zi (u.2.1 90 k))), (2, .int (Zi k)), (1, .int (Zi n)), (0, .ref 83)], [.int (Zi (u.2.1 90 k))])) (fun _ => rfl) ?_
        refine Z_go (f2 := (90, [(3, .int (Zi (u.2.1 90 k))), (2, .int (Zi k)), (1, .int (Zi n)), (0, .ref 83)], [.int (Zi 11), .int (Zi (u.2.1 90 k))])) (fun _ => rfl) ?_
        refine Z_cge rfl rfl (by first | exact hs.zF _ | exact Zor_r _ _ | exact hs.zA _ _ | assumption | exact zS _ | exact Zr_not (hs.zA _ _) | exact ⟨by omega, by omega⟩) (by first | exact hs.zF _ | exact Zor_r _ _ | exact hs.zA _ _ | assumption | exact zS _ | exact Zr_not (hs.zA _ _) | exact ⟨by omega, by omega⟩) (fun c4 => ?_) (fun c4 => ?_)
        · refine Z_go (f2 := (109, [(3, .int (Zi (u.2.1 90 k))), (2, .int (Zi k)), (1, .int (Zi n)), (0, .ref 83)], [.ref 83])) (fun _ => rfl) ?_
          refine R_gr (q := 93) rfl hs rfl ?_
          show B_R _ _ (112, [(3, .int (Zi (u.2.1 90 k))), (2, .int (Zi k)), (1, .int (Zi n)), (0, .ref 83)], [.ref 95]) _ _ _
          refine Z_go (f2 := (113, [(3, .int (Zi (u.2.1 90 k))), (2, .int (Zi k)), (1, .int (Zi n)), (0, .ref 83)], [.int (Zi n), .ref 95])) (fun _ => rfl) ?_
          refine Z_go (f2 := (114, [(3, .int (Zi (u.2.1 90 k))), (2, .int (Zi k)), (1, .int (Zi n)), (0, .ref 83)], [.int (Zi 1), .int (Zi n), .ref 95])) (fun _ => rfl) ?_
          refine Z_isub rfl ?_
          refine R_la (q := 11) rfl hs rfl rfl (by omega) (by omega) (by decide) ?_
          refine Z_go (f2 := (118, [(4, .long (u.2.2.2 95 (n - 1))), (3, .int (Zi (u.2.1 90 k))), (2, .int (Zi k)), (1, .int (Zi n)), (0, .ref 83)], [])) (fun _ => rfl) ?_
          refine Z_go (f2 := (119, [(4, .long (u.2.2.2 95 (n - 1))), (3, .int (Zi (u.2.1 90 k))), (2, .int (Zi k)), (1, .int (Zi n)), (0, .ref 83)], [.ref 83])) (fun _ => rfl) ?_
          refine R_gr (q := 93) rfl hs rfl ?_
          show B_R _ _ (122, [(4, .long (u.2.2.2 95 (n - 1))), (3, .int (Zi (u.2.1 90 k))), (2, .int (Zi k)), (1, .int (Zi n)), (0, .ref 83)], [.ref 95]) _ _ _
          refine Z_go (f2 := (123, [(4, .long (u.2.2.2 95 (n - 1))), (3, .int (Zi (u.2.1 90 k))), (2, .int (Zi k)), (1, .int (Zi n)), (0, .ref 83)], [.int (Zi n), .ref 95])) (fun _ => rfl) ?_
          refine Z_go (f2 := (124, [(4, .long (u.2.2.2 95 (n - 1))), (3, .int (Zi (u.2.1 90 k))), (2, .int (Zi k)), (1, .int (Zi n)), (0, .ref 83)], [.int (Zi 1), .int (Zi n), .ref 95])) (fun _ => rfl) ?_
          refine Z_isub rfl ?_
          refine Z_go (f2 := (126, [(4, .long (u.2.2.2 95 (n - 1))), (3, .int (Zi (u.2.1 90 k))), (2, .int (Zi k)), (1, .int (Zi n)), (0, .ref 83)], [.ref 83, .int (Zi (n - 1)), .ref 95])) (fun _ => rfl) ?_
          refine R_gr (q := 90) rfl hs rfl ?_
          show B_R _ _ (129, [(4, .long (u.2.2.2 95 (n - 1))), (3, .int (Zi (u.2.1 90 k))), (2, .int (Zi k)), (1, .int (Zi n)), (0, .ref 83)], [.ref 92, .int (Zi (n - 1)), .ref 95]) _ _ _
          refine Z_go (f2 := (130, [(4, .long (u.2.2.2 95 (n - 1))), (3, .int (Zi (u.2.1 90 k))), (2, .int (Zi k)), (1, .int (Zi n)), (0, .ref 83)], [.int (Zi k), .ref 92, .int (Zi (n - 1)), .ref 95])) (fun _ => rfl) ?_
          refine R_ia (q := 8) rfl hs rfl rfl (by omega) (by omega) (by decide) ?_
          refine Z_go (f2 := (132, [(4, .long (u.2.2.2 95 (n - 1))), (3, .int (Zi (u.2.1 90 k))), (2, .int (Zi k)), (1, .int (Zi n)), (0, .ref 83)], [.int (Zi (-1)), .int (Zi (u.2.1 92 k)), .int (Zi (n - 1)), .ref 95])) (fun _ => rfl) ?_
          refine Z_cne rfl rfl (by first | exact hs.zF _ | exact Zor_r _ _ | exact hs.zA _ _ | assumption | exact zS _ | exact Zr_not (hs.zA _ _) | exact ⟨by omega, by omega⟩) (by first | exact hs.zF _ | exact Zor_r _ _ | exact hs.zA _ _ | assumption | exact zS _ | exact Zr_not (hs.zA _ _) | exact ⟨by omega, by omega⟩) (fun c5 => ?_) (fun c5 => ?_)
          · exfalso; omega
          · refine Z_go (f2 := (136, [(4, .long (u.2.2.2 95 (n - 1))), (3, .int (Zi (u.2.1 90 k))), (2, .int (Zi k)), (1, .int (Zi n)), (0, .ref 83)], [.ref 83, .int (Zi (n - 1)), .ref 95])) (fun _ => rfl) ?_
            refine R_gr (q := 89) rfl hs rfl ?_
            show B_R _ _ (139, [(4, .long (u.2.2.2 95 (n - 1))), (3, .int (Zi (u.2.1 90 k))), (2, .int (Zi k)), (1, .int (Zi n)), (0, .ref 83)], [.ref 91, .int (Zi (n - 1)), .ref 95]) _ _ _
            refine Z_go (f2 := (140, [(4, .long (u.2.2.2 95 (n - 1))), (3, .int (Zi (u.2.1 90 k))), (2, .int (Zi k)), (1, .int (Zi n)), (0, .ref 83)], [.int (Zi k), .ref 91, .int (Zi (n - 1)), .ref 95])) (fun _ => rfl) ?_
            refine R_ia (q := 7) rfl hs rfl rfl (by omega) (by omega) (by decide) ?_
            refine Z_go (f2 := (142, [(4, .long (u.2.2.2 95 (n - 1))), (3, .int (Zi (u.2.1 90 k))), (2, .int (Zi k)), (1, .int (Zi n)), (0, .ref 83)], [.int (Zi 1), .int (Zi (u.2.1 91 k)), .int (Zi (n - 1)), .ref 95])) (fun _ => rfl) ?_
            refine Z_iadd rfl ?_
            refine Z_go (f2 := (144, [(4, .long (u.2.2.2 95 (n - 1))), (3, .int (Zi (u.2.1 90 k))), (2, .int (Zi k)), (1, .int (Zi n)), (0, .ref 83)], [.long ((Zi (u.2.1 91 k + 1)).toInt64), .int (Zi (n - 1)), .ref 95])) (fun _ => rfl) ?_
            refine Z_go (f2 := (146, [(4, .long (u.2.2.2 95 (n - 1))), (3, .int (Zi (u.2.1 90 k))), (2, .int (Zi k)), (1, .int (Zi n)), (0, .ref 83)], [.long (u.2.2.2 95 (n - 1)), .long ((Zi (u.2.1 91 k + 1)).toInt64), .int (Zi (n - 1)), .ref 95])) (fun _ => rfl) ?_
            refine Z_go (f2 := (147, [(4, .long (u.2.2.2 95 (n - 1))), (3, .int (Zi (u.2.1 90 k))), (2, .int (Zi k)), (1, .int (Zi n)), (0, .ref 83)], [.long (((Zi (u.2.1 91 k + 1)).toInt64) * (u.2.2.2 95 (n - 1))), .int (Zi (n - 1)), .ref 95])) (fun _ => rfl) ?_
            refine Z_go (f2 := (148, [(4, .long (u.2.2.2 95 (n - 1))), (3, .int (Zi (u.2.1 90 k))), (2, .int (Zi k)), (1, .int (Zi n)), (0, .ref 83)], [.long (1), .long (((Zi (u.2.1 91 k + 1)).toInt64) * (u.2.2.2 95 (n - 1))), .int (Zi (n - 1)), .ref 95])) (fun _ => rfl) ?_
            refine Z_go (f2 := (149, [(4, .long (u.2.2.2 95 (n - 1))), (3, .int (Zi (u.2.1 90 k))), (2, .int (Zi k)), (1, .int (Zi n)), (0, .ref 83)], [.long ((((Zi (u.2.1 91 k + 1)).toInt64) * (u.2.2.2 95 (n - 1))) + 1), .int (Zi (n - 1)), .ref 95])) (fun _ => rfl) ?_
            refine Z_go (f2 := (178, [(4, .long (u.2.2.2 95 (n - 1))), (3, .int (Zi (u.2.1 90 k))), (2, .int (Zi k)), (1, .int (Zi n)), (0, .ref 83)], [.long ((((Zi (u.2.1 91 k + 1)).toInt64) * (u.2.2.2 95 (n - 1))) + 1), .int (Zi (n - 1)), .ref 95])) (fun _ => rfl) ?_
            refine R_ls (q := 11) rfl hs rfl rfl (by omega) (by omega) (by decide) (fun h hs => ?_)
            refine Z_iinc (L2 := [(2, .int (Zi (k + 1))), (4, .long (u.2.2.2 95 (n - 1))), (3, .int (Zi (u.2.1 90 k))), (1, .int (Zi n)), (0, .ref 83)]) rfl rfl (by decide) rfl ?_
            refine Z_goto (p2 := 4) rfl (by decide +kernel) (by decide +kernel) ?_
            refine B_loc (K := [(2, .int (Zi (k + 1))), (1, .int (Zi n)), (0, .ref 83)]) (N_all_sub ⟨rfl, rfl, rfl, trivial⟩) (show ([2, 1, 0] : List Nat).Nodup by decide) ?_
            exact kont _ hs
        · exfalso; omega
      · exfalso; omega
    · exfalso; omega
theorem R_sz_to {d : Nat} {h0 h : E_H} {u : R_S} {sl : Nat} {Φ : E_R → Prop} {k n : Int} (hs : R_is h0 h u) (k0 : 0 ≤ k) (k1 : k < u.1 13) (k2 : u.1 13 ≤ 400) (n0 : 0 ≤ n) (n1 : n ≤ 60) (n2 : 1 ≤ n) (o1 : u.2.1 90 k = 11) (hi : u.2.1 92 k ≠ -1) (kont : ∀ h : E_H, R_is h0 h (R_sM u 95 (n - 1) ((Zi (u.2.1 92 k)).toInt64 * u.2.2.2 95 (n - 1) + (Zi (u.2.1 92 k)).toInt64 - (Zi (u.2.1 91 k)).toInt64)) → B_R d E_m212 (4, [(2, .int (Zi (k + 1))), (1, .int (Zi (n))), (0, .ref 83)], []) h sl Φ) : B_R d E_m212 (4, [(2, .int (Zi k)), (1, .int (Zi n)), (0, .ref 83)], []) h sl Φ := by
  refine Z_go (f2 := (5, [(2, .int (Zi k)), (1, .int (Zi n)), (0, .ref 83)], [.int (Zi k)])) (fun _ => rfl) ?_
  refine Z_go (f2 := (6, [(2, .int (Zi k)), (1, .int (Zi n)), (0, .ref 83)], [.ref 83, .int (Zi k)])) (fun _ => rfl) ?_
  refine R_gi rfl hs rfl ?_
  show B_R _ _ (9, [(2, .int (Zi k)), (1, .int (Zi n)), (0, .ref 83)], [.int (Zi (u.1 13)), .int (Zi k)]) _ _ _
  refine Z_cge rfl rfl (by first | exact hs.zF _ | exact Zor_r _ _ | exact hs.zA _ _ | assumption | exact zS _ | exact Zr_not (hs.zA _ _) | exact ⟨by omega, by omega⟩) (by first | exact hs.zF _ | exact Zor_r _ _ | exact hs.zA _ _ | assumption | exact zS _ | exact Zr_not (hs.zA _ _) | exact ⟨by omega, by omega⟩) (fun c1 => ?_) (fun c1 => ?_)
  · exfalso; omega
  · refine Z_go (f2 := (13, [(2, .int (Zi k)), (1, .int (Zi n)), (0, .ref 83)], [.ref 83])) (fun _ => rfl) ?_
    refine R_gr (q := 88) rfl hs rfl ?_
    show B_R _ _ (16, [(2, .int (Zi k)), (1, .int (Zi n)), (0, .ref 83)], [.ref 90]) _ _ _
    refine Z_go (f2 := (17, [(2, .int (Zi k)), (1, .int (Zi n)), (0, .ref 83)], [.int (Zi k), .ref 90])) (fun _ => rfl) ?_
    refine R_ia (q := 6) rfl hs rfl rfl (by omega) (by omega) (by decide) ?_
    refine Z_go (f2 := (19, [(3, .int (Zi (u.2.1 90 k))), (2, .int (Zi k)), (1, .int (Zi n)), (0, .ref 83)], [])) (fun _ => rfl) ?_
    refine Z_go (f2 := (20, [(3, .int (Zi (u.2.1 90 k))), (2, .int (Zi k)), (1, .int (Zi n)), (0, .ref 83)], [.int (Zi (u.2.1 90 k))])) (fun _ => rfl) ?_
    refine Z_go (f2 := (21, [(3, .int (Zi (u.2.1 90 k))), (2, .int (Zi k)), (1, .int (Zi n)), (0, .ref 83)], [.int (Zi 5), .int (Zi (u.2.1 90 k))])) (fun _ => rfl) ?_
    refine Z_cgt rfl rfl (by first | exact hs.zF _ | exact Zor_r _ _ | exact hs.zA _ _ | assumption | exact zS _ | exact Zr_not (hs.zA _ _) | exact ⟨by omega, by omega⟩) (by first | exact hs.zF _ | exact Zor_r _ _ | exact hs.zA _ _ | assumption | exact zS _ | exact Zr_not (hs.zA _ _) | exact ⟨by omega, by omega⟩) (fun c2 => ?_) (fun c2 => ?_)
    · refine Z_go (f2 := (47, [(3, .int (Zi (u.2.1 90 k))), (2, .int (Zi k)), (1, .int (Zi n)), (0, .ref 83)], [.int (Zi (u.2.1 90 k))])) (fun _ => rfl) ?_
      refine Z_go (f2 := (49, [(3, .int (Zi (u.2.1 90 k))), (2, .int (Zi k)), (1, .int (Zi n)), (0, .ref 83)], [.int (Zi 7), .int (Zi (u.2.1 90 k))])) (fun _ => rfl) ?_
      refine Z_cgt rfl rfl (by first | exact hs.zF _ | exact Zor_r _ _ | exact hs.zA _ _ | assumption | exact zS _ | exact Zr_not (hs.zA _ _) | exact ⟨by omega, by omega⟩) (by first | exact hs.zF _ | exact Zor_r _ _ | exact hs.zA _ _ | assumption | exact zS _ | exact Zr_not (hs.zA _ _) | exact ⟨by omega, by omega⟩) (fun c3 => ?_) (fun c3 => ?_)
      · refine Z_go (f2 := (88, [(3, .int (Zi (u.2.1 90 k))), (2, .int (Zi k)), (1, .int (Zi n)), (0, .ref 83)], [.int (Zi (u.2.1 90 k))])) (fun _ => rfl) ?_
        refine Z_go (f2 := (90, [(3, .int (Zi (u.2.1 90 k))), (2, .int (Zi k)), (1, .int (Zi n)), (0, .ref 83)], [.int (Zi 11), .int (Zi (u.2.1 90 k))])) (fun _ => rfl) ?_
        refine Z_cge rfl rfl (by first | exact hs.zF _ | exact Zor_r _ _ | exact hs.zA _ _ | assumption | exact zS _ | exact Zr_not (hs.zA _ _) | exact ⟨by omega, by omega⟩) (by first | exact hs.zF _ | exact Zor_r _ _ | exact hs.zA _ _ | assumption | exact zS _ | exact Zr_not (hs.zA _ _) | exact ⟨by omega, by omega⟩) (fun c4 => ?_) (fun c4 => ?_)
        · refine Z_go (f2 := (109, [(3, .int (Zi (u.2.1 90 k))), (2, .int (Zi k)), (1, .int (Zi n)), (0, .ref 83)], [.ref 83])) (fun _ => rfl) ?_
          refine R_gr (q := 93) rfl hs rfl ?_
          show B_R _ _ (112, [(3, .int (Zi (u.2.1 90 k))), (2, .int (Zi k)), (1, .int (Zi n)), (0, .ref 83)], [.ref 95]) _ _ _
          refine Z_go (f2 := (113, [(3, .int (Zi (u.2.1 90 k))), (2, .int (Zi k)), (1, .int (Zi n)), (0, .ref 83)], [.int (Zi n), .ref 95])) (fun _ => rfl) ?_
          refine Z_go (f2 := (114, [(3, .int (Zi (u.2.1 90 k))), (2, .int (Zi k)), (1, .int (Zi n)), (0, .ref 83)], [.int (Zi 1), .int (Zi n), .ref 95])) (fun _ => rfl) ?_
          refine Z_isub rfl ?_
          refine R_la (q := 11) rfl hs rfl rfl (by omega) (by omega) (by decide) ?_
          refine Z_go (f2 := (118, [(4, .long (u.2.2.2 95 (n - 1))), (3, .int (Zi (u.2.1 90 k))), (2, .int (Zi k)), (1, .int (Zi n)), (0, .ref 83)], [])) (fun _ => rfl) ?_
          refine Z_go (f2 := (119, [(4, .long (u.2.2.2 95 (n - 1))), (3, .int (Zi (u.2.1 90 k))), (2, .int (Zi k)), (1, .int (Zi n)), (0, .ref 83)], [.ref 83])) (fun _ => rfl) ?_
          refine R_gr (q := 93) rfl hs rfl ?_
          show B_R _ _ (122, [(4, .long (u.2.2.2 95 (n - 1))), (3, .int (Zi (u.2.1 90 k))), (2, .int (Zi k)), (1, .int (Zi n)), (0, .ref 83)], [.ref 95]) _ _ _
          refine Z_go (f2 := (123, [(4, .long (u.2.2.2 95 (n - 1))), (3, .int (Zi (u.2.1 90 k))), (2, .int (Zi k)), (1, .int (Zi n)), (0, .ref 83)], [.int (Zi n), .ref 95])) (fun _ => rfl) ?_
          refine Z_go (f2 := (124, [(4, .long (u.2.2.2 95 (n - 1))), (3, .int (Zi (u.2.1 90 k))), (2, .int (Zi k)), (1, .int (Zi n)), (0, .ref 83)], [.int (Zi 1), .int (Zi n), .ref 95])) (fun _ => rfl) ?_
          refine Z_isub rfl ?_
          refine Z_go (f2 := (126, [(4, .long (u.2.2.2 95 (n - 1))), (3, .int (Zi (u.2.1 90 k))), (2, .int (Zi k)), (1, .int (Zi n)), (0, .ref 83)], [.ref 83, .int (Zi (n - 1)), .ref 95])) (fun _ => rfl) ?_
          refine R_gr (q := 90) rfl hs rfl ?_
          show B_R _ _ (129, [(4, .long (u.2.2.2 95 (n - 1))), (3, .int (Zi (u.2.1 90 k))), (2, .int (Zi k)), (1, .int (Zi n)), (0, .ref 83)], [.ref 92, .int (Zi (n - 1)), .ref 95]) _ _ _
          refine Z_go (f2 := (130, [(4, .long (u.2.2.2 95 (n - 1))), (3, .int (Zi (u.2.1 90 k))), (2, .int (Zi k)), (1, .int (Zi n)), (0, .ref 83)], [.int (Zi k), .ref 92, .int (Zi (n - 1)), .ref 95])) (fun _ => rfl) ?_
          refine R_ia (q := 8) rfl hs rfl rfl (by omega) (by omega) (by decide) ?_
          refine Z_go (f2 := (132, [(4, .long (u.2.2.2 95 (n - 1))), (3, .int (Zi (u.2.1 90 k))), (2, .int (Zi k)), (1, .int (Zi n)), (0, .ref 83)], [.int (Zi (-1)), .int (Zi (u.2.1 92 k)), .int (Zi (n - 1)), .ref 95])) (fun _ => rfl) ?_
          refine Z_cne rfl rfl (by first | exact hs.zF _ | exact Zor_r _ _ | exact hs.zA _ _ | assumption | exact zS _ | exact Zr_not (hs.zA _ _) | exact ⟨by omega, by omega⟩) (by first | exact hs.zF _ | exact Zor_r _ _ | exact hs.zA _ _ | assumption | exact zS _ | exact Zr_not (hs.zA _ _) | exact ⟨by omega, by omega⟩) (fun c5 => ?_) (fun c5 => ?_)
          · refine Z_go (f2 := (153, [(4, .long (u.2.2.2 95 (n - 1))), (3, .int (Zi (u.2.1 90 k))), (2, .int (Zi k)), (1, .int (Zi n)), (0, .ref 83)], [.ref 83, .int (Zi (n - 1)), .ref 95])) (fun _ => rfl) ?_
            refine R_gr (q := 90) rfl hs rfl ?_
            show B_R _ _ (156, [(4, .long (u.2.2.2 95 (n - 1))), (3, .int (Zi (u.2.1 90 k))), (2, .int (Zi k)), (1, .int (Zi n)), (0, .ref 83)], [.ref 92, .int (Zi (n - 1)), .ref 95]) _ _ _
            refine Z_go (f2 := (157, [(4, .long (u.2.2.2 95 (n - 1))), (3, .int (Zi (u.2.1 90 k))), (2, .int (Zi k)), (1, .int (Zi n)), (0, .ref 83)], [.int (Zi k), .ref 92, .int (Zi (n - 1)), .ref 95])) (fun _ => rfl) ?_
            refine R_ia (q := 8) rfl hs rfl rfl (by omega) (by omega) (by decide) ?_
            refine Z_go (f2 := (159, [(4, .long (u.2.2.2 95 (n - 1))), (3, .int (Zi (u.2.1 90 k))), (2, .int (Zi k)), (1, .int (Zi n)), (0, .ref 83)], [.long ((Zi (u.2.1 92 k)).toInt64), .int (Zi (n - 1)), .ref 95])) (fun _ => rfl) ?_
            refine Z_go (f2 := (161, [(4, .long (u.2.2.2 95 (n - 1))), (3, .int (Zi (u.2.1 90 k))), (2, .int (Zi k)), (1, .int (Zi n)), (0, .ref 83)], [.long (u.2.2.2 95 (n - 1)), .long ((Zi (u.2.1 92 k)).toInt64), .int (Zi (n - 1)), .ref 95])) (fun _ => rfl) ?_
            refine Z_go (f2 := (162, [(4, .long (u.2.2.2 95 (n - 1))), (3, .int (Zi (u.2.1 90 k))), (2, .int (Zi k)), (1, .int (Zi n)), (0, .ref 83)], [.long (((Zi (u.2.1 92 k)).toInt64) * (u.2.2.2 95 (n - 1))), .int (Zi (n - 1)), .ref 95])) (fun _ => rfl) ?_
            refine Z_go (f2 := (163, [(4, .long (u.2.2.2 95 (n - 1))), (3, .int (Zi (u.2.1 90 k))), (2, .int (Zi k)), (1, .int (Zi n)), (0, .ref 83)], [.ref 83, .long (((Zi (u.2.1 92 k)).toInt64) * (u.2.2.2 95 (n - 1))), .int (Zi (n - 1)), .ref 95])) (fun _ => rfl) ?_
            refine R_gr (q := 90) rfl hs rfl ?_
            show B_R _ _ (166, [(4, .long (u.2.2.2 95 (n - 1))), (3, .int (Zi (u.2.1 90 k))), (2, .int (Zi k)), (1, .int (Zi n)), (0, .ref 83)], [.ref 92, .long (((Zi (u.2.1 92 k)).toInt64) * (u.2.2.2 95 (n - 1))), .int (Zi (n - 1)), .ref 95]) _ _ _
            refine Z_go (f2 := (167, [(4, .long (u.2.2.2 95 (n - 1))), (3, .int (Zi (u.2.1 90 k))), (2, .int (Zi k)), (1, .int (Zi n)), (0, .ref 83)], [.int (Zi k), .ref 92, .long (((Zi (u.2.1 92 k)).toInt64) * (u.2.2.2 95 (n - 1))), .int (Zi (n - 1)), .ref 95])) (fun _ => rfl) ?_
            refine R_ia (q := 8) rfl hs rfl rfl (by omega) (by omega) (by decide) ?_
            refine Z_go (f2 := (169, [(4, .long (u.2.2.2 95 (n - 1))), (3, .int (Zi (u.2.1 90 k))), (2, .int (Zi k)), (1, .int (Zi n)), (0, .ref 83)], [.long ((Zi (u.2.1 92 k)).toInt64), .long (((Zi (u.2.1 92 k)).toInt64) * (u.2.2.2 95 (n - 1))), .int (Zi (n - 1)), .ref 95])) (fun _ => rfl) ?_
            refine Z_go (f2 := (170, [(4, .long (u.2.2.2 95 (n - 1))), (3, .int (Zi (u.2.1 90 k))), (2, .int (Zi k)), (1, .int (Zi n)), (0, .ref 83)], [.long ((((Zi (u.2.1 92 k)).toInt64) * (u.2.2.2 95 (n - 1))) + ((Zi (u.2.1 92 k)).toInt64)), .int (Zi (n - 1)), .ref 95])) (fun _ => rfl) ?_
            refine Z_go (f2 := (171, [(4, .long (u.2.2.2 95 (n - 1))), (3, .int (Zi (u.2.1 90 k))), (2, .int (Zi k)), (1, .int (Zi n)), (0, .ref 83)], [.ref 83, .long ((((Zi (u.2.1 92 k)).toInt64) * (u.2.2.2 95 (n - 1))) + ((Zi (u.2.1 92 k)).toInt64)), .int (Zi (n - 1)), .ref 95])) (fun _ => rfl) ?_
            refine R_gr (q := 89) rfl hs rfl ?_
            show B_R _ _ (174, [(4, .long (u.2.2.2 95 (n - 1))), (3, .int (Zi (u.2.1 90 k))), (2, .int (Zi k)), (1, .int (Zi n)), (0, .ref 83)], [.ref 91, .long ((((Zi (u.2.1 92 k)).toInt64) * (u.2.2.2 95 (n - 1))) + ((Zi (u.2.1 92 k)).toInt64)), .int (Zi (n - 1)), .ref 95]) _ _ _
            refine Z_go (f2 := (175, [(4, .long (u.2.2.2 95 (n - 1))), (3, .int (Zi (u.2.1 90 k))), (2, .int (Zi k)), (1, .int (Zi n)), (0, .ref 83)], [.int (Zi k), .ref 91, .long ((((Zi (u.2.1 92 k)).toInt64) * (u.2.2.2 95 (n - 1))) + ((Zi (u.2.1 92 k)).toInt64)), .int (Zi (n - 1)), .ref 95])) (fun _ => rfl) ?_
            refine R_ia (q := 7) rfl hs rfl rfl (by omega) (by omega) (by decide) ?_
            refine Z_go (f2 := (177, [(4, .long (u.2.2.2 95 (n - 1))), (3, .int (Zi (u.2.1 90 k))), (2, .int (Zi k)), (1, .int (Zi n)), (0, .ref 83)], [.long ((Zi (u.2.1 91 k)).toInt64), .long ((((Zi (u.2.1 92 k)).toInt64) * (u.2.2.2 95 (n - 1))) + ((Zi (u.2.1 92 k)).toInt64)), .int (Zi (n - 1)), .ref 95])) (fun _ => rfl) ?_
            refine Z_go (f2 := (178, [(4, .long (u.2.2.2 95 (n - 1))), (3, .int (Zi (u.2.1 90 k))), (2, .int (Zi k)), (1, .int (Zi n)), (0, .ref 83)], [.long (((((Zi (u.2.1 92 k)).toInt64) * (u.2.2.2 95 (n - 1))) + ((Zi (u.2.1 92 k)).toInt64)) - ((Zi (u.2.1 91 k)).toInt64)), .int (Zi (n - 1)), .ref 95])) (fun _ => rfl) ?_
            refine R_ls (q := 11) rfl hs rfl rfl (by omega) (by omega) (by decide) (fun h hs => ?_)
            refine Z_iinc (L2 := [(2, .int (Zi (k + 1))), (4, .long (u.2.2.2 95 (n - 1))), (3, .int (Zi (u.2.1 90 k))), (1, .int (Zi n)), (0, .ref 83)]) rfl rfl (by decide) rfl ?_
            refine Z_goto (p2 := 4) rfl (by decide +kernel) (by decide +kernel) ?_
            refine B_loc (K := [(2, .int (Zi (k + 1))), (1, .int (Zi n)), (0, .ref 83)]) (N_all_sub ⟨rfl, rfl, rfl, trivial⟩) (show ([2, 1, 0] : List Nat).Nodup by decide) ?_
            exact kont _ hs
          · exfalso; omega
        · exfalso; omega
      · exfalso; omega
    · exfalso; omega
theorem Zl_add (a b : Int) : Int64.ofInt a + Int64.ofInt b = Int64.ofInt (a + b) := (Int64.ofInt_add a b).symm
theorem Zl_sub (a b : Int) : Int64.ofInt a - Int64.ofInt b = Int64.ofInt (a - b) := (Int64.ofInt_sub a b).symm
theorem Zl_mul (a b : Int) : Int64.ofInt a * Int64.ofInt b = Int64.ofInt (a * b) := (Int64.ofInt_mul a b).symm
theorem R_sized_t {d : Nat} {h0 : E_H} {s : R_S} {sl : Nat} {Φ : E_R → Prop} (p1 : s.1 13 ≤ 400) : ∀ (t : P_T), T_is t → ∀ (m : Nat) (k n : Int) (u : R_S) (h : E_H), R_is h0 h u → R_lo s u → R_at_ s k (T_ops m t) → 0 ≤ k → k + (T_ops m t).length ≤ s.1 13 → 0 ≤ n → n + T_dp t ≤ 60 → (∀ (u2 : R_S) (h2 : E_H), R_is h0 h2 u2 → R_lo s u2 → (∀ j, j < n → u2.2.2.2 95 j = u.2.2.2 95 j) → u2.2.2.2 95 n = Int64.ofInt (T_sz t) → B_R d E_m212 (4, [(2, .int (Zi (k + (T_ops m t).length))), (1, .int (Zi (n + 1))), (0, .ref 83)], []) h2 sl Φ) → B_R d E_m212 (4, [(2, .int (Zi k)), (1, .int (Zi n)), (0, .ref 83)], []) h sl Φ := by
  intro t ht
  refine T_ind (P := fun t => ∀ (m : Nat) (k n : Int) (u : R_S) (h : E_H), R_is h0 h u → R_lo s u → R_at_ s k (T_ops m t) → 0 ≤ k → k + (T_ops m t).length ≤ s.1 13 → 0 ≤ n → n + T_dp t ≤ 60 → (∀ (u2 : R_S) (h2 : E_H), R_is h0 h2 u2 → R_lo s u2 → (∀ j, j < n → u2.2.2.2 95 j = u.2.2.2 95 j) → u2.2.2.2 95 n = Int64.ofInt (T_sz t) → B_R d E_m212 (4, [(2, .int (Zi (k + (T_ops m t).length))), (1, .int (Zi (n + 1))), (0, .ref 83)], []) h2 sl Φ) → B_R d E_m212 (4, [(2, .int (Zi k)), (1, .int (Zi n)), (0, .ref 83)], []) h sl Φ) ht ?_ ?_ ?_ ?_ ?_
  · intro m k n u h hs hu ha k0 k1 n0 n1 kont
    have e := R_at_.one (ha : R_at_ s k [(5, 0, 0)])
    rw [← hu.2.1] at e
    have e13 : u.1 13 = s.1 13 := by rw [hu.1]
    have k1 : k + ((1 : Nat) : Int) ≤ s.1 13 := k1
    have n1 : n + ((1 : Nat) : Int) ≤ 60 := n1
    exact R_sz_pushe hs k0 (by omega) (by omega) n0 (by omega) (by omega) e.1 (fun h hs => kont _ h hs (hu.st _ _) (fun j hj => R_sM_n _ _ _ (by omega)) (R_sM_s _ _ _ _))
  · intro A hw m k n u h hs hu ha k0 k1 n0 n1 kont
    have n1 : n + (T_dp (T_atm A) : Int) ≤ 60 := n1
    rw [T_dp_atm hw] at n1
    have e13 : u.1 13 = s.1 13 := by rw [hu.1]
    have kont := kont
    rw [T_sz_atm hw] at kont
    cases A with
    | inl op =>
      have hop : op = 2 ∨ op = 3 ∨ op = 4 := hw
      have eops : T_ops m (T_atm (.inl op)) = [(op, 0, 0)] := T_ops_one (q := (op, 0, 0, fun _ => False)) (by show op ≠ 1; omega) m
      rw [eops] at ha k1
      have e := R_at_.one ha
      rw [← hu.2.1] at e
      have k1 : k + ((1 : Nat) : Int) ≤ s.1 13 := k1
      have kont := kont
      rw [eops] at kont
      exact R_sz_push hs k0 (by omega) (by omega) n0 (by omega) (by omega) (by omega) (by omega) (fun h hs => kont _ h hs (hu.st _ _) (fun j hj => R_sM_n _ _ _ (by omega)) (R_sM_s _ _ _ _))
    | inr B =>
      have e := R_at_.one (ha : R_at_ s k [(1, (m : Int), 0)])
      rw [← hu.2.1] at e
      have k1 : k + ((1 : Nat) : Int) ≤ s.1 13 := k1
      exact R_sz_push hs k0 (by omega) (by omega) n0 (by omega) (by omega) (by omega) (by omega) (fun h hs => kont _ h hs (hu.st _ _) (fun j hj => R_sM_n _ _ _ (by omega)) (R_sM_s _ _ _ _))
  · intro l r wl wr ihl ihr m k n u h hs hu ha k0 k1 n0 n1 kont
    have eops : T_ops m (T_beh l r) = T_ops m l ++ T_ops (m + (T_sets l).length) r ++ [(6, 0, 0)] := by
      unfold T_beh
      rw [T_ops_app, T_ops_app]
      rfl
    rw [eops] at ha k1
    rw [T_dp_beh wl wr] at n1
    obtain ⟨ha, ha3⟩ := ha.app
    obtain ⟨ha1, ha2⟩ := ha.app
    simp only [List.length_append, List.length_cons, List.length_nil] at k1 ha3
    refine ihl m k n u h hs hu ha1 k0 (by omega) n0 (by omega) (fun u1 h1 hs1 hu1 q1 q2 => ?_)
    refine ihr _ _  (n + 1) u1 h1 hs1 hu1 ha2 (by omega) (by omega) (by omega) (by omega) (fun u2 h2 hs2 hu2 q3 q4 => ?_)
    have e := ha3.one
    have hdr := T_dp_pos wr
    rw [← hu2.2.1] at e
    have e13 : u2.1 13 = s.1 13 := by rw [hu2.1]
    rw [show k + ((T_ops m l).length : Int) + ((T_ops (m + (T_sets l).length) r).length : Int) = k + ((T_ops m l).length + (T_ops (m + (T_sets l).length) r).length : Nat) by omega]
    refine R_sz_beh hs2 (by omega) (by omega) (by omega) (by omega) (by omega) (by omega) e.1 (fun h hs => ?_)
    rw [show n + 1 + 1 - 1 = n + 1 by omega] at hs ⊢
    rw [show n + 1 + 1 - 2 = n by omega] at hs
    have := kont _ h hs (hu2.st _ _) (fun j hj => by rw [R_sM_n _ _ _ (by omega), q3 j (by omega), q1 j hj]) (by
      rw [R_sM_s, q3 n (by omega), q2, q4]
      rw [T_sz_beh wl wr]
      show Int64.ofInt (T_sz l) + (Int64.ofInt (T_sz r) + Int64.ofInt 0) = Int64.ofInt (T_sz l + T_sz r)
      rw [Zl_add, Zl_add, Int.add_zero])
    have el : (T_ops m (T_beh l r)).length = (T_ops m l).length + (T_ops (m + (T_sets l).length) r).length + 1 := by
      rw [eops]
      simp only [List.length_append, List.length_cons, List.length_nil]
    rw [el] at this
    rw [show k + (((T_ops m l).length + (T_ops (m + (T_sets l).length) r).length : Nat) : Int) + 1 = k + (((T_ops m l).length + (T_ops (m + (T_sets l).length) r).length + 1 : Nat) : Int) by omega]
    exact this
  · intro l r wl wr ihl ihr m k n u h hs hu ha k0 k1 n0 n1 kont
    have eops : T_ops m (T_or l r) = T_ops m l ++ T_ops (m + (T_sets l).length) r ++ [(7, 0, 0)] := by
      unfold T_or
      rw [T_ops_app, T_ops_app]
      rfl
    rw [eops] at ha k1
    rw [T_dp_or wl wr] at n1
    obtain ⟨ha, ha3⟩ := ha.app
    obtain ⟨ha1, ha2⟩ := ha.app
    simp only [List.length_append, List.length_cons, List.length_nil] at k1 ha3
    refine ihl m k n u h hs hu ha1 k0 (by omega) n0 (by omega) (fun u1 h1 hs1 hu1 q1 q2 => ?_)
    refine ihr _ _  (n + 1) u1 h1 hs1 hu1 ha2 (by omega) (by omega) (by omega) (by omega) (fun u2 h2 hs2 hu2 q3 q4 => ?_)
    have e := ha3.one
    have hdr := T_dp_pos wr
    rw [← hu2.2.1] at e
    have e13 : u2.1 13 = s.1 13 := by rw [hu2.1]
    rw [show k + ((T_ops m l).length : Int) + ((T_ops (m + (T_sets l).length) r).length : Int) = k + ((T_ops m l).length + (T_ops (m + (T_sets l).length) r).length : Nat) by omega]
    refine R_sz_or hs2 (by omega) (by omega) (by omega) (by omega) (by omega) (by omega) e.1 (fun h hs => ?_)
    rw [show n + 1 + 1 - 1 = n + 1 by omega] at hs ⊢
    rw [show n + 1 + 1 - 2 = n by omega] at hs
    have := kont _ h hs (hu2.st _ _) (fun j hj => by rw [R_sM_n _ _ _ (by omega), q3 j (by omega), q1 j hj]) (by
      rw [R_sM_s, q3 n (by omega), q2, q4]
      rw [T_sz_or wl wr]
      show Int64.ofInt (T_sz l) + (Int64.ofInt (T_sz r) + Int64.ofInt 1) = Int64.ofInt (T_sz l + T_sz r + 1)
      rw [Zl_add, Zl_add, Int.add_assoc])
    have el : (T_ops m (T_or l r)).length = (T_ops m l).length + (T_ops (m + (T_sets l).length) r).length + 1 := by
      rw [eops]
      simp only [List.length_append, List.length_cons, List.length_nil]
    rw [el] at this
    rw [show k + (((T_ops m l).length + (T_ops (m + (T_sets l).length) r).length : Nat) : Int) + 1 = k + (((T_ops m l).length + (T_ops (m + (T_sets l).length) r).length + 1 : Nat) : Int) by omega]
    exact this
  · intro t op lo hi hc wt ih m k n u h hs hu ha k0 k1 n0 n1 kont
    have hop : op ≠ 1 := by unfold T_cok at hc; omega
    have eops : T_ops m (T_cnt t op lo hi) = T_ops m t ++ [(op, lo, hi)] := by
      unfold T_cnt
      rw [T_ops_app, T_ops_one hop]
    rw [eops] at ha k1
    rw [T_dp_cnt hc wt] at n1
    obtain ⟨ha1, ha3⟩ := ha.app
    simp only [List.length_append, List.length_cons, List.length_nil] at k1
    refine ih m k n u h hs hu ha1 k0 (by omega) n0 n1 (fun u1 h1 hs1 hu1 q1 q2 => ?_)
    have e := ha3.one
    rw [← hu1.2.1] at e
    obtain ⟨e1, e2, e3⟩ := e
    have e13 : u1.1 13 = s.1 13 := by rw [hu1.1]
    have hd := T_dp_pos wt
    have el : ((T_ops m (T_cnt t op lo hi)).length : Int) = (T_ops m t).length + 1 := by
      rw [eops]
      simp only [List.length_append, List.length_cons, List.length_nil]
      push_cast
      omega
    have fin : ∀ (v : Int64) (h : E_H), R_is h0 h (R_sM u1 95 n v) → v = Int64.ofInt (T_sz (T_cnt t op lo hi)) → B_R d E_m212 (4, [(2, .int (Zi (k + ((T_ops m t).length : Int) + 1))), (1, .int (Zi (n + 1))), (0, .ref 83)], []) h sl Φ := by
      intro v h hs hv
      have := kont _ h hs (hu1.st _ _) (fun j hj => by rw [R_sM_n _ _ _ (by omega), q1 j hj]) (by rw [R_sM_s]; exact hv)
      rw [el, ← Int.add_assoc] at this
      exact this
    have hc2 := hc
    rcases hc with ⟨o1, o2, o3⟩ | ⟨o1, o2, o3, o4⟩
    · refine R_sz_inc hs1 (by omega) (by omega) (by omega) (by omega) (by omega) (by omega) (by omega) (by omega) (fun h hs => ?_)
      rw [show n + 1 - 1 = n by omega] at hs
      refine fin _ h hs ?_
      rw [q2]
      rw [T_sz_cnt hc2 wt, if_neg (by omega)]
      exact Zl_add _ 1
    · by_cases c : hi = -1
      · refine R_sz_on hs1 (by omega) (by omega) (by omega) (by omega) (by omega) (by omega) (by omega) (by omega) (fun h hs => ?_)
        rw [show n + 1 - 1 = n by omega] at hs
        refine fin _ h hs ?_
        rw [q2, e2, Zi_i2l _ ⟨by omega, by omega⟩]
        rw [T_sz_cnt hc2 wt, if_pos o1, if_pos c, Zl_mul]
        exact Zl_add _ 1
      · refine R_sz_to hs1 (by omega) (by omega) (by omega) (by omega) (by omega) (by omega) (by omega) (by omega) (fun h hs => ?_)
        rw [show n + 1 - 1 = n by omega] at hs
        refine fin _ h hs ?_
        rw [q2, e2, e3, Zi_i2l _ ⟨by omega, by omega⟩, Zi_i2l _ ⟨by omega, by omega⟩]
        rw [T_sz_cnt hc2 wt, if_pos o1, if_neg c, Zl_mul, Zl_add, Zl_sub]
theorem R_sized (d : Nat) (s : R_S) {t : P_T} (hw : T_is t) (hd : T_dp t ≤ 23) (tl : R_tl s t) (p1 : s.1 13 ≤ 400) : R_ok (d + 1) 212 [] s (fun x s2 => x = some (.long (Int64.ofInt (T_sz t))) ∧ R_lo s s2) := by
  refine R_enter (M := E_m212) rfl (Nat.le_of_ble_eq_true rfl) (fun h0 h hs => ?_)
  show B_R d _ (0, [(0, .ref 83)], []) _ _ _
  refine Z_go (f2 := (1, [(0, .ref 83)], [.int (Zi 0)])) (fun _ => rfl) ?_
  refine Z_go (f2 := (2, [(1, .int (Zi 0)), (0, .ref 83)], [])) (fun _ => rfl) ?_
  refine Z_go (f2 := (3, [(1, .int (Zi 0)), (0, .ref 83)], [.int (Zi 0)])) (fun _ => rfl) ?_
  refine Z_go (f2 := (4, [(2, .int (Zi 0)), (1, .int (Zi 0)), (0, .ref 83)], [])) (fun _ => rfl) ?_
  have e13 : s.1 13 = ((T_ops 0 t).length : Int) := tl.n13
  have ha : R_at_ s 0 (T_ops 0 t) := fun i hi => by
    have := tl.e i hi
    rw [Int.zero_add]
    exact this
  refine R_sized_t p1 t hw 0 0 0 s h hs ⟨rfl, rfl, rfl, fun _ _ _ => rfl⟩ ha (by omega) (by omega) (by omega) (by omega) (fun u h hs hu q1 q2 => ?_)
  have u13 : u.1 13 = s.1 13 := by rw [hu.1]
  rw [show (0 : Int) + (T_ops 0 t).length = u.1 13 by omega, show (0 : Int) + 1 = 1 from rfl]
  refine Z_go (f2 := (5, [(2, .int (Zi (u.1 13))), (1, .int (Zi 1)), (0, .ref 83)], [.int (Zi (u.1 13))])) (fun _ => rfl) ?_
  refine Z_go (f2 := (6, [(2, .int (Zi (u.1 13))), (1, .int (Zi 1)), (0, .ref 83)], [.ref 83, .int (Zi (u.1 13))])) (fun _ => rfl) ?_
  refine R_gi rfl hs rfl ?_
  show B_R _ _ (9, [(2, .int (Zi (u.1 13))), (1, .int (Zi 1)), (0, .ref 83)], [.int (Zi (u.1 13)), .int (Zi (u.1 13))]) _ _ _
  refine Z_cge rfl rfl (by first | exact hs.zF _ | exact Zor_r _ _ | exact hs.zA _ _ | assumption | exact zS _ | exact Zr_not (hs.zA _ _) | exact ⟨by omega, by omega⟩) (by first | exact hs.zF _ | exact Zor_r _ _ | exact hs.zA _ _ | assumption | exact zS _ | exact Zr_not (hs.zA _ _) | exact ⟨by omega, by omega⟩) (fun c1 => ?_) (fun c1 => ?_)
  · refine Z_go (f2 := (186, [(2, .int (Zi (u.1 13))), (1, .int (Zi 1)), (0, .ref 83)], [.ref 83])) (fun _ => rfl) ?_
    refine R_gr (q := 93) rfl hs rfl ?_
    show B_R _ _ (189, [(2, .int (Zi (u.1 13))), (1, .int (Zi 1)), (0, .ref 83)], [.ref 95]) _ _ _
    refine Z_go (f2 := (190, [(2, .int (Zi (u.1 13))), (1, .int (Zi 1)), (0, .ref 83)], [.int (Zi 0), .ref 95])) (fun _ => rfl) ?_
    refine R_la (q := 11) rfl hs rfl rfl (by omega) (by omega) (by decide) ?_
    refine Z_lret rfl rfl ⟨_, hs, ?_, rfl⟩
    rw [q2]
    exact ⟨rfl, hu⟩
  · exfalso; omega
