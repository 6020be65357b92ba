/-! the reference: what is told of choices and texts -/
def R_tc_i (s u : R_S) (m c : Int) : Prop := R_f4 [] [122, 123] [] s u ∧ (∀ j, ¬ (0 ≤ j ∧ j < 0 + 24) → u.2.1 122 j = s.2.1 122 j) ∧ (∀ j, ¬ (640 * (0) ≤ j ∧ j < 640 * (0) + 15360) → u.2.1 123 j = s.2.1 123 j) ∧ ∀ e, 0 ≤ e → e < c → ∃ r, X_rk (fun c => D_row (fun x => s.2.1 106 (640 * c + x)) (s.2.1 105 c)) m e r ∧ u.2.1 122 (0 + r) = s.2.1 105 e ∧ ∀ x, 0 ≤ x → x < s.2.1 105 e → u.2.1 123 (640 * (0 + r) + x) = s.2.1 106 (640 * e + x)
theorem R_tc_st {s u : R_S} {m c p : Int} (m1 : m ≤ 24) (hv : (∀ e, 0 ≤ e → e < m → 0 ≤ s.2.1 105 e ∧ s.2.1 105 e ≤ 640)) (ds : ∀ i j, 0 ≤ i → i < j → j < m → (fun c => D_row (fun x => s.2.1 106 (640 * c + x)) (s.2.1 105 c)) i ≠ (fun c => D_row (fun x => s.2.1 106 (640 * c + x)) (s.2.1 105 c)) j) (h : R_tc_i s u m c) (c0 : 0 ≤ c) (c1 : c < m) (hp : X_rk (fun c => D_row (fun x => s.2.1 106 (640 * c + x)) (s.2.1 105 c)) m c p) : R_tc_i s (R_fl (R_sA u 122 (0 + p) (s.2.1 105 c)) 123 (640 * (0 + p)) (640 * (0 + p) + s.2.1 105 c) (fun j => s.2.1 106 (640 * c + (j - 640 * (0 + p))))) m (c + 1) := by
  obtain ⟨h1, h2, h3, h4⟩ := h
  have pb := X_rk_b hp c0 c1
  have hc := hv c c0 c1
  have er : ∀ j, (R_fl (R_sA u 122 (0 + p) (s.2.1 105 c)) 123 (640 * (0 + p)) (640 * (0 + p) + s.2.1 105 c) (fun j => s.2.1 106 (640 * c + (j - 640 * (0 + p))))).2.1 122 j = if j = 0 + p then s.2.1 105 c else u.2.1 122 j := fun j => by rw [R_fl_n (by decide), R_sA_at]
  have eo : ∀ j, ¬ (640 * (0 + p) ≤ j ∧ j < 640 * (0 + p) + s.2.1 105 c) → (R_fl (R_sA u 122 (0 + p) (s.2.1 105 c)) 123 (640 * (0 + p)) (640 * (0 + p) + s.2.1 105 c) (fun j => s.2.1 106 (640 * c + (j - 640 * (0 + p))))).2.1 123 j = u.2.1 123 j := fun j hj => by rw [R_fl_o hj, R_sA_n _ _ _ _ (by decide)]
  refine ⟨(h1.sA (by simp)).tr ⟨fun _ _ => rfl, fun q hq j => R_fl_n (fun e => hq (by rw [e]; exact List.mem_singleton.mpr rfl)) j, rfl, fun _ _ _ => rfl⟩ (bs2 := []) (qs2 := [123]) (ps2 := []) (by simp) (by simp) (by simp), fun j hj => by rw [er, if_neg (by omega)]; exact h2 j hj, fun j hj => by rw [eo j (by omega)]; exact h3 j hj, fun e e0 e1 => ?_⟩
  by_cases z : e = c
  · subst z
    refine ⟨p, hp, by rw [er, if_pos rfl], fun x x0 x1 => ?_⟩
    rw [R_fl_i (by omega) (by omega), show 640 * (0 + p) + x - 640 * (0 + p) = x by omega]
  · obtain ⟨r, r1, r2, r3⟩ := h4 e e0 (by omega)
    have rb := X_rk_b r1 e0 (by omega)
    have hne := X_rk_ne ds r1 hp e0 (by omega) c0 c1 z
    have he := hv e e0 (by omega)
    refine ⟨r, r1, by rw [er, if_neg (by omega)]; exact r2, fun x x0 x1 => ?_⟩
    rw [eo _ (by omega)]
    exact r3 x x0 x1
theorem R_tc_1 {d : Nat} {h0 h : E_H} {s u : R_S} {sl : Nat} {Φ : E_R → Prop} {m c : Int} (hm : m = u.1 56) (m0 : 0 ≤ m) (m1 : m ≤ 24) (hv : (∀ e, 0 ≤ e → e < m → 0 ≤ s.2.1 105 e ∧ s.2.1 105 e ≤ 640)) (hu : R_tc_i s u m c) (c0 : 0 ≤ c) (c1 : c < m) (hs : R_is h0 h u) (kont : ∀ (a : Int) (h : E_H), R_is h0 h u → X_rk (fun c => D_row (fun x => s.2.1 106 (640 * c + x)) (s.2.1 105 c)) m c a → B_R (d + 1) E_m271 (55, [(2, .int (Zi a)), (1, .int (Zi c)), (0, .ref 83)], []) h sl Φ) : ∀ (t : Nat) (e a : Int) (h : E_H), m - e < t → R_is h0 h u → D_cn (fun j => L_lx ((fun c => D_row (fun x => s.2.1 106 (640 * c + x)) (s.2.1 105 c)) j) ((fun c => D_row (fun x => s.2.1 106 (640 * c + x)) (s.2.1 105 c)) c)) e a → 0 ≤ e → e ≤ m → B_R (d + 1) E_m271 (24, [(3, .int (Zi e)), (2, .int (Zi a)), (1, .int (Zi c)), (0, .ref 83)], []) h sl Φ := by
  intro t
  induction t with
  | zero => intro e a h ht hs ha e0 e1; omega
  | succ t ih =>
    intro e a h ht hs ha e0 e1
    have zm : Zr m := ⟨by omega, by omega⟩
    have ab := D_cn_le ha e0
    have eS : u.2.1 105 = s.2.1 105 := funext (fun j => hu.1.2.1 105 (by decide) j)
    have eC : u.2.1 106 = s.2.1 106 := funext (fun j => hu.1.2.1 106 (by decide) j)
    refine Z_go (f2 := (25, [(3, .int (Zi e)), (2, .int (Zi a)), (1, .int (Zi c)), (0, .ref 83)], [.int (Zi e)])) (fun _ => rfl) ?_
    refine Z_go (f2 := (26, [(3, .int (Zi e)), (2, .int (Zi a)), (1, .int (Zi c)), (0, .ref 83)], [.ref 83, .int (Zi e)])) (fun _ => rfl) ?_
    refine R_gi rfl hs rfl ?_
    show B_R _ _ (29, [(3, .int (Zi e)), (2, .int (Zi a)), (1, .int (Zi c)), (0, .ref 83)], [.int (Zi (u.1 56)), .int (Zi e)]) _ _ _
    refine Z_cge rfl rfl (by first | exact hs.zF _ | exact Zor_r _ _ | exact hs.zA _ _ | assumption | exact zA _ _ | exact zS _ | exact Zr_not (hs.zA _ _) | exact ⟨by omega, by omega⟩) (by first | exact hs.zF _ | exact Zor_r _ _ | exact hs.zA _ _ | assumption | exact zA _ _ | exact zS _ | exact Zr_not (hs.zA _ _) | exact ⟨by omega, by omega⟩) (fun b1 => ?_) (fun b1 => ?_)
    · refine B_loc (K := [(2, .int (Zi a)), (1, .int (Zi c)), (0, .ref 83)]) (N_all_sub ⟨rfl, rfl, rfl, trivial⟩) (show ([2, 1, 0] : List Nat).Nodup by decide) ?_
      obtain rfl : e = m := by omega
      exact kont a h hs ha
    · refine Z_go (f2 := (33, [(3, .int (Zi e)), (2, .int (Zi a)), (1, .int (Zi c)), (0, .ref 83)], [.int (Zi a)])) (fun _ => rfl) ?_
      refine Z_go (f2 := (34, [(3, .int (Zi e)), (2, .int (Zi a)), (1, .int (Zi c)), (0, .ref 83)], [.ref 83, .int (Zi a)])) (fun _ => rfl) ?_
      refine Z_go (f2 := (35, [(3, .int (Zi e)), (2, .int (Zi a)), (1, .int (Zi c)), (0, .ref 83)], [.int (Zi e), .ref 83, .int (Zi a)])) (fun _ => rfl) ?_
      refine Z_go (f2 := (36, [(3, .int (Zi e)), (2, .int (Zi a)), (1, .int (Zi c)), (0, .ref 83)], [.int (Zi c), .int (Zi e), .ref 83, .int (Zi a)])) (fun _ => rfl) ?_
      refine R_call (As := [.int (Zi e), .int (Zi c)]) (rest := [.int (Zi a)]) rfl (by decide) rfl rfl rfl rfl (by decide +kernel) (Nat.le_of_ble_eq_true rfl) hs (R_isAhead _ u (c := e) (e := c) ⟨by omega, by omega⟩ ⟨by omega, by omega⟩ (by have := hv e e0 (by omega); rw [eS]; omega) (by have := hv c c0 c1; rw [eS]; omega)) (fun x h s2 hs q => ?_)
      obtain ⟨q0, v9, rfl, hv9⟩ := q
      rw [q0] at hs
      rw [eS, eC] at hv9
      show B_R _ _ (39, [(3, .int (Zi e)), (2, .int (Zi a)), (1, .int (Zi c)), (0, .ref 83)], [.int (Zi v9), .int (Zi a)]) _ _ _
      refine Z_ieq rfl rfl (by first | exact hs.zF _ | exact Zor_r _ _ | exact hs.zA _ _ | assumption | exact zA _ _ | exact zS _ | exact Zr_not (hs.zA _ _) | exact ⟨by omega, by omega⟩) (fun b2 => ?_) (fun b2 => ?_)
      · refine Z_go (f2 := (47, [(3, .int (Zi e)), (2, .int (Zi a)), (1, .int (Zi c)), (0, .ref 83)], [.int (Zi 0), .int (Zi a)])) (fun _ => rfl) ?_
        refine Z_iadd rfl ?_
        refine Z_go (f2 := (49, [(2, .int (Zi (a + 0))), (3, .int (Zi e)), (1, .int (Zi c)), (0, .ref 83)], [])) (fun _ => rfl) ?_
        refine Z_iinc (L2 := [(3, .int (Zi (e + 1))), (2, .int (Zi (a + 0))), (1, .int (Zi c)), (0, .ref 83)]) rfl rfl (by decide) rfl ?_
        refine Z_go (f2 := (24, [(3, .int (Zi (e + 1))), (2, .int (Zi (a + 0))), (1, .int (Zi c)), (0, .ref 83)], [])) (fun _ => rfl) ?_
        refine B_loc (K := [(3, .int (Zi (e + 1))), (2, .int (Zi (a + 0))), (1, .int (Zi c)), (0, .ref 83)]) (N_all_sub ⟨rfl, rfl, rfl, rfl, trivial⟩) (show ([3, 2, 1, 0] : List Nat).Nodup by decide) ?_
        rw [Int.add_zero]
        exact ih (e + 1) a h (by omega) hs (D_cn_no ha (by rcases hv9 with z | z; omega; exact z.2)) (by omega) (by omega)
      · refine Z_go (f2 := (43, [(3, .int (Zi e)), (2, .int (Zi a)), (1, .int (Zi c)), (0, .ref 83)], [.int (Zi 1), .int (Zi a)])) (fun _ => rfl) ?_
        refine Z_go (f2 := (47, [(3, .int (Zi e)), (2, .int (Zi a)), (1, .int (Zi c)), (0, .ref 83)], [.int (Zi 1), .int (Zi a)])) (fun _ => rfl) ?_
        refine Z_iadd rfl ?_
        refine Z_go (f2 := (49, [(2, .int (Zi (a + 1))), (3, .int (Zi e)), (1, .int (Zi c)), (0, .ref 83)], [])) (fun _ => rfl) ?_
        refine Z_iinc (L2 := [(3, .int (Zi (e + 1))), (2, .int (Zi (a + 1))), (1, .int (Zi c)), (0, .ref 83)]) rfl rfl (by decide) rfl ?_
        refine Z_go (f2 := (24, [(3, .int (Zi (e + 1))), (2, .int (Zi (a + 1))), (1, .int (Zi c)), (0, .ref 83)], [])) (fun _ => rfl) ?_
        refine B_loc (K := [(3, .int (Zi (e + 1))), (2, .int (Zi (a + 1))), (1, .int (Zi c)), (0, .ref 83)]) (N_all_sub ⟨rfl, rfl, rfl, rfl, trivial⟩) (show ([3, 2, 1, 0] : List Nat).Nodup by decide) ?_
        exact ih (e + 1) (a + 1) h (by omega) hs (D_cn_yes ha e0 (by rcases hv9 with z | z; exact z.2; omega)) (by omega) (by omega)
theorem R_tc_2 {d : Nat} {h0 : E_H} {s u : R_S} {sl : Nat} {Φ : E_R → Prop} {m c a : Int} (m0 : 0 ≤ m) (m1 : m ≤ 24) (hv : (∀ e, 0 ≤ e → e < m → 0 ≤ s.2.1 105 e ∧ s.2.1 105 e ≤ 640)) (hu : R_tc_i s u m c) (c0 : 0 ≤ c) (c1 : c < m) (a0 : 0 ≤ a) (a1 : a < m) (kont : ∀ (h : E_H), R_is h0 h (R_fl (R_sA u 122 (a) (s.2.1 105 c)) 123 (640 * a) (640 * a + s.2.1 105 c) (fun j => s.2.1 106 (640 * c + (j - 640 * a)))) → B_R (d + 1) E_m271 (109, [(2, .int (Zi a)), (1, .int (Zi c)), (0, .ref 83)], []) h sl Φ) : ∀ (t : Nat) (k : Int) (h : E_H), s.2.1 105 c - k < t → R_is h0 h (R_fl (R_sA u 122 (a) (s.2.1 105 c)) 123 (640 * a) (640 * a + k) (fun j => s.2.1 106 (640 * c + (j - 640 * a)))) → 0 ≤ k → k ≤ s.2.1 105 c → B_R (d + 1) E_m271 (69, [(3, .int (Zi k)), (2, .int (Zi a)), (1, .int (Zi c)), (0, .ref 83)], []) h sl Φ := by
  intro t
  induction t with
  | zero => intro k h ht hs k0 k1; omega
  | succ t ih =>
    intro k h ht hs k0 k1
    have hc := hv c c0 c1
    have eS : ∀ j, u.2.1 105 j = s.2.1 105 j := fun j => hu.1.2.1 105 (by decide) j
    have eC : ∀ j, u.2.1 106 j = s.2.1 106 j := fun j => hu.1.2.1 106 (by decide) j
    have eSc := eS c
    have zA : ∀ q j, Zr ((R_fl (R_sA u 122 (a) (s.2.1 105 c)) 123 (640 * a) (640 * a + k) (fun j => s.2.1 106 (640 * c + (j - 640 * a)))).2.1 q j) := fun q j => hs.zA q j
    have zu : Zr (u.2.1 105 c) := by rw [eS]; exact ⟨by omega, by omega⟩
    have zc : ∀ j, Zr (u.2.1 106 j) := fun j => by have := zA 106 j; rw [R_fl_n (by decide), R_sA_n _ _ _ _ (by decide)] at this; exact this
    refine Z_go (f2 := (70, [(3, .int (Zi k)), (2, .int (Zi a)), (1, .int (Zi c)), (0, .ref 83)], [.int (Zi k)])) (fun _ => rfl) ?_
    refine Z_go (f2 := (71, [(3, .int (Zi k)), (2, .int (Zi a)), (1, .int (Zi c)), (0, .ref 83)], [.ref 83, .int (Zi k)])) (fun _ => rfl) ?_
    refine R_gr (q := 103) rfl hs rfl ?_
    show B_R _ _ (74, [(3, .int (Zi k)), (2, .int (Zi a)), (1, .int (Zi c)), (0, .ref 83)], [.ref 105, .int (Zi k)]) _ _ _
    refine Z_go (f2 := (75, [(3, .int (Zi k)), (2, .int (Zi a)), (1, .int (Zi c)), (0, .ref 83)], [.int (Zi c), .ref 105, .int (Zi k)])) (fun _ => rfl) ?_
    refine R_ia (q := 21) rfl hs rfl rfl (by omega) (by omega) (by decide) ?_
    rw [show (R_fl (R_sA u 122 (a) (s.2.1 105 c)) 123 (640 * a) (640 * a + k) (fun j => s.2.1 106 (640 * c + (j - 640 * a)))).2.1 105 c = u.2.1 105 c by first | rfl | simp [R_sA, R_sF, R_up2, R_fl, R_fL, R_sM, R_sL, R_p3, R_em]]; show B_R _ _ (76, [(3, .int (Zi k)), (2, .int (Zi a)), (1, .int (Zi c)), (0, .ref 83)], [.int (Zi (u.2.1 105 c)), .int (Zi k)]) _ _ _
    refine Z_cge rfl rfl (by first | exact zu | exact zc _ | exact hs.zF _ | exact Zor_r _ _ | exact hs.zA _ _ | assumption | exact zA _ _ | exact zS _ | exact Zr_not (hs.zA _ _) | exact ⟨by omega, by omega⟩) (by first | exact zu | exact zc _ | exact hs.zF _ | exact Zor_r _ _ | exact hs.zA _ _ | assumption | exact zA _ _ | exact zS _ | exact Zr_not (hs.zA _ _) | exact ⟨by omega, by omega⟩) (fun b1 => ?_) (fun b1 => ?_)
    · refine B_loc (K := [(2, .int (Zi a)), (1, .int (Zi c)), (0, .ref 83)]) (N_all_sub ⟨rfl, rfl, rfl, trivial⟩) (show ([2, 1, 0] : List Nat).Nodup by decide) ?_
      obtain rfl : k = s.2.1 105 c := by omega
      exact kont h hs
    · refine Z_go (f2 := (80, [(3, .int (Zi k)), (2, .int (Zi a)), (1, .int (Zi c)), (0, .ref 83)], [.ref 83])) (fun _ => rfl) ?_
      refine R_gr (q := 121) rfl hs rfl ?_
      show B_R _ _ (83, [(3, .int (Zi k)), (2, .int (Zi a)), (1, .int (Zi c)), (0, .ref 83)], [.ref 123]) _ _ _
      refine Z_go (f2 := (86, [(3, .int (Zi k)), (2, .int (Zi a)), (1, .int (Zi c)), (0, .ref 83)], [.int (Zi 640), .ref 123])) (fun _ => rfl) ?_
      refine Z_go (f2 := (87, [(3, .int (Zi k)), (2, .int (Zi a)), (1, .int (Zi c)), (0, .ref 83)], [.int (Zi a), .int (Zi 640), .ref 123])) (fun _ => rfl) ?_
      refine Z_imul rfl ?_
      refine Z_go (f2 := (89, [(3, .int (Zi k)), (2, .int (Zi a)), (1, .int (Zi c)), (0, .ref 83)], [.int (Zi k), .int (Zi (640 * a)), .ref 123])) (fun _ => rfl) ?_
      refine Z_iadd rfl ?_
      refine Z_go (f2 := (91, [(3, .int (Zi k)), (2, .int (Zi a)), (1, .int (Zi c)), (0, .ref 83)], [.ref 83, .int (Zi (640 * a + k)), .ref 123])) (fun _ => rfl) ?_
      refine R_gr (q := 104) rfl hs rfl ?_
      show B_R _ _ (94, [(3, .int (Zi k)), (2, .int (Zi a)), (1, .int (Zi c)), (0, .ref 83)], [.ref 106, .int (Zi (640 * a + k)), .ref 123]) _ _ _
      refine Z_go (f2 := (97, [(3, .int (Zi k)), (2, .int (Zi a)), (1, .int (Zi c)), (0, .ref 83)], [.int (Zi 640), .ref 106, .int (Zi (640 * a + k)), .ref 123])) (fun _ => rfl) ?_
      refine Z_go (f2 := (98, [(3, .int (Zi k)), (2, .int (Zi a)), (1, .int (Zi c)), (0, .ref 83)], [.int (Zi c), .int (Zi 640), .ref 106, .int (Zi (640 * a + k)), .ref 123])) (fun _ => rfl) ?_
      refine Z_imul rfl ?_
      refine Z_go (f2 := (100, [(3, .int (Zi k)), (2, .int (Zi a)), (1, .int (Zi c)), (0, .ref 83)], [.int (Zi k), .int (Zi (640 * c)), .ref 106, .int (Zi (640 * a + k)), .ref 123])) (fun _ => rfl) ?_
      refine Z_iadd rfl ?_
      refine R_ia (q := 22) rfl hs rfl rfl (by omega) (by omega) (by decide) ?_
      rw [show (R_fl (R_sA u 122 (a) (s.2.1 105 c)) 123 (640 * a) (640 * a + k) (fun j => s.2.1 106 (640 * c + (j - 640 * a)))).2.1 106 (640 * c + k) = u.2.1 106 (640 * c + k) by first | rfl | simp [R_sA, R_sF, R_up2, R_fl, R_fL, R_sM, R_sL, R_p3, R_em]]; show B_R _ _ (102, [(3, .int (Zi k)), (2, .int (Zi a)), (1, .int (Zi c)), (0, .ref 83)], [.int (Zi (u.2.1 106 (640 * c + k))), .int (Zi (640 * a + k)), .ref 123]) _ _ _
      refine R_is_ (q := 39) rfl hs rfl rfl (by omega) (by omega) (by decide) (by first | exact zu | exact zc _ | exact hs.zF _ | exact Zor_r _ _ | exact hs.zA _ _ | assumption | exact zA _ _ | exact zS _ | exact Zr_not (hs.zA _ _) | exact ⟨by omega, by omega⟩) (fun h hs => ?_)
      refine Z_iinc (L2 := [(3, .int (Zi (k + 1))), (2, .int (Zi a)), (1, .int (Zi c)), (0, .ref 83)]) rfl rfl (by decide) rfl ?_
      refine Z_go (f2 := (69, [(3, .int (Zi (k + 1))), (2, .int (Zi a)), (1, .int (Zi c)), (0, .ref 83)], [])) (fun _ => rfl) ?_
      refine B_loc (K := [(3, .int (Zi (k + 1))), (2, .int (Zi a)), (1, .int (Zi c)), (0, .ref 83)]) (N_all_sub ⟨rfl, rfl, rfl, rfl, trivial⟩) (show ([3, 2, 1, 0] : List Nat).Nodup by decide) ?_
      rw [R_fl_st (by omega) rfl (by show _ = s.2.1 106 (640 * c + (640 * a + k - 640 * a)); rw [show 640 * a + k - 640 * a = k by omega, ← eC])] at hs
      exact ih (k + 1) h (by omega) (by rw [← Int.add_assoc]; exact hs) (by omega) (by omega)
theorem R_tc_o {d : Nat} {h0 : E_H} {s : R_S} {sl : Nat} {Φ : E_R → Prop} {m : Int} (m0 : 0 ≤ m) (m1 : m ≤ 24) (hv : (∀ e, 0 ≤ e → e < m → 0 ≤ s.2.1 105 e ∧ s.2.1 105 e ≤ 640)) (ds : ∀ i j, 0 ≤ i → i < j → j < m → (fun c => D_row (fun x => s.2.1 106 (640 * c + x)) (s.2.1 105 c)) i ≠ (fun c => D_row (fun x => s.2.1 106 (640 * c + x)) (s.2.1 105 c)) j) (hM : ∀ u, R_f4 [] [122, 123] [] s u → u.1 56 = m) (kont : ∀ (u : R_S) (h : E_H), R_is h0 h u → R_tc_i s u m m → Φ (none, h, sl)) : ∀ (t : Nat) (c : Int) (u : R_S) (h : E_H), m - c < t → R_is h0 h u → R_tc_i s u m c → 0 ≤ c → c ≤ m → B_R (d + 1) E_m271 (12, [(1, .int (Zi c)), (0, .ref 83)], []) h sl Φ := by
  intro t
  induction t with
  | zero => intro c u h ht hs hu c0 c1; omega
  | succ t ih =>
    intro c u h ht hs hu c0 c1
    have hm := hM u hu.1
    have zm : Zr m := ⟨by omega, by omega⟩
    have eS : ∀ j, u.2.1 105 j = s.2.1 105 j := fun j => hu.1.2.1 105 (by decide) j
    refine Z_go (f2 := (13, [(1, .int (Zi c)), (0, .ref 83)], [.int (Zi c)])) (fun _ => rfl) ?_
    refine Z_go (f2 := (14, [(1, .int (Zi c)), (0, .ref 83)], [.ref 83, .int (Zi c)])) (fun _ => rfl) ?_
    refine R_gi rfl hs rfl ?_
    show B_R _ _ (17, [(1, .int (Zi c)), (0, .ref 83)], [.int (Zi (u.1 56)), .int (Zi c)]) _ _ _
    refine Z_cge rfl rfl (by first | exact hs.zF _ | exact Zor_r _ _ | exact hs.zA _ _ | assumption | exact zA _ _ | exact zS _ | exact Zr_not (hs.zA _ _) | exact ⟨by omega, by omega⟩) (by first | exact hs.zF _ | exact Zor_r _ _ | exact hs.zA _ _ | assumption | exact zA _ _ | exact zS _ | exact Zr_not (hs.zA _ _) | exact ⟨by omega, by omega⟩) (fun c1 => ?_) (fun c1 => ?_)
    · refine Z_ret rfl rfl ?_
      obtain rfl : c = m := by omega
      exact kont u h hs hu
    · refine Z_go (f2 := (21, [(1, .int (Zi c)), (0, .ref 83)], [.int (Zi 0)])) (fun _ => rfl) ?_
      refine Z_go (f2 := (22, [(2, .int (Zi 0)), (1, .int (Zi c)), (0, .ref 83)], [])) (fun _ => rfl) ?_
      refine Z_go (f2 := (23, [(2, .int (Zi 0)), (1, .int (Zi c)), (0, .ref 83)], [.int (Zi 0)])) (fun _ => rfl) ?_
      refine Z_go (f2 := (24, [(3, .int (Zi 0)), (2, .int (Zi 0)), (1, .int (Zi c)), (0, .ref 83)], [])) (fun _ => rfl) ?_
      refine B_loc (K := [(3, .int (Zi 0)), (2, .int (Zi 0)), (1, .int (Zi c)), (0, .ref 83)]) (N_all_sub ⟨rfl, rfl, rfl, rfl, trivial⟩) (show ([3, 2, 1, 0] : List Nat).Nodup by decide) ?_
      refine R_tc_1 (s := s) (m := m) hm.symm m0 m1 hv hu c0 (by omega) hs (fun a h hs ha => ?_) (m.toNat + 1) 0 0 h (by omega) hs (D_cn_0 _) (by omega) m0
      have pb := X_rk_b ha c0 (by omega)
      have eSc := eS c
      refine Z_go (f2 := (56, [(2, .int (Zi a)), (1, .int (Zi c)), (0, .ref 83)], [.ref 83])) (fun _ => rfl) ?_
      refine R_gr (q := 120) rfl hs rfl ?_
      show B_R _ _ (59, [(2, .int (Zi a)), (1, .int (Zi c)), (0, .ref 83)], [.ref 122]) _ _ _
      refine Z_go (f2 := (60, [(2, .int (Zi a)), (1, .int (Zi c)), (0, .ref 83)], [.int (Zi a), .ref 122])) (fun _ => rfl) ?_
      refine Z_go (f2 := (61, [(2, .int (Zi a)), (1, .int (Zi c)), (0, .ref 83)], [.ref 83, .int (Zi a), .ref 122])) (fun _ => rfl) ?_
      refine R_gr (q := 103) rfl hs rfl ?_
      show B_R _ _ (64, [(2, .int (Zi a)), (1, .int (Zi c)), (0, .ref 83)], [.ref 105, .int (Zi a), .ref 122]) _ _ _
      refine Z_go (f2 := (65, [(2, .int (Zi a)), (1, .int (Zi c)), (0, .ref 83)], [.int (Zi c), .ref 105, .int (Zi a), .ref 122])) (fun _ => rfl) ?_
      refine R_ia (q := 21) rfl hs rfl rfl (by omega) (by omega) (by decide) ?_
      refine R_is_ (q := 38) rfl hs rfl rfl (by omega) (by omega) (by decide) (by first | exact hs.zF _ | exact Zor_r _ _ | exact hs.zA _ _ | assumption | exact zA _ _ | exact zS _ | exact Zr_not (hs.zA _ _) | exact ⟨by omega, by omega⟩) (fun h hs => ?_)
      refine Z_go (f2 := (68, [(2, .int (Zi a)), (1, .int (Zi c)), (0, .ref 83)], [.int (Zi 0)])) (fun _ => rfl) ?_
      refine Z_go (f2 := (69, [(3, .int (Zi 0)), (2, .int (Zi a)), (1, .int (Zi c)), (0, .ref 83)], [])) (fun _ => rfl) ?_
      refine B_loc (K := [(3, .int (Zi 0)), (2, .int (Zi a)), (1, .int (Zi c)), (0, .ref 83)]) (N_all_sub ⟨rfl, rfl, rfl, rfl, trivial⟩) (show ([3, 2, 1, 0] : List Nat).Nodup by decide) ?_
      rw [eSc] at hs
      refine R_tc_2 (s := s) (u := u) (m := m) m0 m1 hv hu c0 (by omega) pb.1 pb.2 (fun h hs => ?_) ((s.2.1 105 c).toNat + 1) 0 h (by omega) (by rw [Int.add_zero, R_fl_0]; exact hs) (by omega) (hv c c0 (by omega)).1
      refine Z_iinc (L2 := [(1, .int (Zi (c + 1))), (2, .int (Zi a)), (0, .ref 83)]) rfl rfl (by decide) rfl ?_
      refine Z_go (f2 := (12, [(1, .int (Zi (c + 1))), (2, .int (Zi a)), (0, .ref 83)], [])) (fun _ => rfl) ?_
      refine B_loc (K := [(1, .int (Zi (c + 1))), (0, .ref 83)]) (N_all_sub ⟨rfl, rfl, trivial⟩) (show ([1, 0] : List Nat).Nodup by decide) ?_
      have hst := R_tc_st m1 hv ds hu c0 (by omega) ha
      rw [Int.zero_add] at hst
      exact ih (c + 1) _ h (by omega) hs hst (by omega) (by omega)
theorem R_tellsChoices (d : Nat) (s : R_S) {C : P_X} (hC : R_CC s 0 C) : R_ok (d + 2) 271 [] s (fun x u => x = none ∧ R_f4 [56] [122, 123] [] s u ∧ ∃ L, X_srt L C ∧ (L.length : Int) = u.1 56 ∧ L.length ≤ 24 ∧ (∀ r ∈ L, r.length ≤ 640) ∧ R_td u 122 123 0 640 L) := by
  refine R_enter (M := E_m271) rfl (Nat.le_of_ble_eq_true rfl) (fun h0 h hs => ?_)
  show B_R (d + 1) _ (0, [(0, .ref 83)], []) _ _ _
  obtain ⟨v0, v1, v2, v3, v4⟩ := id hC
  have row : ∀ e, (fun c => D_row (fun x => s.2.1 106 (640 * c + x)) (s.2.1 105 c)) e = R_crow s 0 e := fun e => D_row_eq (by rw [show 24 * 0 + e = e by omega]) (fun j _ _ => by rw [show 24 * 0 + e = e by omega])
  have hv : ∀ e, 0 ≤ e → e < s.2.1 104 0 → 0 ≤ s.2.1 105 e ∧ s.2.1 105 e ≤ 640 := fun e e0 e1 => by
    have := v2 e e0 e1
    rw [show 24 * 0 + e = e by omega] at this
    exact ⟨this.1, this.2.1⟩
  refine Z_go (f2 := (1, [(0, .ref 83)], [.ref 83])) (fun _ => rfl) ?_
  refine Z_go (f2 := (2, [(0, .ref 83)], [.ref 83, .ref 83])) (fun _ => rfl) ?_
  refine R_gr (q := 102) rfl hs rfl ?_
  show B_R _ _ (5, [(0, .ref 83)], [.ref 104, .ref 83]) _ _ _
  refine Z_go (f2 := (6, [(0, .ref 83)], [.int (Zi 0), .ref 104, .ref 83])) (fun _ => rfl) ?_
  refine R_ia (q := 20) rfl hs rfl rfl (by omega) (by omega) (by decide) ?_
  refine R_pf rfl hs rfl (by first | exact hs.zF _ | exact Zor_r _ _ | exact hs.zA _ _ | assumption | exact zA _ _ | exact zS _ | exact Zr_not (hs.zA _ _) | exact ⟨by omega, by omega⟩) ⟨rfl, rfl, rfl⟩ (fun h hs => ?_)
  refine Z_go (f2 := (11, [(0, .ref 83)], [.int (Zi 0)])) (fun _ => rfl) ?_
  refine Z_go (f2 := (12, [(1, .int (Zi 0)), (0, .ref 83)], [])) (fun _ => rfl) ?_
  refine B_loc (K := [(1, .int (Zi 0)), (0, .ref 83)]) (N_all_sub ⟨rfl, rfl, trivial⟩) (show ([1, 0] : List Nat).Nodup by decide) ?_
  refine R_tc_o (s := R_sF s 56 (s.2.1 104 0)) (m := s.2.1 104 0) v0 v1 hv (fun i j i0 ij j1 => by have := v3 i j i0 ij j1; rw [← row, ← row] at this; exact this) (fun u hu => ?_) (fun u h hs hu => ⟨_, hs, ⟨rfl, ?_, ?_⟩, rfl⟩) ((s.2.1 104 0).toNat + 1) 0 _ h (by omega) hs ⟨R_f4.rf _ _ _ _, fun _ _ => rfl, fun _ _ => rfl, fun e e0 e1 => by omega⟩ (by omega) v0
  · rw [hu.1 56 (by simp), R_sF_s]
  · exact ((R_f4.rf [56] [122, 123] [] s).sF (by simp)).tr hu.1 (by simp) (by simp) (by simp)
  · obtain ⟨L, l1, l2, l3⟩ := X_told (row := R_crow s 0) (m := s.2.1 104 0) (u := u) (r := 122) (q := 123) (b := 0) (d := 640) v0 v3 (fun e e0 e1 => by
      obtain ⟨r, r1, r2, r3⟩ := hu.2.2.2 e e0 e1
      have he := hv e e0 e1
      have rw_ : (fun c => D_row (fun x => s.2.1 106 (640 * c + x)) (s.2.1 105 c)) = R_crow s 0 := funext row
      refine ⟨r, by rw [← rw_]; exact r1, ?_, fun x hx => ?_⟩
      · rw [r2, ← row]
        show s.2.1 105 e = ((D_row _ _).length : Int)
        rw [D_row_len]
        omega
      · have hx2 : x < (s.2.1 105 e).toNat := by rw [← D_row_len (fun x => s.2.1 106 (640 * e + x)) (s.2.1 105 e)]; rw [← row] at hx; exact hx
        rw [r3 x (by omega) (show (x : Int) < s.2.1 105 e by omega)]
        have hg : ∀ (l : List Int) (hl : l = R_crow s 0 e) (h2 : x < l.length), l[x] = (R_crow s 0 e)[x] := fun l hl h2 => by subst hl; rfl
        rw [← hg _ (row e) (by rw [row]; exact hx)]
        exact (D_row_get (fun x => s.2.1 106 (640 * e + x)) (s.2.1 105 e) x (by have := hx; rw [← row] at this; exact this)).symm)
    have hu56 : u.1 56 = s.2.1 104 0 := (hu.1.1 56 (by simp)).trans (R_sF_s s 56 _)
    refine ⟨L, ⟨l1.1, fun x => (v4 x).trans (l1.2 x)⟩, by rw [hu56]; exact l2, by omega, fun r hr => ?_, l3⟩
    obtain ⟨e, e0, e1, rfl⟩ := (l1.2 r).mpr hr
    have he := hv e e0 e1
    rw [← row]
    show (D_row _ _).length ≤ 640
    rw [D_row_len]
    omega
def R_tt_i (s u : R_S) (wh : Int) (m c : Int) : Prop := R_f4 [] [125, 126] [] s u ∧ (∀ j, ¬ (12 * wh ≤ j ∧ j < 12 * wh + 12) → u.2.1 125 j = s.2.1 125 j) ∧ (∀ j, ¬ (60 * (12 * wh) ≤ j ∧ j < 60 * (12 * wh) + 720) → u.2.1 126 j = s.2.1 126 j) ∧ ∀ e, 0 ≤ e → e < c → ∃ r, X_rk (fun c => D_row (fun x => s.2.1 112 (60 * c + x)) (s.2.1 111 c)) m e r ∧ u.2.1 125 (12 * wh + r) = s.2.1 111 e ∧ ∀ x, 0 ≤ x → x < s.2.1 111 e → u.2.1 126 (60 * (12 * wh + r) + x) = s.2.1 112 (60 * e + x)
theorem R_tt_st {s u : R_S} {wh : Int} {m c p : Int} (m1 : m ≤ 12) (hv : (∀ e, 0 ≤ e → e < m → 0 ≤ s.2.1 111 e ∧ s.2.1 111 e ≤ 60)) (ds : ∀ i j, 0 ≤ i → i < j → j < m → (fun c => D_row (fun x => s.2.1 112 (60 * c + x)) (s.2.1 111 c)) i ≠ (fun c => D_row (fun x => s.2.1 112 (60 * c + x)) (s.2.1 111 c)) j) (h : R_tt_i s u wh m c) (c0 : 0 ≤ c) (c1 : c < m) (hp : X_rk (fun c => D_row (fun x => s.2.1 112 (60 * c + x)) (s.2.1 111 c)) m c p) : R_tt_i s (R_fl (R_sA u 125 (12 * wh + p) (s.2.1 111 c)) 126 (60 * (12 * wh + p)) (60 * (12 * wh + p) + s.2.1 111 c) (fun j => s.2.1 112 (60 * c + (j - 60 * (12 * wh + p))))) wh m (c + 1) := by
  obtain ⟨h1, h2, h3, h4⟩ := h
  have pb := X_rk_b hp c0 c1
  have hc := hv c c0 c1
  have er : ∀ j, (R_fl (R_sA u 125 (12 * wh + p) (s.2.1 111 c)) 126 (60 * (12 * wh + p)) (60 * (12 * wh + p) + s.2.1 111 c) (fun j => s.2.1 112 (60 * c + (j - 60 * (12 * wh + p))))).2.1 125 j = if j = 12 * wh + p then s.2.1 111 c else u.2.1 125 j := fun j => by rw [R_fl_n (by decide), R_sA_at]
  have eo : ∀ j, ¬ (60 * (12 * wh + p) ≤ j ∧ j < 60 * (12 * wh + p) + s.2.1 111 c) → (R_fl (R_sA u 125 (12 * wh + p) (s.2.1 111 c)) 126 (60 * (12 * wh + p)) (60 * (12 * wh + p) + s.2.1 111 c) (fun j => s.2.1 112 (60 * c + (j - 60 * (12 * wh + p))))).2.1 126 j = u.2.1 126 j := fun j hj => by rw [R_fl_o hj, R_sA_n _ _ _ _ (by decide)]
  refine ⟨(h1.sA (by simp)).tr ⟨fun _ _ => rfl, fun q hq j => R_fl_n (fun e => hq (by rw [e]; exact List.mem_singleton.mpr rfl)) j, rfl, fun _ _ _ => rfl⟩ (bs2 := []) (qs2 := [126]) (ps2 := []) (by simp) (by simp) (by simp), fun j hj => by rw [er, if_neg (by omega)]; exact h2 j hj, fun j hj => by rw [eo j (by omega)]; exact h3 j hj, fun e e0 e1 => ?_⟩
  by_cases z : e = c
  · subst z
    refine ⟨p, hp, by rw [er, if_pos rfl], fun x x0 x1 => ?_⟩
    rw [R_fl_i (by omega) (by omega), show 60 * (12 * wh + p) + x - 60 * (12 * wh + p) = x by omega]
  · obtain ⟨r, r1, r2, r3⟩ := h4 e e0 (by omega)
    have rb := X_rk_b r1 e0 (by omega)
    have hne := X_rk_ne ds r1 hp e0 (by omega) c0 c1 z
    have he := hv e e0 (by omega)
    refine ⟨r, r1, by rw [er, if_neg (by omega)]; exact r2, fun x x0 x1 => ?_⟩
    rw [eo _ (by omega)]
    exact r3 x x0 x1
theorem R_tt_1 {d : Nat} {h0 h : E_H} {s u : R_S} {sl : Nat} {Φ : E_R → Prop} {wh : Int} {m c : Int} (hm : m = u.1 43) (m0 : 0 ≤ m) (m1 : m ≤ 12) (hv : (∀ e, 0 ≤ e → e < m → 0 ≤ s.2.1 111 e ∧ s.2.1 111 e ≤ 60)) (hu : R_tt_i s u wh m c) (c0 : 0 ≤ c) (c1 : c < m) (w0 : 0 ≤ wh) (w1 : wh < 3) (hs : R_is h0 h u) (kont : ∀ (a : Int) (h : E_H), R_is h0 h u → X_rk (fun c => D_row (fun x => s.2.1 112 (60 * c + x)) (s.2.1 111 c)) m c a → B_R (d + 1) E_m273 (58, [(3, .int (Zi a)), (2, .int (Zi c)), (0, .ref 83), (1, .int (Zi wh))], []) h sl Φ) : ∀ (t : Nat) (e a : Int) (h : E_H), m - e < t → R_is h0 h u → D_cn (fun j => L_lx ((fun c => D_row (fun x => s.2.1 112 (60 * c + x)) (s.2.1 111 c)) j) ((fun c => D_row (fun x => s.2.1 112 (60 * c + x)) (s.2.1 111 c)) c)) e a → 0 ≤ e → e ≤ m → B_R (d + 1) E_m273 (25, [(4, .int (Zi e)), (3, .int (Zi a)), (2, .int (Zi c)), (0, .ref 83), (1, .int (Zi wh))], []) h sl Φ := by
  intro t
  induction t with
  | zero => intro e a h ht hs ha e0 e1; omega
  | succ t ih =>
    intro e a h ht hs ha e0 e1
    have zm : Zr m := ⟨by omega, by omega⟩
    have ab := D_cn_le ha e0
    have eS : u.2.1 111 = s.2.1 111 := funext (fun j => hu.1.2.1 111 (by decide) j)
    have eC : u.2.1 112 = s.2.1 112 := funext (fun j => hu.1.2.1 112 (by decide) j)
    refine Z_go (f2 := (27, [(4, .int (Zi e)), (3, .int (Zi a)), (2, .int (Zi c)), (0, .ref 83), (1, .int (Zi wh))], [.int (Zi e)])) (fun _ => rfl) ?_
    refine Z_go (f2 := (28, [(4, .int (Zi e)), (3, .int (Zi a)), (2, .int (Zi c)), (0, .ref 83), (1, .int (Zi wh))], [.ref 83, .int (Zi e)])) (fun _ => rfl) ?_
    refine R_gi rfl hs rfl ?_
    show B_R _ _ (31, [(4, .int (Zi e)), (3, .int (Zi a)), (2, .int (Zi c)), (0, .ref 83), (1, .int (Zi wh))], [.int (Zi (u.1 43)), .int (Zi e)]) _ _ _
    refine Z_cge rfl rfl (by first | exact hs.zF _ | exact Zor_r _ _ | exact hs.zA _ _ | assumption | exact zA _ _ | exact zS _ | exact Zr_not (hs.zA _ _) | exact ⟨by omega, by omega⟩) (by first | exact hs.zF _ | exact Zor_r _ _ | exact hs.zA _ _ | assumption | exact zA _ _ | exact zS _ | exact Zr_not (hs.zA _ _) | exact ⟨by omega, by omega⟩) (fun b1 => ?_) (fun b1 => ?_)
    · refine B_loc (K := [(3, .int (Zi a)), (2, .int (Zi c)), (0, .ref 83), (1, .int (Zi wh))]) (N_all_sub ⟨rfl, rfl, rfl, rfl, trivial⟩) (show ([3, 2, 0, 1] : List Nat).Nodup by decide) ?_
      obtain rfl : e = m := by omega
      exact kont a h hs ha
    · refine Z_go (f2 := (35, [(4, .int (Zi e)), (3, .int (Zi a)), (2, .int (Zi c)), (0, .ref 83), (1, .int (Zi wh))], [.int (Zi a)])) (fun _ => rfl) ?_
      refine Z_go (f2 := (36, [(4, .int (Zi e)), (3, .int (Zi a)), (2, .int (Zi c)), (0, .ref 83), (1, .int (Zi wh))], [.ref 83, .int (Zi a)])) (fun _ => rfl) ?_
      refine Z_go (f2 := (38, [(4, .int (Zi e)), (3, .int (Zi a)), (2, .int (Zi c)), (0, .ref 83), (1, .int (Zi wh))], [.int (Zi e), .ref 83, .int (Zi a)])) (fun _ => rfl) ?_
      refine Z_go (f2 := (39, [(4, .int (Zi e)), (3, .int (Zi a)), (2, .int (Zi c)), (0, .ref 83), (1, .int (Zi wh))], [.int (Zi c), .int (Zi e), .ref 83, .int (Zi a)])) (fun _ => rfl) ?_
      refine R_call (As := [.int (Zi e), .int (Zi c)]) (rest := [.int (Zi a)]) rfl (by decide) rfl rfl rfl rfl (by decide +kernel) (Nat.le_of_ble_eq_true rfl) hs (R_isTextAhead _ u (c := e) (e := c) ⟨by omega, by omega⟩ ⟨by omega, by omega⟩ (by have := hv e e0 (by omega); rw [eS]; omega) (by have := hv c c0 c1; rw [eS]; omega)) (fun x h s2 hs q => ?_)
      obtain ⟨q0, v9, rfl, hv9⟩ := q
      rw [q0] at hs
      rw [eS, eC] at hv9
      show B_R _ _ (42, [(4, .int (Zi e)), (3, .int (Zi a)), (2, .int (Zi c)), (0, .ref 83), (1, .int (Zi wh))], [.int (Zi v9), .int (Zi a)]) _ _ _
      refine Z_ieq rfl rfl (by first | exact hs.zF _ | exact Zor_r _ _ | exact hs.zA _ _ | assumption | exact zA _ _ | exact zS _ | exact Zr_not (hs.zA _ _) | exact ⟨by omega, by omega⟩) (fun b2 => ?_) (fun b2 => ?_)
      · refine Z_go (f2 := (50, [(4, .int (Zi e)), (3, .int (Zi a)), (2, .int (Zi c)), (0, .ref 83), (1, .int (Zi wh))], [.int (Zi 0), .int (Zi a)])) (fun _ => rfl) ?_
        refine Z_iadd rfl ?_
        refine Z_go (f2 := (52, [(3, .int (Zi (a + 0))), (4, .int (Zi e)), (2, .int (Zi c)), (0, .ref 83), (1, .int (Zi wh))], [])) (fun _ => rfl) ?_
        refine Z_iinc (L2 := [(4, .int (Zi (e + 1))), (3, .int (Zi (a + 0))), (2, .int (Zi c)), (0, .ref 83), (1, .int (Zi wh))]) rfl rfl (by decide) rfl ?_
        refine Z_go (f2 := (25, [(4, .int (Zi (e + 1))), (3, .int (Zi (a + 0))), (2, .int (Zi c)), (0, .ref 83), (1, .int (Zi wh))], [])) (fun _ => rfl) ?_
        refine B_loc (K := [(4, .int (Zi (e + 1))), (3, .int (Zi (a + 0))), (2, .int (Zi c)), (0, .ref 83), (1, .int (Zi wh))]) (N_all_sub ⟨rfl, rfl, rfl, rfl, rfl, trivial⟩) (show ([4, 3, 2, 0, 1] : List Nat).Nodup by decide) ?_
        rw [Int.add_zero]
        exact ih (e + 1) a h (by omega) hs (D_cn_no ha (by rcases hv9 with z | z; omega; exact z.2)) (by omega) (by omega)
      · refine Z_go (f2 := (46, [(4, .int (Zi e)), (3, .int (Zi a)), (2, .int (Zi c)), (0, .ref 83), (1, .int (Zi wh))], [.int (Zi 1), .int (Zi a)])) (fun _ => rfl) ?_
        refine Z_go (f2 := (50, [(4, .int (Zi e)), (3, .int (Zi a)), (2, .int (Zi c)), (0, .ref 83), (1, .int (Zi wh))], [.int (Zi 1), .int (Zi a)])) (fun _ => rfl) ?_
        refine Z_iadd rfl ?_
        refine Z_go (f2 := (52, [(3, .int (Zi (a + 1))), (4, .int (Zi e)), (2, .int (Zi c)), (0, .ref 83), (1, .int (Zi wh))], [])) (fun _ => rfl) ?_
        refine Z_iinc (L2 := [(4, .int (Zi (e + 1))), (3, .int (Zi (a + 1))), (2, .int (Zi c)), (0, .ref 83), (1, .int (Zi wh))]) rfl rfl (by decide) rfl ?_
        refine Z_go (f2 := (25, [(4, .int (Zi (e + 1))), (3, .int (Zi (a + 1))), (2, .int (Zi c)), (0, .ref 83), (1, .int (Zi wh))], [])) (fun _ => rfl) ?_
        refine B_loc (K := [(4, .int (Zi (e + 1))), (3, .int (Zi (a + 1))), (2, .int (Zi c)), (0, .ref 83), (1, .int (Zi wh))]) (N_all_sub ⟨rfl, rfl, rfl, rfl, rfl, trivial⟩) (show ([4, 3, 2, 0, 1] : List Nat).Nodup by decide) ?_
        exact ih (e + 1) (a + 1) h (by omega) hs (D_cn_yes ha e0 (by rcases hv9 with z | z; exact z.2; omega)) (by omega) (by omega)
theorem R_tt_2 {d : Nat} {h0 : E_H} {s u : R_S} {sl : Nat} {Φ : E_R → Prop} {wh : Int} {m c a : Int} (m0 : 0 ≤ m) (m1 : m ≤ 12) (hv : (∀ e, 0 ≤ e → e < m → 0 ≤ s.2.1 111 e ∧ s.2.1 111 e ≤ 60)) (hu : R_tt_i s u wh m c) (c0 : 0 ≤ c) (c1 : c < m) (w0 : 0 ≤ wh) (w1 : wh < 3) (a0 : 0 ≤ a) (a1 : a < m) (kont : ∀ (h : E_H), R_is h0 h (R_fl (R_sA u 125 (12 * wh + a) (s.2.1 111 c)) 126 (60 * (12 * wh + a)) (60 * (12 * wh + a) + s.2.1 111 c) (fun j => s.2.1 112 (60 * c + (j - 60 * (12 * wh + a))))) → B_R (d + 1) E_m273 (124, [(3, .int (Zi a)), (2, .int (Zi c)), (0, .ref 83), (1, .int (Zi wh))], []) h sl Φ) : ∀ (t : Nat) (k : Int) (h : E_H), s.2.1 111 c - k < t → R_is h0 h (R_fl (R_sA u 125 (12 * wh + a) (s.2.1 111 c)) 126 (60 * (12 * wh + a)) (60 * (12 * wh + a) + k) (fun j => s.2.1 112 (60 * c + (j - 60 * (12 * wh + a))))) → 0 ≤ k → k ≤ s.2.1 111 c → B_R (d + 1) E_m273 (78, [(4, .int (Zi k)), (3, .int (Zi a)), (2, .int (Zi c)), (0, .ref 83), (1, .int (Zi wh))], []) h sl Φ := by
  intro t
  induction t with
  | zero => intro k h ht hs k0 k1; omega
  | succ t ih =>
    intro k h ht hs k0 k1
    have hc := hv c c0 c1
    have eS : ∀ j, u.2.1 111 j = s.2.1 111 j := fun j => hu.1.2.1 111 (by decide) j
    have eC : ∀ j, u.2.1 112 j = s.2.1 112 j := fun j => hu.1.2.1 112 (by decide) j
    have eSc := eS c
    have zA : ∀ q j, Zr ((R_fl (R_sA u 125 (12 * wh + a) (s.2.1 111 c)) 126 (60 * (12 * wh + a)) (60 * (12 * wh + a) + k) (fun j => s.2.1 112 (60 * c + (j - 60 * (12 * wh + a))))).2.1 q j) := fun q j => hs.zA q j
    have zu : Zr (u.2.1 111 c) := by rw [eS]; exact ⟨by omega, by omega⟩
    have zc : ∀ j, Zr (u.2.1 112 j) := fun j => by have := zA 112 j; rw [R_fl_n (by decide), R_sA_n _ _ _ _ (by decide)] at this; exact this
    refine Z_go (f2 := (80, [(4, .int (Zi k)), (3, .int (Zi a)), (2, .int (Zi c)), (0, .ref 83), (1, .int (Zi wh))], [.int (Zi k)])) (fun _ => rfl) ?_
    refine Z_go (f2 := (81, [(4, .int (Zi k)), (3, .int (Zi a)), (2, .int (Zi c)), (0, .ref 83), (1, .int (Zi wh))], [.ref 83, .int (Zi k)])) (fun _ => rfl) ?_
    refine R_gr (q := 109) rfl hs rfl ?_
    show B_R _ _ (84, [(4, .int (Zi k)), (3, .int (Zi a)), (2, .int (Zi c)), (0, .ref 83), (1, .int (Zi wh))], [.ref 111, .int (Zi k)]) _ _ _
    refine Z_go (f2 := (85, [(4, .int (Zi k)), (3, .int (Zi a)), (2, .int (Zi c)), (0, .ref 83), (1, .int (Zi wh))], [.int (Zi c), .ref 111, .int (Zi k)])) (fun _ => rfl) ?_
    refine R_ia (q := 27) rfl hs rfl rfl (by omega) (by omega) (by decide) ?_
    rw [show (R_fl (R_sA u 125 (12 * wh + a) (s.2.1 111 c)) 126 (60 * (12 * wh + a)) (60 * (12 * wh + a) + k) (fun j => s.2.1 112 (60 * c + (j - 60 * (12 * wh + a))))).2.1 111 c = u.2.1 111 c by first | rfl | simp [R_sA, R_sF, R_up2, R_fl, R_fL, R_sM, R_sL, R_p3, R_em]]; show B_R _ _ (86, [(4, .int (Zi k)), (3, .int (Zi a)), (2, .int (Zi c)), (0, .ref 83), (1, .int (Zi wh))], [.int (Zi (u.2.1 111 c)), .int (Zi k)]) _ _ _
    refine Z_cge rfl rfl (by first | exact zu | exact zc _ | exact hs.zF _ | exact Zor_r _ _ | exact hs.zA _ _ | assumption | exact zA _ _ | exact zS _ | exact Zr_not (hs.zA _ _) | exact ⟨by omega, by omega⟩) (by first | exact zu | exact zc _ | exact hs.zF _ | exact Zor_r _ _ | exact hs.zA _ _ | assumption | exact zA _ _ | exact zS _ | exact Zr_not (hs.zA _ _) | exact ⟨by omega, by omega⟩) (fun b1 => ?_) (fun b1 => ?_)
    · refine B_loc (K := [(3, .int (Zi a)), (2, .int (Zi c)), (0, .ref 83), (1, .int (Zi wh))]) (N_all_sub ⟨rfl, rfl, rfl, rfl, trivial⟩) (show ([3, 2, 0, 1] : List Nat).Nodup by decide) ?_
      obtain rfl : k = s.2.1 111 c := by omega
      exact kont h hs
    · refine Z_go (f2 := (90, [(4, .int (Zi k)), (3, .int (Zi a)), (2, .int (Zi c)), (0, .ref 83), (1, .int (Zi wh))], [.ref 83])) (fun _ => rfl) ?_
      refine R_gr (q := 124) rfl hs rfl ?_
      show B_R _ _ (93, [(4, .int (Zi k)), (3, .int (Zi a)), (2, .int (Zi c)), (0, .ref 83), (1, .int (Zi wh))], [.ref 126]) _ _ _
      refine Z_go (f2 := (95, [(4, .int (Zi k)), (3, .int (Zi a)), (2, .int (Zi c)), (0, .ref 83), (1, .int (Zi wh))], [.int (Zi 60), .ref 126])) (fun _ => rfl) ?_
      refine Z_go (f2 := (97, [(4, .int (Zi k)), (3, .int (Zi a)), (2, .int (Zi c)), (0, .ref 83), (1, .int (Zi wh))], [.int (Zi 12), .int (Zi 60), .ref 126])) (fun _ => rfl) ?_
      refine Z_go (f2 := (98, [(4, .int (Zi k)), (3, .int (Zi a)), (2, .int (Zi c)), (0, .ref 83), (1, .int (Zi wh))], [.int (Zi wh), .int (Zi 12), .int (Zi 60), .ref 126])) (fun _ => rfl) ?_
      refine Z_imul rfl ?_
      refine Z_go (f2 := (100, [(4, .int (Zi k)), (3, .int (Zi a)), (2, .int (Zi c)), (0, .ref 83), (1, .int (Zi wh))], [.int (Zi a), .int (Zi (12 * wh)), .int (Zi 60), .ref 126])) (fun _ => rfl) ?_
      refine Z_iadd rfl ?_
      refine Z_imul rfl ?_
      refine Z_go (f2 := (104, [(4, .int (Zi k)), (3, .int (Zi a)), (2, .int (Zi c)), (0, .ref 83), (1, .int (Zi wh))], [.int (Zi k), .int (Zi (60 * (12 * wh + a))), .ref 126])) (fun _ => rfl) ?_
      refine Z_iadd rfl ?_
      refine Z_go (f2 := (106, [(4, .int (Zi k)), (3, .int (Zi a)), (2, .int (Zi c)), (0, .ref 83), (1, .int (Zi wh))], [.ref 83, .int (Zi (60 * (12 * wh + a) + k)), .ref 126])) (fun _ => rfl) ?_
      refine R_gr (q := 110) rfl hs rfl ?_
      show B_R _ _ (109, [(4, .int (Zi k)), (3, .int (Zi a)), (2, .int (Zi c)), (0, .ref 83), (1, .int (Zi wh))], [.ref 112, .int (Zi (60 * (12 * wh + a) + k)), .ref 126]) _ _ _
      refine Z_go (f2 := (111, [(4, .int (Zi k)), (3, .int (Zi a)), (2, .int (Zi c)), (0, .ref 83), (1, .int (Zi wh))], [.int (Zi 60), .ref 112, .int (Zi (60 * (12 * wh + a) + k)), .ref 126])) (fun _ => rfl) ?_
      refine Z_go (f2 := (112, [(4, .int (Zi k)), (3, .int (Zi a)), (2, .int (Zi c)), (0, .ref 83), (1, .int (Zi wh))], [.int (Zi c), .int (Zi 60), .ref 112, .int (Zi (60 * (12 * wh + a) + k)), .ref 126])) (fun _ => rfl) ?_
      refine Z_imul rfl ?_
      refine Z_go (f2 := (115, [(4, .int (Zi k)), (3, .int (Zi a)), (2, .int (Zi c)), (0, .ref 83), (1, .int (Zi wh))], [.int (Zi k), .int (Zi (60 * c)), .ref 112, .int (Zi (60 * (12 * wh + a) + k)), .ref 126])) (fun _ => rfl) ?_
      refine Z_iadd rfl ?_
      refine R_ia (q := 28) rfl hs rfl rfl (by omega) (by omega) (by decide) ?_
      rw [show (R_fl (R_sA u 125 (12 * wh + a) (s.2.1 111 c)) 126 (60 * (12 * wh + a)) (60 * (12 * wh + a) + k) (fun j => s.2.1 112 (60 * c + (j - 60 * (12 * wh + a))))).2.1 112 (60 * c + k) = u.2.1 112 (60 * c + k) by first | rfl | simp [R_sA, R_sF, R_up2, R_fl, R_fL, R_sM, R_sL, R_p3, R_em]]; show B_R _ _ (117, [(4, .int (Zi k)), (3, .int (Zi a)), (2, .int (Zi c)), (0, .ref 83), (1, .int (Zi wh))], [.int (Zi (u.2.1 112 (60 * c + k))), .int (Zi (60 * (12 * wh + a) + k)), .ref 126]) _ _ _
      refine R_is_ (q := 42) rfl hs rfl rfl (by omega) (by omega) (by decide) (by first | exact zu | exact zc _ | exact hs.zF _ | exact Zor_r _ _ | exact hs.zA _ _ | assumption | exact zA _ _ | exact zS _ | exact Zr_not (hs.zA _ _) | exact ⟨by omega, by omega⟩) (fun h hs => ?_)
      refine Z_iinc (L2 := [(4, .int (Zi (k + 1))), (3, .int (Zi a)), (2, .int (Zi c)), (0, .ref 83), (1, .int (Zi wh))]) rfl rfl (by decide) rfl ?_
      refine Z_go (f2 := (78, [(4, .int (Zi (k + 1))), (3, .int (Zi a)), (2, .int (Zi c)), (0, .ref 83), (1, .int (Zi wh))], [])) (fun _ => rfl) ?_
      refine B_loc (K := [(4, .int (Zi (k + 1))), (3, .int (Zi a)), (2, .int (Zi c)), (0, .ref 83), (1, .int (Zi wh))]) (N_all_sub ⟨rfl, rfl, rfl, rfl, rfl, trivial⟩) (show ([4, 3, 2, 0, 1] : List Nat).Nodup by decide) ?_
      rw [R_fl_st (by omega) rfl (by show _ = s.2.1 112 (60 * c + (60 * (12 * wh + a) + k - 60 * (12 * wh + a))); rw [show 60 * (12 * wh + a) + k - 60 * (12 * wh + a) = k by omega, ← eC])] at hs
      exact ih (k + 1) h (by omega) (by rw [← Int.add_assoc]; exact hs) (by omega) (by omega)
theorem R_tt_o {d : Nat} {h0 : E_H} {s : R_S} {sl : Nat} {Φ : E_R → Prop} {wh : Int} {m : Int} (m0 : 0 ≤ m) (m1 : m ≤ 12) (hv : (∀ e, 0 ≤ e → e < m → 0 ≤ s.2.1 111 e ∧ s.2.1 111 e ≤ 60)) (ds : ∀ i j, 0 ≤ i → i < j → j < m → (fun c => D_row (fun x => s.2.1 112 (60 * c + x)) (s.2.1 111 c)) i ≠ (fun c => D_row (fun x => s.2.1 112 (60 * c + x)) (s.2.1 111 c)) j) (w0 : 0 ≤ wh) (w1 : wh < 3) (hM : ∀ u, R_f4 [] [125, 126] [] s u → u.1 43 = m) (kont : ∀ (u : R_S) (h : E_H), R_is h0 h u → R_tt_i s u wh m m → Φ (none, h, sl)) : ∀ (t : Nat) (c : Int) (u : R_S) (h : E_H), m - c < t → R_is h0 h u → R_tt_i s u wh m c → 0 ≤ c → c ≤ m → B_R (d + 1) E_m273 (12, [(2, .int (Zi c)), (0, .ref 83), (1, .int (Zi wh))], []) h sl Φ := by
  intro t
  induction t with
  | zero => intro c u h ht hs hu c0 c1; omega
  | succ t ih =>
    intro c u h ht hs hu c0 c1
    have hm := hM u hu.1
    have zm : Zr m := ⟨by omega, by omega⟩
    have eS : ∀ j, u.2.1 111 j = s.2.1 111 j := fun j => hu.1.2.1 111 (by decide) j
    refine Z_go (f2 := (13, [(2, .int (Zi c)), (0, .ref 83), (1, .int (Zi wh))], [.int (Zi c)])) (fun _ => rfl) ?_
    refine Z_go (f2 := (14, [(2, .int (Zi c)), (0, .ref 83), (1, .int (Zi wh))], [.ref 83, .int (Zi c)])) (fun _ => rfl) ?_
    refine R_gi rfl hs rfl ?_
    show B_R _ _ (17, [(2, .int (Zi c)), (0, .ref 83), (1, .int (Zi wh))], [.int (Zi (u.1 43)), .int (Zi c)]) _ _ _
    refine Z_cge rfl rfl (by first | exact hs.zF _ | exact Zor_r _ _ | exact hs.zA _ _ | assumption | exact zA _ _ | exact zS _ | exact Zr_not (hs.zA _ _) | exact ⟨by omega, by omega⟩) (by first | exact hs.zF _ | exact Zor_r _ _ | exact hs.zA _ _ | assumption | exact zA _ _ | exact zS _ | exact Zr_not (hs.zA _ _) | exact ⟨by omega, by omega⟩) (fun c1 => ?_) (fun c1 => ?_)
    · refine Z_ret rfl rfl ?_
      obtain rfl : c = m := by omega
      exact kont u h hs hu
    · refine Z_go (f2 := (21, [(2, .int (Zi c)), (0, .ref 83), (1, .int (Zi wh))], [.int (Zi 0)])) (fun _ => rfl) ?_
      refine Z_go (f2 := (22, [(3, .int (Zi 0)), (2, .int (Zi c)), (0, .ref 83), (1, .int (Zi wh))], [])) (fun _ => rfl) ?_
      refine Z_go (f2 := (23, [(3, .int (Zi 0)), (2, .int (Zi c)), (0, .ref 83), (1, .int (Zi wh))], [.int (Zi 0)])) (fun _ => rfl) ?_
      refine Z_go (f2 := (25, [(4, .int (Zi 0)), (3, .int (Zi 0)), (2, .int (Zi c)), (0, .ref 83), (1, .int (Zi wh))], [])) (fun _ => rfl) ?_
      refine B_loc (K := [(4, .int (Zi 0)), (3, .int (Zi 0)), (2, .int (Zi c)), (0, .ref 83), (1, .int (Zi wh))]) (N_all_sub ⟨rfl, rfl, rfl, rfl, rfl, trivial⟩) (show ([4, 3, 2, 0, 1] : List Nat).Nodup by decide) ?_
      refine R_tt_1 (s := s) (m := m) hm.symm m0 m1 hv hu c0 (by omega) w0 w1 hs (fun a h hs ha => ?_) (m.toNat + 1) 0 0 h (by omega) hs (D_cn_0 _) (by omega) m0
      have pb := X_rk_b ha c0 (by omega)
      have eSc := eS c
      refine Z_go (f2 := (59, [(3, .int (Zi a)), (2, .int (Zi c)), (0, .ref 83), (1, .int (Zi wh))], [.ref 83])) (fun _ => rfl) ?_
      refine R_gr (q := 123) rfl hs rfl ?_
      show B_R _ _ (62, [(3, .int (Zi a)), (2, .int (Zi c)), (0, .ref 83), (1, .int (Zi wh))], [.ref 125]) _ _ _
      refine Z_go (f2 := (64, [(3, .int (Zi a)), (2, .int (Zi c)), (0, .ref 83), (1, .int (Zi wh))], [.int (Zi 12), .ref 125])) (fun _ => rfl) ?_
      refine Z_go (f2 := (65, [(3, .int (Zi a)), (2, .int (Zi c)), (0, .ref 83), (1, .int (Zi wh))], [.int (Zi wh), .int (Zi 12), .ref 125])) (fun _ => rfl) ?_
      refine Z_imul rfl ?_
      refine Z_go (f2 := (67, [(3, .int (Zi a)), (2, .int (Zi c)), (0, .ref 83), (1, .int (Zi wh))], [.int (Zi a), .int (Zi (12 * wh)), .ref 125])) (fun _ => rfl) ?_
      refine Z_iadd rfl ?_
      refine Z_go (f2 := (69, [(3, .int (Zi a)), (2, .int (Zi c)), (0, .ref 83), (1, .int (Zi wh))], [.ref 83, .int (Zi (12 * wh + a)), .ref 125])) (fun _ => rfl) ?_
      refine R_gr (q := 109) rfl hs rfl ?_
      show B_R _ _ (72, [(3, .int (Zi a)), (2, .int (Zi c)), (0, .ref 83), (1, .int (Zi wh))], [.ref 111, .int (Zi (12 * wh + a)), .ref 125]) _ _ _
      refine Z_go (f2 := (73, [(3, .int (Zi a)), (2, .int (Zi c)), (0, .ref 83), (1, .int (Zi wh))], [.int (Zi c), .ref 111, .int (Zi (12 * wh + a)), .ref 125])) (fun _ => rfl) ?_
      refine R_ia (q := 27) rfl hs rfl rfl (by omega) (by omega) (by decide) ?_
      refine R_is_ (q := 41) rfl hs rfl rfl (by omega) (by omega) (by decide) (by first | exact hs.zF _ | exact Zor_r _ _ | exact hs.zA _ _ | assumption | exact zA _ _ | exact zS _ | exact Zr_not (hs.zA _ _) | exact ⟨by omega, by omega⟩) (fun h hs => ?_)
      refine Z_go (f2 := (76, [(3, .int (Zi a)), (2, .int (Zi c)), (0, .ref 83), (1, .int (Zi wh))], [.int (Zi 0)])) (fun _ => rfl) ?_
      refine Z_go (f2 := (78, [(4, .int (Zi 0)), (3, .int (Zi a)), (2, .int (Zi c)), (0, .ref 83), (1, .int (Zi wh))], [])) (fun _ => rfl) ?_
      refine B_loc (K := [(4, .int (Zi 0)), (3, .int (Zi a)), (2, .int (Zi c)), (0, .ref 83), (1, .int (Zi wh))]) (N_all_sub ⟨rfl, rfl, rfl, rfl, rfl, trivial⟩) (show ([4, 3, 2, 0, 1] : List Nat).Nodup by decide) ?_
      rw [eSc] at hs
      refine R_tt_2 (s := s) (u := u) (m := m) m0 m1 hv hu c0 (by omega) w0 w1 pb.1 pb.2 (fun h hs => ?_) ((s.2.1 111 c).toNat + 1) 0 h (by omega) (by rw [Int.add_zero, R_fl_0]; exact hs) (by omega) (hv c c0 (by omega)).1
      refine Z_iinc (L2 := [(2, .int (Zi (c + 1))), (3, .int (Zi a)), (0, .ref 83), (1, .int (Zi wh))]) rfl rfl (by decide) rfl ?_
      refine Z_go (f2 := (12, [(2, .int (Zi (c + 1))), (3, .int (Zi a)), (0, .ref 83), (1, .int (Zi wh))], [])) (fun _ => rfl) ?_
      refine B_loc (K := [(2, .int (Zi (c + 1))), (0, .ref 83), (1, .int (Zi wh))]) (N_all_sub ⟨rfl, rfl, rfl, trivial⟩) (show ([2, 0, 1] : List Nat).Nodup by decide) ?_
      have hst := R_tt_st m1 hv ds hu c0 (by omega) ha
      exact ih (c + 1) _ h (by omega) hs hst (by omega) (by omega)
theorem R_tellsTexts (d : Nat) (s : R_S) {wh : Int} {C : P_X} (zw : Zr wh) (w0 : 0 ≤ wh) (w1 : wh < 3) (lv : R_lv s) (m1 : s.1 43 ≤ 12) (ds : ∀ i j, 0 ≤ i → i < j → j < s.1 43 → R_lrow s i ≠ R_lrow s j) (hC : ∀ x, C x ↔ ∃ e, 0 ≤ e ∧ e < s.1 43 ∧ x = R_lrow s e) : R_ok (d + 2) 273 [.int (Zi wh)] s (fun x u => x = none ∧ R_f4 [] [124, 125, 126] [] s u ∧ (∀ j, u.2.1 124 j = if j = wh then s.1 43 else s.2.1 124 j) ∧ (∀ j, ¬ (12 * wh ≤ j ∧ j < 12 * wh + 12) → u.2.1 125 j = s.2.1 125 j) ∧ (∀ j, ¬ (60 * (12 * wh) ≤ j ∧ j < 60 * (12 * wh) + 720) → u.2.1 126 j = s.2.1 126 j) ∧ ∃ L, X_srt L C ∧ (L.length : Int) = s.1 43 ∧ (∀ r ∈ L, r.length ≤ 60) ∧ R_td u 125 126 (12 * wh) 60 L) := by
  refine R_enter (M := E_m273) rfl (Nat.le_of_ble_eq_true rfl) (fun h0 h hs => ?_)
  show B_R (d + 1) _ (0, [(0, .ref 83), (1, .int (Zi wh))], []) _ _ _
  obtain ⟨v0, v1, v2⟩ := id lv
  have hv : ∀ e, 0 ≤ e → e < s.1 43 → 0 ≤ s.2.1 111 e ∧ s.2.1 111 e ≤ 60 := fun e e0 e1 => ⟨(v2 e e0 e1).1, (v2 e e0 e1).2.1⟩
  refine Z_go (f2 := (1, [(0, .ref 83), (1, .int (Zi wh))], [.ref 83])) (fun _ => rfl) ?_
  refine R_gr (q := 122) rfl hs rfl ?_
  show B_R _ _ (4, [(0, .ref 83), (1, .int (Zi wh))], [.ref 124]) _ _ _
  refine Z_go (f2 := (5, [(0, .ref 83), (1, .int (Zi wh))], [.int (Zi wh), .ref 124])) (fun _ => rfl) ?_
  refine Z_go (f2 := (6, [(0, .ref 83), (1, .int (Zi wh))], [.ref 83, .int (Zi wh), .ref 124])) (fun _ => rfl) ?_
  refine R_gi rfl hs rfl ?_
  show B_R _ _ (9, [(0, .ref 83), (1, .int (Zi wh))], [.int (Zi (s.1 43)), .int (Zi wh), .ref 124]) _ _ _
  refine R_is_ (q := 40) rfl hs rfl rfl (by omega) (by omega) (by decide) (by first | exact hs.zF _ | exact Zor_r _ _ | exact hs.zA _ _ | assumption | exact zA _ _ | exact zS _ | exact Zr_not (hs.zA _ _) | exact ⟨by omega, by omega⟩) (fun h hs => ?_)
  refine Z_go (f2 := (11, [(0, .ref 83), (1, .int (Zi wh))], [.int (Zi 0)])) (fun _ => rfl) ?_
  refine Z_go (f2 := (12, [(2, .int (Zi 0)), (0, .ref 83), (1, .int (Zi wh))], [])) (fun _ => rfl) ?_
  refine B_loc (K := [(2, .int (Zi 0)), (0, .ref 83), (1, .int (Zi wh))]) (N_all_sub ⟨rfl, rfl, rfl, trivial⟩) (show ([2, 0, 1] : List Nat).Nodup by decide) ?_
  refine R_tt_o (s := R_sA s 124 wh (s.1 43)) (m := s.1 43) v0 m1 hv ds w0 w1 (fun u hu => hu.1 43 (by simp)) (fun u h hs hu => ⟨_, hs, ⟨rfl, ((R_f4.rf [] [124, 125, 126] [] s).sA (by simp)).tr hu.1 (by simp) (by simp) (by simp), fun j => ?_, fun j hj => hu.2.1 j hj, fun j hj => hu.2.2.1 j hj, ?_⟩, rfl⟩) ((s.1 43).toNat + 1) 0 _ h (by omega) hs ⟨R_f4.rf _ _ _ _, fun _ _ => rfl, fun _ _ => rfl, fun e e0 e1 => by omega⟩ (by omega) v0
  · rw [hu.1.2.1 124 (by decide), R_sA_at]
  · obtain ⟨L, l1, l2, l3⟩ := X_told (row := R_lrow s) (m := s.1 43) (u := u) (r := 125) (q := 126) (b := 12 * wh) (d := 60) v0 ds (fun e e0 e1 => by
      obtain ⟨r, r1, r2, r3⟩ := hu.2.2.2 e e0 e1
      have he := hv e e0 e1
      refine ⟨r, r1, ?_, fun x hx => ?_⟩
      · rw [r2]
        show s.2.1 111 e = ((D_row _ _).length : Int)
        rw [D_row_len]
        omega
      · have hx2 : x < (s.2.1 111 e).toNat := by rw [← D_row_len (fun j => s.2.1 112 (60 * e + j)) (s.2.1 111 e)]; exact hx
        rw [r3 x (by omega) (show (x : Int) < s.2.1 111 e by omega)]
        exact (D_row_get (fun j => s.2.1 112 (60 * e + j)) (s.2.1 111 e) x hx).symm)
    refine ⟨L, ⟨l1.1, fun x => (hC x).trans (l1.2 x)⟩, l2, fun r hr => ?_, l3⟩
    obtain ⟨e, e0, e1, rfl⟩ := (l1.2 r).mpr hr
    have he := hv e e0 e1
    show (D_row _ _).length ≤ 60
    rw [D_row_len]
    omega
