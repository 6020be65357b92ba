/-! the reference: heads and tails of a slot -/
/-- the slot k holds the ends H in the arrays q, q + 1 (100: heads, 102: tails) -/
def R_EN (q : Nat) (s : R_S) (k : Int) (H : P_X) : Prop := 0 ≤ s.2.1 q k ∧ s.2.1 q k ≤ 12 ∧ (∀ j, 0 ≤ j → j < s.2.1 q k → X_v (s.2.1 (q + 1) (12 * k + j))) ∧ (∀ i j, 0 ≤ i → i < j → j < s.2.1 q k → s.2.1 (q + 1) (12 * k + i) ≠ s.2.1 (q + 1) (12 * k + j)) ∧ (∀ x, H x ↔ ∃ j, 0 ≤ j ∧ j < s.2.1 q k ∧ x = X_dec (s.2.1 (q + 1) (12 * k + j)))
/-- u is s, but the ends of the slot k in the arrays q, q + 1, and what is gathered -/
def R_ek (q : Nat) (s u : R_S) (k : Int) : Prop := (∀ b, b ≠ 41 → u.1 b = s.1 b) ∧ (∀ p j, p ≠ 109 → p ≠ 110 → p ≠ q → p ≠ q + 1 → u.2.1 p j = s.2.1 p j) ∧ u.2.2 = s.2.2 ∧ (∀ j, j ≠ k → u.2.1 q j = s.2.1 q j) ∧ (∀ j, ¬ (12 * k ≤ j ∧ j < 12 * k + 12) → u.2.1 (q + 1) j = s.2.1 (q + 1) j)
theorem R_EN_mk {q : Nat} (hq : q = 100 ∨ q = 102) {s u : R_S} {hd k : Int} (h : R_bnp s u hd) : R_EN q (R_fl (R_sA u q k (u.1 41)) (q + 1) (12 * k) (12 * k + u.1 41) (fun j => u.2.1 110 (j - 12 * k))) k (X_bnd hd (R_SH s)) ∧ R_ek q s (R_fl (R_sA u q k (u.1 41)) (q + 1) (12 * k) (12 * k + u.1 41) (fun j => u.2.1 110 (j - 12 * k))) k := by
  obtain ⟨a1, a2, a3, pv, a5, ds, hm⟩ := h
  have e1 : (R_fl (R_sA u q k (u.1 41)) (q + 1) (12 * k) (12 * k + u.1 41) (fun j => u.2.1 110 (j - 12 * k))).2.1 q k = u.1 41 := by rw [R_fl_n (by omega), R_sA_s]
  have e2 : ∀ j, 0 ≤ j → j < u.1 41 → (R_fl (R_sA u q k (u.1 41)) (q + 1) (12 * k) (12 * k + u.1 41) (fun j => u.2.1 110 (j - 12 * k))).2.1 (q + 1) (12 * k + j) = u.2.1 110 j := fun j j0 j1 => by
    rw [R_fl_i (by omega) (by omega)]
    exact congrArg (u.2.1 110) (by omega)
  refine ⟨⟨by rw [e1]; exact pv.1, by rw [e1]; exact a5, fun j j0 j1 => ?_, fun i j i0 ij j1 => ?_, fun x => ?_⟩, ⟨a1, fun p j n1 n2 n3 n4 => ?_, a3, fun j hj => ?_, fun j hj => ?_⟩⟩
  · rw [e1] at j1
    rw [e2 j j0 j1]
    exact pv.2.2 j j0 j1
  · rw [e1] at j1
    rw [e2 i i0 (by omega), e2 j (by omega) j1]
    exact ds i j i0 ij j1
  · rw [← hm, e1]
    constructor
    · rintro ⟨j, j0, j1, rfl⟩; exact ⟨j, j0, j1, by rw [e2 j j0 j1]⟩
    · rintro ⟨j, j0, j1, rfl⟩; exact ⟨j, j0, j1, by rw [e2 j j0 j1]⟩
  · rw [R_fl_n n4, R_sA_n _ _ _ _ n3]
    exact a2 p j n1 n2
  · rw [R_fl_n (by omega), R_sA_m _ _ _ _ hj]
    exact a2 q j (by omega) (by omega)
  · rw [R_fl_o (by omega), R_sA_n _ _ _ _ (by omega)]
    exact a2 (q + 1) j (by omega) (by omega)
theorem R_sa_h {d : Nat} {h0 : E_H} {s : R_S} {sl : Nat} {Φ : E_R → Prop} {hd sl_ : Int} (zhd : Zr hd) (nh : hd ≠ 0) (s0 : 0 ≤ sl_) (s1 : sl_ < 44) (p1 : s.1 41 ≤ 12) (zA : ∀ q j, Zr (s.2.1 q j)) (kont : ∀ (h : E_H), R_is h0 h (R_fl s 101 (12 * sl_) (12 * sl_ + (s.1 41)) (fun j => s.2.1 110 (j - 12 * sl_))) → B_R (d) E_m220 (89, [(3, .int (Zi (s.1 41))), (0, .ref 83), (1, .int (Zi sl_)), (2, .int (Zi hd))], []) h sl Φ) : ∀ (t : Nat) (k : Int) (h : E_H), s.1 41 - k < t → R_is h0 h (R_fl s 101 (12 * sl_) (12 * sl_ + k) (fun j => s.2.1 110 (j - 12 * sl_))) → 0 ≤ k → k ≤ s.1 41 → B_R (d) E_m220 (34, [(3, .int (Zi k)), (0, .ref 83), (1, .int (Zi sl_)), (2, .int (Zi hd))], []) h sl Φ := by
  intro t
  induction t with
  | zero => intro k h ht hs k0 k1; omega
  | succ t ih =>
    intro k h ht hs k0 k1
    refine Z_go (f2 := (35, [(3, .int (Zi k)), (0, .ref 83), (1, .int (Zi sl_)), (2, .int (Zi hd))], [.int (Zi k)])) (fun _ => rfl) ?_
    refine Z_go (f2 := (36, [(3, .int (Zi k)), (0, .ref 83), (1, .int (Zi sl_)), (2, .int (Zi hd))], [.ref 83, .int (Zi k)])) (fun _ => rfl) ?_
    refine R_gi rfl hs rfl ?_
    show B_R _ _ (39, [(3, .int (Zi k)), (0, .ref 83), (1, .int (Zi sl_)), (2, .int (Zi hd))], [.int (Zi (s.1 41)), .int (Zi k)]) _ _ _
    refine Z_cge rfl rfl (by first | exact hs.zF _ | exact Zor_r _ _ | exact hs.zA _ _ | assumption | exact zA _ _ | exact zS _ | exact Zr_not (hs.zA _ _) | exact ⟨by omega, by omega⟩) (by first | exact hs.zF _ | exact Zor_r _ _ | exact hs.zA _ _ | assumption | exact zA _ _ | exact zS _ | exact Zr_not (hs.zA _ _) | exact ⟨by omega, by omega⟩) (fun c1 => ?_) (fun c1 => ?_)
    · obtain rfl : k = s.1 41 := by omega
      exact kont h hs 
    · refine Z_go (f2 := (43, [(3, .int (Zi k)), (0, .ref 83), (1, .int (Zi sl_)), (2, .int (Zi hd))], [.int (Zi hd)])) (fun _ => rfl) ?_
      refine Z_ieq rfl rfl (by first | exact hs.zF _ | exact Zor_r _ _ | exact hs.zA _ _ | assumption | exact zA _ _ | exact zS _ | exact Zr_not (hs.zA _ _) | exact ⟨by omega, by omega⟩) (fun c2 => ?_) (fun c2 => ?_)
      · refine Z_go (f2 := (67, [(3, .int (Zi k)), (0, .ref 83), (1, .int (Zi sl_)), (2, .int (Zi hd))], [.ref 83])) (fun _ => rfl) ?_
        refine R_gr (q := 101) rfl hs rfl ?_
        show B_R _ _ (70, [(3, .int (Zi k)), (0, .ref 83), (1, .int (Zi sl_)), (2, .int (Zi hd))], [.ref 103]) _ _ _
        refine Z_go (f2 := (72, [(3, .int (Zi k)), (0, .ref 83), (1, .int (Zi sl_)), (2, .int (Zi hd))], [.int (Zi 12), .ref 103])) (fun _ => rfl) ?_
        refine Z_go (f2 := (73, [(3, .int (Zi k)), (0, .ref 83), (1, .int (Zi sl_)), (2, .int (Zi hd))], [.int (Zi sl_), .int (Zi 12), .ref 103])) (fun _ => rfl) ?_
        refine Z_imul rfl ?_
        refine Z_go (f2 := (75, [(3, .int (Zi k)), (0, .ref 83), (1, .int (Zi sl_)), (2, .int (Zi hd))], [.int (Zi k), .int (Zi (12 * sl_)), .ref 103])) (fun _ => rfl) ?_
        refine Z_iadd rfl ?_
        refine Z_go (f2 := (77, [(3, .int (Zi k)), (0, .ref 83), (1, .int (Zi sl_)), (2, .int (Zi hd))], [.ref 83, .int (Zi (12 * sl_ + k)), .ref 103])) (fun _ => rfl) ?_
        refine R_gr (q := 108) rfl hs rfl ?_
        show B_R _ _ (80, [(3, .int (Zi k)), (0, .ref 83), (1, .int (Zi sl_)), (2, .int (Zi hd))], [.ref 110, .int (Zi (12 * sl_ + k)), .ref 103]) _ _ _
        refine Z_go (f2 := (81, [(3, .int (Zi k)), (0, .ref 83), (1, .int (Zi sl_)), (2, .int (Zi hd))], [.int (Zi k), .ref 110, .int (Zi (12 * sl_ + k)), .ref 103])) (fun _ => rfl) ?_
        refine R_ia (q := 26) rfl hs rfl rfl (by omega) (by omega) (by decide) ?_
        rw [show (R_fl s 101 (12 * sl_) (12 * sl_ + k) (fun j => s.2.1 110 (j - 12 * sl_))).2.1 110 k = s.2.1 110 k by first | rfl | simp [R_sA, R_sF, R_up2, R_fl, R_fL, R_sM, R_sL, R_p3, R_em]]; show B_R _ _ (82, [(3, .int (Zi k)), (0, .ref 83), (1, .int (Zi sl_)), (2, .int (Zi hd))], [.int (Zi (s.2.1 110 k)), .int (Zi (12 * sl_ + k)), .ref 103]) _ _ _
        refine R_is_ (q := 19) rfl hs rfl rfl (by omega) (by omega) (by decide) (by first | exact hs.zF _ | exact Zor_r _ _ | exact hs.zA _ _ | assumption | exact zA _ _ | exact zS _ | exact Zr_not (hs.zA _ _) | exact ⟨by omega, by omega⟩) (fun h hs => ?_)
        refine Z_iinc (L2 := [(3, .int (Zi (k + 1))), (0, .ref 83), (1, .int (Zi sl_)), (2, .int (Zi hd))]) rfl rfl (by decide) rfl ?_
        refine Z_go (f2 := (34, [(3, .int (Zi (k + 1))), (0, .ref 83), (1, .int (Zi sl_)), (2, .int (Zi hd))], [])) (fun _ => rfl) ?_
        exfalso; omega
      · refine Z_go (f2 := (47, [(3, .int (Zi k)), (0, .ref 83), (1, .int (Zi sl_)), (2, .int (Zi hd))], [.ref 83])) (fun _ => rfl) ?_
        refine R_gr (q := 99) rfl hs rfl ?_
        show B_R _ _ (50, [(3, .int (Zi k)), (0, .ref 83), (1, .int (Zi sl_)), (2, .int (Zi hd))], [.ref 101]) _ _ _
        refine Z_go (f2 := (52, [(3, .int (Zi k)), (0, .ref 83), (1, .int (Zi sl_)), (2, .int (Zi hd))], [.int (Zi 12), .ref 101])) (fun _ => rfl) ?_
        refine Z_go (f2 := (53, [(3, .int (Zi k)), (0, .ref 83), (1, .int (Zi sl_)), (2, .int (Zi hd))], [.int (Zi sl_), .int (Zi 12), .ref 101])) (fun _ => rfl) ?_
        refine Z_imul rfl ?_
        refine Z_go (f2 := (55, [(3, .int (Zi k)), (0, .ref 83), (1, .int (Zi sl_)), (2, .int (Zi hd))], [.int (Zi k), .int (Zi (12 * sl_)), .ref 101])) (fun _ => rfl) ?_
        refine Z_iadd rfl ?_
        refine Z_go (f2 := (57, [(3, .int (Zi k)), (0, .ref 83), (1, .int (Zi sl_)), (2, .int (Zi hd))], [.ref 83, .int (Zi (12 * sl_ + k)), .ref 101])) (fun _ => rfl) ?_
        refine R_gr (q := 108) rfl hs rfl ?_
        show B_R _ _ (60, [(3, .int (Zi k)), (0, .ref 83), (1, .int (Zi sl_)), (2, .int (Zi hd))], [.ref 110, .int (Zi (12 * sl_ + k)), .ref 101]) _ _ _
        refine Z_go (f2 := (61, [(3, .int (Zi k)), (0, .ref 83), (1, .int (Zi sl_)), (2, .int (Zi hd))], [.int (Zi k), .ref 110, .int (Zi (12 * sl_ + k)), .ref 101])) (fun _ => rfl) ?_
        refine R_ia (q := 26) rfl hs rfl rfl (by omega) (by omega) (by decide) ?_
        rw [show (R_fl s 101 (12 * sl_) (12 * sl_ + k) (fun j => s.2.1 110 (j - 12 * sl_))).2.1 110 k = s.2.1 110 k by first | rfl | simp [R_sA, R_sF, R_up2, R_fl, R_fL, R_sM, R_sL, R_p3, R_em]]; show B_R _ _ (62, [(3, .int (Zi k)), (0, .ref 83), (1, .int (Zi sl_)), (2, .int (Zi hd))], [.int (Zi (s.2.1 110 k)), .int (Zi (12 * sl_ + k)), .ref 101]) _ _ _
        refine R_is_ (q := 17) rfl hs rfl rfl (by omega) (by omega) (by decide) (by first | exact hs.zF _ | exact Zor_r _ _ | exact hs.zA _ _ | assumption | exact zA _ _ | exact zS _ | exact Zr_not (hs.zA _ _) | exact ⟨by omega, by omega⟩) (fun h hs => ?_)
        refine Z_go (f2 := (83, [(3, .int (Zi k)), (0, .ref 83), (1, .int (Zi sl_)), (2, .int (Zi hd))], [])) (fun _ => rfl) ?_
        refine Z_iinc (L2 := [(3, .int (Zi (k + 1))), (0, .ref 83), (1, .int (Zi sl_)), (2, .int (Zi hd))]) rfl rfl (by decide) rfl ?_
        refine Z_go (f2 := (34, [(3, .int (Zi (k + 1))), (0, .ref 83), (1, .int (Zi sl_)), (2, .int (Zi hd))], [])) (fun _ => rfl) ?_
        refine B_loc (K := [(3, .int (Zi (k + 1))), (0, .ref 83), (1, .int (Zi sl_)), (2, .int (Zi hd))]) (N_all_sub ⟨rfl, rfl, rfl, rfl, trivial⟩) (show ([3, 0, 1, 2] : List Nat).Nodup by decide) ?_
        rw [R_fl_st (by omega) rfl (by show _ = s.2.1 110 (12 * sl_ + k - 12 * sl_); exact congrArg (s.2.1 110) (by omega))] at hs
        exact ih _ _ (by omega) (by rw [← Int.add_assoc]; exact hs) (by omega) (by omega)
theorem R_sa_t {d : Nat} {h0 : E_H} {s : R_S} {sl : Nat} {Φ : E_R → Prop} {hd sl_ : Int} (zhd : Zr hd) (nh : hd = 0) (s0 : 0 ≤ sl_) (s1 : sl_ < 44) (p1 : s.1 41 ≤ 12) (zA : ∀ q j, Zr (s.2.1 q j)) (kont : ∀ (h : E_H), R_is h0 h (R_fl s 103 (12 * sl_) (12 * sl_ + (s.1 41)) (fun j => s.2.1 110 (j - 12 * sl_))) → B_R (d) E_m220 (89, [(3, .int (Zi (s.1 41))), (0, .ref 83), (1, .int (Zi sl_)), (2, .int (Zi hd))], []) h sl Φ) : ∀ (t : Nat) (k : Int) (h : E_H), s.1 41 - k < t → R_is h0 h (R_fl s 103 (12 * sl_) (12 * sl_ + k) (fun j => s.2.1 110 (j - 12 * sl_))) → 0 ≤ k → k ≤ s.1 41 → B_R (d) E_m220 (34, [(3, .int (Zi k)), (0, .ref 83), (1, .int (Zi sl_)), (2, .int (Zi hd))], []) h sl Φ := by
  intro t
  induction t with
  | zero => intro k h ht hs k0 k1; omega
  | succ t ih =>
    intro k h ht hs k0 k1
    refine Z_go (f2 := (35, [(3, .int (Zi k)), (0, .ref 83), (1, .int (Zi sl_)), (2, .int (Zi hd))], [.int (Zi k)])) (fun _ => rfl) ?_
    refine Z_go (f2 := (36, [(3, .int (Zi k)), (0, .ref 83), (1, .int (Zi sl_)), (2, .int (Zi hd))], [.ref 83, .int (Zi k)])) (fun _ => rfl) ?_
    refine R_gi rfl hs rfl ?_
    show B_R _ _ (39, [(3, .int (Zi k)), (0, .ref 83), (1, .int (Zi sl_)), (2, .int (Zi hd))], [.int (Zi (s.1 41)), .int (Zi k)]) _ _ _
    refine Z_cge rfl rfl (by first | exact hs.zF _ | exact Zor_r _ _ | exact hs.zA _ _ | assumption | exact zA _ _ | exact zS _ | exact Zr_not (hs.zA _ _) | exact ⟨by omega, by omega⟩) (by first | exact hs.zF _ | exact Zor_r _ _ | exact hs.zA _ _ | assumption | exact zA _ _ | exact zS _ | exact Zr_not (hs.zA _ _) | exact ⟨by omega, by omega⟩) (fun c1 => ?_) (fun c1 => ?_)
    · obtain rfl : k = s.1 41 := by omega
      exact kont h hs 
    · refine Z_go (f2 := (43, [(3, .int (Zi k)), (0, .ref 83), (1, .int (Zi sl_)), (2, .int (Zi hd))], [.int (Zi hd)])) (fun _ => rfl) ?_
      refine Z_ieq rfl rfl (by first | exact hs.zF _ | exact Zor_r _ _ | exact hs.zA _ _ | assumption | exact zA _ _ | exact zS _ | exact Zr_not (hs.zA _ _) | exact ⟨by omega, by omega⟩) (fun c2 => ?_) (fun c2 => ?_)
      · refine Z_go (f2 := (67, [(3, .int (Zi k)), (0, .ref 83), (1, .int (Zi sl_)), (2, .int (Zi hd))], [.ref 83])) (fun _ => rfl) ?_
        refine R_gr (q := 101) rfl hs rfl ?_
        show B_R _ _ (70, [(3, .int (Zi k)), (0, .ref 83), (1, .int (Zi sl_)), (2, .int (Zi hd))], [.ref 103]) _ _ _
        refine Z_go (f2 := (72, [(3, .int (Zi k)), (0, .ref 83), (1, .int (Zi sl_)), (2, .int (Zi hd))], [.int (Zi 12), .ref 103])) (fun _ => rfl) ?_
        refine Z_go (f2 := (73, [(3, .int (Zi k)), (0, .ref 83), (1, .int (Zi sl_)), (2, .int (Zi hd))], [.int (Zi sl_), .int (Zi 12), .ref 103])) (fun _ => rfl) ?_
        refine Z_imul rfl ?_
        refine Z_go (f2 := (75, [(3, .int (Zi k)), (0, .ref 83), (1, .int (Zi sl_)), (2, .int (Zi hd))], [.int (Zi k), .int (Zi (12 * sl_)), .ref 103])) (fun _ => rfl) ?_
        refine Z_iadd rfl ?_
        refine Z_go (f2 := (77, [(3, .int (Zi k)), (0, .ref 83), (1, .int (Zi sl_)), (2, .int (Zi hd))], [.ref 83, .int (Zi (12 * sl_ + k)), .ref 103])) (fun _ => rfl) ?_
        refine R_gr (q := 108) rfl hs rfl ?_
        show B_R _ _ (80, [(3, .int (Zi k)), (0, .ref 83), (1, .int (Zi sl_)), (2, .int (Zi hd))], [.ref 110, .int (Zi (12 * sl_ + k)), .ref 103]) _ _ _
        refine Z_go (f2 := (81, [(3, .int (Zi k)), (0, .ref 83), (1, .int (Zi sl_)), (2, .int (Zi hd))], [.int (Zi k), .ref 110, .int (Zi (12 * sl_ + k)), .ref 103])) (fun _ => rfl) ?_
        refine R_ia (q := 26) rfl hs rfl rfl (by omega) (by omega) (by decide) ?_
        rw [show (R_fl s 103 (12 * sl_) (12 * sl_ + k) (fun j => s.2.1 110 (j - 12 * sl_))).2.1 110 k = s.2.1 110 k by first | rfl | simp [R_sA, R_sF, R_up2, R_fl, R_fL, R_sM, R_sL, R_p3, R_em]]; show B_R _ _ (82, [(3, .int (Zi k)), (0, .ref 83), (1, .int (Zi sl_)), (2, .int (Zi hd))], [.int (Zi (s.2.1 110 k)), .int (Zi (12 * sl_ + k)), .ref 103]) _ _ _
        refine R_is_ (q := 19) rfl hs rfl rfl (by omega) (by omega) (by decide) (by first | exact hs.zF _ | exact Zor_r _ _ | exact hs.zA _ _ | assumption | exact zA _ _ | exact zS _ | exact Zr_not (hs.zA _ _) | exact ⟨by omega, by omega⟩) (fun h hs => ?_)
        refine Z_iinc (L2 := [(3, .int (Zi (k + 1))), (0, .ref 83), (1, .int (Zi sl_)), (2, .int (Zi hd))]) rfl rfl (by decide) rfl ?_
        refine Z_go (f2 := (34, [(3, .int (Zi (k + 1))), (0, .ref 83), (1, .int (Zi sl_)), (2, .int (Zi hd))], [])) (fun _ => rfl) ?_
        refine B_loc (K := [(3, .int (Zi (k + 1))), (0, .ref 83), (1, .int (Zi sl_)), (2, .int (Zi hd))]) (N_all_sub ⟨rfl, rfl, rfl, rfl, trivial⟩) (show ([3, 0, 1, 2] : List Nat).Nodup by decide) ?_
        rw [R_fl_st (by omega) rfl (by show _ = s.2.1 110 (12 * sl_ + k - 12 * sl_); exact congrArg (s.2.1 110) (by omega))] at hs
        exact ih _ _ (by omega) (by rw [← Int.add_assoc]; exact hs) (by omega) (by omega)
      · refine Z_go (f2 := (47, [(3, .int (Zi k)), (0, .ref 83), (1, .int (Zi sl_)), (2, .int (Zi hd))], [.ref 83])) (fun _ => rfl) ?_
        refine R_gr (q := 99) rfl hs rfl ?_
        show B_R _ _ (50, [(3, .int (Zi k)), (0, .ref 83), (1, .int (Zi sl_)), (2, .int (Zi hd))], [.ref 101]) _ _ _
        refine Z_go (f2 := (52, [(3, .int (Zi k)), (0, .ref 83), (1, .int (Zi sl_)), (2, .int (Zi hd))], [.int (Zi 12), .ref 101])) (fun _ => rfl) ?_
        refine Z_go (f2 := (53, [(3, .int (Zi k)), (0, .ref 83), (1, .int (Zi sl_)), (2, .int (Zi hd))], [.int (Zi sl_), .int (Zi 12), .ref 101])) (fun _ => rfl) ?_
        refine Z_imul rfl ?_
        refine Z_go (f2 := (55, [(3, .int (Zi k)), (0, .ref 83), (1, .int (Zi sl_)), (2, .int (Zi hd))], [.int (Zi k), .int (Zi (12 * sl_)), .ref 101])) (fun _ => rfl) ?_
        refine Z_iadd rfl ?_
        refine Z_go (f2 := (57, [(3, .int (Zi k)), (0, .ref 83), (1, .int (Zi sl_)), (2, .int (Zi hd))], [.ref 83, .int (Zi (12 * sl_ + k)), .ref 101])) (fun _ => rfl) ?_
        refine R_gr (q := 108) rfl hs rfl ?_
        show B_R _ _ (60, [(3, .int (Zi k)), (0, .ref 83), (1, .int (Zi sl_)), (2, .int (Zi hd))], [.ref 110, .int (Zi (12 * sl_ + k)), .ref 101]) _ _ _
        refine Z_go (f2 := (61, [(3, .int (Zi k)), (0, .ref 83), (1, .int (Zi sl_)), (2, .int (Zi hd))], [.int (Zi k), .ref 110, .int (Zi (12 * sl_ + k)), .ref 101])) (fun _ => rfl) ?_
        refine R_ia (q := 26) rfl hs rfl rfl (by omega) (by omega) (by decide) ?_
        rw [show (R_fl s 103 (12 * sl_) (12 * sl_ + k) (fun j => s.2.1 110 (j - 12 * sl_))).2.1 110 k = s.2.1 110 k by first | rfl | simp [R_sA, R_sF, R_up2, R_fl, R_fL, R_sM, R_sL, R_p3, R_em]]; show B_R _ _ (62, [(3, .int (Zi k)), (0, .ref 83), (1, .int (Zi sl_)), (2, .int (Zi hd))], [.int (Zi (s.2.1 110 k)), .int (Zi (12 * sl_ + k)), .ref 101]) _ _ _
        refine R_is_ (q := 17) rfl hs rfl rfl (by omega) (by omega) (by decide) (by first | exact hs.zF _ | exact Zor_r _ _ | exact hs.zA _ _ | assumption | exact zA _ _ | exact zS _ | exact Zr_not (hs.zA _ _) | exact ⟨by omega, by omega⟩) (fun h hs => ?_)
        refine Z_go (f2 := (83, [(3, .int (Zi k)), (0, .ref 83), (1, .int (Zi sl_)), (2, .int (Zi hd))], [])) (fun _ => rfl) ?_
        refine Z_iinc (L2 := [(3, .int (Zi (k + 1))), (0, .ref 83), (1, .int (Zi sl_)), (2, .int (Zi hd))]) rfl rfl (by decide) rfl ?_
        refine Z_go (f2 := (34, [(3, .int (Zi (k + 1))), (0, .ref 83), (1, .int (Zi sl_)), (2, .int (Zi hd))], [])) (fun _ => rfl) ?_
        exfalso; omega
theorem R_shortsAre (d : Nat) (s : R_S) {sl_ hd : Int} (zsl : Zr sl_) (zhd : Zr hd) (s0 : 0 ≤ sl_) (s1 : sl_ < 44) (pv : R_sv s) : R_ok (d + 5) 220 [.int (Zi sl_), .int (Zi hd)] s (fun x s2 => x = none ∧ (hd ≠ 0 → R_EN 100 s2 sl_ (E_hs (R_SH s)) ∧ R_ek 100 s s2 sl_) ∧ (hd = 0 → R_EN 102 s2 sl_ (E_ts (R_SH s)) ∧ R_ek 102 s s2 sl_)) := by
  refine R_enter (M := E_m220) rfl (Nat.le_of_ble_eq_true rfl) (fun h0 h hs => ?_)
  show B_R (d + 4) _ (0, [(0, .ref 83), (1, .int (Zi sl_)), (2, .int (Zi hd))], []) _ _ _
  refine Z_go (f2 := (1, [(0, .ref 83), (1, .int (Zi sl_)), (2, .int (Zi hd))], [.ref 83])) (fun _ => rfl) ?_
  refine Z_go (f2 := (2, [(0, .ref 83), (1, .int (Zi sl_)), (2, .int (Zi hd))], [.int (Zi hd), .ref 83])) (fun _ => rfl) ?_
  refine R_call (As := [.int (Zi hd)]) (rest := []) rfl (by decide) rfl rfl rfl rfl (by decide +kernel) (Nat.le_of_ble_eq_true rfl) hs (R_bounds _ s zhd pv) (fun x h u hs q => ?_)
  obtain ⟨rfl, q1⟩ := q
  have pu := q1.2.2.2.1
  have pu0 := pu.1
  have pu1 := q1.2.2.2.2.1
  show B_R _ _ (5, [(0, .ref 83), (1, .int (Zi sl_)), (2, .int (Zi hd))], []) _ _ _
  refine Z_go (f2 := (6, [(0, .ref 83), (1, .int (Zi sl_)), (2, .int (Zi hd))], [.int (Zi hd)])) (fun _ => rfl) ?_
  refine Z_ieq rfl rfl (by first | exact hs.zF _ | exact Zor_r _ _ | exact hs.zA _ _ | assumption | exact zA _ _ | exact zS _ | exact Zr_not (hs.zA _ _) | exact ⟨by omega, by omega⟩) (fun c1 => ?_) (fun c1 => ?_)
  · refine Z_go (f2 := (23, [(0, .ref 83), (1, .int (Zi sl_)), (2, .int (Zi hd))], [.ref 83])) (fun _ => rfl) ?_
    refine R_gr (q := 100) rfl hs rfl ?_
    show B_R _ _ (26, [(0, .ref 83), (1, .int (Zi sl_)), (2, .int (Zi hd))], [.ref 102]) _ _ _
    refine Z_go (f2 := (27, [(0, .ref 83), (1, .int (Zi sl_)), (2, .int (Zi hd))], [.int (Zi sl_), .ref 102])) (fun _ => rfl) ?_
    refine Z_go (f2 := (28, [(0, .ref 83), (1, .int (Zi sl_)), (2, .int (Zi hd))], [.ref 83, .int (Zi sl_), .ref 102])) (fun _ => rfl) ?_
    refine R_gi rfl hs rfl ?_
    show B_R _ _ (31, [(0, .ref 83), (1, .int (Zi sl_)), (2, .int (Zi hd))], [.int (Zi (u.1 41)), .int (Zi sl_), .ref 102]) _ _ _
    refine R_is_ (q := 18) rfl hs rfl rfl (by omega) (by omega) (by decide) (by first | exact hs.zF _ | exact Zor_r _ _ | exact hs.zA _ _ | assumption | exact zA _ _ | exact zS _ | exact Zr_not (hs.zA _ _) | exact ⟨by omega, by omega⟩) (fun h hs => ?_)
    refine Z_go (f2 := (33, [(0, .ref 83), (1, .int (Zi sl_)), (2, .int (Zi hd))], [.int (Zi 0)])) (fun _ => rfl) ?_
    refine Z_go (f2 := (34, [(3, .int (Zi 0)), (0, .ref 83), (1, .int (Zi sl_)), (2, .int (Zi hd))], [])) (fun _ => rfl) ?_
    refine B_loc (K := [(3, .int (Zi 0)), (0, .ref 83), (1, .int (Zi sl_)), (2, .int (Zi hd))]) (N_all_sub ⟨rfl, rfl, rfl, rfl, trivial⟩) (show ([3, 0, 1, 2] : List Nat).Nodup by decide) ?_
    have nh : hd = 0 := by omega
    refine R_sa_t (s := R_sA u 102 sl_ (u.1 41)) zhd nh s0 s1 pu1 (fun q j => hs.zA q j) (fun h hs => ?_) ((u.1 41).toNat + 1) 0 h (by show u.1 41 - 0 < _; omega) (by rw [Int.add_zero, R_fl_0]; exact hs) (by omega) (by show 0 ≤ u.1 41; omega)
    refine Z_ret rfl rfl ⟨_, hs, ⟨rfl, ?_⟩, rfl⟩
    obtain ⟨c1, c2⟩ := R_EN_mk (k := sl_) (.inr rfl) q1
    rw [X_bnd_ts nh] at c1
    exact ⟨fun _ => absurd nh (by assumption), fun _ => ⟨c1, c2⟩⟩
  · refine Z_go (f2 := (10, [(0, .ref 83), (1, .int (Zi sl_)), (2, .int (Zi hd))], [.ref 83])) (fun _ => rfl) ?_
    refine R_gr (q := 98) rfl hs rfl ?_
    show B_R _ _ (13, [(0, .ref 83), (1, .int (Zi sl_)), (2, .int (Zi hd))], [.ref 100]) _ _ _
    refine Z_go (f2 := (14, [(0, .ref 83), (1, .int (Zi sl_)), (2, .int (Zi hd))], [.int (Zi sl_), .ref 100])) (fun _ => rfl) ?_
    refine Z_go (f2 := (15, [(0, .ref 83), (1, .int (Zi sl_)), (2, .int (Zi hd))], [.ref 83, .int (Zi sl_), .ref 100])) (fun _ => rfl) ?_
    refine R_gi rfl hs rfl ?_
    show B_R _ _ (18, [(0, .ref 83), (1, .int (Zi sl_)), (2, .int (Zi hd))], [.int (Zi (u.1 41)), .int (Zi sl_), .ref 100]) _ _ _
    refine R_is_ (q := 16) rfl hs rfl rfl (by omega) (by omega) (by decide) (by first | exact hs.zF _ | exact Zor_r _ _ | exact hs.zA _ _ | assumption | exact zA _ _ | exact zS _ | exact Zr_not (hs.zA _ _) | exact ⟨by omega, by omega⟩) (fun h hs => ?_)
    refine Z_go (f2 := (32, [(0, .ref 83), (1, .int (Zi sl_)), (2, .int (Zi hd))], [])) (fun _ => rfl) ?_
    refine Z_go (f2 := (33, [(0, .ref 83), (1, .int (Zi sl_)), (2, .int (Zi hd))], [.int (Zi 0)])) (fun _ => rfl) ?_
    refine Z_go (f2 := (34, [(3, .int (Zi 0)), (0, .ref 83), (1, .int (Zi sl_)), (2, .int (Zi hd))], [])) (fun _ => rfl) ?_
    refine B_loc (K := [(3, .int (Zi 0)), (0, .ref 83), (1, .int (Zi sl_)), (2, .int (Zi hd))]) (N_all_sub ⟨rfl, rfl, rfl, rfl, trivial⟩) (show ([3, 0, 1, 2] : List Nat).Nodup by decide) ?_
    have nh : hd ≠ 0 := by omega
    refine R_sa_h (s := R_sA u 100 sl_ (u.1 41)) zhd nh s0 s1 pu1 (fun q j => hs.zA q j) (fun h hs => ?_) ((u.1 41).toNat + 1) 0 h (by show u.1 41 - 0 < _; omega) (by rw [Int.add_zero, R_fl_0]; exact hs) (by omega) (by show 0 ≤ u.1 41; omega)
    refine Z_ret rfl rfl ⟨_, hs, ⟨rfl, ?_⟩, rfl⟩
    obtain ⟨c1, c2⟩ := R_EN_mk (k := sl_) (.inl rfl) q1
    rw [X_bnd_hs nh] at c1
    exact ⟨fun _ => ⟨c1, c2⟩, fun _ => absurd (by assumption) nh⟩
/-- the slot k holds the texts A -/
def R_trow (s : R_S) (k t : Int) : List Int := D_row (fun i => s.2.1 99 (60 * (8 * k + t) + i)) (s.2.1 98 (8 * k + t))
def R_tv (s : R_S) (k : Int) : Prop := 0 ≤ s.2.1 97 k ∧ s.2.1 97 k ≤ 8 ∧ (∀ t, 0 ≤ t → t < s.2.1 97 k → 0 ≤ s.2.1 98 (8 * k + t) ∧ s.2.1 98 (8 * k + t) ≤ 60 ∧ ∀ i, 0 ≤ i → i < s.2.1 98 (8 * k + t) → 0 ≤ s.2.1 99 (60 * (8 * k + t) + i) ∧ s.2.1 99 (60 * (8 * k + t) + i) < 256)
def R_EX (s : R_S) (k : Int) (A : P_X) : Prop := R_tv s k ∧ (∀ t e, 0 ≤ t → t < e → e < s.2.1 97 k → R_trow s k t ≠ R_trow s k e) ∧ (∀ x, A x ↔ ∃ t, 0 ≤ t ∧ t < s.2.1 97 k ∧ x = R_trow s k t)
/-- the end of n bytes a, b -/
def X_end (n a b : Int) : Int := if n = 0 then 0 else if n = 1 then 65536 + 256 * a else 131072 + 256 * a + b
theorem X_end_v {n a b : Int} (n0 : 0 ≤ n) (n2 : n ≤ 2) (a0 : 0 ≤ a) (a1 : a < 256) (b0 : 0 ≤ b) (b1 : b < 256) : X_v (X_end n a b) := by
  unfold X_end X_v
  split
  · omega
  · split <;> omega
theorem R_headOf (d : Nat) (s : R_S) {sl_ k e : Int}  (zsl_ : Zr sl_) (zk : Zr k) (ze : Zr e) (s0 : 0 ≤ sl_) (s1 : sl_ < 44) (k0 : 0 ≤ k) (k1 : k < 8) (n0 : 0 ≤ s.2.1 98 (8 * sl_ + k)) (n1 : s.2.1 98 (8 * sl_ + k) ≤ 60) (hb : ∀ i, 0 ≤ i → i < s.2.1 98 (8 * sl_ + k) → 0 ≤ s.2.1 99 (60 * (8 * sl_ + k) + i) ∧ s.2.1 99 (60 * (8 * sl_ + k) + i) < 256) (ve : X_v e) : R_ok (d + 2) 223 [.int (Zi sl_), .int (Zi k), .int (Zi e)] s (fun x s2 => s2 = s ∧ x = some (.int (Zi (X_end (if s.2.1 98 (8 * sl_ + k) + e / 65536 < 2 then s.2.1 98 (8 * sl_ + k) + e / 65536 else 2) (if 0 < s.2.1 98 (8 * sl_ + k) then s.2.1 99 (60 * (8 * sl_ + k) + 0) else e / 256 % 256) (if 1 < s.2.1 98 (8 * sl_ + k) then s.2.1 99 (60 * (8 * sl_ + k) + 1) else if s.2.1 98 (8 * sl_ + k) = 1 then e / 256 % 256 else e % 256))))) := by
  refine R_enter (M := E_m223) rfl (Nat.le_of_ble_eq_true rfl) (fun h0 h hs => ?_)
  show B_R (d + 1) _ (0, [(0, .ref 83), (1, .int (Zi sl_)), (2, .int (Zi k)), (3, .int (Zi e))], []) _ _ _
  unfold X_v at ve
  have hb0 := hb 0 (by omega)
  have hb1 := hb 1 (by omega)
  have hbn := hb (s.2.1 98 (8 * sl_ + k) - 1)
  have hbm := hb (s.2.1 98 (8 * sl_ + k) - 2)
  refine Z_go (f2 := (1, [(0, .ref 83), (1, .int (Zi sl_)), (2, .int (Zi k)), (3, .int (Zi e))], [.ref 83])) (fun _ => rfl) ?_
  refine R_gr (q := 96) rfl hs rfl ?_
  show B_R _ _ (4, [(0, .ref 83), (1, .int (Zi sl_)), (2, .int (Zi k)), (3, .int (Zi e))], [.ref 98]) _ _ _
  refine Z_go (f2 := (6, [(0, .ref 83), (1, .int (Zi sl_)), (2, .int (Zi k)), (3, .int (Zi e))], [.int (Zi 8), .ref 98])) (fun _ => rfl) ?_
  refine Z_go (f2 := (7, [(0, .ref 83), (1, .int (Zi sl_)), (2, .int (Zi k)), (3, .int (Zi e))], [.int (Zi sl_), .int (Zi 8), .ref 98])) (fun _ => rfl) ?_
  refine Z_imul rfl ?_
  refine Z_go (f2 := (9, [(0, .ref 83), (1, .int (Zi sl_)), (2, .int (Zi k)), (3, .int (Zi e))], [.int (Zi k), .int (Zi (8 * sl_)), .ref 98])) (fun _ => rfl) ?_
  refine Z_iadd rfl ?_
  refine R_ia (q := 14) rfl hs rfl rfl (by omega) (by omega) (by decide) ?_
  refine Z_go (f2 := (13, [(4, .int (Zi (s.2.1 98 (8 * sl_ + k)))), (0, .ref 83), (1, .int (Zi sl_)), (2, .int (Zi k)), (3, .int (Zi e))], [])) (fun _ => rfl) ?_
  refine Z_go (f2 := (15, [(4, .int (Zi (s.2.1 98 (8 * sl_ + k)))), (0, .ref 83), (1, .int (Zi sl_)), (2, .int (Zi k)), (3, .int (Zi e))], [.int (Zi (s.2.1 98 (8 * sl_ + k)))])) (fun _ => rfl) ?_
  refine Z_go (f2 := (16, [(4, .int (Zi (s.2.1 98 (8 * sl_ + k)))), (0, .ref 83), (1, .int (Zi sl_)), (2, .int (Zi k)), (3, .int (Zi e))], [.int (Zi e), .int (Zi (s.2.1 98 (8 * sl_ + k)))])) (fun _ => rfl) ?_
  refine Z_callQ (vs := [.int (Zi e)]) (rest := [.int (Zi (s.2.1 98 (8 * sl_ + k)))]) rfl (by decide) rfl rfl rfl (Nat.le_of_ble_eq_true rfl) (R_sizeOf _ (by first | assumption | exact hs.zA _ _ | exact ⟨by omega, by omega⟩) (by omega) (by omega)) (fun x q => ?_)
  obtain rfl := q
  show B_R _ _ (19, [(4, .int (Zi (s.2.1 98 (8 * sl_ + k)))), (0, .ref 83), (1, .int (Zi sl_)), (2, .int (Zi k)), (3, .int (Zi e))], [.int (Zi (e / 65536)), .int (Zi (s.2.1 98 (8 * sl_ + k)))]) _ _ _
  refine Z_iadd rfl ?_
  refine Z_go (f2 := (22, [(5, .int (Zi (s.2.1 98 (8 * sl_ + k) + (e / 65536)))), (4, .int (Zi (s.2.1 98 (8 * sl_ + k)))), (0, .ref 83), (1, .int (Zi sl_)), (2, .int (Zi k)), (3, .int (Zi e))], [])) (fun _ => rfl) ?_
  refine Z_go (f2 := (24, [(5, .int (Zi (s.2.1 98 (8 * sl_ + k) + (e / 65536)))), (4, .int (Zi (s.2.1 98 (8 * sl_ + k)))), (0, .ref 83), (1, .int (Zi sl_)), (2, .int (Zi k)), (3, .int (Zi e))], [.int (Zi (s.2.1 98 (8 * sl_ + k)))])) (fun _ => rfl) ?_
  refine Z_ile rfl rfl (by first | exact hs.zF _ | exact Zor_r _ _ | exact hs.zA _ _ | assumption | exact zA _ _ | exact zS _ | exact Zr_not (hs.zA _ _) | exact ⟨by omega, by omega⟩) (fun c1 => ?_) (fun c1 => ?_)
  · refine Z_go (f2 := (38, [(5, .int (Zi (s.2.1 98 (8 * sl_ + k) + (e / 65536)))), (4, .int (Zi (s.2.1 98 (8 * sl_ + k)))), (0, .ref 83), (1, .int (Zi sl_)), (2, .int (Zi k)), (3, .int (Zi e))], [.int (Zi e)])) (fun _ => rfl) ?_
    refine Z_callQ (vs := [.int (Zi e)]) (rest := []) rfl (by decide) rfl rfl rfl (Nat.le_of_ble_eq_true rfl) (R_firstOf _ (by first | assumption | exact hs.zA _ _ | exact ⟨by omega, by omega⟩) (by omega) (by omega)) (fun x q => ?_)
    obtain rfl := q
    show B_R _ _ (41, [(5, .int (Zi (s.2.1 98 (8 * sl_ + k) + (e / 65536)))), (4, .int (Zi (s.2.1 98 (8 * sl_ + k)))), (0, .ref 83), (1, .int (Zi sl_)), (2, .int (Zi k)), (3, .int (Zi e))], [.int (Zi (e / 256 % 256))]) _ _ _
    refine Z_go (f2 := (43, [(6, .int (Zi (e / 256 % 256))), (5, .int (Zi (s.2.1 98 (8 * sl_ + k) + (e / 65536)))), (4, .int (Zi (s.2.1 98 (8 * sl_ + k)))), (0, .ref 83), (1, .int (Zi sl_)), (2, .int (Zi k)), (3, .int (Zi e))], [])) (fun _ => rfl) ?_
    refine Z_go (f2 := (45, [(6, .int (Zi (e / 256 % 256))), (5, .int (Zi (s.2.1 98 (8 * sl_ + k) + (e / 65536)))), (4, .int (Zi (s.2.1 98 (8 * sl_ + k)))), (0, .ref 83), (1, .int (Zi sl_)), (2, .int (Zi k)), (3, .int (Zi e))], [.int (Zi (s.2.1 98 (8 * sl_ + k)))])) (fun _ => rfl) ?_
    refine Z_go (f2 := (46, [(6, .int (Zi (e / 256 % 256))), (5, .int (Zi (s.2.1 98 (8 * sl_ + k) + (e / 65536)))), (4, .int (Zi (s.2.1 98 (8 * sl_ + k)))), (0, .ref 83), (1, .int (Zi sl_)), (2, .int (Zi k)), (3, .int (Zi e))], [.int (Zi 1), .int (Zi (s.2.1 98 (8 * sl_ + k)))])) (fun _ => rfl) ?_
    refine Z_cle rfl rfl (by first | exact hs.zF _ | exact Zor_r _ _ | exact hs.zA _ _ | assumption | exact zA _ _ | exact zS _ | exact Zr_not (hs.zA _ _) | exact ⟨by omega, by omega⟩) (by first | exact hs.zF _ | exact Zor_r _ _ | exact hs.zA _ _ | assumption | exact zA _ _ | exact zS _ | exact Zr_not (hs.zA _ _) | exact ⟨by omega, by omega⟩) (fun c2 => ?_) (fun c2 => ?_)
    · refine Z_go (f2 := (61, [(6, .int (Zi (e / 256 % 256))), (5, .int (Zi (s.2.1 98 (8 * sl_ + k) + (e / 65536)))), (4, .int (Zi (s.2.1 98 (8 * sl_ + k)))), (0, .ref 83), (1, .int (Zi sl_)), (2, .int (Zi k)), (3, .int (Zi e))], [.int (Zi (s.2.1 98 (8 * sl_ + k)))])) (fun _ => rfl) ?_
      refine Z_go (f2 := (62, [(6, .int (Zi (e / 256 % 256))), (5, .int (Zi (s.2.1 98 (8 * sl_ + k) + (e / 65536)))), (4, .int (Zi (s.2.1 98 (8 * sl_ + k)))), (0, .ref 83), (1, .int (Zi sl_)), (2, .int (Zi k)), (3, .int (Zi e))], [.int (Zi 1), .int (Zi (s.2.1 98 (8 * sl_ + k)))])) (fun _ => rfl) ?_
      refine Z_cne rfl rfl (by first | exact hs.zF _ | exact Zor_r _ _ | exact hs.zA _ _ | assumption | exact zA _ _ | exact zS _ | exact Zr_not (hs.zA _ _) | exact ⟨by omega, by omega⟩) (by first | exact hs.zF _ | exact Zor_r _ _ | exact hs.zA _ _ | assumption | exact zA _ _ | exact zS _ | exact Zr_not (hs.zA _ _) | exact ⟨by omega, by omega⟩) (fun c3 => ?_) (fun c3 => ?_)
      · refine Z_go (f2 := (73, [(6, .int (Zi (e / 256 % 256))), (5, .int (Zi (s.2.1 98 (8 * sl_ + k) + (e / 65536)))), (4, .int (Zi (s.2.1 98 (8 * sl_ + k)))), (0, .ref 83), (1, .int (Zi sl_)), (2, .int (Zi k)), (3, .int (Zi e))], [.int (Zi e)])) (fun _ => rfl) ?_
        refine Z_callQ (vs := [.int (Zi e)]) (rest := []) rfl (by decide) rfl rfl rfl (Nat.le_of_ble_eq_true rfl) (R_secondOf _ (by first | assumption | exact hs.zA _ _ | exact ⟨by omega, by omega⟩) (by omega) (by omega)) (fun x q => ?_)
        obtain rfl := q
        show B_R _ _ (76, [(6, .int (Zi (e / 256 % 256))), (5, .int (Zi (s.2.1 98 (8 * sl_ + k) + (e / 65536)))), (4, .int (Zi (s.2.1 98 (8 * sl_ + k)))), (0, .ref 83), (1, .int (Zi sl_)), (2, .int (Zi k)), (3, .int (Zi e))], [.int (Zi (e % 256))]) _ _ _
        refine Z_go (f2 := (78, [(7, .int (Zi (e % 256))), (6, .int (Zi (e / 256 % 256))), (5, .int (Zi (s.2.1 98 (8 * sl_ + k) + (e / 65536)))), (4, .int (Zi (s.2.1 98 (8 * sl_ + k)))), (0, .ref 83), (1, .int (Zi sl_)), (2, .int (Zi k)), (3, .int (Zi e))], [])) (fun _ => rfl) ?_
        refine Z_go (f2 := (80, [(7, .int (Zi (e % 256))), (6, .int (Zi (e / 256 % 256))), (5, .int (Zi (s.2.1 98 (8 * sl_ + k) + (e / 65536)))), (4, .int (Zi (s.2.1 98 (8 * sl_ + k)))), (0, .ref 83), (1, .int (Zi sl_)), (2, .int (Zi k)), (3, .int (Zi e))], [.int (Zi (s.2.1 98 (8 * sl_ + k) + (e / 65536)))])) (fun _ => rfl) ?_
        refine Z_go (f2 := (81, [(7, .int (Zi (e % 256))), (6, .int (Zi (e / 256 % 256))), (5, .int (Zi (s.2.1 98 (8 * sl_ + k) + (e / 65536)))), (4, .int (Zi (s.2.1 98 (8 * sl_ + k)))), (0, .ref 83), (1, .int (Zi sl_)), (2, .int (Zi k)), (3, .int (Zi e))], [.int (Zi 2), .int (Zi (s.2.1 98 (8 * sl_ + k) + (e / 65536)))])) (fun _ => rfl) ?_
        refine Z_cge rfl rfl (by first | exact hs.zF _ | exact Zor_r _ _ | exact hs.zA _ _ | assumption | exact zA _ _ | exact zS _ | exact Zr_not (hs.zA _ _) | exact ⟨by omega, by omega⟩) (by first | exact hs.zF _ | exact Zor_r _ _ | exact hs.zA _ _ | assumption | exact zA _ _ | exact zS _ | exact Zr_not (hs.zA _ _) | exact ⟨by omega, by omega⟩) (fun c4 => ?_) (fun c4 => ?_)
        · refine Z_go (f2 := (90, [(7, .int (Zi (e % 256))), (6, .int (Zi (e / 256 % 256))), (5, .int (Zi (s.2.1 98 (8 * sl_ + k) + (e / 65536)))), (4, .int (Zi (s.2.1 98 (8 * sl_ + k)))), (0, .ref 83), (1, .int (Zi sl_)), (2, .int (Zi k)), (3, .int (Zi e))], [.int (Zi 2)])) (fun _ => rfl) ?_
          refine Z_go (f2 := (92, [(7, .int (Zi (e % 256))), (6, .int (Zi (e / 256 % 256))), (5, .int (Zi (s.2.1 98 (8 * sl_ + k) + (e / 65536)))), (4, .int (Zi (s.2.1 98 (8 * sl_ + k)))), (0, .ref 83), (1, .int (Zi sl_)), (2, .int (Zi k)), (3, .int (Zi e))], [.int (Zi (e / 256 % 256)), .int (Zi 2)])) (fun _ => rfl) ?_
          refine Z_go (f2 := (94, [(7, .int (Zi (e % 256))), (6, .int (Zi (e / 256 % 256))), (5, .int (Zi (s.2.1 98 (8 * sl_ + k) + (e / 65536)))), (4, .int (Zi (s.2.1 98 (8 * sl_ + k)))), (0, .ref 83), (1, .int (Zi sl_)), (2, .int (Zi k)), (3, .int (Zi e))], [.int (Zi (e % 256)), .int (Zi (e / 256 % 256)), .int (Zi 2)])) (fun _ => rfl) ?_
          refine Z_callQ (vs := [.int (Zi 2), .int (Zi (e / 256 % 256)), .int (Zi (e % 256))]) (rest := []) rfl (by decide) rfl rfl rfl (Nat.le_of_ble_eq_true rfl) (R_endOf _ (n := 2) (a := e / 256 % 256) (b := e % 256) (by exact ⟨by omega, by omega⟩) (by exact ⟨by omega, by omega⟩) (by exact ⟨by omega, by omega⟩)) (fun x q => ?_)
          have q : x = some (.int (Zi (X_end 2 (e / 256 % 256) (e % 256)))) := q
          obtain rfl := q
          show B_R _ _ (97, [(7, .int (Zi (e % 256))), (6, .int (Zi (e / 256 % 256))), (5, .int (Zi (s.2.1 98 (8 * sl_ + k) + (e / 65536)))), (4, .int (Zi (s.2.1 98 (8 * sl_ + k)))), (0, .ref 83), (1, .int (Zi sl_)), (2, .int (Zi k)), (3, .int (Zi e))], [.int (Zi (X_end 2 (e / 256 % 256) (e % 256)))]) _ _ _
          refine Z_iret rfl rfl (by first | rfl | decide | exact narrow_b01 (by omega)) ⟨_, hs, ?_, rfl⟩
          first
          | (exfalso; omega)
          | (rw [if_neg (show ¬ s.2.1 98 (8 * sl_ + k) + e / 65536 < 2 by omega), if_neg (show ¬ 0 < s.2.1 98 (8 * sl_ + k) by omega), if_neg (show ¬ 1 < s.2.1 98 (8 * sl_ + k) by omega), if_neg (show ¬ s.2.1 98 (8 * sl_ + k) = 1 by omega)]; exact ⟨rfl, rfl⟩)
        · refine Z_go (f2 := (86, [(7, .int (Zi (e % 256))), (6, .int (Zi (e / 256 % 256))), (5, .int (Zi (s.2.1 98 (8 * sl_ + k) + (e / 65536)))), (4, .int (Zi (s.2.1 98 (8 * sl_ + k)))), (0, .ref 83), (1, .int (Zi sl_)), (2, .int (Zi k)), (3, .int (Zi e))], [.int (Zi (s.2.1 98 (8 * sl_ + k) + (e / 65536)))])) (fun _ => rfl) ?_
          refine Z_go (f2 := (90, [(7, .int (Zi (e % 256))), (6, .int (Zi (e / 256 % 256))), (5, .int (Zi (s.2.1 98 (8 * sl_ + k) + (e / 65536)))), (4, .int (Zi (s.2.1 98 (8 * sl_ + k)))), (0, .ref 83), (1, .int (Zi sl_)), (2, .int (Zi k)), (3, .int (Zi e))], [.int (Zi (s.2.1 98 (8 * sl_ + k) + (e / 65536)))])) (fun _ => rfl) ?_
          refine Z_go (f2 := (92, [(7, .int (Zi (e % 256))), (6, .int (Zi (e / 256 % 256))), (5, .int (Zi (s.2.1 98 (8 * sl_ + k) + (e / 65536)))), (4, .int (Zi (s.2.1 98 (8 * sl_ + k)))), (0, .ref 83), (1, .int (Zi sl_)), (2, .int (Zi k)), (3, .int (Zi e))], [.int (Zi (e / 256 % 256)), .int (Zi (s.2.1 98 (8 * sl_ + k) + (e / 65536)))])) (fun _ => rfl) ?_
          refine Z_go (f2 := (94, [(7, .int (Zi (e % 256))), (6, .int (Zi (e / 256 % 256))), (5, .int (Zi (s.2.1 98 (8 * sl_ + k) + (e / 65536)))), (4, .int (Zi (s.2.1 98 (8 * sl_ + k)))), (0, .ref 83), (1, .int (Zi sl_)), (2, .int (Zi k)), (3, .int (Zi e))], [.int (Zi (e % 256)), .int (Zi (e / 256 % 256)), .int (Zi (s.2.1 98 (8 * sl_ + k) + (e / 65536)))])) (fun _ => rfl) ?_
          refine Z_callQ (vs := [.int (Zi (s.2.1 98 (8 * sl_ + k) + (e / 65536))), .int (Zi (e / 256 % 256)), .int (Zi (e % 256))]) (rest := []) rfl (by decide) rfl rfl rfl (Nat.le_of_ble_eq_true rfl) (R_endOf _ (n := s.2.1 98 (8 * sl_ + k) + (e / 65536)) (a := e / 256 % 256) (b := e % 256) (by exact ⟨by omega, by omega⟩) (by exact ⟨by omega, by omega⟩) (by exact ⟨by omega, by omega⟩)) (fun x q => ?_)
          have q : x = some (.int (Zi (X_end (s.2.1 98 (8 * sl_ + k) + (e / 65536)) (e / 256 % 256) (e % 256)))) := q
          obtain rfl := q
          show B_R _ _ (97, [(7, .int (Zi (e % 256))), (6, .int (Zi (e / 256 % 256))), (5, .int (Zi (s.2.1 98 (8 * sl_ + k) + (e / 65536)))), (4, .int (Zi (s.2.1 98 (8 * sl_ + k)))), (0, .ref 83), (1, .int (Zi sl_)), (2, .int (Zi k)), (3, .int (Zi e))], [.int (Zi (X_end (s.2.1 98 (8 * sl_ + k) + (e / 65536)) (e / 256 % 256) (e % 256)))]) _ _ _
          refine Z_iret rfl rfl (by first | rfl | decide | exact narrow_b01 (by omega)) ⟨_, hs, ?_, rfl⟩
          first
          | (exfalso; omega)
          | (rw [if_pos (show s.2.1 98 (8 * sl_ + k) + e / 65536 < 2 by omega), if_neg (show ¬ 0 < s.2.1 98 (8 * sl_ + k) by omega), if_neg (show ¬ 1 < s.2.1 98 (8 * sl_ + k) by omega), if_neg (show ¬ s.2.1 98 (8 * sl_ + k) = 1 by omega)]; exact ⟨rfl, rfl⟩)
      · refine Z_go (f2 := (66, [(6, .int (Zi (e / 256 % 256))), (5, .int (Zi (s.2.1 98 (8 * sl_ + k) + (e / 65536)))), (4, .int (Zi (s.2.1 98 (8 * sl_ + k)))), (0, .ref 83), (1, .int (Zi sl_)), (2, .int (Zi k)), (3, .int (Zi e))], [.int (Zi e)])) (fun _ => rfl) ?_
        refine Z_callQ (vs := [.int (Zi e)]) (rest := []) rfl (by decide) rfl rfl rfl (Nat.le_of_ble_eq_true rfl) (R_firstOf _ (by first | assumption | exact hs.zA _ _ | exact ⟨by omega, by omega⟩) (by omega) (by omega)) (fun x q => ?_)
        obtain rfl := q
        show B_R _ _ (69, [(6, .int (Zi (e / 256 % 256))), (5, .int (Zi (s.2.1 98 (8 * sl_ + k) + (e / 65536)))), (4, .int (Zi (s.2.1 98 (8 * sl_ + k)))), (0, .ref 83), (1, .int (Zi sl_)), (2, .int (Zi k)), (3, .int (Zi e))], [.int (Zi (e / 256 % 256))]) _ _ _
        refine Z_go (f2 := (76, [(6, .int (Zi (e / 256 % 256))), (5, .int (Zi (s.2.1 98 (8 * sl_ + k) + (e / 65536)))), (4, .int (Zi (s.2.1 98 (8 * sl_ + k)))), (0, .ref 83), (1, .int (Zi sl_)), (2, .int (Zi k)), (3, .int (Zi e))], [.int (Zi (e / 256 % 256))])) (fun _ => rfl) ?_
        refine Z_go (f2 := (78, [(7, .int (Zi (e / 256 % 256))), (6, .int (Zi (e / 256 % 256))), (5, .int (Zi (s.2.1 98 (8 * sl_ + k) + (e / 65536)))), (4, .int (Zi (s.2.1 98 (8 * sl_ + k)))), (0, .ref 83), (1, .int (Zi sl_)), (2, .int (Zi k)), (3, .int (Zi e))], [])) (fun _ => rfl) ?_
        refine Z_go (f2 := (80, [(7, .int (Zi (e / 256 % 256))), (6, .int (Zi (e / 256 % 256))), (5, .int (Zi (s.2.1 98 (8 * sl_ + k) + (e / 65536)))), (4, .int (Zi (s.2.1 98 (8 * sl_ + k)))), (0, .ref 83), (1, .int (Zi sl_)), (2, .int (Zi k)), (3, .int (Zi e))], [.int (Zi (s.2.1 98 (8 * sl_ + k) + (e / 65536)))])) (fun _ => rfl) ?_
        refine Z_go (f2 := (81, [(7, .int (Zi (e / 256 % 256))), (6, .int (Zi (e / 256 % 256))), (5, .int (Zi (s.2.1 98 (8 * sl_ + k) + (e / 65536)))), (4, .int (Zi (s.2.1 98 (8 * sl_ + k)))), (0, .ref 83), (1, .int (Zi sl_)), (2, .int (Zi k)), (3, .int (Zi e))], [.int (Zi 2), .int (Zi (s.2.1 98 (8 * sl_ + k) + (e / 65536)))])) (fun _ => rfl) ?_
        refine Z_cge rfl rfl (by first | exact hs.zF _ | exact Zor_r _ _ | exact hs.zA _ _ | assumption | exact zA _ _ | exact zS _ | exact Zr_not (hs.zA _ _) | exact ⟨by omega, by omega⟩) (by first | exact hs.zF _ | exact Zor_r _ _ | exact hs.zA _ _ | assumption | exact zA _ _ | exact zS _ | exact Zr_not (hs.zA _ _) | exact ⟨by omega, by omega⟩) (fun c5 => ?_) (fun c5 => ?_)
        · refine Z_go (f2 := (90, [(7, .int (Zi (e / 256 % 256))), (6, .int (Zi (e / 256 % 256))), (5, .int (Zi (s.2.1 98 (8 * sl_ + k) + (e / 65536)))), (4, .int (Zi (s.2.1 98 (8 * sl_ + k)))), (0, .ref 83), (1, .int (Zi sl_)), (2, .int (Zi k)), (3, .int (Zi e))], [.int (Zi 2)])) (fun _ => rfl) ?_
          refine Z_go (f2 := (92, [(7, .int (Zi (e / 256 % 256))), (6, .int (Zi (e / 256 % 256))), (5, .int (Zi (s.2.1 98 (8 * sl_ + k) + (e / 65536)))), (4, .int (Zi (s.2.1 98 (8 * sl_ + k)))), (0, .ref 83), (1, .int (Zi sl_)), (2, .int (Zi k)), (3, .int (Zi e))], [.int (Zi (e / 256 % 256)), .int (Zi 2)])) (fun _ => rfl) ?_
          refine Z_go (f2 := (94, [(7, .int (Zi (e / 256 % 256))), (6, .int (Zi (e / 256 % 256))), (5, .int (Zi (s.2.1 98 (8 * sl_ + k) + (e / 65536)))), (4, .int (Zi (s.2.1 98 (8 * sl_ + k)))), (0, .ref 83), (1, .int (Zi sl_)), (2, .int (Zi k)), (3, .int (Zi e))], [.int (Zi (e / 256 % 256)), .int (Zi (e / 256 % 256)), .int (Zi 2)])) (fun _ => rfl) ?_
          refine Z_callQ (vs := [.int (Zi 2), .int (Zi (e / 256 % 256)), .int (Zi (e / 256 % 256))]) (rest := []) rfl (by decide) rfl rfl rfl (Nat.le_of_ble_eq_true rfl) (R_endOf _ (n := 2) (a := e / 256 % 256) (b := e / 256 % 256) (by exact ⟨by omega, by omega⟩) (by exact ⟨by omega, by omega⟩) (by exact ⟨by omega, by omega⟩)) (fun x q => ?_)
          have q : x = some (.int (Zi (X_end 2 (e / 256 % 256) (e / 256 % 256)))) := q
          obtain rfl := q
          show B_R _ _ (97, [(7, .int (Zi (e / 256 % 256))), (6, .int (Zi (e / 256 % 256))), (5, .int (Zi (s.2.1 98 (8 * sl_ + k) + (e / 65536)))), (4, .int (Zi (s.2.1 98 (8 * sl_ + k)))), (0, .ref 83), (1, .int (Zi sl_)), (2, .int (Zi k)), (3, .int (Zi e))], [.int (Zi (X_end 2 (e / 256 % 256) (e / 256 % 256)))]) _ _ _
          refine Z_iret rfl rfl (by first | rfl | decide | exact narrow_b01 (by omega)) ⟨_, hs, ?_, rfl⟩
          first
          | (exfalso; omega)
          | (rw [if_neg (show ¬ s.2.1 98 (8 * sl_ + k) + e / 65536 < 2 by omega), if_neg (show ¬ 0 < s.2.1 98 (8 * sl_ + k) by omega), if_neg (show ¬ 1 < s.2.1 98 (8 * sl_ + k) by omega), if_pos (show s.2.1 98 (8 * sl_ + k) = 1 by omega)]; exact ⟨rfl, rfl⟩)
        · refine Z_go (f2 := (86, [(7, .int (Zi (e / 256 % 256))), (6, .int (Zi (e / 256 % 256))), (5, .int (Zi (s.2.1 98 (8 * sl_ + k) + (e / 65536)))), (4, .int (Zi (s.2.1 98 (8 * sl_ + k)))), (0, .ref 83), (1, .int (Zi sl_)), (2, .int (Zi k)), (3, .int (Zi e))], [.int (Zi (s.2.1 98 (8 * sl_ + k) + (e / 65536)))])) (fun _ => rfl) ?_
          refine Z_go (f2 := (90, [(7, .int (Zi (e / 256 % 256))), (6, .int (Zi (e / 256 % 256))), (5, .int (Zi (s.2.1 98 (8 * sl_ + k) + (e / 65536)))), (4, .int (Zi (s.2.1 98 (8 * sl_ + k)))), (0, .ref 83), (1, .int (Zi sl_)), (2, .int (Zi k)), (3, .int (Zi e))], [.int (Zi (s.2.1 98 (8 * sl_ + k) + (e / 65536)))])) (fun _ => rfl) ?_
          refine Z_go (f2 := (92, [(7, .int (Zi (e / 256 % 256))), (6, .int (Zi (e / 256 % 256))), (5, .int (Zi (s.2.1 98 (8 * sl_ + k) + (e / 65536)))), (4, .int (Zi (s.2.1 98 (8 * sl_ + k)))), (0, .ref 83), (1, .int (Zi sl_)), (2, .int (Zi k)), (3, .int (Zi e))], [.int (Zi (e / 256 % 256)), .int (Zi (s.2.1 98 (8 * sl_ + k) + (e / 65536)))])) (fun _ => rfl) ?_
          refine Z_go (f2 := (94, [(7, .int (Zi (e / 256 % 256))), (6, .int (Zi (e / 256 % 256))), (5, .int (Zi (s.2.1 98 (8 * sl_ + k) + (e / 65536)))), (4, .int (Zi (s.2.1 98 (8 * sl_ + k)))), (0, .ref 83), (1, .int (Zi sl_)), (2, .int (Zi k)), (3, .int (Zi e))], [.int (Zi (e / 256 % 256)), .int (Zi (e / 256 % 256)), .int (Zi (s.2.1 98 (8 * sl_ + k) + (e / 65536)))])) (fun _ => rfl) ?_
          refine Z_callQ (vs := [.int (Zi (s.2.1 98 (8 * sl_ + k) + (e / 65536))), .int (Zi (e / 256 % 256)), .int (Zi (e / 256 % 256))]) (rest := []) rfl (by decide) rfl rfl rfl (Nat.le_of_ble_eq_true rfl) (R_endOf _ (n := s.2.1 98 (8 * sl_ + k) + (e / 65536)) (a := e / 256 % 256) (b := e / 256 % 256) (by exact ⟨by omega, by omega⟩) (by exact ⟨by omega, by omega⟩) (by exact ⟨by omega, by omega⟩)) (fun x q => ?_)
          have q : x = some (.int (Zi (X_end (s.2.1 98 (8 * sl_ + k) + (e / 65536)) (e / 256 % 256) (e / 256 % 256)))) := q
          obtain rfl := q
          show B_R _ _ (97, [(7, .int (Zi (e / 256 % 256))), (6, .int (Zi (e / 256 % 256))), (5, .int (Zi (s.2.1 98 (8 * sl_ + k) + (e / 65536)))), (4, .int (Zi (s.2.1 98 (8 * sl_ + k)))), (0, .ref 83), (1, .int (Zi sl_)), (2, .int (Zi k)), (3, .int (Zi e))], [.int (Zi (X_end (s.2.1 98 (8 * sl_ + k) + (e / 65536)) (e / 256 % 256) (e / 256 % 256)))]) _ _ _
          refine Z_iret rfl rfl (by first | rfl | decide | exact narrow_b01 (by omega)) ⟨_, hs, ?_, rfl⟩
          first
          | (exfalso; omega)
          | (rw [if_pos (show s.2.1 98 (8 * sl_ + k) + e / 65536 < 2 by omega), if_neg (show ¬ 0 < s.2.1 98 (8 * sl_ + k) by omega), if_neg (show ¬ 1 < s.2.1 98 (8 * sl_ + k) by omega), if_pos (show s.2.1 98 (8 * sl_ + k) = 1 by omega)]; exact ⟨rfl, rfl⟩)
    · refine Z_go (f2 := (50, [(6, .int (Zi (e / 256 % 256))), (5, .int (Zi (s.2.1 98 (8 * sl_ + k) + (e / 65536)))), (4, .int (Zi (s.2.1 98 (8 * sl_ + k)))), (0, .ref 83), (1, .int (Zi sl_)), (2, .int (Zi k)), (3, .int (Zi e))], [.ref 83])) (fun _ => rfl) ?_
      refine Z_go (f2 := (51, [(6, .int (Zi (e / 256 % 256))), (5, .int (Zi (s.2.1 98 (8 * sl_ + k) + (e / 65536)))), (4, .int (Zi (s.2.1 98 (8 * sl_ + k)))), (0, .ref 83), (1, .int (Zi sl_)), (2, .int (Zi k)), (3, .int (Zi e))], [.int (Zi sl_), .ref 83])) (fun _ => rfl) ?_
      refine Z_go (f2 := (52, [(6, .int (Zi (e / 256 % 256))), (5, .int (Zi (s.2.1 98 (8 * sl_ + k) + (e / 65536)))), (4, .int (Zi (s.2.1 98 (8 * sl_ + k)))), (0, .ref 83), (1, .int (Zi sl_)), (2, .int (Zi k)), (3, .int (Zi e))], [.int (Zi k), .int (Zi sl_), .ref 83])) (fun _ => rfl) ?_
      refine Z_go (f2 := (53, [(6, .int (Zi (e / 256 % 256))), (5, .int (Zi (s.2.1 98 (8 * sl_ + k) + (e / 65536)))), (4, .int (Zi (s.2.1 98 (8 * sl_ + k)))), (0, .ref 83), (1, .int (Zi sl_)), (2, .int (Zi k)), (3, .int (Zi e))], [.int (Zi 1), .int (Zi k), .int (Zi sl_), .ref 83])) (fun _ => rfl) ?_
      refine R_call (As := [.int (Zi sl_), .int (Zi k), .int (Zi 1)]) (rest := []) rfl (by decide) rfl rfl rfl rfl (by decide +kernel) (Nat.le_of_ble_eq_true rfl) hs (R_textByte _ s (by first | assumption | exact hs.zA _ _ | exact ⟨by omega, by omega⟩) (by first | assumption | exact hs.zA _ _ | exact ⟨by omega, by omega⟩) (by first | assumption | exact hs.zA _ _ | exact ⟨by omega, by omega⟩) (by omega) (by omega)) (fun x h s2 hs q => ?_)
      obtain ⟨q0, v, rfl, q2⟩ := q
      rw [q0] at hs
      rw [q2]
      show B_R _ _ (56, [(6, .int (Zi (e / 256 % 256))), (5, .int (Zi (s.2.1 98 (8 * sl_ + k) + (e / 65536)))), (4, .int (Zi (s.2.1 98 (8 * sl_ + k)))), (0, .ref 83), (1, .int (Zi sl_)), (2, .int (Zi k)), (3, .int (Zi e))], [.int (Zi (s.2.1 99 (60 * (8 * sl_ + k) + 1)))]) _ _ _
      refine Z_go (f2 := (76, [(6, .int (Zi (e / 256 % 256))), (5, .int (Zi (s.2.1 98 (8 * sl_ + k) + (e / 65536)))), (4, .int (Zi (s.2.1 98 (8 * sl_ + k)))), (0, .ref 83), (1, .int (Zi sl_)), (2, .int (Zi k)), (3, .int (Zi e))], [.int (Zi (s.2.1 99 (60 * (8 * sl_ + k) + 1)))])) (fun _ => rfl) ?_
      refine Z_go (f2 := (78, [(7, .int (Zi (s.2.1 99 (60 * (8 * sl_ + k) + 1)))), (6, .int (Zi (e / 256 % 256))), (5, .int (Zi (s.2.1 98 (8 * sl_ + k) + (e / 65536)))), (4, .int (Zi (s.2.1 98 (8 * sl_ + k)))), (0, .ref 83), (1, .int (Zi sl_)), (2, .int (Zi k)), (3, .int (Zi e))], [])) (fun _ => rfl) ?_
      refine Z_go (f2 := (80, [(7, .int (Zi (s.2.1 99 (60 * (8 * sl_ + k) + 1)))), (6, .int (Zi (e / 256 % 256))), (5, .int (Zi (s.2.1 98 (8 * sl_ + k) + (e / 65536)))), (4, .int (Zi (s.2.1 98 (8 * sl_ + k)))), (0, .ref 83), (1, .int (Zi sl_)), (2, .int (Zi k)), (3, .int (Zi e))], [.int (Zi (s.2.1 98 (8 * sl_ + k) + (e / 65536)))])) (fun _ => rfl) ?_
      refine Z_go (f2 := (81, [(7, .int (Zi (s.2.1 99 (60 * (8 * sl_ + k) + 1)))), (6, .int (Zi (e / 256 % 256))), (5, .int (Zi (s.2.1 98 (8 * sl_ + k) + (e / 65536)))), (4, .int (Zi (s.2.1 98 (8 * sl_ + k)))), (0, .ref 83), (1, .int (Zi sl_)), (2, .int (Zi k)), (3, .int (Zi e))], [.int (Zi 2), .int (Zi (s.2.1 98 (8 * sl_ + k) + (e / 65536)))])) (fun _ => rfl) ?_
      refine Z_cge rfl rfl (by first | exact hs.zF _ | exact Zor_r _ _ | exact hs.zA _ _ | assumption | exact zA _ _ | exact zS _ | exact Zr_not (hs.zA _ _) | exact ⟨by omega, by omega⟩) (by first | exact hs.zF _ | exact Zor_r _ _ | exact hs.zA _ _ | assumption | exact zA _ _ | exact zS _ | exact Zr_not (hs.zA _ _) | exact ⟨by omega, by omega⟩) (fun c6 => ?_) (fun c6 => ?_)
      · refine Z_go (f2 := (90, [(7, .int (Zi (s.2.1 99 (60 * (8 * sl_ + k) + 1)))), (6, .int (Zi (e / 256 % 256))), (5, .int (Zi (s.2.1 98 (8 * sl_ + k) + (e / 65536)))), (4, .int (Zi (s.2.1 98 (8 * sl_ + k)))), (0, .ref 83), (1, .int (Zi sl_)), (2, .int (Zi k)), (3, .int (Zi e))], [.int (Zi 2)])) (fun _ => rfl) ?_
        refine Z_go (f2 := (92, [(7, .int (Zi (s.2.1 99 (60 * (8 * sl_ + k) + 1)))), (6, .int (Zi (e / 256 % 256))), (5, .int (Zi (s.2.1 98 (8 * sl_ + k) + (e / 65536)))), (4, .int (Zi (s.2.1 98 (8 * sl_ + k)))), (0, .ref 83), (1, .int (Zi sl_)), (2, .int (Zi k)), (3, .int (Zi e))], [.int (Zi (e / 256 % 256)), .int (Zi 2)])) (fun _ => rfl) ?_
        refine Z_go (f2 := (94, [(7, .int (Zi (s.2.1 99 (60 * (8 * sl_ + k) + 1)))), (6, .int (Zi (e / 256 % 256))), (5, .int (Zi (s.2.1 98 (8 * sl_ + k) + (e / 65536)))), (4, .int (Zi (s.2.1 98 (8 * sl_ + k)))), (0, .ref 83), (1, .int (Zi sl_)), (2, .int (Zi k)), (3, .int (Zi e))], [.int (Zi (s.2.1 99 (60 * (8 * sl_ + k) + 1))), .int (Zi (e / 256 % 256)), .int (Zi 2)])) (fun _ => rfl) ?_
        refine Z_callQ (vs := [.int (Zi 2), .int (Zi (e / 256 % 256)), .int (Zi (s.2.1 99 (60 * (8 * sl_ + k) + 1)))]) (rest := []) rfl (by decide) rfl rfl rfl (Nat.le_of_ble_eq_true rfl) (R_endOf _ (n := 2) (a := e / 256 % 256) (b := s.2.1 99 (60 * (8 * sl_ + k) + 1)) (by exact ⟨by omega, by omega⟩) (by exact ⟨by omega, by omega⟩) (by exact ⟨by omega, by omega⟩)) (fun x q => ?_)
        have q : x = some (.int (Zi (X_end 2 (e / 256 % 256) (s.2.1 99 (60 * (8 * sl_ + k) + 1))))) := q
        obtain rfl := q
        show B_R _ _ (97, [(7, .int (Zi (s.2.1 99 (60 * (8 * sl_ + k) + 1)))), (6, .int (Zi (e / 256 % 256))), (5, .int (Zi (s.2.1 98 (8 * sl_ + k) + (e / 65536)))), (4, .int (Zi (s.2.1 98 (8 * sl_ + k)))), (0, .ref 83), (1, .int (Zi sl_)), (2, .int (Zi k)), (3, .int (Zi e))], [.int (Zi (X_end 2 (e / 256 % 256) (s.2.1 99 (60 * (8 * sl_ + k) + 1))))]) _ _ _
        refine Z_iret rfl rfl (by first | rfl | decide | exact narrow_b01 (by omega)) ⟨_, hs, ?_, rfl⟩
        first
        | (exfalso; omega)
        | (rw [if_neg (show ¬ s.2.1 98 (8 * sl_ + k) + e / 65536 < 2 by omega), if_neg (show ¬ 0 < s.2.1 98 (8 * sl_ + k) by omega), if_pos (show 1 < s.2.1 98 (8 * sl_ + k) by omega)]; exact ⟨rfl, rfl⟩)
      · refine Z_go (f2 := (86, [(7, .int (Zi (s.2.1 99 (60 * (8 * sl_ + k) + 1)))), (6, .int (Zi (e / 256 % 256))), (5, .int (Zi (s.2.1 98 (8 * sl_ + k) + (e / 65536)))), (4, .int (Zi (s.2.1 98 (8 * sl_ + k)))), (0, .ref 83), (1, .int (Zi sl_)), (2, .int (Zi k)), (3, .int (Zi e))], [.int (Zi (s.2.1 98 (8 * sl_ + k) + (e / 65536)))])) (fun _ => rfl) ?_
        refine Z_go (f2 := (90, [(7, .int (Zi (s.2.1 99 (60 * (8 * sl_ + k) + 1)))), (6, .int (Zi (e / 256 % 256))), (5, .int (Zi (s.2.1 98 (8 * sl_ + k) + (e / 65536)))), (4, .int (Zi (s.2.1 98 (8 * sl_ + k)))), (0, .ref 83), (1, .int (Zi sl_)), (2, .int (Zi k)), (3, .int (Zi e))], [.int (Zi (s.2.1 98 (8 * sl_ + k) + (e / 65536)))])) (fun _ => rfl) ?_
        refine Z_go (f2 := (92, [(7, .int (Zi (s.2.1 99 (60 * (8 * sl_ + k) + 1)))), (6, .int (Zi (e / 256 % 256))), (5, .int (Zi (s.2.1 98 (8 * sl_ + k) + (e / 65536)))), (4, .int (Zi (s.2.1 98 (8 * sl_ + k)))), (0, .ref 83), (1, .int (Zi sl_)), (2, .int (Zi k)), (3, .int (Zi e))], [.int (Zi (e / 256 % 256)), .int (Zi (s.2.1 98 (8 * sl_ + k) + (e / 65536)))])) (fun _ => rfl) ?_
        refine Z_go (f2 := (94, [(7, .int (Zi (s.2.1 99 (60 * (8 * sl_ + k) + 1)))), (6, .int (Zi (e / 256 % 256))), (5, .int (Zi (s.2.1 98 (8 * sl_ + k) + (e / 65536)))), (4, .int (Zi (s.2.1 98 (8 * sl_ + k)))), (0, .ref 83), (1, .int (Zi sl_)), (2, .int (Zi k)), (3, .int (Zi e))], [.int (Zi (s.2.1 99 (60 * (8 * sl_ + k) + 1))), .int (Zi (e / 256 % 256)), .int (Zi (s.2.1 98 (8 * sl_ + k) + (e / 65536)))])) (fun _ => rfl) ?_
        refine Z_callQ (vs := [.int (Zi (s.2.1 98 (8 * sl_ + k) + (e / 65536))), .int (Zi (e / 256 % 256)), .int (Zi (s.2.1 99 (60 * (8 * sl_ + k) + 1)))]) (rest := []) rfl (by decide) rfl rfl rfl (Nat.le_of_ble_eq_true rfl) (R_endOf _ (n := s.2.1 98 (8 * sl_ + k) + (e / 65536)) (a := e / 256 % 256) (b := s.2.1 99 (60 * (8 * sl_ + k) + 1)) (by exact ⟨by omega, by omega⟩) (by exact ⟨by omega, by omega⟩) (by exact ⟨by omega, by omega⟩)) (fun x q => ?_)
        have q : x = some (.int (Zi (X_end (s.2.1 98 (8 * sl_ + k) + (e / 65536)) (e / 256 % 256) (s.2.1 99 (60 * (8 * sl_ + k) + 1))))) := q
        obtain rfl := q
        show B_R _ _ (97, [(7, .int (Zi (s.2.1 99 (60 * (8 * sl_ + k) + 1)))), (6, .int (Zi (e / 256 % 256))), (5, .int (Zi (s.2.1 98 (8 * sl_ + k) + (e / 65536)))), (4, .int (Zi (s.2.1 98 (8 * sl_ + k)))), (0, .ref 83), (1, .int (Zi sl_)), (2, .int (Zi k)), (3, .int (Zi e))], [.int (Zi (X_end (s.2.1 98 (8 * sl_ + k) + (e / 65536)) (e / 256 % 256) (s.2.1 99 (60 * (8 * sl_ + k) + 1))))]) _ _ _
        refine Z_iret rfl rfl (by first | rfl | decide | exact narrow_b01 (by omega)) ⟨_, hs, ?_, rfl⟩
        first
        | (exfalso; omega)
        | (rw [if_pos (show s.2.1 98 (8 * sl_ + k) + e / 65536 < 2 by omega), if_neg (show ¬ 0 < s.2.1 98 (8 * sl_ + k) by omega), if_pos (show 1 < s.2.1 98 (8 * sl_ + k) by omega)]; exact ⟨rfl, rfl⟩)
  · refine Z_go (f2 := (28, [(5, .int (Zi (s.2.1 98 (8 * sl_ + k) + (e / 65536)))), (4, .int (Zi (s.2.1 98 (8 * sl_ + k)))), (0, .ref 83), (1, .int (Zi sl_)), (2, .int (Zi k)), (3, .int (Zi e))], [.ref 83])) (fun _ => rfl) ?_
    refine Z_go (f2 := (29, [(5, .int (Zi (s.2.1 98 (8 * sl_ + k) + (e / 65536)))), (4, .int (Zi (s.2.1 98 (8 * sl_ + k)))), (0, .ref 83), (1, .int (Zi sl_)), (2, .int (Zi k)), (3, .int (Zi e))], [.int (Zi sl_), .ref 83])) (fun _ => rfl) ?_
    refine Z_go (f2 := (30, [(5, .int (Zi (s.2.1 98 (8 * sl_ + k) + (e / 65536)))), (4, .int (Zi (s.2.1 98 (8 * sl_ + k)))), (0, .ref 83), (1, .int (Zi sl_)), (2, .int (Zi k)), (3, .int (Zi e))], [.int (Zi k), .int (Zi sl_), .ref 83])) (fun _ => rfl) ?_
    refine Z_go (f2 := (31, [(5, .int (Zi (s.2.1 98 (8 * sl_ + k) + (e / 65536)))), (4, .int (Zi (s.2.1 98 (8 * sl_ + k)))), (0, .ref 83), (1, .int (Zi sl_)), (2, .int (Zi k)), (3, .int (Zi e))], [.int (Zi 0), .int (Zi k), .int (Zi sl_), .ref 83])) (fun _ => rfl) ?_
    refine R_call (As := [.int (Zi sl_), .int (Zi k), .int (Zi 0)]) (rest := []) rfl (by decide) rfl rfl rfl rfl (by decide +kernel) (Nat.le_of_ble_eq_true rfl) hs (R_textByte _ s (by first | assumption | exact hs.zA _ _ | exact ⟨by omega, by omega⟩) (by first | assumption | exact hs.zA _ _ | exact ⟨by omega, by omega⟩) (by first | assumption | exact hs.zA _ _ | exact ⟨by omega, by omega⟩) (by omega) (by omega)) (fun x h s2 hs q => ?_)
    obtain ⟨q0, v, rfl, q2⟩ := q
    rw [q0] at hs
    rw [q2]
    show B_R _ _ (34, [(5, .int (Zi (s.2.1 98 (8 * sl_ + k) + (e / 65536)))), (4, .int (Zi (s.2.1 98 (8 * sl_ + k)))), (0, .ref 83), (1, .int (Zi sl_)), (2, .int (Zi k)), (3, .int (Zi e))], [.int (Zi (s.2.1 99 (60 * (8 * sl_ + k) + 0)))]) _ _ _
    refine Z_go (f2 := (41, [(5, .int (Zi (s.2.1 98 (8 * sl_ + k) + (e / 65536)))), (4, .int (Zi (s.2.1 98 (8 * sl_ + k)))), (0, .ref 83), (1, .int (Zi sl_)), (2, .int (Zi k)), (3, .int (Zi e))], [.int (Zi (s.2.1 99 (60 * (8 * sl_ + k) + 0)))])) (fun _ => rfl) ?_
    refine Z_go (f2 := (43, [(6, .int (Zi (s.2.1 99 (60 * (8 * sl_ + k) + 0)))), (5, .int (Zi (s.2.1 98 (8 * sl_ + k) + (e / 65536)))), (4, .int (Zi (s.2.1 98 (8 * sl_ + k)))), (0, .ref 83), (1, .int (Zi sl_)), (2, .int (Zi k)), (3, .int (Zi e))], [])) (fun _ => rfl) ?_
    refine Z_go (f2 := (45, [(6, .int (Zi (s.2.1 99 (60 * (8 * sl_ + k) + 0)))), (5, .int (Zi (s.2.1 98 (8 * sl_ + k) + (e / 65536)))), (4, .int (Zi (s.2.1 98 (8 * sl_ + k)))), (0, .ref 83), (1, .int (Zi sl_)), (2, .int (Zi k)), (3, .int (Zi e))], [.int (Zi (s.2.1 98 (8 * sl_ + k)))])) (fun _ => rfl) ?_
    refine Z_go (f2 := (46, [(6, .int (Zi (s.2.1 99 (60 * (8 * sl_ + k) + 0)))), (5, .int (Zi (s.2.1 98 (8 * sl_ + k) + (e / 65536)))), (4, .int (Zi (s.2.1 98 (8 * sl_ + k)))), (0, .ref 83), (1, .int (Zi sl_)), (2, .int (Zi k)), (3, .int (Zi e))], [.int (Zi 1), .int (Zi (s.2.1 98 (8 * sl_ + k)))])) (fun _ => rfl) ?_
    refine Z_cle rfl rfl (by first | exact hs.zF _ | exact Zor_r _ _ | exact hs.zA _ _ | assumption | exact zA _ _ | exact zS _ | exact Zr_not (hs.zA _ _) | exact ⟨by omega, by omega⟩) (by first | exact hs.zF _ | exact Zor_r _ _ | exact hs.zA _ _ | assumption | exact zA _ _ | exact zS _ | exact Zr_not (hs.zA _ _) | exact ⟨by omega, by omega⟩) (fun c7 => ?_) (fun c7 => ?_)
    · refine Z_go (f2 := (61, [(6, .int (Zi (s.2.1 99 (60 * (8 * sl_ + k) + 0)))), (5, .int (Zi (s.2.1 98 (8 * sl_ + k) + (e / 65536)))), (4, .int (Zi (s.2.1 98 (8 * sl_ + k)))), (0, .ref 83), (1, .int (Zi sl_)), (2, .int (Zi k)), (3, .int (Zi e))], [.int (Zi (s.2.1 98 (8 * sl_ + k)))])) (fun _ => rfl) ?_
      refine Z_go (f2 := (62, [(6, .int (Zi (s.2.1 99 (60 * (8 * sl_ + k) + 0)))), (5, .int (Zi (s.2.1 98 (8 * sl_ + k) + (e / 65536)))), (4, .int (Zi (s.2.1 98 (8 * sl_ + k)))), (0, .ref 83), (1, .int (Zi sl_)), (2, .int (Zi k)), (3, .int (Zi e))], [.int (Zi 1), .int (Zi (s.2.1 98 (8 * sl_ + k)))])) (fun _ => rfl) ?_
      refine Z_cne rfl rfl (by first | exact hs.zF _ | exact Zor_r _ _ | exact hs.zA _ _ | assumption | exact zA _ _ | exact zS _ | exact Zr_not (hs.zA _ _) | exact ⟨by omega, by omega⟩) (by first | exact hs.zF _ | exact Zor_r _ _ | exact hs.zA _ _ | assumption | exact zA _ _ | exact zS _ | exact Zr_not (hs.zA _ _) | exact ⟨by omega, by omega⟩) (fun c8 => ?_) (fun c8 => ?_)
      · refine Z_go (f2 := (73, [(6, .int (Zi (s.2.1 99 (60 * (8 * sl_ + k) + 0)))), (5, .int (Zi (s.2.1 98 (8 * sl_ + k) + (e / 65536)))), (4, .int (Zi (s.2.1 98 (8 * sl_ + k)))), (0, .ref 83), (1, .int (Zi sl_)), (2, .int (Zi k)), (3, .int (Zi e))], [.int (Zi e)])) (fun _ => rfl) ?_
        refine Z_callQ (vs := [.int (Zi e)]) (rest := []) rfl (by decide) rfl rfl rfl (Nat.le_of_ble_eq_true rfl) (R_secondOf _ (by first | assumption | exact hs.zA _ _ | exact ⟨by omega, by omega⟩) (by omega) (by omega)) (fun x q => ?_)
        obtain rfl := q
        show B_R _ _ (76, [(6, .int (Zi (s.2.1 99 (60 * (8 * sl_ + k) + 0)))), (5, .int (Zi (s.2.1 98 (8 * sl_ + k) + (e / 65536)))), (4, .int (Zi (s.2.1 98 (8 * sl_ + k)))), (0, .ref 83), (1, .int (Zi sl_)), (2, .int (Zi k)), (3, .int (Zi e))], [.int (Zi (e % 256))]) _ _ _
        refine Z_go (f2 := (78, [(7, .int (Zi (e % 256))), (6, .int (Zi (s.2.1 99 (60 * (8 * sl_ + k) + 0)))), (5, .int (Zi (s.2.1 98 (8 * sl_ + k) + (e / 65536)))), (4, .int (Zi (s.2.1 98 (8 * sl_ + k)))), (0, .ref 83), (1, .int (Zi sl_)), (2, .int (Zi k)), (3, .int (Zi e))], [])) (fun _ => rfl) ?_
        refine Z_go (f2 := (80, [(7, .int (Zi (e % 256))), (6, .int (Zi (s.2.1 99 (60 * (8 * sl_ + k) + 0)))), (5, .int (Zi (s.2.1 98 (8 * sl_ + k) + (e / 65536)))), (4, .int (Zi (s.2.1 98 (8 * sl_ + k)))), (0, .ref 83), (1, .int (Zi sl_)), (2, .int (Zi k)), (3, .int (Zi e))], [.int (Zi (s.2.1 98 (8 * sl_ + k) + (e / 65536)))])) (fun _ => rfl) ?_
        refine Z_go (f2 := (81, [(7, .int (Zi (e % 256))), (6, .int (Zi (s.2.1 99 (60 * (8 * sl_ + k) + 0)))), (5, .int (Zi (s.2.1 98 (8 * sl_ + k) + (e / 65536)))), (4, .int (Zi (s.2.1 98 (8 * sl_ + k)))), (0, .ref 83), (1, .int (Zi sl_)), (2, .int (Zi k)), (3, .int (Zi e))], [.int (Zi 2), .int (Zi (s.2.1 98 (8 * sl_ + k) + (e / 65536)))])) (fun _ => rfl) ?_
        refine Z_cge rfl rfl (by first | exact hs.zF _ | exact Zor_r _ _ | exact hs.zA _ _ | assumption | exact zA _ _ | exact zS _ | exact Zr_not (hs.zA _ _) | exact ⟨by omega, by omega⟩) (by first | exact hs.zF _ | exact Zor_r _ _ | exact hs.zA _ _ | assumption | exact zA _ _ | exact zS _ | exact Zr_not (hs.zA _ _) | exact ⟨by omega, by omega⟩) (fun c9 => ?_) (fun c9 => ?_)
        · refine Z_go (f2 := (90, [(7, .int (Zi (e % 256))), (6, .int (Zi (s.2.1 99 (60 * (8 * sl_ + k) + 0)))), (5, .int (Zi (s.2.1 98 (8 * sl_ + k) + (e / 65536)))), (4, .int (Zi (s.2.1 98 (8 * sl_ + k)))), (0, .ref 83), (1, .int (Zi sl_)), (2, .int (Zi k)), (3, .int (Zi e))], [.int (Zi 2)])) (fun _ => rfl) ?_
          refine Z_go (f2 := (92, [(7, .int (Zi (e % 256))), (6, .int (Zi (s.2.1 99 (60 * (8 * sl_ + k) + 0)))), (5, .int (Zi (s.2.1 98 (8 * sl_ + k) + (e / 65536)))), (4, .int (Zi (s.2.1 98 (8 * sl_ + k)))), (0, .ref 83), (1, .int (Zi sl_)), (2, .int (Zi k)), (3, .int (Zi e))], [.int (Zi (s.2.1 99 (60 * (8 * sl_ + k) + 0))), .int (Zi 2)])) (fun _ => rfl) ?_
          refine Z_go (f2 := (94, [(7, .int (Zi (e % 256))), (6, .int (Zi (s.2.1 99 (60 * (8 * sl_ + k) + 0)))), (5, .int (Zi (s.2.1 98 (8 * sl_ + k) + (e / 65536)))), (4, .int (Zi (s.2.1 98 (8 * sl_ + k)))), (0, .ref 83), (1, .int (Zi sl_)), (2, .int (Zi k)), (3, .int (Zi e))], [.int (Zi (e % 256)), .int (Zi (s.2.1 99 (60 * (8 * sl_ + k) + 0))), .int (Zi 2)])) (fun _ => rfl) ?_
          refine Z_callQ (vs := [.int (Zi 2), .int (Zi (s.2.1 99 (60 * (8 * sl_ + k) + 0))), .int (Zi (e % 256))]) (rest := []) rfl (by decide) rfl rfl rfl (Nat.le_of_ble_eq_true rfl) (R_endOf _ (n := 2) (a := s.2.1 99 (60 * (8 * sl_ + k) + 0)) (b := e % 256) (by exact ⟨by omega, by omega⟩) (by exact ⟨by omega, by omega⟩) (by exact ⟨by omega, by omega⟩)) (fun x q => ?_)
          have q : x = some (.int (Zi (X_end 2 (s.2.1 99 (60 * (8 * sl_ + k) + 0)) (e % 256)))) := q
          obtain rfl := q
          show B_R _ _ (97, [(7, .int (Zi (e % 256))), (6, .int (Zi (s.2.1 99 (60 * (8 * sl_ + k) + 0)))), (5, .int (Zi (s.2.1 98 (8 * sl_ + k) + (e / 65536)))), (4, .int (Zi (s.2.1 98 (8 * sl_ + k)))), (0, .ref 83), (1, .int (Zi sl_)), (2, .int (Zi k)), (3, .int (Zi e))], [.int (Zi (X_end 2 (s.2.1 99 (60 * (8 * sl_ + k) + 0)) (e % 256)))]) _ _ _
          refine Z_iret rfl rfl (by first | rfl | decide | exact narrow_b01 (by omega)) ⟨_, hs, ?_, rfl⟩
          first
          | (exfalso; omega)
          | (rw [if_neg (show ¬ s.2.1 98 (8 * sl_ + k) + e / 65536 < 2 by omega), if_pos (show 0 < s.2.1 98 (8 * sl_ + k) by omega), if_neg (show ¬ 1 < s.2.1 98 (8 * sl_ + k) by omega), if_neg (show ¬ s.2.1 98 (8 * sl_ + k) = 1 by omega)]; exact ⟨rfl, rfl⟩)
        · refine Z_go (f2 := (86, [(7, .int (Zi (e % 256))), (6, .int (Zi (s.2.1 99 (60 * (8 * sl_ + k) + 0)))), (5, .int (Zi (s.2.1 98 (8 * sl_ + k) + (e / 65536)))), (4, .int (Zi (s.2.1 98 (8 * sl_ + k)))), (0, .ref 83), (1, .int (Zi sl_)), (2, .int (Zi k)), (3, .int (Zi e))], [.int (Zi (s.2.1 98 (8 * sl_ + k) + (e / 65536)))])) (fun _ => rfl) ?_
          refine Z_go (f2 := (90, [(7, .int (Zi (e % 256))), (6, .int (Zi (s.2.1 99 (60 * (8 * sl_ + k) + 0)))), (5, .int (Zi (s.2.1 98 (8 * sl_ + k) + (e / 65536)))), (4, .int (Zi (s.2.1 98 (8 * sl_ + k)))), (0, .ref 83), (1, .int (Zi sl_)), (2, .int (Zi k)), (3, .int (Zi e))], [.int (Zi (s.2.1 98 (8 * sl_ + k) + (e / 65536)))])) (fun _ => rfl) ?_
          refine Z_go (f2 := (92, [(7, .int (Zi (e % 256))), (6, .int (Zi (s.2.1 99 (60 * (8 * sl_ + k) + 0)))), (5, .int (Zi (s.2.1 98 (8 * sl_ + k) + (e / 65536)))), (4, .int (Zi (s.2.1 98 (8 * sl_ + k)))), (0, .ref 83), (1, .int (Zi sl_)), (2, .int (Zi k)), (3, .int (Zi e))], [.int (Zi (s.2.1 99 (60 * (8 * sl_ + k) + 0))), .int (Zi (s.2.1 98 (8 * sl_ + k) + (e / 65536)))])) (fun _ => rfl) ?_
          refine Z_go (f2 := (94, [(7, .int (Zi (e % 256))), (6, .int (Zi (s.2.1 99 (60 * (8 * sl_ + k) + 0)))), (5, .int (Zi (s.2.1 98 (8 * sl_ + k) + (e / 65536)))), (4, .int (Zi (s.2.1 98 (8 * sl_ + k)))), (0, .ref 83), (1, .int (Zi sl_)), (2, .int (Zi k)), (3, .int (Zi e))], [.int (Zi (e % 256)), .int (Zi (s.2.1 99 (60 * (8 * sl_ + k) + 0))), .int (Zi (s.2.1 98 (8 * sl_ + k) + (e / 65536)))])) (fun _ => rfl) ?_
          refine Z_callQ (vs := [.int (Zi (s.2.1 98 (8 * sl_ + k) + (e / 65536))), .int (Zi (s.2.1 99 (60 * (8 * sl_ + k) + 0))), .int (Zi (e % 256))]) (rest := []) rfl (by decide) rfl rfl rfl (Nat.le_of_ble_eq_true rfl) (R_endOf _ (n := s.2.1 98 (8 * sl_ + k) + (e / 65536)) (a := s.2.1 99 (60 * (8 * sl_ + k) + 0)) (b := e % 256) (by exact ⟨by omega, by omega⟩) (by exact ⟨by omega, by omega⟩) (by exact ⟨by omega, by omega⟩)) (fun x q => ?_)
          have q : x = some (.int (Zi (X_end (s.2.1 98 (8 * sl_ + k) + (e / 65536)) (s.2.1 99 (60 * (8 * sl_ + k) + 0)) (e % 256)))) := q
          obtain rfl := q
          show B_R _ _ (97, [(7, .int (Zi (e % 256))), (6, .int (Zi (s.2.1 99 (60 * (8 * sl_ + k) + 0)))), (5, .int (Zi (s.2.1 98 (8 * sl_ + k) + (e / 65536)))), (4, .int (Zi (s.2.1 98 (8 * sl_ + k)))), (0, .ref 83), (1, .int (Zi sl_)), (2, .int (Zi k)), (3, .int (Zi e))], [.int (Zi (X_end (s.2.1 98 (8 * sl_ + k) + (e / 65536)) (s.2.1 99 (60 * (8 * sl_ + k) + 0)) (e % 256)))]) _ _ _
          refine Z_iret rfl rfl (by first | rfl | decide | exact narrow_b01 (by omega)) ⟨_, hs, ?_, rfl⟩
          first
          | (exfalso; omega)
          | (rw [if_pos (show s.2.1 98 (8 * sl_ + k) + e / 65536 < 2 by omega), if_pos (show 0 < s.2.1 98 (8 * sl_ + k) by omega), if_neg (show ¬ 1 < s.2.1 98 (8 * sl_ + k) by omega), if_neg (show ¬ s.2.1 98 (8 * sl_ + k) = 1 by omega)]; exact ⟨rfl, rfl⟩)
      · refine Z_go (f2 := (66, [(6, .int (Zi (s.2.1 99 (60 * (8 * sl_ + k) + 0)))), (5, .int (Zi (s.2.1 98 (8 * sl_ + k) + (e / 65536)))), (4, .int (Zi (s.2.1 98 (8 * sl_ + k)))), (0, .ref 83), (1, .int (Zi sl_)), (2, .int (Zi k)), (3, .int (Zi e))], [.int (Zi e)])) (fun _ => rfl) ?_
        refine Z_callQ (vs := [.int (Zi e)]) (rest := []) rfl (by decide) rfl rfl rfl (Nat.le_of_ble_eq_true rfl) (R_firstOf _ (by first | assumption | exact hs.zA _ _ | exact ⟨by omega, by omega⟩) (by omega) (by omega)) (fun x q => ?_)
        obtain rfl := q
        show B_R _ _ (69, [(6, .int (Zi (s.2.1 99 (60 * (8 * sl_ + k) + 0)))), (5, .int (Zi (s.2.1 98 (8 * sl_ + k) + (e / 65536)))), (4, .int (Zi (s.2.1 98 (8 * sl_ + k)))), (0, .ref 83), (1, .int (Zi sl_)), (2, .int (Zi k)), (3, .int (Zi e))], [.int (Zi (e / 256 % 256))]) _ _ _
        refine Z_go (f2 := (76, [(6, .int (Zi (s.2.1 99 (60 * (8 * sl_ + k) + 0)))), (5, .int (Zi (s.2.1 98 (8 * sl_ + k) + (e / 65536)))), (4, .int (Zi (s.2.1 98 (8 * sl_ + k)))), (0, .ref 83), (1, .int (Zi sl_)), (2, .int (Zi k)), (3, .int (Zi e))], [.int (Zi (e / 256 % 256))])) (fun _ => rfl) ?_
        refine Z_go (f2 := (78, [(7, .int (Zi (e / 256 % 256))), (6, .int (Zi (s.2.1 99 (60 * (8 * sl_ + k) + 0)))), (5, .int (Zi (s.2.1 98 (8 * sl_ + k) + (e / 65536)))), (4, .int (Zi (s.2.1 98 (8 * sl_ + k)))), (0, .ref 83), (1, .int (Zi sl_)), (2, .int (Zi k)), (3, .int (Zi e))], [])) (fun _ => rfl) ?_
        refine Z_go (f2 := (80, [(7, .int (Zi (e / 256 % 256))), (6, .int (Zi (s.2.1 99 (60 * (8 * sl_ + k) + 0)))), (5, .int (Zi (s.2.1 98 (8 * sl_ + k) + (e / 65536)))), (4, .int (Zi (s.2.1 98 (8 * sl_ + k)))), (0, .ref 83), (1, .int (Zi sl_)), (2, .int (Zi k)), (3, .int (Zi e))], [.int (Zi (s.2.1 98 (8 * sl_ + k) + (e / 65536)))])) (fun _ => rfl) ?_
        refine Z_go (f2 := (81, [(7, .int (Zi (e / 256 % 256))), (6, .int (Zi (s.2.1 99 (60 * (8 * sl_ + k) + 0)))), (5, .int (Zi (s.2.1 98 (8 * sl_ + k) + (e / 65536)))), (4, .int (Zi (s.2.1 98 (8 * sl_ + k)))), (0, .ref 83), (1, .int (Zi sl_)), (2, .int (Zi k)), (3, .int (Zi e))], [.int (Zi 2), .int (Zi (s.2.1 98 (8 * sl_ + k) + (e / 65536)))])) (fun _ => rfl) ?_
        refine Z_cge rfl rfl (by first | exact hs.zF _ | exact Zor_r _ _ | exact hs.zA _ _ | assumption | exact zA _ _ | exact zS _ | exact Zr_not (hs.zA _ _) | exact ⟨by omega, by omega⟩) (by first | exact hs.zF _ | exact Zor_r _ _ | exact hs.zA _ _ | assumption | exact zA _ _ | exact zS _ | exact Zr_not (hs.zA _ _) | exact ⟨by omega, by omega⟩) (fun c10 => ?_) (fun c10 => ?_)
        · refine Z_go (f2 := (90, [(7, .int (Zi (e / 256 % 256))), (6, .int (Zi (s.2.1 99 (60 * (8 * sl_ + k) + 0)))), (5, .int (Zi (s.2.1 98 (8 * sl_ + k) + (e / 65536)))), (4, .int (Zi (s.2.1 98 (8 * sl_ + k)))), (0, .ref 83), (1, .int (Zi sl_)), (2, .int (Zi k)), (3, .int (Zi e))], [.int (Zi 2)])) (fun _ => rfl) ?_
          refine Z_go (f2 := (92, [(7, .int (Zi (e / 256 % 256))), (6, .int (Zi (s.2.1 99 (60 * (8 * sl_ + k) + 0)))), (5, .int (Zi (s.2.1 98 (8 * sl_ + k) + (e / 65536)))), (4, .int (Zi (s.2.1 98 (8 * sl_ + k)))), (0, .ref 83), (1, .int (Zi sl_)), (2, .int (Zi k)), (3, .int (Zi e))], [.int (Zi (s.2.1 99 (60 * (8 * sl_ + k) + 0))), .int (Zi 2)])) (fun _ => rfl) ?_
          refine Z_go (f2 := (94, [(7, .int (Zi (e / 256 % 256))), (6, .int (Zi (s.2.1 99 (60 * (8 * sl_ + k) + 0)))), (5, .int (Zi (s.2.1 98 (8 * sl_ + k) + (e / 65536)))), (4, .int (Zi (s.2.1 98 (8 * sl_ + k)))), (0, .ref 83), (1, .int (Zi sl_)), (2, .int (Zi k)), (3, .int (Zi e))], [.int (Zi (e / 256 % 256)), .int (Zi (s.2.1 99 (60 * (8 * sl_ + k) + 0))), .int (Zi 2)])) (fun _ => rfl) ?_
          refine Z_callQ (vs := [.int (Zi 2), .int (Zi (s.2.1 99 (60 * (8 * sl_ + k) + 0))), .int (Zi (e / 256 % 256))]) (rest := []) rfl (by decide) rfl rfl rfl (Nat.le_of_ble_eq_true rfl) (R_endOf _ (n := 2) (a := s.2.1 99 (60 * (8 * sl_ + k) + 0)) (b := e / 256 % 256) (by exact ⟨by omega, by omega⟩) (by exact ⟨by omega, by omega⟩) (by exact ⟨by omega, by omega⟩)) (fun x q => ?_)
          have q : x = some (.int (Zi (X_end 2 (s.2.1 99 (60 * (8 * sl_ + k) + 0)) (e / 256 % 256)))) := q
          obtain rfl := q
          show B_R _ _ (97, [(7, .int (Zi (e / 256 % 256))), (6, .int (Zi (s.2.1 99 (60 * (8 * sl_ + k) + 0)))), (5, .int (Zi (s.2.1 98 (8 * sl_ + k) + (e / 65536)))), (4, .int (Zi (s.2.1 98 (8 * sl_ + k)))), (0, .ref 83), (1, .int (Zi sl_)), (2, .int (Zi k)), (3, .int (Zi e))], [.int (Zi (X_end 2 (s.2.1 99 (60 * (8 * sl_ + k) + 0)) (e / 256 % 256)))]) _ _ _
          refine Z_iret rfl rfl (by first | rfl | decide | exact narrow_b01 (by omega)) ⟨_, hs, ?_, rfl⟩
          first
          | (exfalso; omega)
          | (rw [if_neg (show ¬ s.2.1 98 (8 * sl_ + k) + e / 65536 < 2 by omega), if_pos (show 0 < s.2.1 98 (8 * sl_ + k) by omega), if_neg (show ¬ 1 < s.2.1 98 (8 * sl_ + k) by omega), if_pos (show s.2.1 98 (8 * sl_ + k) = 1 by omega)]; exact ⟨rfl, rfl⟩)
        · refine Z_go (f2 := (86, [(7, .int (Zi (e / 256 % 256))), (6, .int (Zi (s.2.1 99 (60 * (8 * sl_ + k) + 0)))), (5, .int (Zi (s.2.1 98 (8 * sl_ + k) + (e / 65536)))), (4, .int (Zi (s.2.1 98 (8 * sl_ + k)))), (0, .ref 83), (1, .int (Zi sl_)), (2, .int (Zi k)), (3, .int (Zi e))], [.int (Zi (s.2.1 98 (8 * sl_ + k) + (e / 65536)))])) (fun _ => rfl) ?_
          refine Z_go (f2 := (90, [(7, .int (Zi (e / 256 % 256))), (6, .int (Zi (s.2.1 99 (60 * (8 * sl_ + k) + 0)))), (5, .int (Zi (s.2.1 98 (8 * sl_ + k) + (e / 65536)))), (4, .int (Zi (s.2.1 98 (8 * sl_ + k)))), (0, .ref 83), (1, .int (Zi sl_)), (2, .int (Zi k)), (3, .int (Zi e))], [.int (Zi (s.2.1 98 (8 * sl_ + k) + (e / 65536)))])) (fun _ => rfl) ?_
          refine Z_go (f2 := (92, [(7, .int (Zi (e / 256 % 256))), (6, .int (Zi (s.2.1 99 (60 * (8 * sl_ + k) + 0)))), (5, .int (Zi (s.2.1 98 (8 * sl_ + k) + (e / 65536)))), (4, .int (Zi (s.2.1 98 (8 * sl_ + k)))), (0, .ref 83), (1, .int (Zi sl_)), (2, .int (Zi k)), (3, .int (Zi e))], [.int (Zi (s.2.1 99 (60 * (8 * sl_ + k) + 0))), .int (Zi (s.2.1 98 (8 * sl_ + k) + (e / 65536)))])) (fun _ => rfl) ?_
          refine Z_go (f2 := (94, [(7, .int (Zi (e / 256 % 256))), (6, .int (Zi (s.2.1 99 (60 * (8 * sl_ + k) + 0)))), (5, .int (Zi (s.2.1 98 (8 * sl_ + k) + (e / 65536)))), (4, .int (Zi (s.2.1 98 (8 * sl_ + k)))), (0, .ref 83), (1, .int (Zi sl_)), (2, .int (Zi k)), (3, .int (Zi e))], [.int (Zi (e / 256 % 256)), .int (Zi (s.2.1 99 (60 * (8 * sl_ + k) + 0))), .int (Zi (s.2.1 98 (8 * sl_ + k) + (e / 65536)))])) (fun _ => rfl) ?_
          refine Z_callQ (vs := [.int (Zi (s.2.1 98 (8 * sl_ + k) + (e / 65536))), .int (Zi (s.2.1 99 (60 * (8 * sl_ + k) + 0))), .int (Zi (e / 256 % 256))]) (rest := []) rfl (by decide) rfl rfl rfl (Nat.le_of_ble_eq_true rfl) (R_endOf _ (n := s.2.1 98 (8 * sl_ + k) + (e / 65536)) (a := s.2.1 99 (60 * (8 * sl_ + k) + 0)) (b := e / 256 % 256) (by exact ⟨by omega, by omega⟩) (by exact ⟨by omega, by omega⟩) (by exact ⟨by omega, by omega⟩)) (fun x q => ?_)
          have q : x = some (.int (Zi (X_end (s.2.1 98 (8 * sl_ + k) + (e / 65536)) (s.2.1 99 (60 * (8 * sl_ + k) + 0)) (e / 256 % 256)))) := q
          obtain rfl := q
          show B_R _ _ (97, [(7, .int (Zi (e / 256 % 256))), (6, .int (Zi (s.2.1 99 (60 * (8 * sl_ + k) + 0)))), (5, .int (Zi (s.2.1 98 (8 * sl_ + k) + (e / 65536)))), (4, .int (Zi (s.2.1 98 (8 * sl_ + k)))), (0, .ref 83), (1, .int (Zi sl_)), (2, .int (Zi k)), (3, .int (Zi e))], [.int (Zi (X_end (s.2.1 98 (8 * sl_ + k) + (e / 65536)) (s.2.1 99 (60 * (8 * sl_ + k) + 0)) (e / 256 % 256)))]) _ _ _
          refine Z_iret rfl rfl (by first | rfl | decide | exact narrow_b01 (by omega)) ⟨_, hs, ?_, rfl⟩
          first
          | (exfalso; omega)
          | (rw [if_pos (show s.2.1 98 (8 * sl_ + k) + e / 65536 < 2 by omega), if_pos (show 0 < s.2.1 98 (8 * sl_ + k) by omega), if_neg (show ¬ 1 < s.2.1 98 (8 * sl_ + k) by omega), if_pos (show s.2.1 98 (8 * sl_ + k) = 1 by omega)]; exact ⟨rfl, rfl⟩)
    · refine Z_go (f2 := (50, [(6, .int (Zi (s.2.1 99 (60 * (8 * sl_ + k) + 0)))), (5, .int (Zi (s.2.1 98 (8 * sl_ + k) + (e / 65536)))), (4, .int (Zi (s.2.1 98 (8 * sl_ + k)))), (0, .ref 83), (1, .int (Zi sl_)), (2, .int (Zi k)), (3, .int (Zi e))], [.ref 83])) (fun _ => rfl) ?_
      refine Z_go (f2 := (51, [(6, .int (Zi (s.2.1 99 (60 * (8 * sl_ + k) + 0)))), (5, .int (Zi (s.2.1 98 (8 * sl_ + k) + (e / 65536)))), (4, .int (Zi (s.2.1 98 (8 * sl_ + k)))), (0, .ref 83), (1, .int (Zi sl_)), (2, .int (Zi k)), (3, .int (Zi e))], [.int (Zi sl_), .ref 83])) (fun _ => rfl) ?_
      refine Z_go (f2 := (52, [(6, .int (Zi (s.2.1 99 (60 * (8 * sl_ + k) + 0)))), (5, .int (Zi (s.2.1 98 (8 * sl_ + k) + (e / 65536)))), (4, .int (Zi (s.2.1 98 (8 * sl_ + k)))), (0, .ref 83), (1, .int (Zi sl_)), (2, .int (Zi k)), (3, .int (Zi e))], [.int (Zi k), .int (Zi sl_), .ref 83])) (fun _ => rfl) ?_
      refine Z_go (f2 := (53, [(6, .int (Zi (s.2.1 99 (60 * (8 * sl_ + k) + 0)))), (5, .int (Zi (s.2.1 98 (8 * sl_ + k) + (e / 65536)))), (4, .int (Zi (s.2.1 98 (8 * sl_ + k)))), (0, .ref 83), (1, .int (Zi sl_)), (2, .int (Zi k)), (3, .int (Zi e))], [.int (Zi 1), .int (Zi k), .int (Zi sl_), .ref 83])) (fun _ => rfl) ?_
      refine R_call (As := [.int (Zi sl_), .int (Zi k), .int (Zi 1)]) (rest := []) rfl (by decide) rfl rfl rfl rfl (by decide +kernel) (Nat.le_of_ble_eq_true rfl) hs (R_textByte _ s (by first | assumption | exact hs.zA _ _ | exact ⟨by omega, by omega⟩) (by first | assumption | exact hs.zA _ _ | exact ⟨by omega, by omega⟩) (by first | assumption | exact hs.zA _ _ | exact ⟨by omega, by omega⟩) (by omega) (by omega)) (fun x h s2 hs q => ?_)
      obtain ⟨q0, v, rfl, q2⟩ := q
      rw [q0] at hs
      rw [q2]
      show B_R _ _ (56, [(6, .int (Zi (s.2.1 99 (60 * (8 * sl_ + k) + 0)))), (5, .int (Zi (s.2.1 98 (8 * sl_ + k) + (e / 65536)))), (4, .int (Zi (s.2.1 98 (8 * sl_ + k)))), (0, .ref 83), (1, .int (Zi sl_)), (2, .int (Zi k)), (3, .int (Zi e))], [.int (Zi (s.2.1 99 (60 * (8 * sl_ + k) + 1)))]) _ _ _
      refine Z_go (f2 := (76, [(6, .int (Zi (s.2.1 99 (60 * (8 * sl_ + k) + 0)))), (5, .int (Zi (s.2.1 98 (8 * sl_ + k) + (e / 65536)))), (4, .int (Zi (s.2.1 98 (8 * sl_ + k)))), (0, .ref 83), (1, .int (Zi sl_)), (2, .int (Zi k)), (3, .int (Zi e))], [.int (Zi (s.2.1 99 (60 * (8 * sl_ + k) + 1)))])) (fun _ => rfl) ?_
      refine Z_go (f2 := (78, [(7, .int (Zi (s.2.1 99 (60 * (8 * sl_ + k) + 1)))), (6, .int (Zi (s.2.1 99 (60 * (8 * sl_ + k) + 0)))), (5, .int (Zi (s.2.1 98 (8 * sl_ + k) + (e / 65536)))), (4, .int (Zi (s.2.1 98 (8 * sl_ + k)))), (0, .ref 83), (1, .int (Zi sl_)), (2, .int (Zi k)), (3, .int (Zi e))], [])) (fun _ => rfl) ?_
      refine Z_go (f2 := (80, [(7, .int (Zi (s.2.1 99 (60 * (8 * sl_ + k) + 1)))), (6, .int (Zi (s.2.1 99 (60 * (8 * sl_ + k) + 0)))), (5, .int (Zi (s.2.1 98 (8 * sl_ + k) + (e / 65536)))), (4, .int (Zi (s.2.1 98 (8 * sl_ + k)))), (0, .ref 83), (1, .int (Zi sl_)), (2, .int (Zi k)), (3, .int (Zi e))], [.int (Zi (s.2.1 98 (8 * sl_ + k) + (e / 65536)))])) (fun _ => rfl) ?_
      refine Z_go (f2 := (81, [(7, .int (Zi (s.2.1 99 (60 * (8 * sl_ + k) + 1)))), (6, .int (Zi (s.2.1 99 (60 * (8 * sl_ + k) + 0)))), (5, .int (Zi (s.2.1 98 (8 * sl_ + k) + (e / 65536)))), (4, .int (Zi (s.2.1 98 (8 * sl_ + k)))), (0, .ref 83), (1, .int (Zi sl_)), (2, .int (Zi k)), (3, .int (Zi e))], [.int (Zi 2), .int (Zi (s.2.1 98 (8 * sl_ + k) + (e / 65536)))])) (fun _ => rfl) ?_
      refine Z_cge rfl rfl (by first | exact hs.zF _ | exact Zor_r _ _ | exact hs.zA _ _ | assumption | exact zA _ _ | exact zS _ | exact Zr_not (hs.zA _ _) | exact ⟨by omega, by omega⟩) (by first | exact hs.zF _ | exact Zor_r _ _ | exact hs.zA _ _ | assumption | exact zA _ _ | exact zS _ | exact Zr_not (hs.zA _ _) | exact ⟨by omega, by omega⟩) (fun c11 => ?_) (fun c11 => ?_)
      · refine Z_go (f2 := (90, [(7, .int (Zi (s.2.1 99 (60 * (8 * sl_ + k) + 1)))), (6, .int (Zi (s.2.1 99 (60 * (8 * sl_ + k) + 0)))), (5, .int (Zi (s.2.1 98 (8 * sl_ + k) + (e / 65536)))), (4, .int (Zi (s.2.1 98 (8 * sl_ + k)))), (0, .ref 83), (1, .int (Zi sl_)), (2, .int (Zi k)), (3, .int (Zi e))], [.int (Zi 2)])) (fun _ => rfl) ?_
        refine Z_go (f2 := (92, [(7, .int (Zi (s.2.1 99 (60 * (8 * sl_ + k) + 1)))), (6, .int (Zi (s.2.1 99 (60 * (8 * sl_ + k) + 0)))), (5, .int (Zi (s.2.1 98 (8 * sl_ + k) + (e / 65536)))), (4, .int (Zi (s.2.1 98 (8 * sl_ + k)))), (0, .ref 83), (1, .int (Zi sl_)), (2, .int (Zi k)), (3, .int (Zi e))], [.int (Zi (s.2.1 99 (60 * (8 * sl_ + k) + 0))), .int (Zi 2)])) (fun _ => rfl) ?_
        refine Z_go (f2 := (94, [(7, .int (Zi (s.2.1 99 (60 * (8 * sl_ + k) + 1)))), (6, .int (Zi (s.2.1 99 (60 * (8 * sl_ + k) + 0)))), (5, .int (Zi (s.2.1 98 (8 * sl_ + k) + (e / 65536)))), (4, .int (Zi (s.2.1 98 (8 * sl_ + k)))), (0, .ref 83), (1, .int (Zi sl_)), (2, .int (Zi k)), (3, .int (Zi e))], [.int (Zi (s.2.1 99 (60 * (8 * sl_ + k) + 1))), .int (Zi (s.2.1 99 (60 * (8 * sl_ + k) + 0))), .int (Zi 2)])) (fun _ => rfl) ?_
        refine Z_callQ (vs := [.int (Zi 2), .int (Zi (s.2.1 99 (60 * (8 * sl_ + k) + 0))), .int (Zi (s.2.1 99 (60 * (8 * sl_ + k) + 1)))]) (rest := []) rfl (by decide) rfl rfl rfl (Nat.le_of_ble_eq_true rfl) (R_endOf _ (n := 2) (a := s.2.1 99 (60 * (8 * sl_ + k) + 0)) (b := s.2.1 99 (60 * (8 * sl_ + k) + 1)) (by exact ⟨by omega, by omega⟩) (by exact ⟨by omega, by omega⟩) (by exact ⟨by omega, by omega⟩)) (fun x q => ?_)
        have q : x = some (.int (Zi (X_end 2 (s.2.1 99 (60 * (8 * sl_ + k) + 0)) (s.2.1 99 (60 * (8 * sl_ + k) + 1))))) := q
        obtain rfl := q
        show B_R _ _ (97, [(7, .int (Zi (s.2.1 99 (60 * (8 * sl_ + k) + 1)))), (6, .int (Zi (s.2.1 99 (60 * (8 * sl_ + k) + 0)))), (5, .int (Zi (s.2.1 98 (8 * sl_ + k) + (e / 65536)))), (4, .int (Zi (s.2.1 98 (8 * sl_ + k)))), (0, .ref 83), (1, .int (Zi sl_)), (2, .int (Zi k)), (3, .int (Zi e))], [.int (Zi (X_end 2 (s.2.1 99 (60 * (8 * sl_ + k) + 0)) (s.2.1 99 (60 * (8 * sl_ + k) + 1))))]) _ _ _
        refine Z_iret rfl rfl (by first | rfl | decide | exact narrow_b01 (by omega)) ⟨_, hs, ?_, rfl⟩
        first
        | (exfalso; omega)
        | (rw [if_neg (show ¬ s.2.1 98 (8 * sl_ + k) + e / 65536 < 2 by omega), if_pos (show 0 < s.2.1 98 (8 * sl_ + k) by omega), if_pos (show 1 < s.2.1 98 (8 * sl_ + k) by omega)]; exact ⟨rfl, rfl⟩)
      · refine Z_go (f2 := (86, [(7, .int (Zi (s.2.1 99 (60 * (8 * sl_ + k) + 1)))), (6, .int (Zi (s.2.1 99 (60 * (8 * sl_ + k) + 0)))), (5, .int (Zi (s.2.1 98 (8 * sl_ + k) + (e / 65536)))), (4, .int (Zi (s.2.1 98 (8 * sl_ + k)))), (0, .ref 83), (1, .int (Zi sl_)), (2, .int (Zi k)), (3, .int (Zi e))], [.int (Zi (s.2.1 98 (8 * sl_ + k) + (e / 65536)))])) (fun _ => rfl) ?_
        refine Z_go (f2 := (90, [(7, .int (Zi (s.2.1 99 (60 * (8 * sl_ + k) + 1)))), (6, .int (Zi (s.2.1 99 (60 * (8 * sl_ + k) + 0)))), (5, .int (Zi (s.2.1 98 (8 * sl_ + k) + (e / 65536)))), (4, .int (Zi (s.2.1 98 (8 * sl_ + k)))), (0, .ref 83), (1, .int (Zi sl_)), (2, .int (Zi k)), (3, .int (Zi e))], [.int (Zi (s.2.1 98 (8 * sl_ + k) + (e / 65536)))])) (fun _ => rfl) ?_
        refine Z_go (f2 := (92, [(7, .int (Zi (s.2.1 99 (60 * (8 * sl_ + k) + 1)))), (6, .int (Zi (s.2.1 99 (60 * (8 * sl_ + k) + 0)))), (5, .int (Zi (s.2.1 98 (8 * sl_ + k) + (e / 65536)))), (4, .int (Zi (s.2.1 98 (8 * sl_ + k)))), (0, .ref 83), (1, .int (Zi sl_)), (2, .int (Zi k)), (3, .int (Zi e))], [.int (Zi (s.2.1 99 (60 * (8 * sl_ + k) + 0))), .int (Zi (s.2.1 98 (8 * sl_ + k) + (e / 65536)))])) (fun _ => rfl) ?_
        refine Z_go (f2 := (94, [(7, .int (Zi (s.2.1 99 (60 * (8 * sl_ + k) + 1)))), (6, .int (Zi (s.2.1 99 (60 * (8 * sl_ + k) + 0)))), (5, .int (Zi (s.2.1 98 (8 * sl_ + k) + (e / 65536)))), (4, .int (Zi (s.2.1 98 (8 * sl_ + k)))), (0, .ref 83), (1, .int (Zi sl_)), (2, .int (Zi k)), (3, .int (Zi e))], [.int (Zi (s.2.1 99 (60 * (8 * sl_ + k) + 1))), .int (Zi (s.2.1 99 (60 * (8 * sl_ + k) + 0))), .int (Zi (s.2.1 98 (8 * sl_ + k) + (e / 65536)))])) (fun _ => rfl) ?_
        refine Z_callQ (vs := [.int (Zi (s.2.1 98 (8 * sl_ + k) + (e / 65536))), .int (Zi (s.2.1 99 (60 * (8 * sl_ + k) + 0))), .int (Zi (s.2.1 99 (60 * (8 * sl_ + k) + 1)))]) (rest := []) rfl (by decide) rfl rfl rfl (Nat.le_of_ble_eq_true rfl) (R_endOf _ (n := s.2.1 98 (8 * sl_ + k) + (e / 65536)) (a := s.2.1 99 (60 * (8 * sl_ + k) + 0)) (b := s.2.1 99 (60 * (8 * sl_ + k) + 1)) (by exact ⟨by omega, by omega⟩) (by exact ⟨by omega, by omega⟩) (by exact ⟨by omega, by omega⟩)) (fun x q => ?_)
        have q : x = some (.int (Zi (X_end (s.2.1 98 (8 * sl_ + k) + (e / 65536)) (s.2.1 99 (60 * (8 * sl_ + k) + 0)) (s.2.1 99 (60 * (8 * sl_ + k) + 1))))) := q
        obtain rfl := q
        show B_R _ _ (97, [(7, .int (Zi (s.2.1 99 (60 * (8 * sl_ + k) + 1)))), (6, .int (Zi (s.2.1 99 (60 * (8 * sl_ + k) + 0)))), (5, .int (Zi (s.2.1 98 (8 * sl_ + k) + (e / 65536)))), (4, .int (Zi (s.2.1 98 (8 * sl_ + k)))), (0, .ref 83), (1, .int (Zi sl_)), (2, .int (Zi k)), (3, .int (Zi e))], [.int (Zi (X_end (s.2.1 98 (8 * sl_ + k) + (e / 65536)) (s.2.1 99 (60 * (8 * sl_ + k) + 0)) (s.2.1 99 (60 * (8 * sl_ + k) + 1))))]) _ _ _
        refine Z_iret rfl rfl (by first | rfl | decide | exact narrow_b01 (by omega)) ⟨_, hs, ?_, rfl⟩
        first
        | (exfalso; omega)
        | (rw [if_pos (show s.2.1 98 (8 * sl_ + k) + e / 65536 < 2 by omega), if_pos (show 0 < s.2.1 98 (8 * sl_ + k) by omega), if_pos (show 1 < s.2.1 98 (8 * sl_ + k) by omega)]; exact ⟨rfl, rfl⟩)
