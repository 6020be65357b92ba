/-! the reference: the reading of a regex, atoms -/
theorem R_atom_lp {d : Nat} {h0 : E_H} {s : R_S} {sl : Nat} {Φ : E_R → Prop} {c : Int} (m1 : 1 ≤ s.1 15) (m2 : s.1 15 ≤ 90) (kont : ∀ (u : R_S) (h : E_H), R_is h0 h (u) → R_ss s u (s.1 15 - 1) (fun x => R_has s (s.1 15 - 1) x ∨ x < 256 ∧ x ≠ 10) → B_R (d + 1) E_m205 (125, [(2, .int (Zi 256)), (0, .ref 83), (1, .int (Zi c))], []) h sl Φ) : ∀ (t : Nat) (k : Int) (u : R_S) (h : E_H), 256 - k < t → R_is h0 h (u) → R_ss s u (s.1 15 - 1) (fun x => R_has s (s.1 15 - 1) x ∨ x < k ∧ x ≠ 10) → 0 ≤ k → k ≤ 256 → B_R (d + 1) E_m205 (101, [(2, .int (Zi k)), (0, .ref 83), (1, .int (Zi c))], []) h sl Φ := by
  intro t
  induction t with
  | zero => intro k u h ht hs hu k0 k1; omega
  | succ t ih =>
    intro k u h ht hs hu k0 k1
    have e15 : u.1 15 = s.1 15 := hu.f15 15
    refine Z_go (f2 := (102, [(2, .int (Zi k)), (0, .ref 83), (1, .int (Zi c))], [.int (Zi k)])) (fun _ => rfl) ?_
    refine Z_go (f2 := (105, [(2, .int (Zi k)), (0, .ref 83), (1, .int (Zi c))], [.int (Zi 256), .int (Zi k)])) (fun _ => rfl) ?_
    refine Z_cge rfl rfl (by first | exact hs.zF _ | exact Zor_r _ _ | exact hs.zA _ _ | assumption | exact zS _ | exact Zr_not (hs.zA _ _) | exact ⟨by omega, by omega⟩) (by first | exact hs.zF _ | exact Zor_r _ _ | exact hs.zA _ _ | assumption | exact zS _ | exact Zr_not (hs.zA _ _) | exact ⟨by omega, by omega⟩) (fun c1 => ?_) (fun c1 => ?_)
    · obtain rfl : k = 256 := by omega
      exact kont u h hs hu 
    · refine Z_go (f2 := (109, [(2, .int (Zi k)), (0, .ref 83), (1, .int (Zi c))], [.int (Zi k)])) (fun _ => rfl) ?_
      refine Z_go (f2 := (111, [(2, .int (Zi k)), (0, .ref 83), (1, .int (Zi c))], [.int (Zi 10), .int (Zi k)])) (fun _ => rfl) ?_
      refine Z_ceq rfl rfl (by first | exact hs.zF _ | exact Zor_r _ _ | exact hs.zA _ _ | assumption | exact zS _ | exact Zr_not (hs.zA _ _) | exact ⟨by omega, by omega⟩) (by first | exact hs.zF _ | exact Zor_r _ _ | exact hs.zA _ _ | assumption | exact zS _ | exact Zr_not (hs.zA _ _) | exact ⟨by omega, by omega⟩) (fun c2 => ?_) (fun c2 => ?_)
      · refine Z_iinc (L2 := [(2, .int (Zi (k + 1))), (0, .ref 83), (1, .int (Zi c))]) rfl rfl (by decide) rfl ?_
        refine Z_go (f2 := (101, [(2, .int (Zi (k + 1))), (0, .ref 83), (1, .int (Zi c))], [])) (fun _ => rfl) ?_
        refine B_loc (K := [(2, .int (Zi (k + 1))), (0, .ref 83), (1, .int (Zi c))]) (N_all_sub ⟨rfl, rfl, rfl, trivial⟩) (show ([2, 0, 1] : List Nat).Nodup by decide) ?_
        exact ih _ _ _ (by omega) hs (R_ss_skip hu (by omega)) (by omega) (by omega)
      · refine Z_go (f2 := (115, [(2, .int (Zi k)), (0, .ref 83), (1, .int (Zi c))], [.ref 83])) (fun _ => rfl) ?_
        refine Z_go (f2 := (116, [(2, .int (Zi k)), (0, .ref 83), (1, .int (Zi c))], [.int (Zi k), .ref 83])) (fun _ => rfl) ?_
        refine R_call (As := [.int (Zi k)]) (rest := []) rfl (by decide) rfl rfl rfl rfl (by decide +kernel) (Nat.le_of_ble_eq_true rfl) hs (R_put _ _ (by first | assumption | exact hs.zF _ | exact hs.zA _ _ | exact zS _ | exact ⟨by omega, by omega⟩ | omega) (by first | assumption | exact hs.zF _ | exact hs.zA _ _ | exact zS _ | exact ⟨by omega, by omega⟩ | omega) (by first | assumption | exact hs.zF _ | exact hs.zA _ _ | exact zS _ | exact ⟨by omega, by omega⟩ | omega) (by first | assumption | exact hs.zF _ | exact hs.zA _ _ | exact zS _ | exact ⟨by omega, by omega⟩ | omega) (by first | assumption | exact hs.zF _ | exact hs.zA _ _ | exact zS _ | exact ⟨by omega, by omega⟩ | omega)) (fun x h w hs q => ?_)
        obtain ⟨rfl, q1⟩ := q
        rw [e15] at q1
        show B_R _ _ (119, [(2, .int (Zi k)), (0, .ref 83), (1, .int (Zi c))], []) _ _ _
        refine Z_iinc (L2 := [(2, .int (Zi (k + 1))), (0, .ref 83), (1, .int (Zi c))]) rfl rfl (by decide) rfl ?_
        refine Z_go (f2 := (101, [(2, .int (Zi (k + 1))), (0, .ref 83), (1, .int (Zi c))], [])) (fun _ => rfl) ?_
        refine B_loc (K := [(2, .int (Zi (k + 1))), (0, .ref 83), (1, .int (Zi c))]) (N_all_sub ⟨rfl, rfl, rfl, trivial⟩) (show ([2, 0, 1] : List Nat).Nodup by decide) ?_
        exact ih _ _ _ (by omega) hs (R_ss_add hu (by omega) q1) (by omega) (by omega)
theorem R_atom (d : Nat) (s : R_S) (a f p : Int) {c : Int}  (zc : Zr c) (a0 : 0 ≤ a) (a1 : a ≤ s.1 1) (t1 : s.1 1 ≤ 80) (tb : ∀ j, 0 ≤ s.2.1 84 j ∧ s.2.1 84 j < 256) (m0 : 0 ≤ s.1 15) (m1 : s.1 15 < 90) (p0 : 0 ≤ s.1 13) (p1 : s.1 13 < 400) (hc : c = D_see s a) (hc1 : c ≠ -1) : R_ok (d + 6) 205 [.int (Zi c)] (R_p3 s a f p) (fun x s2 => x = some (.int (Zi (D_atom (D_see s) (s.1 17 ≠ 0) a f p).1)) ∧ ∃ w2, s2 = R_p3 w2 (D_atom (D_see s) (s.1 17 ≠ 0) a f p).2.1 (D_atom (D_see s) (s.1 17 ≠ 0) a f p).2.2.1 (D_atom (D_see s) (s.1 17 ≠ 0) a f p).2.2.2.1 ∧ ((D_atom (D_see s) (s.1 17 ≠ 0) a f p).1 = 0 ∧ (∃ Hs, Hs.length ≤ 1 ∧ R_ap s w2 [] Hs) ∨ (D_atom (D_see s) (s.1 17 ≠ 0) a f p).1 = 1 ∧ R_atp s w2 (D_atom (D_see s) (s.1 17 ≠ 0) a f p).2.2.2.2)) := by
  refine R_enter (M := E_m205) rfl (Nat.le_of_ble_eq_true rfl) (fun h0 h hs => ?_)
  show B_R (d + 5) _ (0, [(0, .ref 83), (1, .int (Zi c))], []) _ _ _
  have zb : ∀ k, -1 ≤ D_see s k ∧ D_see s k < 256 := fun k => by have := tb k; unfold D_see; split <;> omega
  have zb0 := zb a
  have zb1 := zb (a + 1)
  have zS : ∀ k, Zr (D_see s k) := fun k => by unfold D_see; split; exact hs.zA 84 k; exact ⟨by omega, by omega⟩
  have sn : ∀ k, s.1 1 ≤ k → D_see s k = -1 := fun k hk => by unfold D_see; rw [if_neg (by omega)]
  have sn0 := sn a
  have sn1 := sn (a + 1)
  have en15 : (R_nw s).1 15 = s.1 15 + 1 := R_sF_s _ _ _
  have en13 : (R_nw s).1 13 = s.1 13 := R_sF_n _ _ (by decide)
  have en17 : (R_nw s).1 17 = s.1 17 := R_sF_n _ _ (by decide)
  have hnw : ∀ y, 0 ≤ y → y < 256 → (R_has (R_nw s) ((R_nw s).1 15 - 1) y ↔ False) := fun y y0 y1 => by have := R_ap_nw.h (s := s) 0 (by decide) y y0 y1; rw [en15]; simpa using this
  refine Z_go (f2 := (1, [(0, .ref 83), (1, .int (Zi c))], [.ref 83])) (fun _ => rfl) ?_
  refine Z_go (f2 := (2, [(0, .ref 83), (1, .int (Zi c))], [.ref 83, .ref 83])) (fun _ => rfl) ?_
  refine R_gi rfl hs rfl ?_
  show B_R _ _ (5, [(0, .ref 83), (1, .int (Zi c))], [.int (Zi a), .ref 83]) _ _ _
  refine Z_go (f2 := (6, [(0, .ref 83), (1, .int (Zi c))], [.int (Zi 1), .int (Zi a), .ref 83])) (fun _ => rfl) ?_
  refine Z_iadd rfl ?_
  refine R_pf rfl hs rfl (by first | exact hs.zF _ | exact Zor_r _ _ | exact hs.zA _ _ | assumption | exact zS _ | exact Zr_not (hs.zA _ _) | exact ⟨by omega, by omega⟩) ⟨rfl, rfl, rfl⟩ (fun h hs => ?_)
  rw [R_p3_16] at hs
  refine Z_go (f2 := (11, [(0, .ref 83), (1, .int (Zi c))], [.int (Zi c)])) (fun _ => rfl) ?_
  refine Z_go (f2 := (13, [(0, .ref 83), (1, .int (Zi c))], [.int (Zi 94), .int (Zi c)])) (fun _ => rfl) ?_
  refine Z_ceq rfl rfl (by first | exact hs.zF _ | exact Zor_r _ _ | exact hs.zA _ _ | assumption | exact zS _ | exact Zr_not (hs.zA _ _) | exact ⟨by omega, by omega⟩) (by first | exact hs.zF _ | exact Zor_r _ _ | exact hs.zA _ _ | assumption | exact zS _ | exact Zr_not (hs.zA _ _) | exact ⟨by omega, by omega⟩) (fun c1 => ?_) (fun c1 => ?_)
  · refine Z_go (f2 := (23, [(0, .ref 83), (1, .int (Zi c))], [.ref 83])) (fun _ => rfl) ?_
    refine Z_go (f2 := (24, [(0, .ref 83), (1, .int (Zi c))], [.int (Zi c), .ref 83])) (fun _ => rfl) ?_
    refine Z_go (f2 := (26, [(0, .ref 83), (1, .int (Zi c))], [.int (Zi 94), .int (Zi c), .ref 83])) (fun _ => rfl) ?_
    refine Z_cne rfl rfl (by first | exact hs.zF _ | exact Zor_r _ _ | exact hs.zA _ _ | assumption | exact zS _ | exact Zr_not (hs.zA _ _) | exact ⟨by omega, by omega⟩) (by first | exact hs.zF _ | exact Zor_r _ _ | exact hs.zA _ _ | assumption | exact zS _ | exact Zr_not (hs.zA _ _) | exact ⟨by omega, by omega⟩) (fun c2 => ?_) (fun c2 => ?_)
    · refine Z_go (f2 := (34, [(0, .ref 83), (1, .int (Zi c))], [.int (Zi 3), .ref 83])) (fun _ => rfl) ?_
      refine Z_go (f2 := (35, [(0, .ref 83), (1, .int (Zi c))], [.int (Zi 0), .int (Zi 3), .ref 83])) (fun _ => rfl) ?_
      refine Z_go (f2 := (36, [(0, .ref 83), (1, .int (Zi c))], [.int (Zi 0), .int (Zi 0), .int (Zi 3), .ref 83])) (fun _ => rfl) ?_
      refine R_call (As := [.int (Zi 3), .int (Zi 0), .int (Zi 0)]) (rest := []) rfl (by decide) rfl rfl rfl rfl (by decide +kernel) (Nat.le_of_ble_eq_true rfl) hs (R_emit2 _ s (a + 1) f p (by first | assumption | exact hs.zF _ | exact hs.zA _ _ | exact zS _ | exact ⟨by omega, by omega⟩ | omega) (by first | assumption | exact hs.zF _ | exact hs.zA _ _ | exact zS _ | exact ⟨by omega, by omega⟩ | omega) (by first | assumption | exact hs.zF _ | exact hs.zA _ _ | exact zS _ | exact ⟨by omega, by omega⟩ | omega) (by omega) (by omega)) (fun x h s2 hs q => ?_)
      obtain ⟨rfl, q1⟩ := q
      rw [q1] at hs
      show B_R _ _ (39, [(0, .ref 83), (1, .int (Zi c))], []) _ _ _
      refine Z_go (f2 := (40, [(0, .ref 83), (1, .int (Zi c))], [.int (Zi 1)])) (fun _ => rfl) ?_
      refine Z_iret rfl rfl (by first | rfl | decide | exact narrow_b01 (by omega)) ⟨_, hs, ?_, rfl⟩
      have hc2 : D_see s a = c := hc.symm
      have e : D_atom (D_see s) (s.1 17 ≠ 0) a f p = (1, a + 1, f, p, .inl 3) := by
        unfold D_atom
        repeat first
          | rw [if_pos (by first | omega | (rw [hc2]; unfold D_pln; omega))]
          | rw [if_neg (by first | omega | (rw [hc2]; unfold D_pln; omega))]
        try (refine Prod.ext ?_ (Prod.ext ?_ (Prod.ext ?_ (Prod.ext ?_ ?_))) <;> first | rfl | (dsimp only; omega))
      rw [e]
      exact ⟨rfl, _, rfl, .inr ⟨rfl, R_ap_em s 3 0 0⟩⟩
    · refine Z_go (f2 := (30, [(0, .ref 83), (1, .int (Zi c))], [.int (Zi 2), .ref 83])) (fun _ => rfl) ?_
      refine Z_go (f2 := (34, [(0, .ref 83), (1, .int (Zi c))], [.int (Zi 2), .ref 83])) (fun _ => rfl) ?_
      refine Z_go (f2 := (35, [(0, .ref 83), (1, .int (Zi c))], [.int (Zi 0), .int (Zi 2), .ref 83])) (fun _ => rfl) ?_
      refine Z_go (f2 := (36, [(0, .ref 83), (1, .int (Zi c))], [.int (Zi 0), .int (Zi 0), .int (Zi 2), .ref 83])) (fun _ => rfl) ?_
      refine R_call (As := [.int (Zi 2), .int (Zi 0), .int (Zi 0)]) (rest := []) rfl (by decide) rfl rfl rfl rfl (by decide +kernel) (Nat.le_of_ble_eq_true rfl) hs (R_emit2 _ s (a + 1) f p (by first | assumption | exact hs.zF _ | exact hs.zA _ _ | exact zS _ | exact ⟨by omega, by omega⟩ | omega) (by first | assumption | exact hs.zF _ | exact hs.zA _ _ | exact zS _ | exact ⟨by omega, by omega⟩ | omega) (by first | assumption | exact hs.zF _ | exact hs.zA _ _ | exact zS _ | exact ⟨by omega, by omega⟩ | omega) (by omega) (by omega)) (fun x h s2 hs q => ?_)
      obtain ⟨rfl, q1⟩ := q
      rw [q1] at hs
      show B_R _ _ (39, [(0, .ref 83), (1, .int (Zi c))], []) _ _ _
      refine Z_go (f2 := (40, [(0, .ref 83), (1, .int (Zi c))], [.int (Zi 1)])) (fun _ => rfl) ?_
      refine Z_iret rfl rfl (by first | rfl | decide | exact narrow_b01 (by omega)) ⟨_, hs, ?_, rfl⟩
      have hc2 : D_see s a = c := hc.symm
      have e : D_atom (D_see s) (s.1 17 ≠ 0) a f p = (1, a + 1, f, p, .inl 2) := by
        unfold D_atom
        repeat first
          | rw [if_pos (by first | omega | (rw [hc2]; unfold D_pln; omega))]
          | rw [if_neg (by first | omega | (rw [hc2]; unfold D_pln; omega))]
        try (refine Prod.ext ?_ (Prod.ext ?_ (Prod.ext ?_ (Prod.ext ?_ ?_))) <;> first | rfl | (dsimp only; omega))
      rw [e]
      exact ⟨rfl, _, rfl, .inr ⟨rfl, R_ap_em s 2 0 0⟩⟩
  · refine Z_go (f2 := (17, [(0, .ref 83), (1, .int (Zi c))], [.int (Zi c)])) (fun _ => rfl) ?_
    refine Z_go (f2 := (19, [(0, .ref 83), (1, .int (Zi c))], [.int (Zi 36), .int (Zi c)])) (fun _ => rfl) ?_
    refine Z_cne rfl rfl (by first | exact hs.zF _ | exact Zor_r _ _ | exact hs.zA _ _ | assumption | exact zS _ | exact Zr_not (hs.zA _ _) | exact ⟨by omega, by omega⟩) (by first | exact hs.zF _ | exact Zor_r _ _ | exact hs.zA _ _ | assumption | exact zS _ | exact Zr_not (hs.zA _ _) | exact ⟨by omega, by omega⟩) (fun c3 => ?_) (fun c3 => ?_)
    · refine Z_go (f2 := (42, [(0, .ref 83), (1, .int (Zi c))], [.int (Zi c)])) (fun _ => rfl) ?_
      refine Z_go (f2 := (44, [(0, .ref 83), (1, .int (Zi c))], [.int (Zi 91), .int (Zi c)])) (fun _ => rfl) ?_
      refine Z_cne rfl rfl (by first | exact hs.zF _ | exact Zor_r _ _ | exact hs.zA _ _ | assumption | exact zS _ | exact Zr_not (hs.zA _ _) | exact ⟨by omega, by omega⟩) (by first | exact hs.zF _ | exact Zor_r _ _ | exact hs.zA _ _ | assumption | exact zS _ | exact Zr_not (hs.zA _ _) | exact ⟨by omega, by omega⟩) (fun c4 => ?_) (fun c4 => ?_)
      · refine Z_go (f2 := (53, [(0, .ref 83), (1, .int (Zi c))], [.int (Zi c)])) (fun _ => rfl) ?_
        refine Z_go (f2 := (55, [(0, .ref 83), (1, .int (Zi c))], [.int (Zi 92), .int (Zi c)])) (fun _ => rfl) ?_
        refine Z_cne rfl rfl (by first | exact hs.zF _ | exact Zor_r _ _ | exact hs.zA _ _ | assumption | exact zS _ | exact Zr_not (hs.zA _ _) | exact ⟨by omega, by omega⟩) (by first | exact hs.zF _ | exact Zor_r _ _ | exact hs.zA _ _ | assumption | exact zS _ | exact Zr_not (hs.zA _ _) | exact ⟨by omega, by omega⟩) (fun c5 => ?_) (fun c5 => ?_)
        · refine Z_go (f2 := (64, [(0, .ref 83), (1, .int (Zi c))], [.int (Zi c)])) (fun _ => rfl) ?_
          refine Z_go (f2 := (66, [(0, .ref 83), (1, .int (Zi c))], [.int (Zi 46), .int (Zi c)])) (fun _ => rfl) ?_
          refine Z_ceq rfl rfl (by first | exact hs.zF _ | exact Zor_r _ _ | exact hs.zA _ _ | assumption | exact zS _ | exact Zr_not (hs.zA _ _) | exact ⟨by omega, by omega⟩) (by first | exact hs.zF _ | exact Zor_r _ _ | exact hs.zA _ _ | assumption | exact zS _ | exact Zr_not (hs.zA _ _) | exact ⟨by omega, by omega⟩) (fun c6 => ?_) (fun c6 => ?_)
          · refine Z_go (f2 := (90, [(0, .ref 83), (1, .int (Zi c))], [.ref 83])) (fun _ => rfl) ?_
            refine R_call (As := []) (rest := []) rfl (by decide) rfl rfl rfl rfl (by decide +kernel) (Nat.le_of_ble_eq_true rfl) hs (R_newSet2 _ s (a + 1) f p (by omega) (by omega)) (fun x h s2 hs q => ?_)
            obtain ⟨rfl, q1⟩ := q
            rw [q1] at hs
            show B_R _ _ (93, [(0, .ref 83), (1, .int (Zi c))], []) _ _ _
            refine Z_go (f2 := (94, [(0, .ref 83), (1, .int (Zi c))], [.int (Zi c)])) (fun _ => rfl) ?_
            refine Z_go (f2 := (96, [(0, .ref 83), (1, .int (Zi c))], [.int (Zi 46), .int (Zi c)])) (fun _ => rfl) ?_
            refine Z_cne rfl rfl (by first | exact hs.zF _ | exact Zor_r _ _ | exact hs.zA _ _ | assumption | exact zS _ | exact Zr_not (hs.zA _ _) | exact ⟨by omega, by omega⟩) (by first | exact hs.zF _ | exact Zor_r _ _ | exact hs.zA _ _ | assumption | exact zS _ | exact Zr_not (hs.zA _ _) | exact ⟨by omega, by omega⟩) (fun c7 => ?_) (fun c7 => ?_)
            · refine Z_go (f2 := (129, [(0, .ref 83), (1, .int (Zi c))], [.ref 83])) (fun _ => rfl) ?_
              refine Z_go (f2 := (130, [(0, .ref 83), (1, .int (Zi c))], [.int (Zi c), .ref 83])) (fun _ => rfl) ?_
              refine R_call (As := [.int (Zi c)]) (rest := []) rfl (by decide) rfl rfl rfl rfl (by decide +kernel) (Nat.le_of_ble_eq_true rfl) hs (R_put2 _ (R_nw s) (a + 1) f p (by first | assumption | exact hs.zF _ | exact hs.zA _ _ | exact zS _ | exact ⟨by omega, by omega⟩ | omega) (by omega) (by omega) (by omega) (by omega)) (fun x h s2 hs q => ?_)
              obtain ⟨rfl, w2, q1, q2⟩ := q
              rw [q1] at hs
              have ev15 : w2.1 15 = (R_nw s).1 15 := q2.f15 15
              have ev13 : w2.1 13 = (R_nw s).1 13 := q2.f15 13
              show B_R _ _ (133, [(0, .ref 83), (1, .int (Zi c))], []) _ _ _
              refine Z_go (f2 := (134, [(0, .ref 83), (1, .int (Zi c))], [.ref 83])) (fun _ => rfl) ?_
              refine R_call (As := []) (rest := []) rfl (by decide) rfl rfl rfl rfl (by decide +kernel) (Nat.le_of_ble_eq_true rfl) hs (R_folds2 _ w2 (a + 1) f p (by omega) (by omega)) (fun x h s2 hs q => ?_)
              obtain ⟨rfl, w3, q3, q4⟩ := q
              rw [q3] at hs
              have ex15 : w3.1 15 = w2.1 15 := q4.f15 15
              have ex13 : w3.1 13 = w2.1 13 := q4.f15 13
              have ex17 : w2.1 17 = (R_nw s).1 17 := q2.f15 17
              show B_R _ _ (137, [(0, .ref 83), (1, .int (Zi c))], []) _ _ _
              refine Z_go (f2 := (138, [(0, .ref 83), (1, .int (Zi c))], [.ref 83])) (fun _ => rfl) ?_
              refine Z_go (f2 := (139, [(0, .ref 83), (1, .int (Zi c))], [.int (Zi 1), .ref 83])) (fun _ => rfl) ?_
              refine Z_go (f2 := (140, [(0, .ref 83), (1, .int (Zi c))], [.ref 83, .int (Zi 1), .ref 83])) (fun _ => rfl) ?_
              refine R_gi rfl hs rfl ?_
              show B_R _ _ (143, [(0, .ref 83), (1, .int (Zi c))], [.int (Zi (w3.1 15)), .int (Zi 1), .ref 83]) _ _ _
              refine Z_go (f2 := (144, [(0, .ref 83), (1, .int (Zi c))], [.int (Zi 1), .int (Zi (w3.1 15)), .int (Zi 1), .ref 83])) (fun _ => rfl) ?_
              refine Z_isub rfl ?_
              refine Z_go (f2 := (146, [(0, .ref 83), (1, .int (Zi c))], [.int (Zi 0), .int (Zi (w3.1 15 - 1)), .int (Zi 1), .ref 83])) (fun _ => rfl) ?_
              refine R_call (As := [.int (Zi 1), .int (Zi (w3.1 15 - 1)), .int (Zi 0)]) (rest := []) rfl (by decide) rfl rfl rfl rfl (by decide +kernel) (Nat.le_of_ble_eq_true rfl) hs (R_emit2 _ w3 (a + 1) f p (by first | assumption | exact hs.zF _ | exact hs.zA _ _ | exact zS _ | exact ⟨by omega, by omega⟩ | omega) (by first | assumption | exact hs.zF _ | exact hs.zA _ _ | exact zS _ | exact ⟨by omega, by omega⟩ | omega) (by first | assumption | exact hs.zF _ | exact hs.zA _ _ | exact zS _ | exact ⟨by omega, by omega⟩ | omega) (by omega) (by omega)) (fun x h s2 hs q => ?_)
              obtain ⟨rfl, q1⟩ := q
              rw [q1] at hs
              show B_R _ _ (149, [(0, .ref 83), (1, .int (Zi c))], []) _ _ _
              refine Z_go (f2 := (150, [(0, .ref 83), (1, .int (Zi c))], [.int (Zi 1)])) (fun _ => rfl) ?_
              refine Z_iret rfl rfl (by first | rfl | decide | exact narrow_b01 (by omega)) ⟨_, hs, ?_, rfl⟩
              exfalso; omega
            · refine Z_go (f2 := (100, [(0, .ref 83), (1, .int (Zi c))], [.int (Zi 0)])) (fun _ => rfl) ?_
              refine Z_go (f2 := (101, [(2, .int (Zi 0)), (0, .ref 83), (1, .int (Zi c))], [])) (fun _ => rfl) ?_
              refine B_loc (K := [(2, .int (Zi 0)), (0, .ref 83), (1, .int (Zi c))]) (N_all_sub ⟨rfl, rfl, rfl, trivial⟩) (show ([2, 0, 1] : List Nat).Nodup by decide) ?_
              refine R_atom_lp (s := R_p3 (R_nw s) (a + 1) f p) (show 1 ≤ (R_nw s).1 15 by omega) (show (R_nw s).1 15 ≤ 90 by omega) (fun u h hs hu => ?_) 257 0 _ _ (by omega) hs (R_ss_1 _ _ _ (by omega)) (by omega) (by omega)
              obtain ⟨w2, ew2, q2, _⟩ := R_ss_p3 hu
              rw [ew2] at hs
              have ev15 : w2.1 15 = (R_nw s).1 15 := q2.f15 15
              have ev13 : w2.1 13 = (R_nw s).1 13 := q2.f15 13
              refine Z_go (f2 := (137, [(2, .int (Zi 256)), (0, .ref 83), (1, .int (Zi c))], [])) (fun _ => rfl) ?_
              refine Z_go (f2 := (138, [(2, .int (Zi 256)), (0, .ref 83), (1, .int (Zi c))], [.ref 83])) (fun _ => rfl) ?_
              refine Z_go (f2 := (139, [(2, .int (Zi 256)), (0, .ref 83), (1, .int (Zi c))], [.int (Zi 1), .ref 83])) (fun _ => rfl) ?_
              refine Z_go (f2 := (140, [(2, .int (Zi 256)), (0, .ref 83), (1, .int (Zi c))], [.ref 83, .int (Zi 1), .ref 83])) (fun _ => rfl) ?_
              refine R_gi rfl hs rfl ?_
              show B_R _ _ (143, [(2, .int (Zi 256)), (0, .ref 83), (1, .int (Zi c))], [.int (Zi (w2.1 15)), .int (Zi 1), .ref 83]) _ _ _
              refine Z_go (f2 := (144, [(2, .int (Zi 256)), (0, .ref 83), (1, .int (Zi c))], [.int (Zi 1), .int (Zi (w2.1 15)), .int (Zi 1), .ref 83])) (fun _ => rfl) ?_
              refine Z_isub rfl ?_
              refine Z_go (f2 := (146, [(2, .int (Zi 256)), (0, .ref 83), (1, .int (Zi c))], [.int (Zi 0), .int (Zi (w2.1 15 - 1)), .int (Zi 1), .ref 83])) (fun _ => rfl) ?_
              refine R_call (As := [.int (Zi 1), .int (Zi (w2.1 15 - 1)), .int (Zi 0)]) (rest := []) rfl (by decide) rfl rfl rfl rfl (by decide +kernel) (Nat.le_of_ble_eq_true rfl) hs (R_emit2 _ w2 (a + 1) f p (by first | assumption | exact hs.zF _ | exact hs.zA _ _ | exact zS _ | exact ⟨by omega, by omega⟩ | omega) (by first | assumption | exact hs.zF _ | exact hs.zA _ _ | exact zS _ | exact ⟨by omega, by omega⟩ | omega) (by first | assumption | exact hs.zF _ | exact hs.zA _ _ | exact zS _ | exact ⟨by omega, by omega⟩ | omega) (by omega) (by omega)) (fun x h s2 hs q => ?_)
              obtain ⟨rfl, q1⟩ := q
              rw [q1] at hs
              show B_R _ _ (149, [(2, .int (Zi 256)), (0, .ref 83), (1, .int (Zi c))], []) _ _ _
              refine Z_go (f2 := (150, [(2, .int (Zi 256)), (0, .ref 83), (1, .int (Zi c))], [.int (Zi 1)])) (fun _ => rfl) ?_
              refine Z_iret rfl rfl (by first | rfl | decide | exact narrow_b01 (by omega)) ⟨_, hs, ?_, rfl⟩
              have hc2 : D_see s a = c := hc.symm
              have e : D_atom (D_see s) (s.1 17 ≠ 0) a f p = (1, a + 1, f, p, .inr (fun x => x ≠ 10)) := by
                unfold D_atom
                repeat first
                  | rw [if_pos (by omega)]
                  | rw [if_neg (by omega)]
              rw [e]
              refine ⟨rfl, _, rfl, .inr ⟨rfl, ?_⟩⟩
              rw [show w2.1 15 - 1 = s.1 15 by omega]
              exact (R_nw_ss (q2.weak (fun y y0 y1 => ⟨fun h => h.elim (fun h => ((hnw y y0 y1).mp h).elim) (fun h => h.2), fun h => .inr ⟨y1, h⟩⟩))).trans (R_ap_em w2 1 (s.1 15) 0) m0
          · refine Z_go (f2 := (70, [(0, .ref 83), (1, .int (Zi c))], [.int (Zi c)])) (fun _ => rfl) ?_
            refine Z_callQ (vs := [.int (Zi c)]) (rest := []) rfl (by decide) rfl rfl rfl (Nat.le_of_ble_eq_true rfl) (R_isPlain _ (by first | assumption | exact hs.zF _ | exact hs.zA _ _ | exact zS _ | exact ⟨by omega, by omega⟩ | omega)) (fun x q => ?_)
            obtain ⟨v, rfl, hv⟩ := q
            have hvu := hv
            unfold D_pln at hvu
            show B_R _ _ (73, [(0, .ref 83), (1, .int (Zi c))], [.int (Zi v)]) _ _ _
            refine Z_ine rfl rfl (by first | exact hs.zF _ | exact Zor_r _ _ | exact hs.zA _ _ | assumption | exact zS _ | exact Zr_not (hs.zA _ _) | exact ⟨by omega, by omega⟩) (fun c8 => ?_) (fun c8 => ?_)
            · refine Z_go (f2 := (90, [(0, .ref 83), (1, .int (Zi c))], [.ref 83])) (fun _ => rfl) ?_
              refine R_call (As := []) (rest := []) rfl (by decide) rfl rfl rfl rfl (by decide +kernel) (Nat.le_of_ble_eq_true rfl) hs (R_newSet2 _ s (a + 1) f p (by omega) (by omega)) (fun x h s2 hs q => ?_)
              obtain ⟨rfl, q1⟩ := q
              rw [q1] at hs
              show B_R _ _ (93, [(0, .ref 83), (1, .int (Zi c))], []) _ _ _
              refine Z_go (f2 := (94, [(0, .ref 83), (1, .int (Zi c))], [.int (Zi c)])) (fun _ => rfl) ?_
              refine Z_go (f2 := (96, [(0, .ref 83), (1, .int (Zi c))], [.int (Zi 46), .int (Zi c)])) (fun _ => rfl) ?_
              refine Z_cne rfl rfl (by first | exact hs.zF _ | exact Zor_r _ _ | exact hs.zA _ _ | assumption | exact zS _ | exact Zr_not (hs.zA _ _) | exact ⟨by omega, by omega⟩) (by first | exact hs.zF _ | exact Zor_r _ _ | exact hs.zA _ _ | assumption | exact zS _ | exact Zr_not (hs.zA _ _) | exact ⟨by omega, by omega⟩) (fun c9 => ?_) (fun c9 => ?_)
              · refine Z_go (f2 := (129, [(0, .ref 83), (1, .int (Zi c))], [.ref 83])) (fun _ => rfl) ?_
                refine Z_go (f2 := (130, [(0, .ref 83), (1, .int (Zi c))], [.int (Zi c), .ref 83])) (fun _ => rfl) ?_
                refine R_call (As := [.int (Zi c)]) (rest := []) rfl (by decide) rfl rfl rfl rfl (by decide +kernel) (Nat.le_of_ble_eq_true rfl) hs (R_put2 _ (R_nw s) (a + 1) f p (by first | assumption | exact hs.zF _ | exact hs.zA _ _ | exact zS _ | exact ⟨by omega, by omega⟩ | omega) (by omega) (by omega) (by omega) (by omega)) (fun x h s2 hs q => ?_)
                obtain ⟨rfl, w2, q1, q2⟩ := q
                rw [q1] at hs
                have ev15 : w2.1 15 = (R_nw s).1 15 := q2.f15 15
                have ev13 : w2.1 13 = (R_nw s).1 13 := q2.f15 13
                show B_R _ _ (133, [(0, .ref 83), (1, .int (Zi c))], []) _ _ _
                refine Z_go (f2 := (134, [(0, .ref 83), (1, .int (Zi c))], [.ref 83])) (fun _ => rfl) ?_
                refine R_call (As := []) (rest := []) rfl (by decide) rfl rfl rfl rfl (by decide +kernel) (Nat.le_of_ble_eq_true rfl) hs (R_folds2 _ w2 (a + 1) f p (by omega) (by omega)) (fun x h s2 hs q => ?_)
                obtain ⟨rfl, w3, q3, q4⟩ := q
                rw [q3] at hs
                have ex15 : w3.1 15 = w2.1 15 := q4.f15 15
                have ex13 : w3.1 13 = w2.1 13 := q4.f15 13
                have ex17 : w2.1 17 = (R_nw s).1 17 := q2.f15 17
                show B_R _ _ (137, [(0, .ref 83), (1, .int (Zi c))], []) _ _ _
                refine Z_go (f2 := (138, [(0, .ref 83), (1, .int (Zi c))], [.ref 83])) (fun _ => rfl) ?_
                refine Z_go (f2 := (139, [(0, .ref 83), (1, .int (Zi c))], [.int (Zi 1), .ref 83])) (fun _ => rfl) ?_
                refine Z_go (f2 := (140, [(0, .ref 83), (1, .int (Zi c))], [.ref 83, .int (Zi 1), .ref 83])) (fun _ => rfl) ?_
                refine R_gi rfl hs rfl ?_
                show B_R _ _ (143, [(0, .ref 83), (1, .int (Zi c))], [.int (Zi (w3.1 15)), .int (Zi 1), .ref 83]) _ _ _
                refine Z_go (f2 := (144, [(0, .ref 83), (1, .int (Zi c))], [.int (Zi 1), .int (Zi (w3.1 15)), .int (Zi 1), .ref 83])) (fun _ => rfl) ?_
                refine Z_isub rfl ?_
                refine Z_go (f2 := (146, [(0, .ref 83), (1, .int (Zi c))], [.int (Zi 0), .int (Zi (w3.1 15 - 1)), .int (Zi 1), .ref 83])) (fun _ => rfl) ?_
                refine R_call (As := [.int (Zi 1), .int (Zi (w3.1 15 - 1)), .int (Zi 0)]) (rest := []) rfl (by decide) rfl rfl rfl rfl (by decide +kernel) (Nat.le_of_ble_eq_true rfl) hs (R_emit2 _ w3 (a + 1) f p (by first | assumption | exact hs.zF _ | exact hs.zA _ _ | exact zS _ | exact ⟨by omega, by omega⟩ | omega) (by first | assumption | exact hs.zF _ | exact hs.zA _ _ | exact zS _ | exact ⟨by omega, by omega⟩ | omega) (by first | assumption | exact hs.zF _ | exact hs.zA _ _ | exact zS _ | exact ⟨by omega, by omega⟩ | omega) (by omega) (by omega)) (fun x h s2 hs q => ?_)
                obtain ⟨rfl, q1⟩ := q
                rw [q1] at hs
                show B_R _ _ (149, [(0, .ref 83), (1, .int (Zi c))], []) _ _ _
                refine Z_go (f2 := (150, [(0, .ref 83), (1, .int (Zi c))], [.int (Zi 1)])) (fun _ => rfl) ?_
                refine Z_iret rfl rfl (by first | rfl | decide | exact narrow_b01 (by omega)) ⟨_, hs, ?_, rfl⟩
                have hc2 : D_see s a = c := hc.symm
                have e : D_atom (D_see s) (s.1 17 ≠ 0) a f p = (1, a + 1, f, p, .inr (P_fold (s.1 17 ≠ 0) (fun x => x = D_see s a))) := by
                  unfold D_atom
                  repeat first
                    | rw [if_pos (by first | omega | (rw [hc2]; unfold D_pln; omega))]
                    | rw [if_neg (by first | omega | (rw [hc2]; unfold D_pln; omega))]
                  try (refine Prod.ext ?_ (Prod.ext ?_ (Prod.ext ?_ (Prod.ext ?_ ?_))) <;> first | rfl | (dsimp only; omega))
                rw [e]
                refine ⟨rfl, _, rfl, .inr ⟨rfl, ?_⟩⟩
                rw [show w3.1 15 - 1 = s.1 15 by omega]
                rw [show w2.1 15 - 1 = (R_nw s).1 15 - 1 by omega] at q4
                refine (R_nw_ss ((q2.trans q4).weak (fun y y0 y1 => ?_))).trans (R_ap_em w3 1 (s.1 15) 0) m0
                rw [ex17, en17]
                refine P_fold_c (fun z z0 z1 => ?_) y0 y1
                rw [q2.2.2.2.2 z z0 z1, hc2]
                exact ⟨fun h => h.elim (fun h => ((hnw z z0 z1).mp h).elim) id, .inr⟩
              · refine Z_go (f2 := (100, [(0, .ref 83), (1, .int (Zi c))], [.int (Zi 0)])) (fun _ => rfl) ?_
                refine Z_go (f2 := (101, [(2, .int (Zi 0)), (0, .ref 83), (1, .int (Zi c))], [])) (fun _ => rfl) ?_
                exfalso; omega
            · refine Z_go (f2 := (77, [(0, .ref 83), (1, .int (Zi c))], [.ref 83])) (fun _ => rfl) ?_
              refine Z_go (f2 := (78, [(0, .ref 83), (1, .int (Zi c))], [.int (Zi 1), .ref 83])) (fun _ => rfl) ?_
              refine Z_go (f2 := (79, [(0, .ref 83), (1, .int (Zi c))], [.ref 83, .int (Zi 1), .ref 83])) (fun _ => rfl) ?_
              refine R_gi rfl hs rfl ?_
              show B_R _ _ (82, [(0, .ref 83), (1, .int (Zi c))], [.int (Zi (a + 1)), .int (Zi 1), .ref 83]) _ _ _
              refine Z_go (f2 := (83, [(0, .ref 83), (1, .int (Zi c))], [.int (Zi 1), .int (Zi (a + 1)), .int (Zi 1), .ref 83])) (fun _ => rfl) ?_
              refine Z_isub rfl ?_
              refine R_call (As := [.int (Zi 1), .int (Zi (a + 1 - 1))]) (rest := []) rfl (by decide) rfl rfl rfl rfl (by decide +kernel) (Nat.le_of_ble_eq_true rfl) hs (R_fail2 _ s (a + 1) f p (by first | assumption | exact hs.zF _ | exact hs.zA _ _ | exact zS _ | exact ⟨by omega, by omega⟩ | omega) (by first | assumption | exact hs.zF _ | exact hs.zA _ _ | exact zS _ | exact ⟨by omega, by omega⟩ | omega)) (fun x h s2 hs q => ?_)
              obtain ⟨rfl, q1⟩ := q
              rw [q1] at hs
              show B_R _ _ (87, [(0, .ref 83), (1, .int (Zi c))], []) _ _ _
              refine Z_go (f2 := (88, [(0, .ref 83), (1, .int (Zi c))], [.int (Zi 0)])) (fun _ => rfl) ?_
              refine Z_iret rfl rfl (by first | rfl | decide | exact narrow_b01 (by omega)) ⟨_, hs, ?_, rfl⟩
              rw [show a + 1 - 1 = a by omega]
              have hc2 : D_see s a = c := hc.symm
              have e : D_atom (D_see s) (s.1 17 ≠ 0) a f p = (0, a + 1, (D_ff f p 1 a).1, (D_ff f p 1 a).2, .inl 0) := by
                unfold D_atom
                repeat first
                  | rw [if_pos (by first | omega | (rw [hc2]; unfold D_pln; omega))]
                  | rw [if_neg (by first | omega | (rw [hc2]; unfold D_pln; omega))]
                try (refine Prod.ext ?_ (Prod.ext ?_ (Prod.ext ?_ (Prod.ext ?_ ?_))) <;> first | rfl | (dsimp only; omega))
              rw [e]
              exact ⟨rfl, _, rfl, .inl ⟨rfl, [], Nat.zero_le _, R_ap_0 s⟩⟩
        · refine Z_go (f2 := (59, [(0, .ref 83), (1, .int (Zi c))], [.ref 83])) (fun _ => rfl) ?_
          refine R_call (As := []) (rest := []) rfl (by decide) rfl rfl rfl rfl (by decide +kernel) (Nat.le_of_ble_eq_true rfl) hs (R_escaped _ s (a + 1) f p (by omega) (by omega) t1 tb m0 m1 p0 p1) (fun x h s2 hs q => ?_)
          generalize ho1 : D_esc (D_see s) (a + 1) f p = o1 at q
          obtain ⟨rfl, w2, q1, q2⟩ := q
          rw [q1] at hs
          have qb : o1.1 = 0 ∨ o1.1 = 1 := q2.imp (fun h => h.1) (fun h => h.1)
          show B_R _ _ (62, [(0, .ref 83), (1, .int (Zi c))], [.int (Zi (o1.1))]) _ _ _
          refine Z_iret rfl rfl (by first | rfl | decide | exact narrow_b01 (by omega)) ⟨_, hs, ?_, rfl⟩
          have hc2 : D_see s a = c := hc.symm
          have e : D_atom (D_see s) (s.1 17 ≠ 0) a f p = (o1.1, o1.2.1, o1.2.2.1, o1.2.2.2.1, o1.2.2.2.2) := by
            unfold D_atom
            rw [ho1]
            repeat first
              | rw [if_pos (by first | omega | (rw [hc2]; unfold D_pln; omega))]
              | rw [if_neg (by first | omega | (rw [hc2]; unfold D_pln; omega))]
            try (refine Prod.ext ?_ (Prod.ext ?_ (Prod.ext ?_ (Prod.ext ?_ ?_))) <;> first | rfl | (dsimp only; omega))
          rw [e]
          exact ⟨rfl, _, rfl, q2⟩
      · refine Z_go (f2 := (48, [(0, .ref 83), (1, .int (Zi c))], [.ref 83])) (fun _ => rfl) ?_
        refine R_call (As := []) (rest := []) rfl (by decide) rfl rfl rfl rfl (by decide +kernel) (Nat.le_of_ble_eq_true rfl) hs (R_listed _ s (a + 1) f p (by omega) (by omega) t1 tb m0 m1 p0 p1) (fun x h s2 hs q => ?_)
        generalize ho1 : D_list (D_see s) (s.1 17 ≠ 0) (a + 1) f p = o1 at q
        obtain ⟨rfl, w2, q1, q2⟩ := q
        rw [q1] at hs
        have qb : o1.1 = 0 ∨ o1.1 = 1 := q2.imp (fun h => h.1) (fun h => h.1)
        show B_R _ _ (51, [(0, .ref 83), (1, .int (Zi c))], [.int (Zi (o1.1))]) _ _ _
        refine Z_iret rfl rfl (by first | rfl | decide | exact narrow_b01 (by omega)) ⟨_, hs, ?_, rfl⟩
        have hc2 : D_see s a = c := hc.symm
        have e : D_atom (D_see s) (s.1 17 ≠ 0) a f p = (o1.1, o1.2.1, o1.2.2.1, o1.2.2.2.1, .inr o1.2.2.2.2) := by
          unfold D_atom
          rw [ho1]
          repeat first
            | rw [if_pos (by first | omega | (rw [hc2]; unfold D_pln; omega))]
            | rw [if_neg (by first | omega | (rw [hc2]; unfold D_pln; omega))]
          try (refine Prod.ext ?_ (Prod.ext ?_ (Prod.ext ?_ (Prod.ext ?_ ?_))) <;> first | rfl | (dsimp only; omega))
        rw [e]
        exact ⟨rfl, _, rfl, q2.elim (fun ⟨x, H, y⟩ => .inl ⟨x, [H], Nat.le_refl _, y⟩) .inr⟩
    · refine Z_go (f2 := (23, [(0, .ref 83), (1, .int (Zi c))], [.ref 83])) (fun _ => rfl) ?_
      refine Z_go (f2 := (24, [(0, .ref 83), (1, .int (Zi c))], [.int (Zi c), .ref 83])) (fun _ => rfl) ?_
      refine Z_go (f2 := (26, [(0, .ref 83), (1, .int (Zi c))], [.int (Zi 94), .int (Zi c), .ref 83])) (fun _ => rfl) ?_
      refine Z_cne rfl rfl (by first | exact hs.zF _ | exact Zor_r _ _ | exact hs.zA _ _ | assumption | exact zS _ | exact Zr_not (hs.zA _ _) | exact ⟨by omega, by omega⟩) (by first | exact hs.zF _ | exact Zor_r _ _ | exact hs.zA _ _ | assumption | exact zS _ | exact Zr_not (hs.zA _ _) | exact ⟨by omega, by omega⟩) (fun c10 => ?_) (fun c10 => ?_)
      · refine Z_go (f2 := (34, [(0, .ref 83), (1, .int (Zi c))], [.int (Zi 3), .ref 83])) (fun _ => rfl) ?_
        refine Z_go (f2 := (35, [(0, .ref 83), (1, .int (Zi c))], [.int (Zi 0), .int (Zi 3), .ref 83])) (fun _ => rfl) ?_
        refine Z_go (f2 := (36, [(0, .ref 83), (1, .int (Zi c))], [.int (Zi 0), .int (Zi 0), .int (Zi 3), .ref 83])) (fun _ => rfl) ?_
        refine R_call (As := [.int (Zi 3), .int (Zi 0), .int (Zi 0)]) (rest := []) rfl (by decide) rfl rfl rfl rfl (by decide +kernel) (Nat.le_of_ble_eq_true rfl) hs (R_emit2 _ s (a + 1) f p (by first | assumption | exact hs.zF _ | exact hs.zA _ _ | exact zS _ | exact ⟨by omega, by omega⟩ | omega) (by first | assumption | exact hs.zF _ | exact hs.zA _ _ | exact zS _ | exact ⟨by omega, by omega⟩ | omega) (by first | assumption | exact hs.zF _ | exact hs.zA _ _ | exact zS _ | exact ⟨by omega, by omega⟩ | omega) (by omega) (by omega)) (fun x h s2 hs q => ?_)
        obtain ⟨rfl, q1⟩ := q
        rw [q1] at hs
        show B_R _ _ (39, [(0, .ref 83), (1, .int (Zi c))], []) _ _ _
        refine Z_go (f2 := (40, [(0, .ref 83), (1, .int (Zi c))], [.int (Zi 1)])) (fun _ => rfl) ?_
        refine Z_iret rfl rfl (by first | rfl | decide | exact narrow_b01 (by omega)) ⟨_, hs, ?_, rfl⟩
        have hc2 : D_see s a = c := hc.symm
        have e : D_atom (D_see s) (s.1 17 ≠ 0) a f p = (1, a + 1, f, p, .inl 3) := by
          unfold D_atom
          repeat first
            | rw [if_pos (by first | omega | (rw [hc2]; unfold D_pln; omega))]
            | rw [if_neg (by first | omega | (rw [hc2]; unfold D_pln; omega))]
          try (refine Prod.ext ?_ (Prod.ext ?_ (Prod.ext ?_ (Prod.ext ?_ ?_))) <;> first | rfl | (dsimp only; omega))
        rw [e]
        exact ⟨rfl, _, rfl, .inr ⟨rfl, R_ap_em s 3 0 0⟩⟩
      · refine Z_go (f2 := (30, [(0, .ref 83), (1, .int (Zi c))], [.int (Zi 2), .ref 83])) (fun _ => rfl) ?_
        refine Z_go (f2 := (34, [(0, .ref 83), (1, .int (Zi c))], [.int (Zi 2), .ref 83])) (fun _ => rfl) ?_
        refine Z_go (f2 := (35, [(0, .ref 83), (1, .int (Zi c))], [.int (Zi 0), .int (Zi 2), .ref 83])) (fun _ => rfl) ?_
        refine Z_go (f2 := (36, [(0, .ref 83), (1, .int (Zi c))], [.int (Zi 0), .int (Zi 0), .int (Zi 2), .ref 83])) (fun _ => rfl) ?_
        refine R_call (As := [.int (Zi 2), .int (Zi 0), .int (Zi 0)]) (rest := []) rfl (by decide) rfl rfl rfl rfl (by decide +kernel) (Nat.le_of_ble_eq_true rfl) hs (R_emit2 _ s (a + 1) f p (by first | assumption | exact hs.zF _ | exact hs.zA _ _ | exact zS _ | exact ⟨by omega, by omega⟩ | omega) (by first | assumption | exact hs.zF _ | exact hs.zA _ _ | exact zS _ | exact ⟨by omega, by omega⟩ | omega) (by first | assumption | exact hs.zF _ | exact hs.zA _ _ | exact zS _ | exact ⟨by omega, by omega⟩ | omega) (by omega) (by omega)) (fun x h s2 hs q => ?_)
        obtain ⟨rfl, q1⟩ := q
        rw [q1] at hs
        show B_R _ _ (39, [(0, .ref 83), (1, .int (Zi c))], []) _ _ _
        refine Z_go (f2 := (40, [(0, .ref 83), (1, .int (Zi c))], [.int (Zi 1)])) (fun _ => rfl) ?_
        refine Z_iret rfl rfl (by first | rfl | decide | exact narrow_b01 (by omega)) ⟨_, hs, ?_, rfl⟩
        have hc2 : D_see s a = c := hc.symm
        have e : D_atom (D_see s) (s.1 17 ≠ 0) a f p = (1, a + 1, f, p, .inl 2) := by
          unfold D_atom
          repeat first
            | rw [if_pos (by first | omega | (rw [hc2]; unfold D_pln; omega))]
            | rw [if_neg (by first | omega | (rw [hc2]; unfold D_pln; omega))]
          try (refine Prod.ext ?_ (Prod.ext ?_ (Prod.ext ?_ (Prod.ext ?_ ?_))) <;> first | rfl | (dsimp only; omega))
        rw [e]
        exact ⟨rfl, _, rfl, .inr ⟨rfl, R_ap_em s 2 0 0⟩⟩
