/-! the reference: the reading of a regex, pieces and lists -/
theorem D_one_r {S : Int → Int} (hb : ∀ k, -1 ≤ S k ∧ S k < 256) (a f p : Int) : -1 ≤ (D_one S a f p).1 ∧ (D_one S a f p).1 < 256 := by
  have h0 := hb a
  have h1 := hb (a + 1)
  unfold D_one
  repeat' split
  all_goals (dsimp only; omega)
theorem D_num_r {S : Int → Int} (hb : ∀ k, -1 ≤ S k ∧ S k < 256) (a f p : Int) : -1 ≤ (D_num S a f p).1 ∧ (D_num S a f p).1 < 256 := by
  have h0 := hb a
  have h1 := hb (a + 1)
  unfold D_num
  dsimp only
  repeat' split
  all_goals first
    | (exfalso; unfold D_dig at *; omega)
    | (unfold D_dig at *; dsimp only; omega)
theorem R_piece_lp {d : Nat} {h0 : E_H} {s : R_S} {sl : Nat} {Φ : E_R → Prop} {lo hi : Int} (l0 : 0 ≤ lo) (h1 : hi < 256) (m1 : 1 ≤ s.1 15) (m2 : s.1 15 ≤ 90) (kont : ∀ (u : R_S) (h : E_H), R_is h0 h (u) → R_ss s u (s.1 15 - 1) (fun x => R_has s (s.1 15 - 1) x ∨ x < (hi + 1) ∧ (lo ≤ x ∧ x ≤ hi)) → B_R (d + 1) E_m208 (91, [(4, .int (Zi (hi + 1))), (3, .int (Zi hi)), (1, .int (Zi lo)), (0, .ref 83)], []) h sl Φ) : ∀ (t : Nat) (k : Int) (u : R_S) (h : E_H), hi + 1 - k < t → R_is h0 h (u) → R_ss s u (s.1 15 - 1) (fun x => R_has s (s.1 15 - 1) x ∨ x < k ∧ (lo ≤ x ∧ x ≤ hi)) → lo ≤ k → k ≤ hi + 1 → B_R (d + 1) E_m208 (73, [(4, .int (Zi k)), (3, .int (Zi hi)), (1, .int (Zi lo)), (0, .ref 83)], []) h sl Φ := by
  intro t
  induction t with
  | zero => intro k u h ht hs hu k0 k1; omega
  | succ t ih =>
    intro k u h ht hs hu k0 k1
    have e15 : u.1 15 = s.1 15 := hu.f15 15
    refine Z_go (f2 := (75, [(4, .int (Zi k)), (3, .int (Zi hi)), (1, .int (Zi lo)), (0, .ref 83)], [.int (Zi k)])) (fun _ => rfl) ?_
    refine Z_go (f2 := (76, [(4, .int (Zi k)), (3, .int (Zi hi)), (1, .int (Zi lo)), (0, .ref 83)], [.int (Zi hi), .int (Zi k)])) (fun _ => rfl) ?_
    refine Z_cgt rfl rfl (by first | exact hs.zF _ | exact Zor_r _ _ | exact hs.zA _ _ | assumption | exact zS _ | exact Zr_not (hs.zA _ _) | exact ⟨by omega, by omega⟩) (by first | exact hs.zF _ | exact Zor_r _ _ | exact hs.zA _ _ | assumption | exact zS _ | exact Zr_not (hs.zA _ _) | exact ⟨by omega, by omega⟩) (fun c1 => ?_) (fun c1 => ?_)
    · obtain rfl : k = hi + 1 := by omega
      exact kont u h hs hu 
    · refine Z_go (f2 := (80, [(4, .int (Zi k)), (3, .int (Zi hi)), (1, .int (Zi lo)), (0, .ref 83)], [.ref 83])) (fun _ => rfl) ?_
      refine Z_go (f2 := (82, [(4, .int (Zi k)), (3, .int (Zi hi)), (1, .int (Zi lo)), (0, .ref 83)], [.int (Zi k), .ref 83])) (fun _ => rfl) ?_
      refine R_call (As := [.int (Zi k)]) (rest := []) rfl (by decide) rfl rfl rfl rfl (by decide +kernel) (Nat.le_of_ble_eq_true rfl) hs (R_put _ _ (by first | assumption | exact hs.zF _ | exact hs.zA _ _ | exact zS _ | exact ⟨by omega, by omega⟩ | omega) (by first | assumption | exact hs.zF _ | exact hs.zA _ _ | exact zS _ | exact ⟨by omega, by omega⟩ | omega) (by first | assumption | exact hs.zF _ | exact hs.zA _ _ | exact zS _ | exact ⟨by omega, by omega⟩ | omega) (by first | assumption | exact hs.zF _ | exact hs.zA _ _ | exact zS _ | exact ⟨by omega, by omega⟩ | omega) (by first | assumption | exact hs.zF _ | exact hs.zA _ _ | exact zS _ | exact ⟨by omega, by omega⟩ | omega)) (fun x h w hs q => ?_)
      obtain ⟨rfl, q1⟩ := q
      rw [e15] at q1
      show B_R _ _ (85, [(4, .int (Zi k)), (3, .int (Zi hi)), (1, .int (Zi lo)), (0, .ref 83)], []) _ _ _
      refine Z_iinc (L2 := [(4, .int (Zi (k + 1))), (3, .int (Zi hi)), (1, .int (Zi lo)), (0, .ref 83)]) rfl rfl (by decide) rfl ?_
      refine Z_go (f2 := (73, [(4, .int (Zi (k + 1))), (3, .int (Zi hi)), (1, .int (Zi lo)), (0, .ref 83)], [])) (fun _ => rfl) ?_
      refine B_loc (K := [(4, .int (Zi (k + 1))), (3, .int (Zi hi)), (1, .int (Zi lo)), (0, .ref 83)]) (N_all_sub ⟨rfl, rfl, rfl, rfl, trivial⟩) (show ([4, 3, 1, 0] : List Nat).Nodup by decide) ?_
      exact ih _ _ _ (by omega) hs (R_ss_add hu ⟨k0, by omega⟩ q1) (by omega) (by omega)
theorem R_piece (d : Nat) (s : R_S) (a f p : Int)   (a0 : 0 ≤ a) (a1 : a ≤ s.1 1) (t1 : s.1 1 ≤ 80) (tb : ∀ j, 0 ≤ s.2.1 84 j ∧ s.2.1 84 j < 256) (m1 : 1 ≤ s.1 15) (m2 : s.1 15 ≤ 90) : R_ok (d + 4) 208 [] (R_p3 s a f p) (fun x s2 => x = some (.int (Zi (D_pc (D_see s) a f p).1)) ∧ R_ss (R_p3 s (D_pc (D_see s) a f p).2.1 (D_pc (D_see s) a f p).2.2.1 (D_pc (D_see s) a f p).2.2.2.1) s2 (s.1 15 - 1) (fun y => R_has s (s.1 15 - 1) y ∨ (D_pc (D_see s) a f p).2.2.2.2 y)) := by
  refine R_enter (M := E_m208) rfl (Nat.le_of_ble_eq_true rfl) (fun h0 h hs => ?_)
  show B_R (d + 3) _ (0, [(0, .ref 83)], []) _ _ _
  have zb : ∀ k, -1 ≤ D_see s k ∧ D_see s k < 256 := fun k => by have := tb k; unfold D_see; split <;> omega
  have zb0 := zb a
  have zb1 := zb (a + 1)
  have zS : ∀ k, Zr (D_see s k) := fun k => by unfold D_see; split; exact hs.zA 84 k; exact ⟨by omega, by omega⟩
  have sn : ∀ k, s.1 1 ≤ k → D_see s k = -1 := fun k hk => by unfold D_see; rw [if_neg (by omega)]
  have sn0 := sn a
  have sn1 := sn (a + 1)
  refine Z_go (f2 := (1, [(0, .ref 83)], [.ref 83])) (fun _ => rfl) ?_
  refine R_call (As := []) (rest := []) rfl (by decide) rfl rfl rfl rfl (by decide +kernel) (Nat.le_of_ble_eq_true rfl) hs (R_one _ s a f p (by omega) (by omega) t1 tb) (fun x h s2 hs q => ?_)
  obtain ⟨rfl, q1⟩ := q
  rw [q1] at hs
  obtain ⟨o1, ho1⟩ : ∃ o, o = D_one (D_see s) a f p := ⟨_, rfl⟩
  rw [← ho1] at hs ⊢
  have hn1 := D_one_n sn a f p (by omega)
  rw [← ho1] at hn1
  have hl1 := D_one_le (D_see s) a f p
  rw [← ho1] at hl1
  have hr1 := D_one_r zb a f p
  rw [← ho1] at hr1
  have sno1 := sn o1.2.1
  show B_R _ _ (4, [(0, .ref 83)], [.int (Zi (o1.1))]) _ _ _
  refine Z_go (f2 := (5, [(1, .int (Zi (o1.1))), (0, .ref 83)], [])) (fun _ => rfl) ?_
  refine Z_go (f2 := (6, [(1, .int (Zi (o1.1))), (0, .ref 83)], [.int (Zi (o1.1))])) (fun _ => rfl) ?_
  refine Z_go (f2 := (7, [(1, .int (Zi (o1.1))), (0, .ref 83)], [.int (Zi (-1)), .int (Zi (o1.1))])) (fun _ => rfl) ?_
  refine Z_cne rfl rfl (by first | exact hs.zF _ | exact Zor_r _ _ | exact hs.zA _ _ | assumption | exact zS _ | exact Zr_not (hs.zA _ _) | exact ⟨by omega, by omega⟩) (by first | exact hs.zF _ | exact Zor_r _ _ | exact hs.zA _ _ | assumption | exact zS _ | exact Zr_not (hs.zA _ _) | exact ⟨by omega, by omega⟩) (fun c1 => ?_) (fun c1 => ?_)
  · refine Z_go (f2 := (13, [(1, .int (Zi (o1.1))), (0, .ref 83)], [.ref 83])) (fun _ => rfl) ?_
    refine Z_go (f2 := (14, [(1, .int (Zi (o1.1))), (0, .ref 83)], [.ref 83, .ref 83])) (fun _ => rfl) ?_
    refine R_gi rfl hs rfl ?_
    show B_R _ _ (17, [(1, .int (Zi (o1.1))), (0, .ref 83)], [.int (Zi (o1.2.1)), .ref 83]) _ _ _
    refine R_call (As := [.int (Zi (o1.2.1))]) (rest := []) rfl (by decide) rfl rfl rfl rfl (by decide +kernel) (Nat.le_of_ble_eq_true rfl) hs (R_see2 _ _ (by first | assumption | exact hs.zF _ | exact hs.zA _ _ | exact zS _ | exact ⟨by omega, by omega⟩ | omega) (by first | assumption | exact hs.zF _ | exact hs.zA _ _ | exact zS _ | exact ⟨by omega, by omega⟩ | omega) (show s.1 1 ≤ 1000 by omega)) (fun x h s2 hs q => ?_)
    obtain ⟨q0, rfl⟩ := q
    rw [q0] at hs
    show B_R _ _ (20, [(1, .int (Zi (o1.1))), (0, .ref 83)], [.int (Zi (D_see s o1.2.1))]) _ _ _
    refine Z_go (f2 := (22, [(1, .int (Zi (o1.1))), (0, .ref 83)], [.int (Zi 45), .int (Zi (D_see s o1.2.1))])) (fun _ => rfl) ?_
    refine Z_ceq rfl rfl (by first | exact hs.zF _ | exact Zor_r _ _ | exact hs.zA _ _ | assumption | exact zS _ | exact Zr_not (hs.zA _ _) | exact ⟨by omega, by omega⟩) (by first | exact hs.zF _ | exact Zor_r _ _ | exact hs.zA _ _ | assumption | exact zS _ | exact Zr_not (hs.zA _ _) | exact ⟨by omega, by omega⟩) (fun c2 => ?_) (fun c2 => ?_)
    · refine Z_go (f2 := (33, [(1, .int (Zi (o1.1))), (0, .ref 83)], [.ref 83])) (fun _ => rfl) ?_
      refine Z_go (f2 := (34, [(1, .int (Zi (o1.1))), (0, .ref 83)], [.ref 83, .ref 83])) (fun _ => rfl) ?_
      refine R_gi rfl hs rfl ?_
      show B_R _ _ (37, [(1, .int (Zi (o1.1))), (0, .ref 83)], [.int (Zi (o1.2.1)), .ref 83]) _ _ _
      refine Z_go (f2 := (38, [(1, .int (Zi (o1.1))), (0, .ref 83)], [.int (Zi 1), .int (Zi (o1.2.1)), .ref 83])) (fun _ => rfl) ?_
      refine Z_iadd rfl ?_
      refine R_pf rfl hs rfl (by first | exact hs.zF _ | exact Zor_r _ _ | exact hs.zA _ _ | assumption | exact zS _ | exact Zr_not (hs.zA _ _) | exact ⟨by omega, by omega⟩) ⟨rfl, rfl, rfl⟩ (fun h hs => ?_)
      rw [R_p3_16] at hs
      refine Z_go (f2 := (43, [(1, .int (Zi (o1.1))), (0, .ref 83)], [.ref 83])) (fun _ => rfl) ?_
      refine R_gi rfl hs rfl ?_
      show B_R _ _ (46, [(1, .int (Zi (o1.1))), (0, .ref 83)], [.int (Zi (o1.2.1 + 1))]) _ _ _
      refine Z_go (f2 := (47, [(2, .int (Zi (o1.2.1 + 1))), (1, .int (Zi (o1.1))), (0, .ref 83)], [])) (fun _ => rfl) ?_
      refine Z_go (f2 := (48, [(2, .int (Zi (o1.2.1 + 1))), (1, .int (Zi (o1.1))), (0, .ref 83)], [.ref 83])) (fun _ => rfl) ?_
      refine R_call (As := []) (rest := []) rfl (by decide) rfl rfl rfl rfl (by decide +kernel) (Nat.le_of_ble_eq_true rfl) hs (R_one _ s (o1.2.1 + 1) o1.2.2.1 o1.2.2.2 (by omega) (by omega) t1 tb) (fun x h s2 hs q => ?_)
      obtain ⟨rfl, q1⟩ := q
      rw [q1] at hs
      obtain ⟨o2, ho2⟩ : ∃ o, o = D_one (D_see s) (o1.2.1 + 1) o1.2.2.1 o1.2.2.2 := ⟨_, rfl⟩
      rw [← ho2] at hs ⊢
      have hn2 := D_one_n sn (o1.2.1 + 1) o1.2.2.1 o1.2.2.2 (by omega)
      rw [← ho2] at hn2
      have hl2 := D_one_le (D_see s) (o1.2.1 + 1) o1.2.2.1 o1.2.2.2
      rw [← ho2] at hl2
      have hr2 := D_one_r zb (o1.2.1 + 1) o1.2.2.1 o1.2.2.2
      rw [← ho2] at hr2
      have sno2 := sn o2.2.1
      show B_R _ _ (51, [(2, .int (Zi (o1.2.1 + 1))), (1, .int (Zi (o1.1))), (0, .ref 83)], [.int (Zi (o2.1))]) _ _ _
      refine Z_go (f2 := (52, [(3, .int (Zi (o2.1))), (2, .int (Zi (o1.2.1 + 1))), (1, .int (Zi (o1.1))), (0, .ref 83)], [])) (fun _ => rfl) ?_
      refine Z_go (f2 := (53, [(3, .int (Zi (o2.1))), (2, .int (Zi (o1.2.1 + 1))), (1, .int (Zi (o1.1))), (0, .ref 83)], [.int (Zi (o2.1))])) (fun _ => rfl) ?_
      refine Z_go (f2 := (54, [(3, .int (Zi (o2.1))), (2, .int (Zi (o1.2.1 + 1))), (1, .int (Zi (o1.1))), (0, .ref 83)], [.int (Zi (-1)), .int (Zi (o2.1))])) (fun _ => rfl) ?_
      refine Z_cne rfl rfl (by first | exact hs.zF _ | exact Zor_r _ _ | exact hs.zA _ _ | assumption | exact zS _ | exact Zr_not (hs.zA _ _) | exact ⟨by omega, by omega⟩) (by first | exact hs.zF _ | exact Zor_r _ _ | exact hs.zA _ _ | assumption | exact zS _ | exact Zr_not (hs.zA _ _) | exact ⟨by omega, by omega⟩) (fun c3 => ?_) (fun c3 => ?_)
      · refine Z_go (f2 := (60, [(3, .int (Zi (o2.1))), (2, .int (Zi (o1.2.1 + 1))), (1, .int (Zi (o1.1))), (0, .ref 83)], [.int (Zi (o2.1))])) (fun _ => rfl) ?_
        refine Z_go (f2 := (61, [(3, .int (Zi (o2.1))), (2, .int (Zi (o1.2.1 + 1))), (1, .int (Zi (o1.1))), (0, .ref 83)], [.int (Zi (o1.1)), .int (Zi (o2.1))])) (fun _ => rfl) ?_
        refine Z_cge rfl rfl (by first | exact hs.zF _ | exact Zor_r _ _ | exact hs.zA _ _ | assumption | exact zS _ | exact Zr_not (hs.zA _ _) | exact ⟨by omega, by omega⟩) (by first | exact hs.zF _ | exact Zor_r _ _ | exact hs.zA _ _ | assumption | exact zS _ | exact Zr_not (hs.zA _ _) | exact ⟨by omega, by omega⟩) (fun c4 => ?_) (fun c4 => ?_)
        · refine Z_go (f2 := (71, [(3, .int (Zi (o2.1))), (2, .int (Zi (o1.2.1 + 1))), (1, .int (Zi (o1.1))), (0, .ref 83)], [.int (Zi (o1.1))])) (fun _ => rfl) ?_
          refine Z_go (f2 := (73, [(4, .int (Zi (o1.1))), (3, .int (Zi (o2.1))), (2, .int (Zi (o1.2.1 + 1))), (1, .int (Zi (o1.1))), (0, .ref 83)], [])) (fun _ => rfl) ?_
          refine B_loc (K := [(4, .int (Zi (o1.1))), (3, .int (Zi (o2.1))), (1, .int (Zi (o1.1))), (0, .ref 83)]) (N_all_sub ⟨rfl, rfl, rfl, rfl, trivial⟩) (show ([4, 3, 1, 0] : List Nat).Nodup by decide) ?_
          refine R_piece_lp (s := R_p3 s o2.2.1 o2.2.2.1 o2.2.2.2) (lo := o1.1) (hi := o2.1) (by omega) (by omega) m1 m2 (fun u h hs hu => ?_) ((o2.1 + 1 - o1.1).toNat + 1) _ _ _ (by omega) hs (R_ss_1 _ _ _ (fun y _ h1 h2 => by omega)) (by omega) (by omega)
          refine Z_go (f2 := (92, [(4, .int (Zi (o2.1 + 1))), (3, .int (Zi (o2.1))), (1, .int (Zi (o1.1))), (0, .ref 83)], [.int (Zi 1)])) (fun _ => rfl) ?_
          refine Z_iret rfl rfl (by first | rfl | decide | exact narrow_b01 (by omega)) ⟨_, hs, ?_, rfl⟩
          have e : D_pc (D_see s) a f p = (1, o2.2.1, o2.2.2.1, o2.2.2.2, fun x => o1.1 ≤ x ∧ x ≤ o2.1) := by
            unfold D_pc
            dsimp only
            rw [← ho1, ← ho2]
            rw [if_neg (show ¬ o1.1 = -1 by omega), if_pos (show D_see s o1.2.1 = 45 by omega), if_neg (show ¬ o2.1 = -1 by omega), if_neg (show ¬ o2.1 < o1.1 by omega)]
          rw [e]
          exact ⟨rfl, hu.weak (fun y y0 y1 => ⟨fun h => h.elim .inl (fun h => .inr h.2), fun h => h.elim .inl (fun h => .inr ⟨by have := h.2; omega, h⟩)⟩)⟩
        · refine Z_go (f2 := (65, [(3, .int (Zi (o2.1))), (2, .int (Zi (o1.2.1 + 1))), (1, .int (Zi (o1.1))), (0, .ref 83)], [.ref 83])) (fun _ => rfl) ?_
          refine Z_go (f2 := (66, [(3, .int (Zi (o2.1))), (2, .int (Zi (o1.2.1 + 1))), (1, .int (Zi (o1.1))), (0, .ref 83)], [.int (Zi 2), .ref 83])) (fun _ => rfl) ?_
          refine Z_go (f2 := (67, [(3, .int (Zi (o2.1))), (2, .int (Zi (o1.2.1 + 1))), (1, .int (Zi (o1.1))), (0, .ref 83)], [.int (Zi (o1.2.1 + 1)), .int (Zi 2), .ref 83])) (fun _ => rfl) ?_
          refine R_call (As := [.int (Zi 2), .int (Zi (o1.2.1 + 1))]) (rest := []) rfl (by decide) rfl rfl rfl rfl (by decide +kernel) (Nat.le_of_ble_eq_true rfl) hs (R_fail2 _ s o2.2.1 o2.2.2.1 o2.2.2.2 (by first | assumption | exact hs.zF _ | exact hs.zA _ _ | exact zS _ | exact ⟨by omega, by omega⟩ | omega) (by first | assumption | exact hs.zF _ | exact hs.zA _ _ | exact zS _ | exact ⟨by omega, by omega⟩ | omega)) (fun x h s2 hs q => ?_)
          obtain ⟨rfl, q1⟩ := q
          rw [q1] at hs
          show B_R _ _ (70, [(3, .int (Zi (o2.1))), (2, .int (Zi (o1.2.1 + 1))), (1, .int (Zi (o1.1))), (0, .ref 83)], []) _ _ _
          refine Z_go (f2 := (71, [(3, .int (Zi (o2.1))), (2, .int (Zi (o1.2.1 + 1))), (1, .int (Zi (o1.1))), (0, .ref 83)], [.int (Zi (o1.1))])) (fun _ => rfl) ?_
          refine Z_go (f2 := (73, [(4, .int (Zi (o1.1))), (3, .int (Zi (o2.1))), (2, .int (Zi (o1.2.1 + 1))), (1, .int (Zi (o1.1))), (0, .ref 83)], [])) (fun _ => rfl) ?_
          refine Z_go (f2 := (75, [(4, .int (Zi (o1.1))), (3, .int (Zi (o2.1))), (2, .int (Zi (o1.2.1 + 1))), (1, .int (Zi (o1.1))), (0, .ref 83)], [.int (Zi (o1.1))])) (fun _ => rfl) ?_
          refine Z_go (f2 := (76, [(4, .int (Zi (o1.1))), (3, .int (Zi (o2.1))), (2, .int (Zi (o1.2.1 + 1))), (1, .int (Zi (o1.1))), (0, .ref 83)], [.int (Zi (o2.1)), .int (Zi (o1.1))])) (fun _ => rfl) ?_
          refine Z_cgt rfl rfl (by first | exact hs.zF _ | exact Zor_r _ _ | exact hs.zA _ _ | assumption | exact zS _ | exact Zr_not (hs.zA _ _) | exact ⟨by omega, by omega⟩) (by first | exact hs.zF _ | exact Zor_r _ _ | exact hs.zA _ _ | assumption | exact zS _ | exact Zr_not (hs.zA _ _) | exact ⟨by omega, by omega⟩) (fun c1 => ?_) (fun c1 => ?_)
          · refine Z_go (f2 := (92, [(4, .int (Zi (o1.1))), (3, .int (Zi (o2.1))), (2, .int (Zi (o1.2.1 + 1))), (1, .int (Zi (o1.1))), (0, .ref 83)], [.int (Zi 1)])) (fun _ => rfl) ?_
            refine Z_iret rfl rfl (by first | rfl | decide | exact narrow_b01 (by omega)) ⟨_, hs, ?_, rfl⟩
            have e : D_pc (D_see s) a f p = (1, o2.2.1, (D_ff o2.2.2.1 o2.2.2.2 2 (o1.2.1 + 1)).1, (D_ff o2.2.2.1 o2.2.2.2 2 (o1.2.1 + 1)).2, fun _ => False) := by
              unfold D_pc
              dsimp only
              rw [← ho1, ← ho2]
              rw [if_neg (show ¬ o1.1 = -1 by omega), if_pos (show D_see s o1.2.1 = 45 by omega), if_neg (show ¬ o2.1 = -1 by omega), if_pos (show o2.1 < o1.1 by omega)]
            rw [e]
            exact ⟨rfl, (R_ss_0 _ _).weak (fun y _ _ => ⟨.inl, fun h => h.elim id False.elim⟩)⟩
          · exfalso; omega
      · refine Z_go (f2 := (58, [(3, .int (Zi (o2.1))), (2, .int (Zi (o1.2.1 + 1))), (1, .int (Zi (o1.1))), (0, .ref 83)], [.int (Zi 0)])) (fun _ => rfl) ?_
        refine Z_iret rfl rfl (by first | rfl | decide | exact narrow_b01 (by omega)) ⟨_, hs, ?_, rfl⟩
        have e : D_pc (D_see s) a f p = (0, o2.2.1, o2.2.2.1, o2.2.2.2, fun _ => False) := by
          unfold D_pc
          dsimp only
          rw [← ho1, ← ho2]
          rw [if_neg (show ¬ o1.1 = -1 by omega), if_pos (show D_see s o1.2.1 = 45 by omega), if_pos (show o2.1 = -1 by omega)]
        rw [e]
        exact ⟨rfl, (R_ss_0 _ _).weak (fun y _ _ => ⟨.inl, fun h => h.elim id False.elim⟩)⟩
    · refine Z_go (f2 := (26, [(1, .int (Zi (o1.1))), (0, .ref 83)], [.ref 83])) (fun _ => rfl) ?_
      refine Z_go (f2 := (27, [(1, .int (Zi (o1.1))), (0, .ref 83)], [.int (Zi (o1.1)), .ref 83])) (fun _ => rfl) ?_
      refine R_call (As := [.int (Zi (o1.1))]) (rest := []) rfl (by decide) rfl rfl rfl rfl (by decide +kernel) (Nat.le_of_ble_eq_true rfl) hs (R_put _ _ (by first | assumption | exact hs.zF _ | exact hs.zA _ _ | exact zS _ | exact ⟨by omega, by omega⟩ | omega) m1 m2 (by first | assumption | exact hs.zF _ | exact hs.zA _ _ | exact zS _ | exact ⟨by omega, by omega⟩ | omega) (by first | assumption | exact hs.zF _ | exact hs.zA _ _ | exact zS _ | exact ⟨by omega, by omega⟩ | omega)) (fun x h u hs q => ?_)
      obtain ⟨rfl, q1⟩ := q
      show B_R _ _ (30, [(1, .int (Zi (o1.1))), (0, .ref 83)], []) _ _ _
      refine Z_go (f2 := (31, [(1, .int (Zi (o1.1))), (0, .ref 83)], [.int (Zi 1)])) (fun _ => rfl) ?_
      refine Z_iret rfl rfl (by first | rfl | decide | exact narrow_b01 (by omega)) ⟨_, hs, ?_, rfl⟩
      have e : D_pc (D_see s) a f p = (1, o1.2.1, o1.2.2.1, o1.2.2.2, fun x => x = o1.1) := by
        unfold D_pc
        dsimp only
        rw [← ho1]
        rw [if_neg (show ¬ o1.1 = -1 by omega), if_neg (show ¬ D_see s o1.2.1 = 45 by omega)]
      rw [e]
      exact ⟨rfl, q1⟩
  · refine Z_go (f2 := (11, [(1, .int (Zi (o1.1))), (0, .ref 83)], [.int (Zi 0)])) (fun _ => rfl) ?_
    refine Z_iret rfl rfl (by first | rfl | decide | exact narrow_b01 (by omega)) ⟨_, hs, ?_, rfl⟩
    have e : D_pc (D_see s) a f p = (0, o1.2.1, o1.2.2.1, o1.2.2.2, fun _ => False) := by
      unfold D_pc
      dsimp only
      rw [← ho1]
      rw [if_pos (show o1.1 = -1 by omega)]
    rw [e]
    exact ⟨rfl, (R_ss_0 _ _).weak (fun y _ _ => ⟨.inl, fun h => h.elim id False.elim⟩)⟩
theorem R_ss_p3 {w u : R_S} {a f p m : Int} {H : Int → Prop} (h : R_ss (R_p3 w a f p) u m H) : ∃ w2, u = R_p3 w2 a f p ∧ R_ss w w2 m H ∧ D_see w2 = D_see w := by
  refine ⟨(w.1, u.2), ?_, ⟨rfl, h.2.1, h.2.2.1, h.2.2.2.1, h.2.2.2.2⟩, ?_⟩
  · show u = ((R_p3 w a f p).1, u.2)
    rw [← h.1]
  · funext k
    show (if k < w.1 1 then u.2.1 84 k else -1) = if k < w.1 1 then w.2.1 84 k else -1
    rw [h.2.1 84 k (by decide)]
    rfl
theorem R_ss_see {w w2 : R_S} {m : Int} {H : Int → Prop} (h : R_ss w w2 m H) : D_see w2 = D_see w := by
  funext k
  unfold D_see
  rw [h.1, h.2.1 84 k (by decide)]
/-- with the set the newest one -/
theorem R_put2 (d : Nat) (w : R_S) (a f p : Int) {b : Int} (zb : Zr b) (m0 : 1 ≤ w.1 15) (m1 : w.1 15 ≤ 90) (b0 : 0 ≤ b) (b1 : b < 256) : R_ok (d + 1) 199 [.int (Zi b)] (R_p3 w a f p) (fun x s2 => x = none ∧ ∃ w2, s2 = R_p3 w2 a f p ∧ R_ss w w2 (w.1 15 - 1) (fun y => R_has w (w.1 15 - 1) y ∨ y = b)) := by
  refine fun h0 h hs => (R_put d (R_p3 w a f p) zb m0 m1 b0 b1 h0 h hs).weak (fun r q => ?_)
  obtain ⟨s2, q1, ⟨q2, q3⟩, q5⟩ := q
  obtain ⟨w2, e1, e2, _⟩ := R_ss_p3 q3
  exact ⟨s2, q1, ⟨q2, w2, e1, e2⟩, q5⟩
theorem R_putKind2 (d : Nat) (w : R_S) (a f p : Int) {c : Int} (zc : Zr c) (m0 : 1 ≤ w.1 15) (m1 : w.1 15 ≤ 90) : R_ok (d + 3) 201 [.int (Zi c)] (R_p3 w a f p) (fun x s2 => x = none ∧ ∃ w2, s2 = R_p3 w2 a f p ∧ R_ss w w2 (w.1 15 - 1) (fun y => R_has w (w.1 15 - 1) y ∨ D_kd c y)) := by
  refine fun h0 h hs => (R_putKind d (R_p3 w a f p) zc m0 m1 h0 h hs).weak (fun r q => ?_)
  obtain ⟨s2, q1, ⟨q2, q3⟩, q5⟩ := q
  obtain ⟨w2, e1, e2, _⟩ := R_ss_p3 q3
  exact ⟨s2, q1, ⟨q2, w2, e1, e2⟩, q5⟩
theorem R_folds2 (d : Nat) (w : R_S) (a f p : Int) (m0 : 1 ≤ w.1 15) (m1 : w.1 15 ≤ 90) : R_ok (d + 2) 202 [] (R_p3 w a f p) (fun x s2 => x = none ∧ ∃ w2, s2 = R_p3 w2 a f p ∧ R_ss w w2 (w.1 15 - 1) (P_fold (w.1 17 ≠ 0) (R_has w (w.1 15 - 1)))) := by
  refine fun h0 h hs => (R_folds d (R_p3 w a f p) m0 m1 h0 h hs).weak (fun r q => ?_)
  obtain ⟨s2, q1, ⟨q2, q3⟩, q5⟩ := q
  rcases q3 with ⟨q3, q4⟩ | ⟨q3, q4⟩
  · refine ⟨s2, q1, ⟨q2, w, q4, (R_ss_0 _ _).weak (fun y _ _ => ⟨.inl, fun e => e.elim id (fun e => absurd q3 e.1)⟩)⟩, q5⟩
  · obtain ⟨w2, e1, e2, _⟩ := R_ss_p3 q4
    exact ⟨s2, q1, ⟨q2, w2, e1, e2.weak (fun y _ _ => ⟨fun e => e.elim .inl (fun e => .inr ⟨q3, e⟩), fun e => e.elim .inl (fun e => .inr e.2)⟩)⟩, q5⟩
theorem R_piece2 (d : Nat) (s : R_S) (a f p : Int) (a0 : 0 ≤ a) (a1 : a ≤ s.1 1) (t1 : s.1 1 ≤ 80) (tb : ∀ j, 0 ≤ s.2.1 84 j ∧ s.2.1 84 j < 256) (m1 : 1 ≤ s.1 15) (m2 : s.1 15 ≤ 90) : R_ok (d + 4) 208 [] (R_p3 s a f p) (fun x s2 => x = some (.int (Zi (D_pc (D_see s) a f p).1)) ∧ ∃ w2, s2 = R_p3 w2 (D_pc (D_see s) a f p).2.1 (D_pc (D_see s) a f p).2.2.1 (D_pc (D_see s) a f p).2.2.2.1 ∧ R_ss s w2 (s.1 15 - 1) (fun y => R_has s (s.1 15 - 1) y ∨ (D_pc (D_see s) a f p).2.2.2.2 y)) := by
  refine fun h0 h hs => (R_piece d s a f p a0 a1 t1 tb m1 m2 h0 h hs).weak (fun r q => ?_)
  obtain ⟨s2, q1, ⟨q2, q3⟩, q5⟩ := q
  obtain ⟨w2, e1, e2, _⟩ := R_ss_p3 q3
  exact ⟨s2, q1, ⟨q2, w2, e1, e2⟩, q5⟩
/-- w is s with operators and sets behind -/
def R_ap (s w : R_S) (E : List (Int × Int × Int)) (Hs : List (Int → Prop)) : Prop := (∀ b, b ≠ 13 → b ≠ 15 → w.1 b = s.1 b) ∧ (w.1 13 = s.1 13 + E.length) ∧ (w.1 15 = s.1 15 + Hs.length) ∧ (∀ q j, q ≠ 90 → q ≠ 91 → q ≠ 92 → q ≠ 93 → w.2.1 q j = s.2.1 q j) ∧ (w.2.2 = s.2.2) ∧ (∀ q j, q = 90 ∨ q = 91 ∨ q = 92 → j < s.1 13 → w.2.1 q j = s.2.1 q j) ∧ (∀ (i : Nat) (h : i < E.length), w.2.1 90 (s.1 13 + i) = E[i].1 ∧ w.2.1 91 (s.1 13 + i) = E[i].2.1 ∧ w.2.1 92 (s.1 13 + i) = E[i].2.2) ∧ (∀ k b, 0 ≤ k → k < s.1 15 → 0 ≤ b → b < 256 → (R_has w k b ↔ R_has s k b)) ∧ (∀ (i : Nat) (h : i < Hs.length) (b : Int), 0 ≤ b → b < 256 → (R_has w (s.1 15 + i) b ↔ Hs[i] b))
theorem R_ap.f {s w : R_S} {E : List (Int × Int × Int)} {Hs : List (Int → Prop)} (h : R_ap s w E Hs) : ∀ b, b ≠ 13 → b ≠ 15 → w.1 b = s.1 b := h.1
theorem R_ap.f13 {s w : R_S} {E : List (Int × Int × Int)} {Hs : List (Int → Prop)} (h : R_ap s w E Hs) : w.1 13 = s.1 13 + E.length := h.2.1
theorem R_ap.f15 {s w : R_S} {E : List (Int × Int × Int)} {Hs : List (Int → Prop)} (h : R_ap s w E Hs) : w.1 15 = s.1 15 + Hs.length := h.2.2.1
theorem R_ap.q {s w : R_S} {E : List (Int × Int × Int)} {Hs : List (Int → Prop)} (h : R_ap s w E Hs) : ∀ q j, q ≠ 90 → q ≠ 91 → q ≠ 92 → q ≠ 93 → w.2.1 q j = s.2.1 q j := h.2.2.2.1
theorem R_ap.l {s w : R_S} {E : List (Int × Int × Int)} {Hs : List (Int → Prop)} (h : R_ap s w E Hs) : w.2.2 = s.2.2 := h.2.2.2.2.1
theorem R_ap.p {s w : R_S} {E : List (Int × Int × Int)} {Hs : List (Int → Prop)} (h : R_ap s w E Hs) : ∀ q j, q = 90 ∨ q = 91 ∨ q = 92 → j < s.1 13 → w.2.1 q j = s.2.1 q j := h.2.2.2.2.2.1
theorem R_ap.e {s w : R_S} {E : List (Int × Int × Int)} {Hs : List (Int → Prop)} (h : R_ap s w E Hs) : ∀ (i : Nat) (h : i < E.length), w.2.1 90 (s.1 13 + i) = E[i].1 ∧ w.2.1 91 (s.1 13 + i) = E[i].2.1 ∧ w.2.1 92 (s.1 13 + i) = E[i].2.2 := h.2.2.2.2.2.2.1
theorem R_ap.k {s w : R_S} {E : List (Int × Int × Int)} {Hs : List (Int → Prop)} (h : R_ap s w E Hs) : ∀ k b, 0 ≤ k → k < s.1 15 → 0 ≤ b → b < 256 → (R_has w k b ↔ R_has s k b) := h.2.2.2.2.2.2.2.1
theorem R_ap.h {s w : R_S} {E : List (Int × Int × Int)} {Hs : List (Int → Prop)} (h : R_ap s w E Hs) : ∀ (i : Nat) (h : i < Hs.length) (b : Int), 0 ≤ b → b < 256 → (R_has w (s.1 15 + i) b ↔ Hs[i] b) := h.2.2.2.2.2.2.2.2
theorem R_ap_0 (s : R_S) : R_ap s s [] [] := ⟨fun _ _ _ => rfl, by simp, by simp, fun _ _ _ _ _ _ => rfl, rfl, fun _ _ _ _ => rfl, fun i h => absurd h (Nat.not_lt_zero _), fun _ _ _ _ _ _ => Iff.rfl, fun i h => absurd h (Nat.not_lt_zero _)⟩
theorem R_ap.see {s w : R_S} {E : List (Int × Int × Int)} {Hs : List (Int → Prop)} (h : R_ap s w E Hs) : D_see w = D_see s := by
  funext k
  unfold D_see
  rw [h.f 1 (by decide) (by decide), h.q 84 k (by decide) (by decide) (by decide) (by decide)]
theorem R_ap.trans {s w u : R_S} {E F : List (Int × Int × Int)} {Hs Gs : List (Int → Prop)} (h : R_ap s w E Hs) (g : R_ap w u F Gs) (m0 : 0 ≤ s.1 15) : R_ap s u (E ++ F) (Hs ++ Gs) := by
  have e13 := h.f13
  have e15 := h.f15
  refine ⟨fun b h1 h2 => by rw [g.f b h1 h2, h.f b h1 h2], by rw [g.f13, h.f13, List.length_append]; push_cast; omega, by rw [g.f15, h.f15, List.length_append]; push_cast; omega, fun q j h0 h1 h2 h3 => by rw [g.q q j h0 h1 h2 h3, h.q q j h0 h1 h2 h3], by rw [g.l, h.l], fun q j hq hj => by rw [g.p q j hq (by omega), h.p q j hq hj], fun i hi => ?_, fun k b k0 k1 b0 b1 => (g.k k b k0 (by omega) b0 b1).trans (h.k k b k0 k1 b0 b1), fun i hi b b0 b1 => ?_⟩
  · by_cases c : i < E.length
    · rw [List.getElem_append_left c, g.p 90 _ (.inl rfl) (by omega), g.p 91 _ (.inr (.inl rfl)) (by omega), g.p 92 _ (.inr (.inr rfl)) (by omega)]
      exact h.e i c
    · rw [List.getElem_append_right (by omega)]
      have := g.e (i - E.length) (by rw [List.length_append] at hi; omega)
      rw [show s.1 13 + (i : Int) = w.1 13 + ((i - E.length : Nat) : Int) by omega]
      exact this
  · by_cases c : i < Hs.length
    · rw [List.getElem_append_left c]
      exact (g.k _ b (by omega) (by omega) b0 b1).trans (h.h i c b b0 b1)
    · rw [List.getElem_append_right (by omega)]
      have := g.h (i - Hs.length) (by rw [List.length_append] at hi; omega) b b0 b1
      rw [show s.1 15 + (i : Int) = w.1 15 + ((i - Hs.length : Nat) : Int) by omega]
      exact this
theorem R_ap_ss {s w u : R_S} {E : List (Int × Int × Int)} {H G : Int → Prop} (h : R_ap s w E [H]) (g : R_ss w u (s.1 15) G) : R_ap s u E [G] := by
  refine ⟨fun b h1 h2 => by rw [g.1, h.f b h1 h2], by rw [g.1, h.f13], by rw [g.1, h.f15]; rfl, fun q j h0 h1 h2 h3 => by rw [g.2.1 q j h3, h.q q j h0 h1 h2 h3], by rw [g.2.2.1, h.l], fun q j hq hj => by rw [g.2.1 q j (by omega), h.p q j hq hj], fun i hi => ?_, fun k b k0 k1 b0 b1 => (g.2.2.2.1 k b k0 (by omega) b0 b1).trans (h.k k b k0 k1 b0 b1), fun i hi b b0 b1 => ?_⟩
  · rw [g.2.1 90 _ (by decide), g.2.1 91 _ (by decide), g.2.1 92 _ (by decide)]
    exact h.e i hi
  · have : i = 0 := by simp at hi; exact hi
    subst this
    rw [show s.1 15 + ((0 : Nat) : Int) = s.1 15 by simp]
    exact g.2.2.2.2 b b0 b1
def R_em (s : R_S) (op x y : Int) : R_S := R_sF (R_sA (R_sA (R_sA s 90 (s.1 13) op) 91 (s.1 13) x) 92 (s.1 13) y) 13 (s.1 13 + 1)
theorem R_ap_em (s : R_S) (op x y : Int) : R_ap s (R_em s op x y) [(op, x, y)] [] := by
  have ea : ∀ q j, (R_em s op x y).2.1 q j = if q = 92 ∧ j = s.1 13 then y else if q = 91 ∧ j = s.1 13 then x else if q = 90 ∧ j = s.1 13 then op else s.2.1 q j := fun q j => rfl
  refine ⟨fun b h1 h2 => R_sF_n _ _ h1, by show R_up s.1 13 (s.1 13 + 1) 13 = _; rw [R_up_s]; rfl, by show R_up s.1 13 (s.1 13 + 1) 15 = _; rw [R_up_n _ _ (by decide)]; simp, fun q j h0 h1 h2 h3 => ?_, rfl, fun q j hq hj => ?_, fun i hi => ?_, fun k b k0 k1 b0 b1 => Iff.rfl, fun i h => absurd h (Nat.not_lt_zero _)⟩
  · rw [ea, if_neg (fun e => h2 e.1), if_neg (fun e => h1 e.1), if_neg (fun e => h0 e.1)]
  · rw [ea, if_neg (by omega), if_neg (by omega), if_neg (by omega)]
  · have : i = 0 := by simp at hi; exact hi
    subst this
    refine ⟨?_, ?_, ?_⟩
    · rw [ea, if_neg (by omega), if_neg (by omega), if_pos ⟨rfl, by simp⟩]; rfl
    · rw [ea, if_neg (by omega), if_pos ⟨rfl, by simp⟩]; rfl
    · rw [ea, if_pos ⟨rfl, by simp⟩]; rfl
theorem R_emit2 (d : Nat) (w : R_S) (a f p : Int) {op x y : Int} (zop : Zr op) (zx : Zr x) (zy : Zr y) (w0 : 0 ≤ w.1 13) (w1 : w.1 13 < 400) : R_ok (d + 1) 192 [.int (Zi op), .int (Zi x), .int (Zi y)] (R_p3 w a f p) (fun r s2 => r = none ∧ s2 = R_p3 (R_em w op x y) a f p) := by
  refine fun h0 h hs => (R_emit d (R_p3 w a f p) zop zx zy w0 w1 h0 h hs).weak (fun r q => ?_)
  obtain ⟨s2, q1, ⟨q2, q3⟩, q5⟩ := q
  refine ⟨s2, q1, ⟨q2, ?_⟩, q5⟩
  rw [q3]
  have e : R_up (R_up (R_up (R_up w.1 16 a) 18 f) 19 p) 13 (w.1 13 + 1) = R_up (R_up (R_up (R_up w.1 13 (w.1 13 + 1)) 16 a) 18 f) 19 p := by
    funext b
    unfold R_up
    by_cases c1 : b = 13
    · simp [c1]
    · simp [c1]
  exact congrArg (fun z => (z, (R_em w op x y).2)) e
def R_nw (s : R_S) : R_S := R_sF (R_fl s 93 (8 * s.1 15) (8 * s.1 15 + 8) (fun _ => 0)) 15 (s.1 15 + 1)
theorem R_ap_nw {s : R_S} : R_ap s (R_nw s) [] [fun _ => False] := by
  have ea : ∀ j, (R_nw s).2.1 93 j = if 8 * s.1 15 ≤ j ∧ j < 8 * s.1 15 + 8 then 0 else s.2.1 93 j := by
    intro j
    show (if 93 = 93 ∧ 8 * s.1 15 ≤ j ∧ j < 8 * s.1 15 + 8 then (0 : Int) else s.2.1 93 j) = _
    by_cases c : 8 * s.1 15 ≤ j ∧ j < 8 * s.1 15 + 8
    · rw [if_pos c, if_pos ⟨rfl, c⟩]
    · rw [if_neg c, if_neg (fun e => c e.2)]
  refine ⟨fun b h1 h2 => R_sF_n _ _ h2, by show R_up s.1 15 (s.1 15 + 1) 13 = _; rw [R_up_n _ _ (by decide)]; simp, by show R_up s.1 15 (s.1 15 + 1) 15 = _; rw [R_up_s]; rfl, fun q j h0 h1 h2 h3 => if_neg (fun e => h3 e.1), rfl, fun q j hq hj => if_neg (fun e => by omega), fun i h => absurd h (Nat.not_lt_zero _), fun k b k0 k1 b0 b1 => ?_, fun i hi b b0 b1 => ?_⟩
  · unfold R_has
    rw [ea, if_neg (by omega)]
  · have : i = 0 := by simp at hi; exact hi
    subst this
    unfold R_has
    rw [ea, if_pos (by simp; omega)]
    unfold D_bit
    simp
theorem R_newSet2 (d : Nat) (w : R_S) (a f p : Int) (m0 : 0 ≤ w.1 15) (m1 : w.1 15 < 90) : R_ok (d + 1) 198 [] (R_p3 w a f p) (fun r s2 => r = none ∧ s2 = R_p3 (R_nw w) a f p) := by
  refine fun h0 h hs => (R_newSet d (R_p3 w a f p) m0 m1 h0 h hs).weak (fun r q => ?_)
  obtain ⟨s2, q1, ⟨q2, q3⟩, q5⟩ := q
  refine ⟨s2, q1, ⟨q2, ?_⟩, q5⟩
  rw [q3]
  have e : R_up (R_up (R_up (R_up w.1 16 a) 18 f) 19 p) 15 (w.1 15 + 1) = R_up (R_up (R_up (R_up w.1 15 (w.1 15 + 1)) 16 a) 18 f) 19 p := by
    funext b
    unfold R_up
    by_cases c1 : b = 15
    · simp [c1]
    · simp [c1]
  exact congrArg (fun z => (z, (R_nw w).2)) e
