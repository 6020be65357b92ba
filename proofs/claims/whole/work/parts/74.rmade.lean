/-! the reference: texts are gathered -/
/-- what is gathered at a place of the row of longs -/
def R_lg (s : R_S) (fr n : Int) : List Int := D_row (fun j => s.2.1 112 (fr + j)) n
theorem D_row_ne {A B : Int → Int} {n m : Int} (n0 : 0 ≤ n) (m0 : 0 ≤ m) (h : n ≠ m ∨ ∃ j, 0 ≤ j ∧ j < n ∧ A j ≠ B j) : D_row A n ≠ D_row B m := by
  intro e
  have hl := congrArg List.length e
  rw [D_row_len, D_row_len] at hl
  rcases h with h | ⟨j, j0, j1, j2⟩
  · omega
  · have hj := congrArg (fun l => l[j.toNat]?) e
    unfold D_row at hj
    simp only [List.getElem?_map, List.getElem?_range (show j.toNat < n.toNat by omega), List.getElem?_range (show j.toNat < m.toNat by omega)] at hj
    injection hj with hj
    have hj : A ((j.toNat : Nat) : Int) = B ((j.toNat : Nat) : Int) := hj
    rw [show ((j.toNat : Nat) : Int) = j by omega] at hj
    exact j2 hj
theorem R_im_i {d : Nat} {h0 : E_H} {s : R_S} {sl : Nat} {Φ : E_R → Prop} {k n fr : Int} (k0 : 0 ≤ k) (k1 : k < 8) (n0 : 0 ≤ n) (n1 : n ≤ 60) (f0 : 0 ≤ fr) (f1 : fr + n ≤ 9600) (z0 : 0 ≤ s.2.1 98 (8 * 40 + k)) (kont : ∀ (g : Int) (h : E_H), R_is h0 h s → (g = 1 ∧ R_trow s 40 k = R_lg s fr n ∨ g = 0 ∧ ¬ R_trow s 40 k = R_lg s fr n) → B_R (d + 1) E_m240 (82, [(4, .int (Zi g)), (3, .int (Zi k)), (0, .ref 83), (1, .int (Zi n)), (2, .int (Zi fr))], []) h sl Φ) : ∀ (t : Nat) (i g : Int) (h : E_H), n - i < t → R_is h0 h s → 0 ≤ i → i ≤ n → (g = 1 ∧ s.2.1 98 (8 * 40 + k) = n ∧ (∀ j, 0 ≤ j → j < i → s.2.1 99 (60 * (8 * 40 + k) + j) = s.2.1 112 (fr + j)) ∨ g = 0 ∧ ¬ R_trow s 40 k = R_lg s fr n) → B_R (d + 1) E_m240 (37, [(5, .int (Zi i)), (4, .int (Zi g)), (3, .int (Zi k)), (0, .ref 83), (1, .int (Zi n)), (2, .int (Zi fr))], []) h sl Φ := by
  intro t
  induction t with
  | zero => intro i g h ht hs i0 i1 hi; omega
  | succ t ih =>
    intro i g h ht hs i0 i1 hi
    refine Z_go (f2 := (39, [(5, .int (Zi i)), (4, .int (Zi g)), (3, .int (Zi k)), (0, .ref 83), (1, .int (Zi n)), (2, .int (Zi fr))], [.int (Zi i)])) (fun _ => rfl) ?_
    refine Z_go (f2 := (40, [(5, .int (Zi i)), (4, .int (Zi g)), (3, .int (Zi k)), (0, .ref 83), (1, .int (Zi n)), (2, .int (Zi fr))], [.int (Zi n), .int (Zi i)])) (fun _ => rfl) ?_
    refine Z_cge rfl rfl (by first | exact hs.zF _ | exact Zor_r _ _ | exact hs.zA _ _ | assumption | exact zA _ _ | exact zS _ | exact Zr_not (hs.zA _ _) | exact ⟨by omega, by omega⟩) (by first | exact hs.zF _ | exact Zor_r _ _ | exact hs.zA _ _ | assumption | exact zA _ _ | exact zS _ | exact Zr_not (hs.zA _ _) | exact ⟨by omega, by omega⟩) (fun c1 => ?_) (fun c1 => ?_)
    · refine B_loc (K := [(4, .int (Zi g)), (3, .int (Zi k)), (0, .ref 83), (1, .int (Zi n)), (2, .int (Zi fr))]) (N_all_sub ⟨rfl, rfl, rfl, rfl, rfl, trivial⟩) (show ([4, 3, 0, 1, 2] : List Nat).Nodup by decide) ?_
      refine kont g h hs ?_
      rcases hi with ⟨g1, g2, g3⟩ | hi
      · exact .inl ⟨g1, D_row_eq g2 (fun j j0 j1 => g3 j j0 (by omega))⟩
      · exact .inr hi
    · refine Z_go (f2 := (45, [(5, .int (Zi i)), (4, .int (Zi g)), (3, .int (Zi k)), (0, .ref 83), (1, .int (Zi n)), (2, .int (Zi fr))], [.int (Zi g)])) (fun _ => rfl) ?_
      refine Z_ieq rfl rfl (by first | exact hs.zF _ | exact Zor_r _ _ | exact hs.zA _ _ | assumption | exact zA _ _ | exact zS _ | exact Zr_not (hs.zA _ _) | exact ⟨by omega, by omega⟩) (fun c2 => ?_) (fun c2 => ?_)
      · refine B_loc (K := [(4, .int (Zi g)), (3, .int (Zi k)), (0, .ref 83), (1, .int (Zi n)), (2, .int (Zi fr))]) (N_all_sub ⟨rfl, rfl, rfl, rfl, rfl, trivial⟩) (show ([4, 3, 0, 1, 2] : List Nat).Nodup by decide) ?_
        refine kont g h hs ?_
        rcases hi with ⟨g1, g2, g3⟩ | hi
        · omega
        · exact .inr hi
      · refine Z_go (f2 := (49, [(5, .int (Zi i)), (4, .int (Zi g)), (3, .int (Zi k)), (0, .ref 83), (1, .int (Zi n)), (2, .int (Zi fr))], [.ref 83])) (fun _ => rfl) ?_
        refine Z_go (f2 := (51, [(5, .int (Zi i)), (4, .int (Zi g)), (3, .int (Zi k)), (0, .ref 83), (1, .int (Zi n)), (2, .int (Zi fr))], [.int (Zi 40), .ref 83])) (fun _ => rfl) ?_
        refine Z_go (f2 := (52, [(5, .int (Zi i)), (4, .int (Zi g)), (3, .int (Zi k)), (0, .ref 83), (1, .int (Zi n)), (2, .int (Zi fr))], [.int (Zi k), .int (Zi 40), .ref 83])) (fun _ => rfl) ?_
        refine Z_go (f2 := (54, [(5, .int (Zi i)), (4, .int (Zi g)), (3, .int (Zi k)), (0, .ref 83), (1, .int (Zi n)), (2, .int (Zi fr))], [.int (Zi i), .int (Zi k), .int (Zi 40), .ref 83])) (fun _ => rfl) ?_
        refine R_call (As := [.int (Zi 40), .int (Zi k), .int (Zi i)]) (rest := []) rfl (by decide) rfl rfl rfl rfl (by decide +kernel) (Nat.le_of_ble_eq_true rfl) hs (R_textByte _ s (by first | assumption | exact hs.zA _ _ | exact ⟨by omega, by omega⟩) (by first | assumption | exact hs.zA _ _ | exact ⟨by omega, by omega⟩) (by first | assumption | exact hs.zA _ _ | exact ⟨by omega, by omega⟩) (by omega) (by omega)) (fun x h s2 hs q => ?_)
        obtain ⟨q0, v, rfl, q2⟩ := q
        rw [q0] at hs
        rw [q2]
        show B_R _ _ (57, [(5, .int (Zi i)), (4, .int (Zi g)), (3, .int (Zi k)), (0, .ref 83), (1, .int (Zi n)), (2, .int (Zi fr))], [.int (Zi (s.2.1 99 (60 * (8 * 40 + k) + i)))]) _ _ _
        refine Z_go (f2 := (58, [(5, .int (Zi i)), (4, .int (Zi g)), (3, .int (Zi k)), (0, .ref 83), (1, .int (Zi n)), (2, .int (Zi fr))], [.ref 83, .int (Zi (s.2.1 99 (60 * (8 * 40 + k) + i)))])) (fun _ => rfl) ?_
        refine R_gr (q := 110) rfl hs rfl ?_
        show B_R _ _ (61, [(5, .int (Zi i)), (4, .int (Zi g)), (3, .int (Zi k)), (0, .ref 83), (1, .int (Zi n)), (2, .int (Zi fr))], [.ref 112, .int (Zi (s.2.1 99 (60 * (8 * 40 + k) + i)))]) _ _ _
        refine Z_go (f2 := (62, [(5, .int (Zi i)), (4, .int (Zi g)), (3, .int (Zi k)), (0, .ref 83), (1, .int (Zi n)), (2, .int (Zi fr))], [.int (Zi fr), .ref 112, .int (Zi (s.2.1 99 (60 * (8 * 40 + k) + i)))])) (fun _ => rfl) ?_
        refine Z_go (f2 := (64, [(5, .int (Zi i)), (4, .int (Zi g)), (3, .int (Zi k)), (0, .ref 83), (1, .int (Zi n)), (2, .int (Zi fr))], [.int (Zi i), .int (Zi fr), .ref 112, .int (Zi (s.2.1 99 (60 * (8 * 40 + k) + i)))])) (fun _ => rfl) ?_
        refine Z_iadd rfl ?_
        refine R_ia (q := 28) rfl hs rfl rfl (by omega) (by omega) (by decide) ?_
        refine Z_cne rfl rfl (by first | exact hs.zF _ | exact Zor_r _ _ | exact hs.zA _ _ | assumption | exact zA _ _ | exact zS _ | exact Zr_not (hs.zA _ _) | exact ⟨by omega, by omega⟩) (by first | exact hs.zF _ | exact Zor_r _ _ | exact hs.zA _ _ | assumption | exact zA _ _ | exact zS _ | exact Zr_not (hs.zA _ _) | exact ⟨by omega, by omega⟩) (fun c3 => ?_) (fun c3 => ?_)
        · refine Z_go (f2 := (74, [(5, .int (Zi i)), (4, .int (Zi g)), (3, .int (Zi k)), (0, .ref 83), (1, .int (Zi n)), (2, .int (Zi fr))], [.int (Zi 0)])) (fun _ => rfl) ?_
          refine Z_go (f2 := (76, [(4, .int (Zi 0)), (5, .int (Zi i)), (3, .int (Zi k)), (0, .ref 83), (1, .int (Zi n)), (2, .int (Zi fr))], [])) (fun _ => rfl) ?_
          refine Z_iinc (L2 := [(5, .int (Zi (i + 1))), (4, .int (Zi 0)), (3, .int (Zi k)), (0, .ref 83), (1, .int (Zi n)), (2, .int (Zi fr))]) rfl rfl (by decide) rfl ?_
          refine Z_go (f2 := (37, [(5, .int (Zi (i + 1))), (4, .int (Zi 0)), (3, .int (Zi k)), (0, .ref 83), (1, .int (Zi n)), (2, .int (Zi fr))], [])) (fun _ => rfl) ?_
          refine B_loc (K := [(5, .int (Zi (i + 1))), (4, .int (Zi 0)), (3, .int (Zi k)), (0, .ref 83), (1, .int (Zi n)), (2, .int (Zi fr))]) (N_all_sub ⟨rfl, rfl, rfl, rfl, rfl, rfl, trivial⟩) (show ([5, 4, 3, 0, 1, 2] : List Nat).Nodup by decide) ?_
          refine ih (i + 1) 0 h (by omega) hs (by omega) (by omega) (.inr ⟨rfl, D_row_ne z0 n0 ?_⟩)
          rcases hi with ⟨g1, g2, g3⟩ | hi
          · exact .inr ⟨i, i0, by omega, by assumption⟩
          · omega
        · refine Z_go (f2 := (70, [(5, .int (Zi i)), (4, .int (Zi g)), (3, .int (Zi k)), (0, .ref 83), (1, .int (Zi n)), (2, .int (Zi fr))], [.int (Zi 1)])) (fun _ => rfl) ?_
          refine Z_go (f2 := (74, [(5, .int (Zi i)), (4, .int (Zi g)), (3, .int (Zi k)), (0, .ref 83), (1, .int (Zi n)), (2, .int (Zi fr))], [.int (Zi 1)])) (fun _ => rfl) ?_
          refine Z_go (f2 := (76, [(4, .int (Zi 1)), (5, .int (Zi i)), (3, .int (Zi k)), (0, .ref 83), (1, .int (Zi n)), (2, .int (Zi fr))], [])) (fun _ => rfl) ?_
          refine Z_iinc (L2 := [(5, .int (Zi (i + 1))), (4, .int (Zi 1)), (3, .int (Zi k)), (0, .ref 83), (1, .int (Zi n)), (2, .int (Zi fr))]) rfl rfl (by decide) rfl ?_
          refine Z_go (f2 := (37, [(5, .int (Zi (i + 1))), (4, .int (Zi 1)), (3, .int (Zi k)), (0, .ref 83), (1, .int (Zi n)), (2, .int (Zi fr))], [])) (fun _ => rfl) ?_
          refine B_loc (K := [(5, .int (Zi (i + 1))), (4, .int (Zi 1)), (3, .int (Zi k)), (0, .ref 83), (1, .int (Zi n)), (2, .int (Zi fr))]) (N_all_sub ⟨rfl, rfl, rfl, rfl, rfl, rfl, trivial⟩) (show ([5, 4, 3, 0, 1, 2] : List Nat).Nodup by decide) ?_
          refine ih (i + 1) 1 h (by omega) hs (by omega) (by omega) (.inl ⟨rfl, ?_⟩)
          rcases hi with ⟨g1, g2, g3⟩ | hi
          · exact ⟨g2, fun j j0 j1 => (Classical.em (j = i)).elim (fun e => by rw [e]; assumption) (fun e => g3 j j0 (by omega))⟩
          · omega
theorem R_im_k {d : Nat} {h0 : E_H} {s : R_S} {sl : Nat} {Φ : E_R → Prop} {n fr : Int} (tv : R_tv s 40) (n0 : 0 ≤ n) (n1 : n ≤ 60) (f0 : 0 ≤ fr) (f1 : fr + n ≤ 9600) (y : ∀ h : E_H, R_is h0 h s → (∃ k, 0 ≤ k ∧ k < s.2.1 97 40 ∧ R_trow s 40 k = R_lg s fr n) → Φ (some (.int (Zi 1)), h, sl)) (z : ∀ h : E_H, R_is h0 h s → ¬ (∃ k, 0 ≤ k ∧ k < s.2.1 97 40 ∧ R_trow s 40 k = R_lg s fr n) → Φ (some (.int (Zi 0)), h, sl)) : ∀ (t : Nat) (k : Int) (h : E_H), s.2.1 97 40 - k < t → R_is h0 h s → 0 ≤ k → k ≤ s.2.1 97 40 → ¬ (∃ j, 0 ≤ j ∧ j < k ∧ R_trow s 40 j = R_lg s fr n) → B_R (d + 1) E_m240 (2, [(3, .int (Zi k)), (0, .ref 83), (1, .int (Zi n)), (2, .int (Zi fr))], []) h sl Φ := by
  obtain ⟨v0, v1, v2⟩ := id tv
  intro t
  induction t with
  | zero => intro k h ht hs k0 k1 hk; omega
  | succ t ih =>
    intro k h ht hs k0 k1 hk
    have e320 : s.2.1 98 (320 + k) = s.2.1 98 (8 * 40 + k) := rfl
    refine Z_go (f2 := (3, [(3, .int (Zi k)), (0, .ref 83), (1, .int (Zi n)), (2, .int (Zi fr))], [.int (Zi k)])) (fun _ => rfl) ?_
    refine Z_go (f2 := (4, [(3, .int (Zi k)), (0, .ref 83), (1, .int (Zi n)), (2, .int (Zi fr))], [.ref 83, .int (Zi k)])) (fun _ => rfl) ?_
    refine R_gr (q := 95) rfl hs rfl ?_
    show B_R _ _ (7, [(3, .int (Zi k)), (0, .ref 83), (1, .int (Zi n)), (2, .int (Zi fr))], [.ref 97, .int (Zi k)]) _ _ _
    refine Z_go (f2 := (9, [(3, .int (Zi k)), (0, .ref 83), (1, .int (Zi n)), (2, .int (Zi fr))], [.int (Zi 40), .ref 97, .int (Zi k)])) (fun _ => rfl) ?_
    refine R_ia (q := 13) rfl hs rfl rfl (by omega) (by omega) (by decide) ?_
    refine Z_cge rfl rfl (by first | exact hs.zF _ | exact Zor_r _ _ | exact hs.zA _ _ | assumption | exact zA _ _ | exact zS _ | exact Zr_not (hs.zA _ _) | exact ⟨by omega, by omega⟩) (by first | exact hs.zF _ | exact Zor_r _ _ | exact hs.zA _ _ | assumption | exact zA _ _ | exact zS _ | exact Zr_not (hs.zA _ _) | exact ⟨by omega, by omega⟩) (fun c1 => ?_) (fun c1 => ?_)
    · refine Z_go (f2 := (96, [(3, .int (Zi k)), (0, .ref 83), (1, .int (Zi n)), (2, .int (Zi fr))], [.int (Zi 0)])) (fun _ => rfl) ?_
      refine Z_iret rfl rfl (by first | rfl | decide | exact narrow_b01 (by omega)) ?_
      have e : k = s.2.1 97 40 := by omega
      rw [e] at hk
      exact z h hs hk
    · refine Z_go (f2 := (14, [(3, .int (Zi k)), (0, .ref 83), (1, .int (Zi n)), (2, .int (Zi fr))], [.ref 83])) (fun _ => rfl) ?_
      refine R_gr (q := 96) rfl hs rfl ?_
      show B_R _ _ (17, [(3, .int (Zi k)), (0, .ref 83), (1, .int (Zi n)), (2, .int (Zi fr))], [.ref 98]) _ _ _
      refine Z_go (f2 := (20, [(3, .int (Zi k)), (0, .ref 83), (1, .int (Zi n)), (2, .int (Zi fr))], [.int (Zi 320), .ref 98])) (fun _ => rfl) ?_
      refine Z_go (f2 := (21, [(3, .int (Zi k)), (0, .ref 83), (1, .int (Zi n)), (2, .int (Zi fr))], [.int (Zi k), .int (Zi 320), .ref 98])) (fun _ => rfl) ?_
      refine Z_iadd rfl ?_
      refine R_ia (q := 14) rfl hs rfl rfl (by omega) (by omega) (by decide) ?_
      refine Z_go (f2 := (24, [(3, .int (Zi k)), (0, .ref 83), (1, .int (Zi n)), (2, .int (Zi fr))], [.int (Zi n), .int (Zi (s.2.1 98 (320 + k)))])) (fun _ => rfl) ?_
      refine Z_cne rfl rfl (by first | exact hs.zF _ | exact Zor_r _ _ | exact hs.zA _ _ | assumption | exact zA _ _ | exact zS _ | exact Zr_not (hs.zA _ _) | exact ⟨by omega, by omega⟩) (by first | exact hs.zF _ | exact Zor_r _ _ | exact hs.zA _ _ | assumption | exact zA _ _ | exact zS _ | exact Zr_not (hs.zA _ _) | exact ⟨by omega, by omega⟩) (fun c2 => ?_) (fun c2 => ?_)
      · refine Z_go (f2 := (32, [(3, .int (Zi k)), (0, .ref 83), (1, .int (Zi n)), (2, .int (Zi fr))], [.int (Zi 0)])) (fun _ => rfl) ?_
        refine Z_go (f2 := (34, [(4, .int (Zi 0)), (3, .int (Zi k)), (0, .ref 83), (1, .int (Zi n)), (2, .int (Zi fr))], [])) (fun _ => rfl) ?_
        refine Z_go (f2 := (35, [(4, .int (Zi 0)), (3, .int (Zi k)), (0, .ref 83), (1, .int (Zi n)), (2, .int (Zi fr))], [.int (Zi 0)])) (fun _ => rfl) ?_
        refine Z_go (f2 := (37, [(5, .int (Zi 0)), (4, .int (Zi 0)), (3, .int (Zi k)), (0, .ref 83), (1, .int (Zi n)), (2, .int (Zi fr))], [])) (fun _ => rfl) ?_
        refine B_loc (K := [(5, .int (Zi 0)), (4, .int (Zi 0)), (3, .int (Zi k)), (0, .ref 83), (1, .int (Zi n)), (2, .int (Zi fr))]) (N_all_sub ⟨rfl, rfl, rfl, rfl, rfl, rfl, trivial⟩) (show ([5, 4, 3, 0, 1, 2] : List Nat).Nodup by decide) ?_
        refine R_im_i k0 (by omega) n0 n1 f0 f1 (v2 k k0 (by omega)).1 (fun g h hs hg => ?_) (n.toNat + 1) 0 0 h (by omega) hs (by omega) n0 (.inr ⟨rfl, D_row_ne (v2 k k0 (by omega)).1 n0 (.inl (by show s.2.1 98 (8 * 40 + k) ≠ n; omega))⟩)
        refine Z_go (f2 := (84, [(4, .int (Zi g)), (3, .int (Zi k)), (0, .ref 83), (1, .int (Zi n)), (2, .int (Zi fr))], [.int (Zi g)])) (fun _ => rfl) ?_
        refine Z_ieq rfl rfl (by first | exact hs.zF _ | exact Zor_r _ _ | exact hs.zA _ _ | assumption | exact zA _ _ | exact zS _ | exact Zr_not (hs.zA _ _) | exact ⟨by omega, by omega⟩) (fun b1 => ?_) (fun b1 => ?_)
        · refine Z_iinc (L2 := [(3, .int (Zi (k + 1))), (4, .int (Zi g)), (0, .ref 83), (1, .int (Zi n)), (2, .int (Zi fr))]) rfl rfl (by decide) rfl ?_
          refine Z_go (f2 := (2, [(3, .int (Zi (k + 1))), (4, .int (Zi g)), (0, .ref 83), (1, .int (Zi n)), (2, .int (Zi fr))], [])) (fun _ => rfl) ?_
          refine B_loc (K := [(3, .int (Zi (k + 1))), (0, .ref 83), (1, .int (Zi n)), (2, .int (Zi fr))]) (N_all_sub ⟨rfl, rfl, rfl, rfl, trivial⟩) (show ([3, 0, 1, 2] : List Nat).Nodup by decide) ?_
          refine ih (k + 1) h (by omega) hs (by omega) (by omega) (fun ⟨j, j0, j1, j2⟩ => ?_)
          by_cases c : j = k
          · rw [c] at j2
            rcases hg with q | q
            · omega
            · exact q.2 j2
          · exact hk ⟨j, j0, by omega, j2⟩
        · refine Z_go (f2 := (88, [(4, .int (Zi g)), (3, .int (Zi k)), (0, .ref 83), (1, .int (Zi n)), (2, .int (Zi fr))], [.int (Zi 1)])) (fun _ => rfl) ?_
          refine Z_iret rfl rfl (by first | rfl | decide | exact narrow_b01 (by omega)) ?_
          exact y h hs ⟨k, k0, by omega, by rcases hg with q | q; exact q.2; omega⟩
      · refine Z_go (f2 := (28, [(3, .int (Zi k)), (0, .ref 83), (1, .int (Zi n)), (2, .int (Zi fr))], [.int (Zi 1)])) (fun _ => rfl) ?_
        refine Z_go (f2 := (32, [(3, .int (Zi k)), (0, .ref 83), (1, .int (Zi n)), (2, .int (Zi fr))], [.int (Zi 1)])) (fun _ => rfl) ?_
        refine Z_go (f2 := (34, [(4, .int (Zi 1)), (3, .int (Zi k)), (0, .ref 83), (1, .int (Zi n)), (2, .int (Zi fr))], [])) (fun _ => rfl) ?_
        refine Z_go (f2 := (35, [(4, .int (Zi 1)), (3, .int (Zi k)), (0, .ref 83), (1, .int (Zi n)), (2, .int (Zi fr))], [.int (Zi 0)])) (fun _ => rfl) ?_
        refine Z_go (f2 := (37, [(5, .int (Zi 0)), (4, .int (Zi 1)), (3, .int (Zi k)), (0, .ref 83), (1, .int (Zi n)), (2, .int (Zi fr))], [])) (fun _ => rfl) ?_
        refine B_loc (K := [(5, .int (Zi 0)), (4, .int (Zi 1)), (3, .int (Zi k)), (0, .ref 83), (1, .int (Zi n)), (2, .int (Zi fr))]) (N_all_sub ⟨rfl, rfl, rfl, rfl, rfl, rfl, trivial⟩) (show ([5, 4, 3, 0, 1, 2] : List Nat).Nodup by decide) ?_
        refine R_im_i k0 (by omega) n0 n1 f0 f1 (v2 k k0 (by omega)).1 (fun g h hs hg => ?_) (n.toNat + 1) 0 1 h (by omega) hs (by omega) n0 (.inl ⟨rfl, by omega, fun j j0 j1 => by omega⟩)
        refine Z_go (f2 := (84, [(4, .int (Zi g)), (3, .int (Zi k)), (0, .ref 83), (1, .int (Zi n)), (2, .int (Zi fr))], [.int (Zi g)])) (fun _ => rfl) ?_
        refine Z_ieq rfl rfl (by first | exact hs.zF _ | exact Zor_r _ _ | exact hs.zA _ _ | assumption | exact zA _ _ | exact zS _ | exact Zr_not (hs.zA _ _) | exact ⟨by omega, by omega⟩) (fun b1 => ?_) (fun b1 => ?_)
        · refine Z_iinc (L2 := [(3, .int (Zi (k + 1))), (4, .int (Zi g)), (0, .ref 83), (1, .int (Zi n)), (2, .int (Zi fr))]) rfl rfl (by decide) rfl ?_
          refine Z_go (f2 := (2, [(3, .int (Zi (k + 1))), (4, .int (Zi g)), (0, .ref 83), (1, .int (Zi n)), (2, .int (Zi fr))], [])) (fun _ => rfl) ?_
          refine B_loc (K := [(3, .int (Zi (k + 1))), (0, .ref 83), (1, .int (Zi n)), (2, .int (Zi fr))]) (N_all_sub ⟨rfl, rfl, rfl, rfl, trivial⟩) (show ([3, 0, 1, 2] : List Nat).Nodup by decide) ?_
          refine ih (k + 1) h (by omega) hs (by omega) (by omega) (fun ⟨j, j0, j1, j2⟩ => ?_)
          by_cases c : j = k
          · rw [c] at j2
            rcases hg with q | q
            · omega
            · exact q.2 j2
          · exact hk ⟨j, j0, by omega, j2⟩
        · refine Z_go (f2 := (88, [(4, .int (Zi g)), (3, .int (Zi k)), (0, .ref 83), (1, .int (Zi n)), (2, .int (Zi fr))], [.int (Zi 1)])) (fun _ => rfl) ?_
          refine Z_iret rfl rfl (by first | rfl | decide | exact narrow_b01 (by omega)) ?_
          exact y h hs ⟨k, k0, by omega, by rcases hg with q | q; exact q.2; omega⟩
theorem R_isMade (d : Nat) (s : R_S) {n fr : Int}  (zn : Zr n) (zfr : Zr fr) (tv : R_tv s 40) (n0 : 0 ≤ n) (n1 : n ≤ 60) (f0 : 0 ≤ fr) (f1 : fr + n ≤ 9600) : R_ok (d + 2) 240 [.int (Zi n), .int (Zi fr)] s (fun x s2 => s2 = s ∧ ∃ v : Int, x = some (.int (Zi v)) ∧ (v = 1 ∧ (∃ k, 0 ≤ k ∧ k < s.2.1 97 40 ∧ R_trow s 40 k = R_lg s fr n) ∨ v = 0 ∧ ¬ (∃ k, 0 ≤ k ∧ k < s.2.1 97 40 ∧ R_trow s 40 k = R_lg s fr n))) := by
  refine R_enter (M := E_m240) rfl (Nat.le_of_ble_eq_true rfl) (fun h0 h hs => ?_)
  show B_R (d + 1) _ (0, [(0, .ref 83), (1, .int (Zi n)), (2, .int (Zi fr))], []) _ _ _
  refine Z_go (f2 := (1, [(0, .ref 83), (1, .int (Zi n)), (2, .int (Zi fr))], [.int (Zi 0)])) (fun _ => rfl) ?_
  refine Z_go (f2 := (2, [(3, .int (Zi 0)), (0, .ref 83), (1, .int (Zi n)), (2, .int (Zi fr))], [])) (fun _ => rfl) ?_
  refine B_loc (K := [(3, .int (Zi 0)), (0, .ref 83), (1, .int (Zi n)), (2, .int (Zi fr))]) (N_all_sub ⟨rfl, rfl, rfl, rfl, trivial⟩) (show ([3, 0, 1, 2] : List Nat).Nodup by decide) ?_
  refine R_im_k tv n0 n1 f0 f1 (fun h hs q => ⟨s, hs, ⟨rfl, _, rfl, .inl ⟨rfl, q⟩⟩, rfl⟩) (fun h hs q => ⟨s, hs, ⟨rfl, _, rfl, .inr ⟨rfl, q⟩⟩, rfl⟩) ((s.2.1 97 40).toNat + 1) 0 h (by omega) hs (by omega) tv.1 (fun ⟨j, j0, j1, _⟩ => by omega)
