/-! the reference: meets, one pair -/
theorem R_me_x {d : Nat} {h0 : E_H} {s : R_S} {sl : Nat} {Φ : E_R → Prop} {i j p q w e n : Int} (ve : X_v e) (n0 : 0 ≤ n) (n2 : n ≤ 2) (p0 : 0 ≤ s.1 43) (p1 : s.1 43 < 160) (kont : ∀ (h : E_H), R_is h0 h (R_fl s 112 (60 * s.1 43 + n) (60 * s.1 43 + n + e / 65536) (fun c => if c = 60 * s.1 43 + n then e / 256 % 256 else e % 256)) → B_R (d + 1) E_m244 (131, [(8, .int (Zi (e / 65536))), (7, .int (Zi e)), (6, .int (Zi w)), (5, .int (Zi (n + e / 65536))), (4, .int (Zi j)), (3, .int (Zi i)), (0, .ref 83), (1, .int (Zi p)), (2, .int (Zi q))], []) h sl Φ) : ∀ (t : Nat) (x y : Int) (h : E_H), e / 65536 - x < t → y = n + x → R_is h0 h (R_fl s 112 (60 * s.1 43 + n) (60 * s.1 43 + n + x) (fun c => if c = 60 * s.1 43 + n then e / 256 % 256 else e % 256)) → 0 ≤ x → x ≤ e / 65536 → B_R (d + 1) E_m244 (79, [(8, .int (Zi x)), (7, .int (Zi e)), (6, .int (Zi w)), (5, .int (Zi y)), (4, .int (Zi j)), (3, .int (Zi i)), (0, .ref 83), (1, .int (Zi p)), (2, .int (Zi q))], []) h sl Φ := by
  have hv : 0 ≤ e ∧ e < 196608 := by unfold X_v at ve; omega
  obtain ⟨e0, e1⟩ := hv
  intro t
  induction t with
  | zero => intro x y h ht hy hs x0 x1; omega
  | succ t ih =>
    intro x y h ht hy hs x0 x1
    refine Z_go (f2 := (81, [(8, .int (Zi x)), (7, .int (Zi e)), (6, .int (Zi w)), (5, .int (Zi y)), (4, .int (Zi j)), (3, .int (Zi i)), (0, .ref 83), (1, .int (Zi p)), (2, .int (Zi q))], [.int (Zi x)])) (fun _ => rfl) ?_
    refine Z_go (f2 := (83, [(8, .int (Zi x)), (7, .int (Zi e)), (6, .int (Zi w)), (5, .int (Zi y)), (4, .int (Zi j)), (3, .int (Zi i)), (0, .ref 83), (1, .int (Zi p)), (2, .int (Zi q))], [.int (Zi e), .int (Zi x)])) (fun _ => rfl) ?_
    refine Z_callQ (vs := [.int (Zi e)]) (rest := [.int (Zi x)]) rfl (by decide) rfl rfl rfl (Nat.le_of_ble_eq_true rfl) (R_sizeOf _ (by first | assumption | exact hs.zA _ _ | exact ⟨by omega, by omega⟩) (by omega) (by omega)) (fun x q => ?_)
    obtain rfl := q
    show B_R _ _ (86, [(8, .int (Zi x)), (7, .int (Zi e)), (6, .int (Zi w)), (5, .int (Zi y)), (4, .int (Zi j)), (3, .int (Zi i)), (0, .ref 83), (1, .int (Zi p)), (2, .int (Zi q))], [.int (Zi (e / 65536)), .int (Zi x)]) _ _ _
    refine Z_cge rfl rfl (by first | exact hs.zF _ | exact Zor_r _ _ | exact hs.zA _ _ | assumption | exact zA _ _ | exact zS _ | exact Zr_not (hs.zA _ _) | exact ⟨by omega, by omega⟩) (by first | exact hs.zF _ | exact Zor_r _ _ | exact hs.zA _ _ | assumption | exact zA _ _ | exact zS _ | exact Zr_not (hs.zA _ _) | exact ⟨by omega, by omega⟩) (fun c1 => ?_) (fun c1 => ?_)
    · obtain rfl : x = e / 65536 := by omega
      rw [hy]
      exact kont h hs
    · refine Z_go (f2 := (90, [(8, .int (Zi x)), (7, .int (Zi e)), (6, .int (Zi w)), (5, .int (Zi y)), (4, .int (Zi j)), (3, .int (Zi i)), (0, .ref 83), (1, .int (Zi p)), (2, .int (Zi q))], [.ref 83])) (fun _ => rfl) ?_
      refine R_gr (q := 110) rfl hs rfl ?_
      show B_R _ _ (93, [(8, .int (Zi x)), (7, .int (Zi e)), (6, .int (Zi w)), (5, .int (Zi y)), (4, .int (Zi j)), (3, .int (Zi i)), (0, .ref 83), (1, .int (Zi p)), (2, .int (Zi q))], [.ref 112]) _ _ _
      refine Z_go (f2 := (95, [(8, .int (Zi x)), (7, .int (Zi e)), (6, .int (Zi w)), (5, .int (Zi y)), (4, .int (Zi j)), (3, .int (Zi i)), (0, .ref 83), (1, .int (Zi p)), (2, .int (Zi q))], [.int (Zi 60), .ref 112])) (fun _ => rfl) ?_
      refine Z_go (f2 := (96, [(8, .int (Zi x)), (7, .int (Zi e)), (6, .int (Zi w)), (5, .int (Zi y)), (4, .int (Zi j)), (3, .int (Zi i)), (0, .ref 83), (1, .int (Zi p)), (2, .int (Zi q))], [.ref 83, .int (Zi 60), .ref 112])) (fun _ => rfl) ?_
      refine R_gi rfl hs rfl ?_
      show B_R _ _ (99, [(8, .int (Zi x)), (7, .int (Zi e)), (6, .int (Zi w)), (5, .int (Zi y)), (4, .int (Zi j)), (3, .int (Zi i)), (0, .ref 83), (1, .int (Zi p)), (2, .int (Zi q))], [.int (Zi (s.1 43)), .int (Zi 60), .ref 112]) _ _ _
      refine Z_imul rfl ?_
      refine Z_go (f2 := (102, [(8, .int (Zi x)), (7, .int (Zi e)), (6, .int (Zi w)), (5, .int (Zi y)), (4, .int (Zi j)), (3, .int (Zi i)), (0, .ref 83), (1, .int (Zi p)), (2, .int (Zi q))], [.int (Zi y), .int (Zi (60 * (s.1 43))), .ref 112])) (fun _ => rfl) ?_
      refine Z_iadd rfl ?_
      refine Z_go (f2 := (105, [(8, .int (Zi x)), (7, .int (Zi e)), (6, .int (Zi w)), (5, .int (Zi y)), (4, .int (Zi j)), (3, .int (Zi i)), (0, .ref 83), (1, .int (Zi p)), (2, .int (Zi q))], [.int (Zi x), .int (Zi (60 * (s.1 43) + y)), .ref 112])) (fun _ => rfl) ?_
      refine Z_ine rfl rfl (by first | exact hs.zF _ | exact Zor_r _ _ | exact hs.zA _ _ | assumption | exact zA _ _ | exact zS _ | exact Zr_not (hs.zA _ _) | exact ⟨by omega, by omega⟩) (fun c2 => ?_) (fun c2 => ?_)
      · refine Z_go (f2 := (118, [(8, .int (Zi x)), (7, .int (Zi e)), (6, .int (Zi w)), (5, .int (Zi y)), (4, .int (Zi j)), (3, .int (Zi i)), (0, .ref 83), (1, .int (Zi p)), (2, .int (Zi q))], [.int (Zi e), .int (Zi (60 * (s.1 43) + y)), .ref 112])) (fun _ => rfl) ?_
        refine Z_callQ (vs := [.int (Zi e)]) (rest := [.int (Zi (60 * (s.1 43) + y)), .ref 112]) rfl (by decide) rfl rfl rfl (Nat.le_of_ble_eq_true rfl) (R_secondOf _ (by first | assumption | exact hs.zA _ _ | exact ⟨by omega, by omega⟩) (by omega) (by omega)) (fun x q => ?_)
        obtain rfl := q
        show B_R _ _ (121, [(8, .int (Zi x)), (7, .int (Zi e)), (6, .int (Zi w)), (5, .int (Zi y)), (4, .int (Zi j)), (3, .int (Zi i)), (0, .ref 83), (1, .int (Zi p)), (2, .int (Zi q))], [.int (Zi (e % 256)), .int (Zi (60 * (s.1 43) + y)), .ref 112]) _ _ _
        refine R_is_ (q := 28) rfl hs rfl rfl (by omega) (by omega) (by decide) (by first | exact hs.zF _ | exact Zor_r _ _ | exact hs.zA _ _ | assumption | exact zA _ _ | exact zS _ | exact Zr_not (hs.zA _ _) | exact ⟨by omega, by omega⟩) (fun h hs => ?_)
        refine Z_iinc (L2 := [(5, .int (Zi (y + 1))), (8, .int (Zi x)), (7, .int (Zi e)), (6, .int (Zi w)), (4, .int (Zi j)), (3, .int (Zi i)), (0, .ref 83), (1, .int (Zi p)), (2, .int (Zi q))]) rfl rfl (by decide) rfl ?_
        refine Z_iinc (L2 := [(8, .int (Zi (x + 1))), (5, .int (Zi (y + 1))), (7, .int (Zi e)), (6, .int (Zi w)), (4, .int (Zi j)), (3, .int (Zi i)), (0, .ref 83), (1, .int (Zi p)), (2, .int (Zi q))]) rfl rfl (by decide) rfl ?_
        refine Z_go (f2 := (79, [(8, .int (Zi (x + 1))), (5, .int (Zi (y + 1))), (7, .int (Zi e)), (6, .int (Zi w)), (4, .int (Zi j)), (3, .int (Zi i)), (0, .ref 83), (1, .int (Zi p)), (2, .int (Zi q))], [])) (fun _ => rfl) ?_
        refine B_loc (K := [(8, .int (Zi (x + 1))), (7, .int (Zi e)), (6, .int (Zi w)), (5, .int (Zi (y + 1))), (4, .int (Zi j)), (3, .int (Zi i)), (0, .ref 83), (1, .int (Zi p)), (2, .int (Zi q))]) (N_all_sub ⟨rfl, rfl, rfl, rfl, rfl, rfl, rfl, rfl, rfl, trivial⟩) (show ([8, 7, 6, 5, 4, 3, 0, 1, 2] : List Nat).Nodup by decide) ?_
        rw [R_fl_st (by omega) (by omega) (by first | (show _ = if _ then _ else _; rw [if_pos (by omega)]) | (show _ = if _ then _ else _; rw [if_neg (by omega)]))] at hs
        exact ih (x + 1) (y + 1) h (by omega) (by omega) (by rw [← Int.add_assoc]; exact hs) (by omega) (by omega)
      · refine Z_go (f2 := (110, [(8, .int (Zi x)), (7, .int (Zi e)), (6, .int (Zi w)), (5, .int (Zi y)), (4, .int (Zi j)), (3, .int (Zi i)), (0, .ref 83), (1, .int (Zi p)), (2, .int (Zi q))], [.int (Zi e), .int (Zi (60 * (s.1 43) + y)), .ref 112])) (fun _ => rfl) ?_
        refine Z_callQ (vs := [.int (Zi e)]) (rest := [.int (Zi (60 * (s.1 43) + y)), .ref 112]) rfl (by decide) rfl rfl rfl (Nat.le_of_ble_eq_true rfl) (R_firstOf _ (by first | assumption | exact hs.zA _ _ | exact ⟨by omega, by omega⟩) (by omega) (by omega)) (fun x q => ?_)
        obtain rfl := q
        show B_R _ _ (113, [(8, .int (Zi x)), (7, .int (Zi e)), (6, .int (Zi w)), (5, .int (Zi y)), (4, .int (Zi j)), (3, .int (Zi i)), (0, .ref 83), (1, .int (Zi p)), (2, .int (Zi q))], [.int (Zi (e / 256 % 256)), .int (Zi (60 * (s.1 43) + y)), .ref 112]) _ _ _
        refine Z_go (f2 := (121, [(8, .int (Zi x)), (7, .int (Zi e)), (6, .int (Zi w)), (5, .int (Zi y)), (4, .int (Zi j)), (3, .int (Zi i)), (0, .ref 83), (1, .int (Zi p)), (2, .int (Zi q))], [.int (Zi (e / 256 % 256)), .int (Zi (60 * (s.1 43) + y)), .ref 112])) (fun _ => rfl) ?_
        refine R_is_ (q := 28) rfl hs rfl rfl (by omega) (by omega) (by decide) (by first | exact hs.zF _ | exact Zor_r _ _ | exact hs.zA _ _ | assumption | exact zA _ _ | exact zS _ | exact Zr_not (hs.zA _ _) | exact ⟨by omega, by omega⟩) (fun h hs => ?_)
        refine Z_iinc (L2 := [(5, .int (Zi (y + 1))), (8, .int (Zi x)), (7, .int (Zi e)), (6, .int (Zi w)), (4, .int (Zi j)), (3, .int (Zi i)), (0, .ref 83), (1, .int (Zi p)), (2, .int (Zi q))]) rfl rfl (by decide) rfl ?_
        refine Z_iinc (L2 := [(8, .int (Zi (x + 1))), (5, .int (Zi (y + 1))), (7, .int (Zi e)), (6, .int (Zi w)), (4, .int (Zi j)), (3, .int (Zi i)), (0, .ref 83), (1, .int (Zi p)), (2, .int (Zi q))]) rfl rfl (by decide) rfl ?_
        refine Z_go (f2 := (79, [(8, .int (Zi (x + 1))), (5, .int (Zi (y + 1))), (7, .int (Zi e)), (6, .int (Zi w)), (4, .int (Zi j)), (3, .int (Zi i)), (0, .ref 83), (1, .int (Zi p)), (2, .int (Zi q))], [])) (fun _ => rfl) ?_
        refine B_loc (K := [(8, .int (Zi (x + 1))), (7, .int (Zi e)), (6, .int (Zi w)), (5, .int (Zi (y + 1))), (4, .int (Zi j)), (3, .int (Zi i)), (0, .ref 83), (1, .int (Zi p)), (2, .int (Zi q))]) (N_all_sub ⟨rfl, rfl, rfl, rfl, rfl, rfl, rfl, rfl, rfl, trivial⟩) (show ([8, 7, 6, 5, 4, 3, 0, 1, 2] : List Nat).Nodup by decide) ?_
        rw [R_fl_st (by omega) (by omega) (by first | (show _ = if _ then _ else _; rw [if_pos (by omega)]) | (show _ = if _ then _ else _; rw [if_neg (by omega)]))] at hs
        exact ih (x + 1) (y + 1) h (by omega) (by omega) (by rw [← Int.add_assoc]; exact hs) (by omega) (by omega)
