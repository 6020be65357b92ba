/-! the reference: or, the ends of both sides -/
set_option maxRecDepth 4000 in
theorem R_or_hp {d : Nat} {h0 : E_H} {s : R_S} {sl : Nat} {Φ : E_R → Prop} {p q N0 : Int} {P0 H : P_X} (p0 : 0 ≤ p) (p1 : p < 44) (q0 : 0 ≤ q) (q1 : q < 44) (hH : R_EN 100 s p H) (n0 : 0 ≤ N0) (n1 : N0 ≤ 100) (kont : ∀ (u : R_S) (h : E_H), R_is h0 h u → R_shp s u (N0 + s.2.1 100 p) (F_or P0 H) → B_R (d + 2) E_m245 (218, [(0, .ref 83), (1, .int (Zi p)), (2, .int (Zi q))], []) h sl Φ) : ∀ (f : Nat) (i : Int) (u : R_S) (h : E_H), s.2.1 100 p - i < f → R_is h0 h u → R_shp s u (N0 + i) (F_or P0 (R_en s 101 p i)) → 0 ≤ i → i ≤ s.2.1 100 p → B_R (d + 2) E_m245 (187, [(3, .int (Zi i)), (0, .ref 83), (1, .int (Zi p)), (2, .int (Zi q))], []) h sl Φ := by
  intro f
  induction f with
  | zero => intro i u h ht hs hu i0 i1; omega
  | succ f ih =>
    intro i u h ht hs hu i0 i1
    have ec : u.2.1 100 p = s.2.1 100 p := hu.2.1 100 _ (by decide)
    have ee : u.2.1 101 (12 * p + i) = s.2.1 101 (12 * p + i) := hu.2.1 101 _ (by decide)
    have e41 := hu.2.2.2.1
    have h12 := hH.2.1
    refine Z_go (f2 := (188, [(3, .int (Zi i)), (0, .ref 83), (1, .int (Zi p)), (2, .int (Zi q))], [.int (Zi i)])) (fun _ => rfl) ?_
    refine Z_go (f2 := (189, [(3, .int (Zi i)), (0, .ref 83), (1, .int (Zi p)), (2, .int (Zi q))], [.ref 83, .int (Zi i)])) (fun _ => rfl) ?_
    refine R_gr (q := 98) rfl hs rfl ?_
    show B_R _ _ (192, [(3, .int (Zi i)), (0, .ref 83), (1, .int (Zi p)), (2, .int (Zi q))], [.ref 100, .int (Zi i)]) _ _ _
    refine Z_go (f2 := (193, [(3, .int (Zi i)), (0, .ref 83), (1, .int (Zi p)), (2, .int (Zi q))], [.int (Zi p), .ref 100, .int (Zi i)])) (fun _ => rfl) ?_
    refine R_ia (q := 16) rfl hs rfl rfl (by omega) (by omega) (by decide) ?_
    refine Z_cge rfl rfl (by first | exact hs.zF _ | exact Zor_r _ _ | exact hs.zA _ _ | assumption | exact zA _ _ | exact zS _ | exact Zr_not (hs.zA _ _) | exact ⟨by omega, by omega⟩) (by first | exact hs.zF _ | exact Zor_r _ _ | exact hs.zA _ _ | assumption | exact zA _ _ | exact zS _ | exact Zr_not (hs.zA _ _) | exact ⟨by omega, by omega⟩) (fun c1 => ?_) (fun c1 => ?_)
    · refine B_loc (K := [(0, .ref 83), (1, .int (Zi p)), (2, .int (Zi q))]) (N_all_sub ⟨rfl, rfl, rfl, trivial⟩) (show ([0, 1, 2] : List Nat).Nodup by decide) ?_
      obtain rfl : i = s.2.1 100 p := by omega
      rw [hH.en 101 rfl] at hu
      exact kont u h hs hu
    · have ve : X_v (u.2.1 101 (12 * p + i)) := by rw [ee]; exact hH.2.2.1 i i0 (by omega)
      refine Z_go (f2 := (198, [(3, .int (Zi i)), (0, .ref 83), (1, .int (Zi p)), (2, .int (Zi q))], [.ref 83])) (fun _ => rfl) ?_
      refine Z_go (f2 := (199, [(3, .int (Zi i)), (0, .ref 83), (1, .int (Zi p)), (2, .int (Zi q))], [.ref 83, .ref 83])) (fun _ => rfl) ?_
      refine R_gr (q := 99) rfl hs rfl ?_
      show B_R _ _ (202, [(3, .int (Zi i)), (0, .ref 83), (1, .int (Zi p)), (2, .int (Zi q))], [.ref 101, .ref 83]) _ _ _
      refine Z_go (f2 := (204, [(3, .int (Zi i)), (0, .ref 83), (1, .int (Zi p)), (2, .int (Zi q))], [.int (Zi 12), .ref 101, .ref 83])) (fun _ => rfl) ?_
      refine Z_go (f2 := (205, [(3, .int (Zi i)), (0, .ref 83), (1, .int (Zi p)), (2, .int (Zi q))], [.int (Zi p), .int (Zi 12), .ref 101, .ref 83])) (fun _ => rfl) ?_
      refine Z_imul rfl ?_
      refine Z_go (f2 := (207, [(3, .int (Zi i)), (0, .ref 83), (1, .int (Zi p)), (2, .int (Zi q))], [.int (Zi i), .int (Zi (12 * p)), .ref 101, .ref 83])) (fun _ => rfl) ?_
      refine Z_iadd rfl ?_
      refine R_ia (q := 17) rfl hs rfl rfl (by omega) (by omega) (by decide) ?_
      refine R_call (As := [.int (Zi (u.2.1 101 (12 * p + i)))]) (rest := []) rfl (by decide) rfl rfl rfl rfl (by decide +kernel) (Nat.le_of_ble_eq_true rfl) hs (R_addShort _ u ve.zr (by omega) (by omega)) (fun x h w hs q => ?_)
      obtain ⟨rfl, qw⟩ := q
      show B_R _ _ (212, [(3, .int (Zi i)), (0, .ref 83), (1, .int (Zi p)), (2, .int (Zi q))], []) _ _ _
      refine Z_iinc (L2 := [(3, .int (Zi (i + 1))), (0, .ref 83), (1, .int (Zi p)), (2, .int (Zi q))]) rfl rfl (by decide) rfl ?_
      refine Z_go (f2 := (187, [(3, .int (Zi (i + 1))), (0, .ref 83), (1, .int (Zi p)), (2, .int (Zi q))], [])) (fun _ => rfl) ?_
      refine B_loc (K := [(3, .int (Zi (i + 1))), (0, .ref 83), (1, .int (Zi p)), (2, .int (Zi q))]) (N_all_sub ⟨rfl, rfl, rfl, rfl, trivial⟩) (show ([3, 0, 1, 2] : List Nat).Nodup by decide) ?_
      have hw := hu.add (by omega) ve
      rw [← qw, ee, F_or_assoc, R_en_s s 101 p i0, Int.add_assoc] at hw
      exact ih (i + 1) w h (by omega) hs hw (by omega) (by omega)
set_option maxRecDepth 4000 in
theorem R_or_hq {d : Nat} {h0 : E_H} {s : R_S} {sl : Nat} {Φ : E_R → Prop} {p q N0 : Int} {P0 H : P_X} (p0 : 0 ≤ p) (p1 : p < 44) (q0 : 0 ≤ q) (q1 : q < 44) (hH : R_EN 100 s q H) (n0 : 0 ≤ N0) (n1 : N0 ≤ 100) (kont : ∀ (u : R_S) (h : E_H), R_is h0 h u → R_shp s u (N0 + s.2.1 100 q) (F_or P0 H) → B_R (d + 2) E_m245 (251, [(0, .ref 83), (1, .int (Zi p)), (2, .int (Zi q))], []) h sl Φ) : ∀ (f : Nat) (i : Int) (u : R_S) (h : E_H), s.2.1 100 q - i < f → R_is h0 h u → R_shp s u (N0 + i) (F_or P0 (R_en s 101 q i)) → 0 ≤ i → i ≤ s.2.1 100 q → B_R (d + 2) E_m245 (220, [(3, .int (Zi i)), (0, .ref 83), (1, .int (Zi p)), (2, .int (Zi q))], []) h sl Φ := by
  intro f
  induction f with
  | zero => intro i u h ht hs hu i0 i1; omega
  | succ f ih =>
    intro i u h ht hs hu i0 i1
    have ec : u.2.1 100 q = s.2.1 100 q := hu.2.1 100 _ (by decide)
    have ee : u.2.1 101 (12 * q + i) = s.2.1 101 (12 * q + i) := hu.2.1 101 _ (by decide)
    have e41 := hu.2.2.2.1
    have h12 := hH.2.1
    refine Z_go (f2 := (221, [(3, .int (Zi i)), (0, .ref 83), (1, .int (Zi p)), (2, .int (Zi q))], [.int (Zi i)])) (fun _ => rfl) ?_
    refine Z_go (f2 := (222, [(3, .int (Zi i)), (0, .ref 83), (1, .int (Zi p)), (2, .int (Zi q))], [.ref 83, .int (Zi i)])) (fun _ => rfl) ?_
    refine R_gr (q := 98) rfl hs rfl ?_
    show B_R _ _ (225, [(3, .int (Zi i)), (0, .ref 83), (1, .int (Zi p)), (2, .int (Zi q))], [.ref 100, .int (Zi i)]) _ _ _
    refine Z_go (f2 := (226, [(3, .int (Zi i)), (0, .ref 83), (1, .int (Zi p)), (2, .int (Zi q))], [.int (Zi q), .ref 100, .int (Zi i)])) (fun _ => rfl) ?_
    refine R_ia (q := 16) rfl hs rfl rfl (by omega) (by omega) (by decide) ?_
    refine Z_cge rfl rfl (by first | exact hs.zF _ | exact Zor_r _ _ | exact hs.zA _ _ | assumption | exact zA _ _ | exact zS _ | exact Zr_not (hs.zA _ _) | exact ⟨by omega, by omega⟩) (by first | exact hs.zF _ | exact Zor_r _ _ | exact hs.zA _ _ | assumption | exact zA _ _ | exact zS _ | exact Zr_not (hs.zA _ _) | exact ⟨by omega, by omega⟩) (fun c1 => ?_) (fun c1 => ?_)
    · refine B_loc (K := [(0, .ref 83), (1, .int (Zi p)), (2, .int (Zi q))]) (N_all_sub ⟨rfl, rfl, rfl, trivial⟩) (show ([0, 1, 2] : List Nat).Nodup by decide) ?_
      obtain rfl : i = s.2.1 100 q := by omega
      rw [hH.en 101 rfl] at hu
      exact kont u h hs hu
    · have ve : X_v (u.2.1 101 (12 * q + i)) := by rw [ee]; exact hH.2.2.1 i i0 (by omega)
      refine Z_go (f2 := (231, [(3, .int (Zi i)), (0, .ref 83), (1, .int (Zi p)), (2, .int (Zi q))], [.ref 83])) (fun _ => rfl) ?_
      refine Z_go (f2 := (232, [(3, .int (Zi i)), (0, .ref 83), (1, .int (Zi p)), (2, .int (Zi q))], [.ref 83, .ref 83])) (fun _ => rfl) ?_
      refine R_gr (q := 99) rfl hs rfl ?_
      show B_R _ _ (235, [(3, .int (Zi i)), (0, .ref 83), (1, .int (Zi p)), (2, .int (Zi q))], [.ref 101, .ref 83]) _ _ _
      refine Z_go (f2 := (237, [(3, .int (Zi i)), (0, .ref 83), (1, .int (Zi p)), (2, .int (Zi q))], [.int (Zi 12), .ref 101, .ref 83])) (fun _ => rfl) ?_
      refine Z_go (f2 := (238, [(3, .int (Zi i)), (0, .ref 83), (1, .int (Zi p)), (2, .int (Zi q))], [.int (Zi q), .int (Zi 12), .ref 101, .ref 83])) (fun _ => rfl) ?_
      refine Z_imul rfl ?_
      refine Z_go (f2 := (240, [(3, .int (Zi i)), (0, .ref 83), (1, .int (Zi p)), (2, .int (Zi q))], [.int (Zi i), .int (Zi (12 * q)), .ref 101, .ref 83])) (fun _ => rfl) ?_
      refine Z_iadd rfl ?_
      refine R_ia (q := 17) rfl hs rfl rfl (by omega) (by omega) (by decide) ?_
      refine R_call (As := [.int (Zi (u.2.1 101 (12 * q + i)))]) (rest := []) rfl (by decide) rfl rfl rfl rfl (by decide +kernel) (Nat.le_of_ble_eq_true rfl) hs (R_addShort _ u ve.zr (by omega) (by omega)) (fun x h w hs q => ?_)
      obtain ⟨rfl, qw⟩ := q
      show B_R _ _ (245, [(3, .int (Zi i)), (0, .ref 83), (1, .int (Zi p)), (2, .int (Zi q))], []) _ _ _
      refine Z_iinc (L2 := [(3, .int (Zi (i + 1))), (0, .ref 83), (1, .int (Zi p)), (2, .int (Zi q))]) rfl rfl (by decide) rfl ?_
      refine Z_go (f2 := (220, [(3, .int (Zi (i + 1))), (0, .ref 83), (1, .int (Zi p)), (2, .int (Zi q))], [])) (fun _ => rfl) ?_
      refine B_loc (K := [(3, .int (Zi (i + 1))), (0, .ref 83), (1, .int (Zi p)), (2, .int (Zi q))]) (N_all_sub ⟨rfl, rfl, rfl, rfl, trivial⟩) (show ([3, 0, 1, 2] : List Nat).Nodup by decide) ?_
      have hw := hu.add (by omega) ve
      rw [← qw, ee, F_or_assoc, R_en_s s 101 q i0, Int.add_assoc] at hw
      exact ih (i + 1) w h (by omega) hs hw (by omega) (by omega)
set_option maxRecDepth 4000 in
theorem R_or_tp {d : Nat} {h0 : E_H} {s : R_S} {sl : Nat} {Φ : E_R → Prop} {p q N0 : Int} {P0 H : P_X} (p0 : 0 ≤ p) (p1 : p < 44) (q0 : 0 ≤ q) (q1 : q < 44) (hH : R_EN 102 s p H) (n0 : 0 ≤ N0) (n1 : N0 ≤ 100) (kont : ∀ (u : R_S) (h : E_H), R_is h0 h u → R_shp s u (N0 + s.2.1 102 p) (F_or P0 H) → B_R (d + 2) E_m245 (296, [(0, .ref 83), (1, .int (Zi p)), (2, .int (Zi q))], []) h sl Φ) : ∀ (f : Nat) (i : Int) (u : R_S) (h : E_H), s.2.1 102 p - i < f → R_is h0 h u → R_shp s u (N0 + i) (F_or P0 (R_en s 103 p i)) → 0 ≤ i → i ≤ s.2.1 102 p → B_R (d + 2) E_m245 (265, [(3, .int (Zi i)), (0, .ref 83), (1, .int (Zi p)), (2, .int (Zi q))], []) h sl Φ := by
  intro f
  induction f with
  | zero => intro i u h ht hs hu i0 i1; omega
  | succ f ih =>
    intro i u h ht hs hu i0 i1
    have ec : u.2.1 102 p = s.2.1 102 p := hu.2.1 102 _ (by decide)
    have ee : u.2.1 103 (12 * p + i) = s.2.1 103 (12 * p + i) := hu.2.1 103 _ (by decide)
    have e41 := hu.2.2.2.1
    have h12 := hH.2.1
    refine Z_go (f2 := (266, [(3, .int (Zi i)), (0, .ref 83), (1, .int (Zi p)), (2, .int (Zi q))], [.int (Zi i)])) (fun _ => rfl) ?_
    refine Z_go (f2 := (267, [(3, .int (Zi i)), (0, .ref 83), (1, .int (Zi p)), (2, .int (Zi q))], [.ref 83, .int (Zi i)])) (fun _ => rfl) ?_
    refine R_gr (q := 100) rfl hs rfl ?_
    show B_R _ _ (270, [(3, .int (Zi i)), (0, .ref 83), (1, .int (Zi p)), (2, .int (Zi q))], [.ref 102, .int (Zi i)]) _ _ _
    refine Z_go (f2 := (271, [(3, .int (Zi i)), (0, .ref 83), (1, .int (Zi p)), (2, .int (Zi q))], [.int (Zi p), .ref 102, .int (Zi i)])) (fun _ => rfl) ?_
    refine R_ia (q := 18) rfl hs rfl rfl (by omega) (by omega) (by decide) ?_
    refine Z_cge rfl rfl (by first | exact hs.zF _ | exact Zor_r _ _ | exact hs.zA _ _ | assumption | exact zA _ _ | exact zS _ | exact Zr_not (hs.zA _ _) | exact ⟨by omega, by omega⟩) (by first | exact hs.zF _ | exact Zor_r _ _ | exact hs.zA _ _ | assumption | exact zA _ _ | exact zS _ | exact Zr_not (hs.zA _ _) | exact ⟨by omega, by omega⟩) (fun c1 => ?_) (fun c1 => ?_)
    · refine B_loc (K := [(0, .ref 83), (1, .int (Zi p)), (2, .int (Zi q))]) (N_all_sub ⟨rfl, rfl, rfl, trivial⟩) (show ([0, 1, 2] : List Nat).Nodup by decide) ?_
      obtain rfl : i = s.2.1 102 p := by omega
      rw [hH.en 103 rfl] at hu
      exact kont u h hs hu
    · have ve : X_v (u.2.1 103 (12 * p + i)) := by rw [ee]; exact hH.2.2.1 i i0 (by omega)
      refine Z_go (f2 := (276, [(3, .int (Zi i)), (0, .ref 83), (1, .int (Zi p)), (2, .int (Zi q))], [.ref 83])) (fun _ => rfl) ?_
      refine Z_go (f2 := (277, [(3, .int (Zi i)), (0, .ref 83), (1, .int (Zi p)), (2, .int (Zi q))], [.ref 83, .ref 83])) (fun _ => rfl) ?_
      refine R_gr (q := 101) rfl hs rfl ?_
      show B_R _ _ (280, [(3, .int (Zi i)), (0, .ref 83), (1, .int (Zi p)), (2, .int (Zi q))], [.ref 103, .ref 83]) _ _ _
      refine Z_go (f2 := (282, [(3, .int (Zi i)), (0, .ref 83), (1, .int (Zi p)), (2, .int (Zi q))], [.int (Zi 12), .ref 103, .ref 83])) (fun _ => rfl) ?_
      refine Z_go (f2 := (283, [(3, .int (Zi i)), (0, .ref 83), (1, .int (Zi p)), (2, .int (Zi q))], [.int (Zi p), .int (Zi 12), .ref 103, .ref 83])) (fun _ => rfl) ?_
      refine Z_imul rfl ?_
      refine Z_go (f2 := (285, [(3, .int (Zi i)), (0, .ref 83), (1, .int (Zi p)), (2, .int (Zi q))], [.int (Zi i), .int (Zi (12 * p)), .ref 103, .ref 83])) (fun _ => rfl) ?_
      refine Z_iadd rfl ?_
      refine R_ia (q := 19) rfl hs rfl rfl (by omega) (by omega) (by decide) ?_
      refine R_call (As := [.int (Zi (u.2.1 103 (12 * p + i)))]) (rest := []) rfl (by decide) rfl rfl rfl rfl (by decide +kernel) (Nat.le_of_ble_eq_true rfl) hs (R_addShort _ u ve.zr (by omega) (by omega)) (fun x h w hs q => ?_)
      obtain ⟨rfl, qw⟩ := q
      show B_R _ _ (290, [(3, .int (Zi i)), (0, .ref 83), (1, .int (Zi p)), (2, .int (Zi q))], []) _ _ _
      refine Z_iinc (L2 := [(3, .int (Zi (i + 1))), (0, .ref 83), (1, .int (Zi p)), (2, .int (Zi q))]) rfl rfl (by decide) rfl ?_
      refine Z_go (f2 := (265, [(3, .int (Zi (i + 1))), (0, .ref 83), (1, .int (Zi p)), (2, .int (Zi q))], [])) (fun _ => rfl) ?_
      refine B_loc (K := [(3, .int (Zi (i + 1))), (0, .ref 83), (1, .int (Zi p)), (2, .int (Zi q))]) (N_all_sub ⟨rfl, rfl, rfl, rfl, trivial⟩) (show ([3, 0, 1, 2] : List Nat).Nodup by decide) ?_
      have hw := hu.add (by omega) ve
      rw [← qw, ee, F_or_assoc, R_en_s s 103 p i0, Int.add_assoc] at hw
      exact ih (i + 1) w h (by omega) hs hw (by omega) (by omega)
set_option maxRecDepth 4000 in
theorem R_or_tq {d : Nat} {h0 : E_H} {s : R_S} {sl : Nat} {Φ : E_R → Prop} {p q N0 : Int} {P0 H : P_X} (p0 : 0 ≤ p) (p1 : p < 44) (q0 : 0 ≤ q) (q1 : q < 44) (hH : R_EN 102 s q H) (n0 : 0 ≤ N0) (n1 : N0 ≤ 100) (kont : ∀ (u : R_S) (h : E_H), R_is h0 h u → R_shp s u (N0 + s.2.1 102 q) (F_or P0 H) → B_R (d + 2) E_m245 (329, [(0, .ref 83), (1, .int (Zi p)), (2, .int (Zi q))], []) h sl Φ) : ∀ (f : Nat) (i : Int) (u : R_S) (h : E_H), s.2.1 102 q - i < f → R_is h0 h u → R_shp s u (N0 + i) (F_or P0 (R_en s 103 q i)) → 0 ≤ i → i ≤ s.2.1 102 q → B_R (d + 2) E_m245 (298, [(3, .int (Zi i)), (0, .ref 83), (1, .int (Zi p)), (2, .int (Zi q))], []) h sl Φ := by
  intro f
  induction f with
  | zero => intro i u h ht hs hu i0 i1; omega
  | succ f ih =>
    intro i u h ht hs hu i0 i1
    have ec : u.2.1 102 q = s.2.1 102 q := hu.2.1 102 _ (by decide)
    have ee : u.2.1 103 (12 * q + i) = s.2.1 103 (12 * q + i) := hu.2.1 103 _ (by decide)
    have e41 := hu.2.2.2.1
    have h12 := hH.2.1
    refine Z_go (f2 := (299, [(3, .int (Zi i)), (0, .ref 83), (1, .int (Zi p)), (2, .int (Zi q))], [.int (Zi i)])) (fun _ => rfl) ?_
    refine Z_go (f2 := (300, [(3, .int (Zi i)), (0, .ref 83), (1, .int (Zi p)), (2, .int (Zi q))], [.ref 83, .int (Zi i)])) (fun _ => rfl) ?_
    refine R_gr (q := 100) rfl hs rfl ?_
    show B_R _ _ (303, [(3, .int (Zi i)), (0, .ref 83), (1, .int (Zi p)), (2, .int (Zi q))], [.ref 102, .int (Zi i)]) _ _ _
    refine Z_go (f2 := (304, [(3, .int (Zi i)), (0, .ref 83), (1, .int (Zi p)), (2, .int (Zi q))], [.int (Zi q), .ref 102, .int (Zi i)])) (fun _ => rfl) ?_
    refine R_ia (q := 18) rfl hs rfl rfl (by omega) (by omega) (by decide) ?_
    refine Z_cge rfl rfl (by first | exact hs.zF _ | exact Zor_r _ _ | exact hs.zA _ _ | assumption | exact zA _ _ | exact zS _ | exact Zr_not (hs.zA _ _) | exact ⟨by omega, by omega⟩) (by first | exact hs.zF _ | exact Zor_r _ _ | exact hs.zA _ _ | assumption | exact zA _ _ | exact zS _ | exact Zr_not (hs.zA _ _) | exact ⟨by omega, by omega⟩) (fun c1 => ?_) (fun c1 => ?_)
    · refine B_loc (K := [(0, .ref 83), (1, .int (Zi p)), (2, .int (Zi q))]) (N_all_sub ⟨rfl, rfl, rfl, trivial⟩) (show ([0, 1, 2] : List Nat).Nodup by decide) ?_
      obtain rfl : i = s.2.1 102 q := by omega
      rw [hH.en 103 rfl] at hu
      exact kont u h hs hu
    · have ve : X_v (u.2.1 103 (12 * q + i)) := by rw [ee]; exact hH.2.2.1 i i0 (by omega)
      refine Z_go (f2 := (309, [(3, .int (Zi i)), (0, .ref 83), (1, .int (Zi p)), (2, .int (Zi q))], [.ref 83])) (fun _ => rfl) ?_
      refine Z_go (f2 := (310, [(3, .int (Zi i)), (0, .ref 83), (1, .int (Zi p)), (2, .int (Zi q))], [.ref 83, .ref 83])) (fun _ => rfl) ?_
      refine R_gr (q := 101) rfl hs rfl ?_
      show B_R _ _ (313, [(3, .int (Zi i)), (0, .ref 83), (1, .int (Zi p)), (2, .int (Zi q))], [.ref 103, .ref 83]) _ _ _
      refine Z_go (f2 := (315, [(3, .int (Zi i)), (0, .ref 83), (1, .int (Zi p)), (2, .int (Zi q))], [.int (Zi 12), .ref 103, .ref 83])) (fun _ => rfl) ?_
      refine Z_go (f2 := (316, [(3, .int (Zi i)), (0, .ref 83), (1, .int (Zi p)), (2, .int (Zi q))], [.int (Zi q), .int (Zi 12), .ref 103, .ref 83])) (fun _ => rfl) ?_
      refine Z_imul rfl ?_
      refine Z_go (f2 := (318, [(3, .int (Zi i)), (0, .ref 83), (1, .int (Zi p)), (2, .int (Zi q))], [.int (Zi i), .int (Zi (12 * q)), .ref 103, .ref 83])) (fun _ => rfl) ?_
      refine Z_iadd rfl ?_
      refine R_ia (q := 19) rfl hs rfl rfl (by omega) (by omega) (by decide) ?_
      refine R_call (As := [.int (Zi (u.2.1 103 (12 * q + i)))]) (rest := []) rfl (by decide) rfl rfl rfl rfl (by decide +kernel) (Nat.le_of_ble_eq_true rfl) hs (R_addShort _ u ve.zr (by omega) (by omega)) (fun x h w hs q => ?_)
      obtain ⟨rfl, qw⟩ := q
      show B_R _ _ (323, [(3, .int (Zi i)), (0, .ref 83), (1, .int (Zi p)), (2, .int (Zi q))], []) _ _ _
      refine Z_iinc (L2 := [(3, .int (Zi (i + 1))), (0, .ref 83), (1, .int (Zi p)), (2, .int (Zi q))]) rfl rfl (by decide) rfl ?_
      refine Z_go (f2 := (298, [(3, .int (Zi (i + 1))), (0, .ref 83), (1, .int (Zi p)), (2, .int (Zi q))], [])) (fun _ => rfl) ?_
      refine B_loc (K := [(3, .int (Zi (i + 1))), (0, .ref 83), (1, .int (Zi p)), (2, .int (Zi q))]) (N_all_sub ⟨rfl, rfl, rfl, rfl, trivial⟩) (show ([3, 0, 1, 2] : List Nat).Nodup by decide) ?_
      have hw := hu.add (by omega) ve
      rw [← qw, ee, F_or_assoc, R_en_s s 103 q i0, Int.add_assoc] at hw
      exact ih (i + 1) w h (by omega) hs hw (by omega) (by omega)
