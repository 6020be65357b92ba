/-! the reference: the ends of what stands behind, no texts -/
/-- the ends before i -/
def R_en (s : R_S) (qe : Nat) (x i : Int) : P_X := fun z => ∃ c, 0 ≤ c ∧ c < i ∧ z = X_dec (s.2.1 qe (12 * x + c))
theorem R_en_0 (s : R_S) (qe : Nat) (x : Int) : R_en s qe x 0 = fun _ => False := funext (fun z => propext ⟨fun ⟨c, h⟩ => by omega, fun h => h.elim⟩)
theorem R_en_s (s : R_S) (qe : Nat) (x : Int) {k : Int} (k0 : 0 ≤ k) : F_or (R_en s qe x k) (F_one (X_dec (s.2.1 qe (12 * x + k)))) = R_en s qe x (k + 1) := by
  funext z
  refine propext ⟨?_, ?_⟩
  · rintro (⟨c, a, b, h⟩ | h)
    · exact ⟨c, a, by omega, h⟩
    · exact ⟨k, k0, by omega, h⟩
  · rintro ⟨j, a, b, h⟩
    by_cases e : j = k
    · exact .inr (by rw [← e]; exact h)
    · exact .inl ⟨j, a, by omega, h⟩
theorem R_EN.en {q : Nat} {s : R_S} {k : Int} {H : P_X} (h : R_EN q s k H) (qe : Nat) (e : qe = q + 1) : R_en s qe k (s.2.1 q k) = H := by
  subst e
  exact funext (fun x => propext (h.2.2.2.2 x).symm)
theorem R_oh_n {d : Nat} {h0 : E_H} {u : R_S} {sl : Nat} {Φ : E_R → Prop} {p q i : Int} (p0 : 0 ≤ p) (p1 : p < 44) (q0 : 0 ≤ q) (q1 : q < 44) (e96 : u.2.1 96 p = 0) (kont : ∀ (h : E_H), R_is h0 h u → B_R (d + 2) E_m243 (150, [(3, .int (Zi i)), (0, .ref 83), (1, .int (Zi p)), (2, .int (Zi q))], []) h sl Φ) : ∀ (f : Nat) (t : Int) (h : E_H), u.2.1 97 p - t < f → R_is h0 h u → 0 ≤ t → t = 0 ∨ t ≤ u.2.1 97 p → B_R (d + 2) E_m243 (102, [(4, .int (Zi t)), (3, .int (Zi i)), (0, .ref 83), (1, .int (Zi p)), (2, .int (Zi q))], []) h sl Φ := by
  intro f
  induction f with
  | zero =>
    intro t h ht hs t0 t1
    have zz := hs.zA 97 p
    have zt : Zr t := by rcases t1 with q | q <;> exact ⟨by omega, by have := zz.2; omega⟩
    refine Z_go (f2 := (104, [(4, .int (Zi t)), (3, .int (Zi i)), (0, .ref 83), (1, .int (Zi p)), (2, .int (Zi q))], [.int (Zi t)])) (fun _ => rfl) ?_
    refine Z_go (f2 := (105, [(4, .int (Zi t)), (3, .int (Zi i)), (0, .ref 83), (1, .int (Zi p)), (2, .int (Zi q))], [.ref 83, .int (Zi t)])) (fun _ => rfl) ?_
    refine R_gr (q := 95) rfl hs rfl ?_
    show B_R _ _ (108, [(4, .int (Zi t)), (3, .int (Zi i)), (0, .ref 83), (1, .int (Zi p)), (2, .int (Zi q))], [.ref 97, .int (Zi t)]) _ _ _
    refine Z_go (f2 := (109, [(4, .int (Zi t)), (3, .int (Zi i)), (0, .ref 83), (1, .int (Zi p)), (2, .int (Zi q))], [.int (Zi p), .ref 97, .int (Zi t)])) (fun _ => rfl) ?_
    refine R_ia (q := 13) rfl hs rfl rfl (by omega) (by omega) (by decide) ?_
    refine Z_cge rfl rfl (by first | exact hs.zF _ | exact Zor_r _ _ | exact hs.zA _ _ | assumption | exact zA _ _ | exact zS _ | exact Zr_not (hs.zA _ _) | exact ⟨by omega, by omega⟩) (by first | exact hs.zF _ | exact Zor_r _ _ | exact hs.zA _ _ | assumption | exact zA _ _ | exact zS _ | exact Zr_not (hs.zA _ _) | exact ⟨by omega, by omega⟩) (fun c1 => ?_) (fun c1 => ?_)
    · refine B_loc (K := [(3, .int (Zi i)), (0, .ref 83), (1, .int (Zi p)), (2, .int (Zi q))]) (N_all_sub ⟨rfl, rfl, rfl, rfl, trivial⟩) (show ([3, 0, 1, 2] : List Nat).Nodup by decide) ?_
      exact kont h hs
    · refine Z_go (f2 := (114, [(4, .int (Zi t)), (3, .int (Zi i)), (0, .ref 83), (1, .int (Zi p)), (2, .int (Zi q))], [.ref 83])) (fun _ => rfl) ?_
      refine R_gr (q := 94) rfl hs rfl ?_
      show B_R _ _ (117, [(4, .int (Zi t)), (3, .int (Zi i)), (0, .ref 83), (1, .int (Zi p)), (2, .int (Zi q))], [.ref 96]) _ _ _
      refine Z_go (f2 := (118, [(4, .int (Zi t)), (3, .int (Zi i)), (0, .ref 83), (1, .int (Zi p)), (2, .int (Zi q))], [.int (Zi p), .ref 96])) (fun _ => rfl) ?_
      refine R_ba (q := 12) rfl hs rfl rfl (by omega) (by omega) (by decide) ?_
      refine Z_ieq rfl rfl (by first | exact hs.zF _ | exact Zor_r _ _ | exact hs.zA _ _ | assumption | exact zA _ _ | exact zS _ | exact Zr_not (hs.zA _ _) | exact ⟨by omega, by omega⟩) (fun c2 => ?_) (fun c2 => ?_)
      · refine B_loc (K := [(3, .int (Zi i)), (0, .ref 83), (1, .int (Zi p)), (2, .int (Zi q))]) (N_all_sub ⟨rfl, rfl, rfl, rfl, trivial⟩) (show ([3, 0, 1, 2] : List Nat).Nodup by decide) ?_
        exact kont h hs
      · exfalso; omega
  | succ f ih =>
    intro t h ht hs t0 t1
    have zz := hs.zA 97 p
    have zt : Zr t := by rcases t1 with q | q <;> exact ⟨by omega, by have := zz.2; omega⟩
    refine Z_go (f2 := (104, [(4, .int (Zi t)), (3, .int (Zi i)), (0, .ref 83), (1, .int (Zi p)), (2, .int (Zi q))], [.int (Zi t)])) (fun _ => rfl) ?_
    refine Z_go (f2 := (105, [(4, .int (Zi t)), (3, .int (Zi i)), (0, .ref 83), (1, .int (Zi p)), (2, .int (Zi q))], [.ref 83, .int (Zi t)])) (fun _ => rfl) ?_
    refine R_gr (q := 95) rfl hs rfl ?_
    show B_R _ _ (108, [(4, .int (Zi t)), (3, .int (Zi i)), (0, .ref 83), (1, .int (Zi p)), (2, .int (Zi q))], [.ref 97, .int (Zi t)]) _ _ _
    refine Z_go (f2 := (109, [(4, .int (Zi t)), (3, .int (Zi i)), (0, .ref 83), (1, .int (Zi p)), (2, .int (Zi q))], [.int (Zi p), .ref 97, .int (Zi t)])) (fun _ => rfl) ?_
    refine R_ia (q := 13) rfl hs rfl rfl (by omega) (by omega) (by decide) ?_
    refine Z_cge rfl rfl (by first | exact hs.zF _ | exact Zor_r _ _ | exact hs.zA _ _ | assumption | exact zA _ _ | exact zS _ | exact Zr_not (hs.zA _ _) | exact ⟨by omega, by omega⟩) (by first | exact hs.zF _ | exact Zor_r _ _ | exact hs.zA _ _ | assumption | exact zA _ _ | exact zS _ | exact Zr_not (hs.zA _ _) | exact ⟨by omega, by omega⟩) (fun c1 => ?_) (fun c1 => ?_)
    · refine B_loc (K := [(3, .int (Zi i)), (0, .ref 83), (1, .int (Zi p)), (2, .int (Zi q))]) (N_all_sub ⟨rfl, rfl, rfl, rfl, trivial⟩) (show ([3, 0, 1, 2] : List Nat).Nodup by decide) ?_
      exact kont h hs
    · refine Z_go (f2 := (114, [(4, .int (Zi t)), (3, .int (Zi i)), (0, .ref 83), (1, .int (Zi p)), (2, .int (Zi q))], [.ref 83])) (fun _ => rfl) ?_
      refine R_gr (q := 94) rfl hs rfl ?_
      show B_R _ _ (117, [(4, .int (Zi t)), (3, .int (Zi i)), (0, .ref 83), (1, .int (Zi p)), (2, .int (Zi q))], [.ref 96]) _ _ _
      refine Z_go (f2 := (118, [(4, .int (Zi t)), (3, .int (Zi i)), (0, .ref 83), (1, .int (Zi p)), (2, .int (Zi q))], [.int (Zi p), .ref 96])) (fun _ => rfl) ?_
      refine R_ba (q := 12) rfl hs rfl rfl (by omega) (by omega) (by decide) ?_
      refine Z_ieq rfl rfl (by first | exact hs.zF _ | exact Zor_r _ _ | exact hs.zA _ _ | assumption | exact zA _ _ | exact zS _ | exact Zr_not (hs.zA _ _) | exact ⟨by omega, by omega⟩) (fun c2 => ?_) (fun c2 => ?_)
      · refine B_loc (K := [(3, .int (Zi i)), (0, .ref 83), (1, .int (Zi p)), (2, .int (Zi q))]) (N_all_sub ⟨rfl, rfl, rfl, rfl, trivial⟩) (show ([3, 0, 1, 2] : List Nat).Nodup by decide) ?_
        exact kont h hs
      · exfalso; omega
theorem R_oh_i {d : Nat} {h0 : E_H} {s : R_S} {sl : Nat} {Φ : E_R → Prop} {p q : Int} {H : P_X} (p0 : 0 ≤ p) (p1 : p < 44) (q0 : 0 ≤ q) (q1 : q < 44) (f96 : s.2.1 96 p = 0) (hH : R_EN 100 s p H) (kont : ∀ (u : R_S) (h : E_H), R_is h0 h u → R_shp s u (s.2.1 100 p) (R_en s 101 p (s.2.1 100 p)) → B_R (d + 2) E_m243 (156, [(0, .ref 83), (1, .int (Zi p)), (2, .int (Zi q))], []) h sl Φ) : ∀ (f : Nat) (i : Int) (u : R_S) (h : E_H), s.2.1 100 p - i < f → R_is h0 h u → R_shp s u i (R_en s 101 p i) → 0 ≤ i → i ≤ s.2.1 100 p → B_R (d + 2) E_m243 (52, [(3, .int (Zi i)), (0, .ref 83), (1, .int (Zi p)), (2, .int (Zi q))], []) h sl Φ := by
  intro f
  induction f with
  | zero => intro i u h ht hs hu i0 i1; omega
  | succ f ih =>
    intro i u h ht hs hu i0 i1
    have e96 : u.2.1 96 p = s.2.1 96 p := hu.2.1 96 _ (by decide)
    have ec : u.2.1 100 p = s.2.1 100 p := hu.2.1 100 _ (by decide)
    have ee : u.2.1 101 (12 * p + i) = s.2.1 101 (12 * p + i) := hu.2.1 101 _ (by decide)
    have e41 := hu.2.2.2.1
    have h12 := hH.2.1
    refine Z_go (f2 := (53, [(3, .int (Zi i)), (0, .ref 83), (1, .int (Zi p)), (2, .int (Zi q))], [.int (Zi i)])) (fun _ => rfl) ?_
    refine Z_go (f2 := (54, [(3, .int (Zi i)), (0, .ref 83), (1, .int (Zi p)), (2, .int (Zi q))], [.ref 83, .int (Zi i)])) (fun _ => rfl) ?_
    refine R_gr (q := 98) rfl hs rfl ?_
    show B_R _ _ (57, [(3, .int (Zi i)), (0, .ref 83), (1, .int (Zi p)), (2, .int (Zi q))], [.ref 100, .int (Zi i)]) _ _ _
    refine Z_go (f2 := (58, [(3, .int (Zi i)), (0, .ref 83), (1, .int (Zi p)), (2, .int (Zi q))], [.ref 83, .ref 100, .int (Zi i)])) (fun _ => rfl) ?_
    refine R_gr (q := 94) rfl hs rfl ?_
    show B_R _ _ (61, [(3, .int (Zi i)), (0, .ref 83), (1, .int (Zi p)), (2, .int (Zi q))], [.ref 96, .ref 100, .int (Zi i)]) _ _ _
    refine Z_go (f2 := (62, [(3, .int (Zi i)), (0, .ref 83), (1, .int (Zi p)), (2, .int (Zi q))], [.int (Zi p), .ref 96, .ref 100, .int (Zi i)])) (fun _ => rfl) ?_
    refine R_ba (q := 12) rfl hs rfl rfl (by omega) (by omega) (by decide) ?_
    refine Z_ieq rfl rfl (by first | exact hs.zF _ | exact Zor_r _ _ | exact hs.zA _ _ | assumption | exact zA _ _ | exact zS _ | exact Zr_not (hs.zA _ _) | exact ⟨by omega, by omega⟩) (fun c1 => ?_) (fun c1 => ?_)
    · refine Z_go (f2 := (71, [(3, .int (Zi i)), (0, .ref 83), (1, .int (Zi p)), (2, .int (Zi q))], [.int (Zi p), .ref 100, .int (Zi i)])) (fun _ => rfl) ?_
      refine R_ia (q := 16) rfl hs rfl rfl (by omega) (by omega) (by decide) ?_
      refine Z_cge rfl rfl (by first | exact hs.zF _ | exact Zor_r _ _ | exact hs.zA _ _ | assumption | exact zA _ _ | exact zS _ | exact Zr_not (hs.zA _ _) | exact ⟨by omega, by omega⟩) (by first | exact hs.zF _ | exact Zor_r _ _ | exact hs.zA _ _ | assumption | exact zA _ _ | exact zS _ | exact Zr_not (hs.zA _ _) | exact ⟨by omega, by omega⟩) (fun c2 => ?_) (fun c2 => ?_)
      · refine B_loc (K := [(0, .ref 83), (1, .int (Zi p)), (2, .int (Zi q))]) (N_all_sub ⟨rfl, rfl, rfl, trivial⟩) (show ([0, 1, 2] : List Nat).Nodup by decide) ?_
        obtain rfl : i = s.2.1 100 p := by omega
        exact kont u h hs hu
      · refine Z_go (f2 := (76, [(3, .int (Zi i)), (0, .ref 83), (1, .int (Zi p)), (2, .int (Zi q))], [.ref 83])) (fun _ => rfl) ?_
        refine R_gr (q := 94) rfl hs rfl ?_
        show B_R _ _ (79, [(3, .int (Zi i)), (0, .ref 83), (1, .int (Zi p)), (2, .int (Zi q))], [.ref 96]) _ _ _
        refine Z_go (f2 := (80, [(3, .int (Zi i)), (0, .ref 83), (1, .int (Zi p)), (2, .int (Zi q))], [.int (Zi p), .ref 96])) (fun _ => rfl) ?_
        refine R_ba (q := 12) rfl hs rfl rfl (by omega) (by omega) (by decide) ?_
        refine Z_ine rfl rfl (by first | exact hs.zF _ | exact Zor_r _ _ | exact hs.zA _ _ | assumption | exact zA _ _ | exact zS _ | exact Zr_not (hs.zA _ _) | exact ⟨by omega, by omega⟩) (fun c3 => ?_) (fun c3 => ?_)
        · exfalso; omega
        · have ve : X_v (u.2.1 101 (12 * p + i)) := by rw [ee]; exact hH.2.2.1 i i0 (by omega)
          refine Z_go (f2 := (85, [(3, .int (Zi i)), (0, .ref 83), (1, .int (Zi p)), (2, .int (Zi q))], [.ref 83])) (fun _ => rfl) ?_
          refine Z_go (f2 := (86, [(3, .int (Zi i)), (0, .ref 83), (1, .int (Zi p)), (2, .int (Zi q))], [.ref 83, .ref 83])) (fun _ => rfl) ?_
          refine R_gr (q := 99) rfl hs rfl ?_
          show B_R _ _ (89, [(3, .int (Zi i)), (0, .ref 83), (1, .int (Zi p)), (2, .int (Zi q))], [.ref 101, .ref 83]) _ _ _
          refine Z_go (f2 := (91, [(3, .int (Zi i)), (0, .ref 83), (1, .int (Zi p)), (2, .int (Zi q))], [.int (Zi 12), .ref 101, .ref 83])) (fun _ => rfl) ?_
          refine Z_go (f2 := (92, [(3, .int (Zi i)), (0, .ref 83), (1, .int (Zi p)), (2, .int (Zi q))], [.int (Zi p), .int (Zi 12), .ref 101, .ref 83])) (fun _ => rfl) ?_
          refine Z_imul rfl ?_
          refine Z_go (f2 := (94, [(3, .int (Zi i)), (0, .ref 83), (1, .int (Zi p)), (2, .int (Zi q))], [.int (Zi i), .int (Zi (12 * p)), .ref 101, .ref 83])) (fun _ => rfl) ?_
          refine Z_iadd rfl ?_
          refine R_ia (q := 17) rfl hs rfl rfl (by omega) (by omega) (by decide) ?_
          refine R_call (As := [.int (Zi (u.2.1 101 (12 * p + i)))]) (rest := []) rfl (by decide) rfl rfl rfl rfl (by decide +kernel) (Nat.le_of_ble_eq_true rfl) hs (R_addShort _ u ve.zr (by omega) (by omega)) (fun x h w hs q => ?_)
          obtain ⟨rfl, qw⟩ := q
          show B_R _ _ (99, [(3, .int (Zi i)), (0, .ref 83), (1, .int (Zi p)), (2, .int (Zi q))], []) _ _ _
          refine Z_go (f2 := (100, [(3, .int (Zi i)), (0, .ref 83), (1, .int (Zi p)), (2, .int (Zi q))], [.int (Zi 0)])) (fun _ => rfl) ?_
          refine Z_go (f2 := (102, [(4, .int (Zi 0)), (3, .int (Zi i)), (0, .ref 83), (1, .int (Zi p)), (2, .int (Zi q))], [])) (fun _ => rfl) ?_
          refine B_loc (K := [(4, .int (Zi 0)), (3, .int (Zi i)), (0, .ref 83), (1, .int (Zi p)), (2, .int (Zi q))]) (N_all_sub ⟨rfl, rfl, rfl, rfl, rfl, trivial⟩) (show ([4, 3, 0, 1, 2] : List Nat).Nodup by decide) ?_
          have hw := hu.add (by omega) ve
          rw [← qw, ee, R_en_s s 101 p i0] at hw
          have w96 : w.2.1 96 p = 0 := by rw [hw.2.1 96 _ (by decide)]; exact f96
          refine R_oh_n (u := w) p0 p1 q0 q1 w96 (fun h hs => ?_) ((w.2.1 97 p).toNat + 1) 0 h (by omega) hs (by omega) (.inl rfl)
          refine Z_iinc (L2 := [(3, .int (Zi (i + 1))), (0, .ref 83), (1, .int (Zi p)), (2, .int (Zi q))]) rfl rfl (by decide) rfl ?_
          refine Z_go (f2 := (52, [(3, .int (Zi (i + 1))), (0, .ref 83), (1, .int (Zi p)), (2, .int (Zi q))], [])) (fun _ => rfl) ?_
          refine B_loc (K := [(3, .int (Zi (i + 1))), (0, .ref 83), (1, .int (Zi p)), (2, .int (Zi q))]) (N_all_sub ⟨rfl, rfl, rfl, rfl, trivial⟩) (show ([3, 0, 1, 2] : List Nat).Nodup by decide) ?_
          exact ih (i + 1) w h (by omega) hs hw (by omega) (by omega)
    · exfalso; omega
theorem R_ot_n {d : Nat} {h0 : E_H} {u : R_S} {sl : Nat} {Φ : E_R → Prop} {p q i : Int} (p0 : 0 ≤ p) (p1 : p < 44) (q0 : 0 ≤ q) (q1 : q < 44) (e96 : u.2.1 96 q = 0) (kont : ∀ (h : E_H), R_is h0 h u → B_R (d + 2) E_m243 (268, [(3, .int (Zi i)), (0, .ref 83), (1, .int (Zi p)), (2, .int (Zi q))], []) h sl Φ) : ∀ (f : Nat) (t : Int) (h : E_H), u.2.1 97 q - t < f → R_is h0 h u → 0 ≤ t → t = 0 ∨ t ≤ u.2.1 97 q → B_R (d + 2) E_m243 (220, [(4, .int (Zi t)), (3, .int (Zi i)), (0, .ref 83), (1, .int (Zi p)), (2, .int (Zi q))], []) h sl Φ := by
  intro f
  induction f with
  | zero =>
    intro t h ht hs t0 t1
    have zz := hs.zA 97 q
    have zt : Zr t := by rcases t1 with q | q <;> exact ⟨by omega, by have := zz.2; omega⟩
    refine Z_go (f2 := (222, [(4, .int (Zi t)), (3, .int (Zi i)), (0, .ref 83), (1, .int (Zi p)), (2, .int (Zi q))], [.int (Zi t)])) (fun _ => rfl) ?_
    refine Z_go (f2 := (223, [(4, .int (Zi t)), (3, .int (Zi i)), (0, .ref 83), (1, .int (Zi p)), (2, .int (Zi q))], [.ref 83, .int (Zi t)])) (fun _ => rfl) ?_
    refine R_gr (q := 95) rfl hs rfl ?_
    show B_R _ _ (226, [(4, .int (Zi t)), (3, .int (Zi i)), (0, .ref 83), (1, .int (Zi p)), (2, .int (Zi q))], [.ref 97, .int (Zi t)]) _ _ _
    refine Z_go (f2 := (227, [(4, .int (Zi t)), (3, .int (Zi i)), (0, .ref 83), (1, .int (Zi p)), (2, .int (Zi q))], [.int (Zi q), .ref 97, .int (Zi t)])) (fun _ => rfl) ?_
    refine R_ia (q := 13) rfl hs rfl rfl (by omega) (by omega) (by decide) ?_
    refine Z_cge rfl rfl (by first | exact hs.zF _ | exact Zor_r _ _ | exact hs.zA _ _ | assumption | exact zA _ _ | exact zS _ | exact Zr_not (hs.zA _ _) | exact ⟨by omega, by omega⟩) (by first | exact hs.zF _ | exact Zor_r _ _ | exact hs.zA _ _ | assumption | exact zA _ _ | exact zS _ | exact Zr_not (hs.zA _ _) | exact ⟨by omega, by omega⟩) (fun c1 => ?_) (fun c1 => ?_)
    · refine B_loc (K := [(3, .int (Zi i)), (0, .ref 83), (1, .int (Zi p)), (2, .int (Zi q))]) (N_all_sub ⟨rfl, rfl, rfl, rfl, trivial⟩) (show ([3, 0, 1, 2] : List Nat).Nodup by decide) ?_
      exact kont h hs
    · refine Z_go (f2 := (232, [(4, .int (Zi t)), (3, .int (Zi i)), (0, .ref 83), (1, .int (Zi p)), (2, .int (Zi q))], [.ref 83])) (fun _ => rfl) ?_
      refine R_gr (q := 94) rfl hs rfl ?_
      show B_R _ _ (235, [(4, .int (Zi t)), (3, .int (Zi i)), (0, .ref 83), (1, .int (Zi p)), (2, .int (Zi q))], [.ref 96]) _ _ _
      refine Z_go (f2 := (236, [(4, .int (Zi t)), (3, .int (Zi i)), (0, .ref 83), (1, .int (Zi p)), (2, .int (Zi q))], [.int (Zi q), .ref 96])) (fun _ => rfl) ?_
      refine R_ba (q := 12) rfl hs rfl rfl (by omega) (by omega) (by decide) ?_
      refine Z_ieq rfl rfl (by first | exact hs.zF _ | exact Zor_r _ _ | exact hs.zA _ _ | assumption | exact zA _ _ | exact zS _ | exact Zr_not (hs.zA _ _) | exact ⟨by omega, by omega⟩) (fun c2 => ?_) (fun c2 => ?_)
      · refine B_loc (K := [(3, .int (Zi i)), (0, .ref 83), (1, .int (Zi p)), (2, .int (Zi q))]) (N_all_sub ⟨rfl, rfl, rfl, rfl, trivial⟩) (show ([3, 0, 1, 2] : List Nat).Nodup by decide) ?_
        exact kont h hs
      · exfalso; omega
  | succ f ih =>
    intro t h ht hs t0 t1
    have zz := hs.zA 97 q
    have zt : Zr t := by rcases t1 with q | q <;> exact ⟨by omega, by have := zz.2; omega⟩
    refine Z_go (f2 := (222, [(4, .int (Zi t)), (3, .int (Zi i)), (0, .ref 83), (1, .int (Zi p)), (2, .int (Zi q))], [.int (Zi t)])) (fun _ => rfl) ?_
    refine Z_go (f2 := (223, [(4, .int (Zi t)), (3, .int (Zi i)), (0, .ref 83), (1, .int (Zi p)), (2, .int (Zi q))], [.ref 83, .int (Zi t)])) (fun _ => rfl) ?_
    refine R_gr (q := 95) rfl hs rfl ?_
    show B_R _ _ (226, [(4, .int (Zi t)), (3, .int (Zi i)), (0, .ref 83), (1, .int (Zi p)), (2, .int (Zi q))], [.ref 97, .int (Zi t)]) _ _ _
    refine Z_go (f2 := (227, [(4, .int (Zi t)), (3, .int (Zi i)), (0, .ref 83), (1, .int (Zi p)), (2, .int (Zi q))], [.int (Zi q), .ref 97, .int (Zi t)])) (fun _ => rfl) ?_
    refine R_ia (q := 13) rfl hs rfl rfl (by omega) (by omega) (by decide) ?_
    refine Z_cge rfl rfl (by first | exact hs.zF _ | exact Zor_r _ _ | exact hs.zA _ _ | assumption | exact zA _ _ | exact zS _ | exact Zr_not (hs.zA _ _) | exact ⟨by omega, by omega⟩) (by first | exact hs.zF _ | exact Zor_r _ _ | exact hs.zA _ _ | assumption | exact zA _ _ | exact zS _ | exact Zr_not (hs.zA _ _) | exact ⟨by omega, by omega⟩) (fun c1 => ?_) (fun c1 => ?_)
    · refine B_loc (K := [(3, .int (Zi i)), (0, .ref 83), (1, .int (Zi p)), (2, .int (Zi q))]) (N_all_sub ⟨rfl, rfl, rfl, rfl, trivial⟩) (show ([3, 0, 1, 2] : List Nat).Nodup by decide) ?_
      exact kont h hs
    · refine Z_go (f2 := (232, [(4, .int (Zi t)), (3, .int (Zi i)), (0, .ref 83), (1, .int (Zi p)), (2, .int (Zi q))], [.ref 83])) (fun _ => rfl) ?_
      refine R_gr (q := 94) rfl hs rfl ?_
      show B_R _ _ (235, [(4, .int (Zi t)), (3, .int (Zi i)), (0, .ref 83), (1, .int (Zi p)), (2, .int (Zi q))], [.ref 96]) _ _ _
      refine Z_go (f2 := (236, [(4, .int (Zi t)), (3, .int (Zi i)), (0, .ref 83), (1, .int (Zi p)), (2, .int (Zi q))], [.int (Zi q), .ref 96])) (fun _ => rfl) ?_
      refine R_ba (q := 12) rfl hs rfl rfl (by omega) (by omega) (by decide) ?_
      refine Z_ieq rfl rfl (by first | exact hs.zF _ | exact Zor_r _ _ | exact hs.zA _ _ | assumption | exact zA _ _ | exact zS _ | exact Zr_not (hs.zA _ _) | exact ⟨by omega, by omega⟩) (fun c2 => ?_) (fun c2 => ?_)
      · refine B_loc (K := [(3, .int (Zi i)), (0, .ref 83), (1, .int (Zi p)), (2, .int (Zi q))]) (N_all_sub ⟨rfl, rfl, rfl, rfl, trivial⟩) (show ([3, 0, 1, 2] : List Nat).Nodup by decide) ?_
        exact kont h hs
      · exfalso; omega
theorem R_ot_i {d : Nat} {h0 : E_H} {s : R_S} {sl : Nat} {Φ : E_R → Prop} {p q : Int} {H : P_X} (p0 : 0 ≤ p) (p1 : p < 44) (q0 : 0 ≤ q) (q1 : q < 44) (f96 : s.2.1 96 q = 0) (hH : R_EN 102 s q H) (kont : ∀ (u : R_S) (h : E_H), R_is h0 h u → R_shp s u (s.2.1 102 q) (R_en s 103 q (s.2.1 102 q)) → B_R (d + 2) E_m243 (274, [(0, .ref 83), (1, .int (Zi p)), (2, .int (Zi q))], []) h sl Φ) : ∀ (f : Nat) (i : Int) (u : R_S) (h : E_H), s.2.1 102 q - i < f → R_is h0 h u → R_shp s u i (R_en s 103 q i) → 0 ≤ i → i ≤ s.2.1 102 q → B_R (d + 2) E_m243 (170, [(3, .int (Zi i)), (0, .ref 83), (1, .int (Zi p)), (2, .int (Zi q))], []) h sl Φ := by
  intro f
  induction f with
  | zero => intro i u h ht hs hu i0 i1; omega
  | succ f ih =>
    intro i u h ht hs hu i0 i1
    have e96 : u.2.1 96 q = s.2.1 96 q := hu.2.1 96 _ (by decide)
    have ec : u.2.1 102 q = s.2.1 102 q := hu.2.1 102 _ (by decide)
    have ee : u.2.1 103 (12 * q + i) = s.2.1 103 (12 * q + i) := hu.2.1 103 _ (by decide)
    have e41 := hu.2.2.2.1
    have h12 := hH.2.1
    refine Z_go (f2 := (171, [(3, .int (Zi i)), (0, .ref 83), (1, .int (Zi p)), (2, .int (Zi q))], [.int (Zi i)])) (fun _ => rfl) ?_
    refine Z_go (f2 := (172, [(3, .int (Zi i)), (0, .ref 83), (1, .int (Zi p)), (2, .int (Zi q))], [.ref 83, .int (Zi i)])) (fun _ => rfl) ?_
    refine R_gr (q := 100) rfl hs rfl ?_
    show B_R _ _ (175, [(3, .int (Zi i)), (0, .ref 83), (1, .int (Zi p)), (2, .int (Zi q))], [.ref 102, .int (Zi i)]) _ _ _
    refine Z_go (f2 := (176, [(3, .int (Zi i)), (0, .ref 83), (1, .int (Zi p)), (2, .int (Zi q))], [.ref 83, .ref 102, .int (Zi i)])) (fun _ => rfl) ?_
    refine R_gr (q := 94) rfl hs rfl ?_
    show B_R _ _ (179, [(3, .int (Zi i)), (0, .ref 83), (1, .int (Zi p)), (2, .int (Zi q))], [.ref 96, .ref 102, .int (Zi i)]) _ _ _
    refine Z_go (f2 := (180, [(3, .int (Zi i)), (0, .ref 83), (1, .int (Zi p)), (2, .int (Zi q))], [.int (Zi q), .ref 96, .ref 102, .int (Zi i)])) (fun _ => rfl) ?_
    refine R_ba (q := 12) rfl hs rfl rfl (by omega) (by omega) (by decide) ?_
    refine Z_ieq rfl rfl (by first | exact hs.zF _ | exact Zor_r _ _ | exact hs.zA _ _ | assumption | exact zA _ _ | exact zS _ | exact Zr_not (hs.zA _ _) | exact ⟨by omega, by omega⟩) (fun c1 => ?_) (fun c1 => ?_)
    · refine Z_go (f2 := (189, [(3, .int (Zi i)), (0, .ref 83), (1, .int (Zi p)), (2, .int (Zi q))], [.int (Zi q), .ref 102, .int (Zi i)])) (fun _ => rfl) ?_
      refine R_ia (q := 18) rfl hs rfl rfl (by omega) (by omega) (by decide) ?_
      refine Z_cge rfl rfl (by first | exact hs.zF _ | exact Zor_r _ _ | exact hs.zA _ _ | assumption | exact zA _ _ | exact zS _ | exact Zr_not (hs.zA _ _) | exact ⟨by omega, by omega⟩) (by first | exact hs.zF _ | exact Zor_r _ _ | exact hs.zA _ _ | assumption | exact zA _ _ | exact zS _ | exact Zr_not (hs.zA _ _) | exact ⟨by omega, by omega⟩) (fun c2 => ?_) (fun c2 => ?_)
      · refine B_loc (K := [(0, .ref 83), (1, .int (Zi p)), (2, .int (Zi q))]) (N_all_sub ⟨rfl, rfl, rfl, trivial⟩) (show ([0, 1, 2] : List Nat).Nodup by decide) ?_
        obtain rfl : i = s.2.1 102 q := by omega
        exact kont u h hs hu
      · refine Z_go (f2 := (194, [(3, .int (Zi i)), (0, .ref 83), (1, .int (Zi p)), (2, .int (Zi q))], [.ref 83])) (fun _ => rfl) ?_
        refine R_gr (q := 94) rfl hs rfl ?_
        show B_R _ _ (197, [(3, .int (Zi i)), (0, .ref 83), (1, .int (Zi p)), (2, .int (Zi q))], [.ref 96]) _ _ _
        refine Z_go (f2 := (198, [(3, .int (Zi i)), (0, .ref 83), (1, .int (Zi p)), (2, .int (Zi q))], [.int (Zi q), .ref 96])) (fun _ => rfl) ?_
        refine R_ba (q := 12) rfl hs rfl rfl (by omega) (by omega) (by decide) ?_
        refine Z_ine rfl rfl (by first | exact hs.zF _ | exact Zor_r _ _ | exact hs.zA _ _ | assumption | exact zA _ _ | exact zS _ | exact Zr_not (hs.zA _ _) | exact ⟨by omega, by omega⟩) (fun c3 => ?_) (fun c3 => ?_)
        · exfalso; omega
        · have ve : X_v (u.2.1 103 (12 * q + i)) := by rw [ee]; exact hH.2.2.1 i i0 (by omega)
          refine Z_go (f2 := (203, [(3, .int (Zi i)), (0, .ref 83), (1, .int (Zi p)), (2, .int (Zi q))], [.ref 83])) (fun _ => rfl) ?_
          refine Z_go (f2 := (204, [(3, .int (Zi i)), (0, .ref 83), (1, .int (Zi p)), (2, .int (Zi q))], [.ref 83, .ref 83])) (fun _ => rfl) ?_
          refine R_gr (q := 101) rfl hs rfl ?_
          show B_R _ _ (207, [(3, .int (Zi i)), (0, .ref 83), (1, .int (Zi p)), (2, .int (Zi q))], [.ref 103, .ref 83]) _ _ _
          refine Z_go (f2 := (209, [(3, .int (Zi i)), (0, .ref 83), (1, .int (Zi p)), (2, .int (Zi q))], [.int (Zi 12), .ref 103, .ref 83])) (fun _ => rfl) ?_
          refine Z_go (f2 := (210, [(3, .int (Zi i)), (0, .ref 83), (1, .int (Zi p)), (2, .int (Zi q))], [.int (Zi q), .int (Zi 12), .ref 103, .ref 83])) (fun _ => rfl) ?_
          refine Z_imul rfl ?_
          refine Z_go (f2 := (212, [(3, .int (Zi i)), (0, .ref 83), (1, .int (Zi p)), (2, .int (Zi q))], [.int (Zi i), .int (Zi (12 * q)), .ref 103, .ref 83])) (fun _ => rfl) ?_
          refine Z_iadd rfl ?_
          refine R_ia (q := 19) rfl hs rfl rfl (by omega) (by omega) (by decide) ?_
          refine R_call (As := [.int (Zi (u.2.1 103 (12 * q + i)))]) (rest := []) rfl (by decide) rfl rfl rfl rfl (by decide +kernel) (Nat.le_of_ble_eq_true rfl) hs (R_addShort _ u ve.zr (by omega) (by omega)) (fun x h w hs q => ?_)
          obtain ⟨rfl, qw⟩ := q
          show B_R _ _ (217, [(3, .int (Zi i)), (0, .ref 83), (1, .int (Zi p)), (2, .int (Zi q))], []) _ _ _
          refine Z_go (f2 := (218, [(3, .int (Zi i)), (0, .ref 83), (1, .int (Zi p)), (2, .int (Zi q))], [.int (Zi 0)])) (fun _ => rfl) ?_
          refine Z_go (f2 := (220, [(4, .int (Zi 0)), (3, .int (Zi i)), (0, .ref 83), (1, .int (Zi p)), (2, .int (Zi q))], [])) (fun _ => rfl) ?_
          refine B_loc (K := [(4, .int (Zi 0)), (3, .int (Zi i)), (0, .ref 83), (1, .int (Zi p)), (2, .int (Zi q))]) (N_all_sub ⟨rfl, rfl, rfl, rfl, rfl, trivial⟩) (show ([4, 3, 0, 1, 2] : List Nat).Nodup by decide) ?_
          have hw := hu.add (by omega) ve
          rw [← qw, ee, R_en_s s 103 q i0] at hw
          have w96 : w.2.1 96 q = 0 := by rw [hw.2.1 96 _ (by decide)]; exact f96
          refine R_ot_n (u := w) p0 p1 q0 q1 w96 (fun h hs => ?_) ((w.2.1 97 q).toNat + 1) 0 h (by omega) hs (by omega) (.inl rfl)
          refine Z_iinc (L2 := [(3, .int (Zi (i + 1))), (0, .ref 83), (1, .int (Zi p)), (2, .int (Zi q))]) rfl rfl (by decide) rfl ?_
          refine Z_go (f2 := (170, [(3, .int (Zi (i + 1))), (0, .ref 83), (1, .int (Zi p)), (2, .int (Zi q))], [])) (fun _ => rfl) ?_
          refine B_loc (K := [(3, .int (Zi (i + 1))), (0, .ref 83), (1, .int (Zi p)), (2, .int (Zi q))]) (N_all_sub ⟨rfl, rfl, rfl, rfl, trivial⟩) (show ([3, 0, 1, 2] : List Nat).Nodup by decide) ?_
          exact ih (i + 1) w h (by omega) hs hw (by omega) (by omega)
    · exfalso; omega
