/-! the reference: the ends of what stands behind, texts on one side -/
/-- what f makes of the texts of the slot x and the ends before i of the slot y -/
def R_bq (f : List Int → List Int → List Int) (s : R_S) (x y : Int) (qa : Nat) (i : Int) : P_X := fun z => ∃ a, 0 ≤ a ∧ a < i ∧ R_tf (fun r => f r (X_dec (s.2.1 qa (12 * y + a)))) s x (s.2.1 97 x) z
theorem R_bq_0 (f : List Int → List Int → List Int) (s : R_S) (x y : Int) (qa : Nat) : R_bq f s x y qa 0 = fun _ => False := funext (fun z => propext ⟨fun ⟨c, a, b, _⟩ => by omega, fun h => h.elim⟩)
theorem R_bq_s (f : List Int → List Int → List Int) (s : R_S) (x y : Int) (qa : Nat) {k : Int} (k0 : 0 ≤ k) : F_or (R_bq f s x y qa k) (R_tf (fun r => f r (X_dec (s.2.1 qa (12 * y + k)))) s x (s.2.1 97 x)) = R_bq f s x y qa (k + 1) := by
  funext z
  refine propext ⟨?_, ?_⟩
  · rintro (⟨c, a, b, h⟩ | h)
    · exact ⟨c, a, by omega, h⟩
    · exact ⟨k, k0, by omega, h⟩
  · rintro ⟨j, a, b, h⟩
    by_cases e : j = k
    · exact .inr (by rw [← e]; exact h)
    · exact .inl ⟨j, a, by omega, h⟩
theorem R_bq_im {f : List Int → List Int → List Int} {s : R_S} {x y : Int} {qa : Nat} {A H : P_X} (hA : R_EX s x A) (hH : R_EN qa s y H) (qb : Nat) (e : qb = qa + 1) : R_bq f s x y qb (s.2.1 qa y) = F_im2 f A H := by
  subst e
  funext z
  refine propext ⟨?_, ?_⟩
  · rintro ⟨a, a0, a1, c, c0, c1, h⟩
    exact ⟨_, _, (hA.2.2 _).mpr ⟨c, c0, c1, rfl⟩, (hH.2.2.2.2 _).mpr ⟨a, a0, a1, rfl⟩, h⟩
  · rintro ⟨t, h, ht, hh, e⟩
    obtain ⟨c, c0, c1, rfl⟩ := (hA.2.2 t).mp ht
    obtain ⟨a, a0, a1, rfl⟩ := (hH.2.2.2.2 h).mp hh
    exact ⟨a, a0, a1, c, c0, c1, e⟩
theorem R_bh_t {d : Nat} {h0 : E_H} {s : R_S} {sl : Nat} {Φ : E_R → Prop} {p q i N0 : Int} {P0 : P_X} {H : P_X} (p0 : 0 ≤ p) (p1 : p < 44) (q0 : 0 ≤ q) (q1 : q < 44) (f96 : s.2.1 96 p = 1) (tv : R_tv s p) (hH : R_EN 100 s q H) (i0 : 0 ≤ i) (i1 : i < s.2.1 100 q) (n0 : 0 ≤ N0) (n1 : N0 + s.2.1 97 p < 160) (kont : ∀ (u : R_S) (h : E_H), R_is h0 h u → R_shp s u (N0 + s.2.1 97 p) (F_or P0 (R_tf (fun r => (fun t h => E_hd (t ++ h)) r (X_dec (s.2.1 101 (12 * q + i)))) s p (s.2.1 97 p))) → B_R (d + 2) E_m243 (150, [(3, .int (Zi i)), (0, .ref 83), (1, .int (Zi p)), (2, .int (Zi q))], []) h sl Φ) : ∀ (f : Nat) (t : Int) (u : R_S) (h : E_H), s.2.1 97 p - t < f → R_is h0 h u → R_shp s u (N0 + t) (F_or P0 (R_tf (fun r => (fun t h => E_hd (t ++ h)) r (X_dec (s.2.1 101 (12 * q + i)))) s p t)) → 0 ≤ t → t ≤ s.2.1 97 p → B_R (d + 2) E_m243 (102, [(4, .int (Zi t)), (3, .int (Zi i)), (0, .ref 83), (1, .int (Zi p)), (2, .int (Zi q))], []) h sl Φ := by
  intro f
  induction f with
  | zero => intro t u h ht hs hu t0 t1; omega
  | succ f ih =>
    intro t u h ht hs hu t0 t1
    have e97 : u.2.1 97 p = s.2.1 97 p := hu.2.1 97 _ (by decide)
    have e96 : u.2.1 96 p = s.2.1 96 p := hu.2.1 96 _ (by decide)
    have ee : u.2.1 101 (12 * q + i) = s.2.1 101 (12 * q + i) := hu.2.1 101 _ (by decide)
    have e41 := hu.2.2.2.1
    have t8 := tv.2.1
    have h12 := hH.2.1
    have ve : X_v (u.2.1 101 (12 * q + i)) := by rw [ee]; exact hH.2.2.1 i i0 i1
    refine Z_go (f2 := (104, [(4, .int (Zi t)), (3, .int (Zi i)), (0, .ref 83), (1, .int (Zi p)), (2, .int (Zi q))], [.int (Zi t)])) (fun _ => rfl) ?_
    refine Z_go (f2 := (105, [(4, .int (Zi t)), (3, .int (Zi i)), (0, .ref 83), (1, .int (Zi p)), (2, .int (Zi q))], [.ref 83, .int (Zi t)])) (fun _ => rfl) ?_
    refine R_gr (q := 95) rfl hs rfl ?_
    show B_R _ _ (108, [(4, .int (Zi t)), (3, .int (Zi i)), (0, .ref 83), (1, .int (Zi p)), (2, .int (Zi q))], [.ref 97, .int (Zi t)]) _ _ _
    refine Z_go (f2 := (109, [(4, .int (Zi t)), (3, .int (Zi i)), (0, .ref 83), (1, .int (Zi p)), (2, .int (Zi q))], [.int (Zi p), .ref 97, .int (Zi t)])) (fun _ => rfl) ?_
    refine R_ia (q := 13) rfl hs rfl rfl (by omega) (by omega) (by decide) ?_
    refine Z_cge rfl rfl (by first | exact hs.zF _ | exact Zor_r _ _ | exact hs.zA _ _ | assumption | exact zA _ _ | exact zS _ | exact Zr_not (hs.zA _ _) | exact ⟨by omega, by omega⟩) (by first | exact hs.zF _ | exact Zor_r _ _ | exact hs.zA _ _ | assumption | exact zA _ _ | exact zS _ | exact Zr_not (hs.zA _ _) | exact ⟨by omega, by omega⟩) (fun c1 => ?_) (fun c1 => ?_)
    · refine B_loc (K := [(3, .int (Zi i)), (0, .ref 83), (1, .int (Zi p)), (2, .int (Zi q))]) (N_all_sub ⟨rfl, rfl, rfl, rfl, trivial⟩) (show ([3, 0, 1, 2] : List Nat).Nodup by decide) ?_
      obtain rfl : t = s.2.1 97 p := by omega
      exact kont u h hs hu
    · refine Z_go (f2 := (114, [(4, .int (Zi t)), (3, .int (Zi i)), (0, .ref 83), (1, .int (Zi p)), (2, .int (Zi q))], [.ref 83])) (fun _ => rfl) ?_
      refine R_gr (q := 94) rfl hs rfl ?_
      show B_R _ _ (117, [(4, .int (Zi t)), (3, .int (Zi i)), (0, .ref 83), (1, .int (Zi p)), (2, .int (Zi q))], [.ref 96]) _ _ _
      refine Z_go (f2 := (118, [(4, .int (Zi t)), (3, .int (Zi i)), (0, .ref 83), (1, .int (Zi p)), (2, .int (Zi q))], [.int (Zi p), .ref 96])) (fun _ => rfl) ?_
      refine R_ba (q := 12) rfl hs rfl rfl (by omega) (by omega) (by decide) ?_
      refine Z_ieq rfl rfl (by first | exact hs.zF _ | exact Zor_r _ _ | exact hs.zA _ _ | assumption | exact zA _ _ | exact zS _ | exact Zr_not (hs.zA _ _) | exact ⟨by omega, by omega⟩) (fun c2 => ?_) (fun c2 => ?_)
      · refine B_loc (K := [(3, .int (Zi i)), (0, .ref 83), (1, .int (Zi p)), (2, .int (Zi q))]) (N_all_sub ⟨rfl, rfl, rfl, rfl, trivial⟩) (show ([3, 0, 1, 2] : List Nat).Nodup by decide) ?_
        obtain rfl : t = s.2.1 97 p := by omega
        exact kont u h hs hu
      · refine Z_go (f2 := (123, [(4, .int (Zi t)), (3, .int (Zi i)), (0, .ref 83), (1, .int (Zi p)), (2, .int (Zi q))], [.ref 83])) (fun _ => rfl) ?_
        refine Z_go (f2 := (124, [(4, .int (Zi t)), (3, .int (Zi i)), (0, .ref 83), (1, .int (Zi p)), (2, .int (Zi q))], [.ref 83, .ref 83])) (fun _ => rfl) ?_
        refine Z_go (f2 := (125, [(4, .int (Zi t)), (3, .int (Zi i)), (0, .ref 83), (1, .int (Zi p)), (2, .int (Zi q))], [.int (Zi p), .ref 83, .ref 83])) (fun _ => rfl) ?_
        refine Z_go (f2 := (127, [(4, .int (Zi t)), (3, .int (Zi i)), (0, .ref 83), (1, .int (Zi p)), (2, .int (Zi q))], [.int (Zi t), .int (Zi p), .ref 83, .ref 83])) (fun _ => rfl) ?_
        refine Z_go (f2 := (128, [(4, .int (Zi t)), (3, .int (Zi i)), (0, .ref 83), (1, .int (Zi p)), (2, .int (Zi q))], [.ref 83, .int (Zi t), .int (Zi p), .ref 83, .ref 83])) (fun _ => rfl) ?_
        refine R_gr (q := 99) rfl hs rfl ?_
        show B_R _ _ (131, [(4, .int (Zi t)), (3, .int (Zi i)), (0, .ref 83), (1, .int (Zi p)), (2, .int (Zi q))], [.ref 101, .int (Zi t), .int (Zi p), .ref 83, .ref 83]) _ _ _
        refine Z_go (f2 := (133, [(4, .int (Zi t)), (3, .int (Zi i)), (0, .ref 83), (1, .int (Zi p)), (2, .int (Zi q))], [.int (Zi 12), .ref 101, .int (Zi t), .int (Zi p), .ref 83, .ref 83])) (fun _ => rfl) ?_
        refine Z_go (f2 := (134, [(4, .int (Zi t)), (3, .int (Zi i)), (0, .ref 83), (1, .int (Zi p)), (2, .int (Zi q))], [.int (Zi q), .int (Zi 12), .ref 101, .int (Zi t), .int (Zi p), .ref 83, .ref 83])) (fun _ => rfl) ?_
        refine Z_imul rfl ?_
        refine Z_go (f2 := (136, [(4, .int (Zi t)), (3, .int (Zi i)), (0, .ref 83), (1, .int (Zi p)), (2, .int (Zi q))], [.int (Zi i), .int (Zi (12 * q)), .ref 101, .int (Zi t), .int (Zi p), .ref 83, .ref 83])) (fun _ => rfl) ?_
        refine Z_iadd rfl ?_
        refine R_ia (q := 17) rfl hs rfl rfl (by omega) (by omega) (by decide) ?_
        refine R_call (As := [.int (Zi p), .int (Zi t), .int (Zi (u.2.1 101 (12 * q + i)))]) (rest := [.ref 83]) rfl (by decide) rfl rfl rfl rfl (by decide +kernel) (Nat.le_of_ble_eq_true rfl) hs (R_headOf2 _ u p0 p1 (hu.tv tv) t0 (by omega) ve.zr ve) (fun x h s2 hs q => ?_)
        obtain ⟨q0, v, rfl, vv, vx⟩ := q
        rw [q0] at hs
        rw [hu.trow, ee] at vx
        show B_R _ _ (141, [(4, .int (Zi t)), (3, .int (Zi i)), (0, .ref 83), (1, .int (Zi p)), (2, .int (Zi q))], [.int (Zi v), .ref 83]) _ _ _
        refine R_call (As := [.int (Zi v)]) (rest := []) rfl (by decide) rfl rfl rfl rfl (by decide +kernel) (Nat.le_of_ble_eq_true rfl) hs (R_addShort _ u vv.zr (by omega) (by omega)) (fun x h w hs q => ?_)
        obtain ⟨rfl, q1⟩ := q
        show B_R _ _ (144, [(4, .int (Zi t)), (3, .int (Zi i)), (0, .ref 83), (1, .int (Zi p)), (2, .int (Zi q))], []) _ _ _
        refine Z_iinc (L2 := [(4, .int (Zi (t + 1))), (3, .int (Zi i)), (0, .ref 83), (1, .int (Zi p)), (2, .int (Zi q))]) rfl rfl (by decide) rfl ?_
        refine Z_go (f2 := (102, [(4, .int (Zi (t + 1))), (3, .int (Zi i)), (0, .ref 83), (1, .int (Zi p)), (2, .int (Zi q))], [])) (fun _ => rfl) ?_
        refine B_loc (K := [(4, .int (Zi (t + 1))), (3, .int (Zi i)), (0, .ref 83), (1, .int (Zi p)), (2, .int (Zi q))]) (N_all_sub ⟨rfl, rfl, rfl, rfl, rfl, trivial⟩) (show ([4, 3, 0, 1, 2] : List Nat).Nodup by decide) ?_
        have hw := hu.add (by omega) vv
        have st := R_tf_st (fun r => (fun t h => E_hd (t ++ h)) r (X_dec (s.2.1 101 (12 * q + i)))) s p t0
        rw [← q1, vx, F_or_assoc] at hw
        rw [show F_one (E_hd (R_trow s p t ++ X_dec (s.2.1 101 (12 * q + i)))) = F_one ((fun r => (fun t h => E_hd (t ++ h)) r (X_dec (s.2.1 101 (12 * q + i)))) (R_trow s p t)) from rfl, st, Int.add_assoc] at hw
        exact ih (t + 1) w h (by omega) hs hw (by omega) (by omega)
theorem R_bh_i {d : Nat} {h0 : E_H} {s : R_S} {sl : Nat} {Φ : E_R → Prop} {p q : Int} {H : P_X} (p0 : 0 ≤ p) (p1 : p < 44) (q0 : 0 ≤ q) (q1 : q < 44) (f96 : s.2.1 96 p = 1) (tv : R_tv s p) (hH : R_EN 100 s q H) (kont : ∀ (u : R_S) (h : E_H), R_is h0 h u → R_shp s u (s.2.1 100 q * s.2.1 97 p) (R_bq (fun t h => E_hd (t ++ h)) s p q 101 (s.2.1 100 q)) → B_R (d + 2) E_m243 (156, [(0, .ref 83), (1, .int (Zi p)), (2, .int (Zi q))], []) h sl Φ) : ∀ (f : Nat) (i : Int) (u : R_S) (h : E_H), s.2.1 100 q - i < f → R_is h0 h u → R_shp s u (i * s.2.1 97 p) (R_bq (fun t h => E_hd (t ++ h)) s p q 101 i) → 0 ≤ i → i ≤ s.2.1 100 q → B_R (d + 2) E_m243 (52, [(3, .int (Zi i)), (0, .ref 83), (1, .int (Zi p)), (2, .int (Zi q))], []) h sl Φ := by
  intro f
  induction f with
  | zero => intro i u h ht hs hu i0 i1; omega
  | succ f ih =>
    intro i u h ht hs hu i0 i1
    have e96 : u.2.1 96 p = s.2.1 96 p := hu.2.1 96 _ (by decide)
    have ec : u.2.1 100 q = s.2.1 100 q := hu.2.1 100 _ (by decide)
    have t8 := tv.2.1
    have t0 := tv.1
    have h12 := hH.2.1
    refine Z_go (f2 := (53, [(3, .int (Zi i)), (0, .ref 83), (1, .int (Zi p)), (2, .int (Zi q))], [.int (Zi i)])) (fun _ => rfl) ?_
    refine Z_go (f2 := (54, [(3, .int (Zi i)), (0, .ref 83), (1, .int (Zi p)), (2, .int (Zi q))], [.ref 83, .int (Zi i)])) (fun _ => rfl) ?_
    refine R_gr (q := 98) rfl hs rfl ?_
    show B_R _ _ (57, [(3, .int (Zi i)), (0, .ref 83), (1, .int (Zi p)), (2, .int (Zi q))], [.ref 100, .int (Zi i)]) _ _ _
    refine Z_go (f2 := (58, [(3, .int (Zi i)), (0, .ref 83), (1, .int (Zi p)), (2, .int (Zi q))], [.ref 83, .ref 100, .int (Zi i)])) (fun _ => rfl) ?_
    refine R_gr (q := 94) rfl hs rfl ?_
    show B_R _ _ (61, [(3, .int (Zi i)), (0, .ref 83), (1, .int (Zi p)), (2, .int (Zi q))], [.ref 96, .ref 100, .int (Zi i)]) _ _ _
    refine Z_go (f2 := (62, [(3, .int (Zi i)), (0, .ref 83), (1, .int (Zi p)), (2, .int (Zi q))], [.int (Zi p), .ref 96, .ref 100, .int (Zi i)])) (fun _ => rfl) ?_
    refine R_ba (q := 12) rfl hs rfl rfl (by omega) (by omega) (by decide) ?_
    refine Z_ieq rfl rfl (by first | exact hs.zF _ | exact Zor_r _ _ | exact hs.zA _ _ | assumption | exact zA _ _ | exact zS _ | exact Zr_not (hs.zA _ _) | exact ⟨by omega, by omega⟩) (fun c1 => ?_) (fun c1 => ?_)
    · exfalso; omega
    · refine Z_go (f2 := (67, [(3, .int (Zi i)), (0, .ref 83), (1, .int (Zi p)), (2, .int (Zi q))], [.int (Zi q), .ref 100, .int (Zi i)])) (fun _ => rfl) ?_
      refine Z_go (f2 := (71, [(3, .int (Zi i)), (0, .ref 83), (1, .int (Zi p)), (2, .int (Zi q))], [.int (Zi q), .ref 100, .int (Zi i)])) (fun _ => rfl) ?_
      refine R_ia (q := 16) rfl hs rfl rfl (by omega) (by omega) (by decide) ?_
      refine Z_cge rfl rfl (by first | exact hs.zF _ | exact Zor_r _ _ | exact hs.zA _ _ | assumption | exact zA _ _ | exact zS _ | exact Zr_not (hs.zA _ _) | exact ⟨by omega, by omega⟩) (by first | exact hs.zF _ | exact Zor_r _ _ | exact hs.zA _ _ | assumption | exact zA _ _ | exact zS _ | exact Zr_not (hs.zA _ _) | exact ⟨by omega, by omega⟩) (fun c2 => ?_) (fun c2 => ?_)
      · refine B_loc (K := [(0, .ref 83), (1, .int (Zi p)), (2, .int (Zi q))]) (N_all_sub ⟨rfl, rfl, rfl, trivial⟩) (show ([0, 1, 2] : List Nat).Nodup by decide) ?_
        obtain rfl : i = s.2.1 100 q := by omega
        exact kont u h hs hu
      · refine Z_go (f2 := (76, [(3, .int (Zi i)), (0, .ref 83), (1, .int (Zi p)), (2, .int (Zi q))], [.ref 83])) (fun _ => rfl) ?_
        refine R_gr (q := 94) rfl hs rfl ?_
        show B_R _ _ (79, [(3, .int (Zi i)), (0, .ref 83), (1, .int (Zi p)), (2, .int (Zi q))], [.ref 96]) _ _ _
        refine Z_go (f2 := (80, [(3, .int (Zi i)), (0, .ref 83), (1, .int (Zi p)), (2, .int (Zi q))], [.int (Zi p), .ref 96])) (fun _ => rfl) ?_
        refine R_ba (q := 12) rfl hs rfl rfl (by omega) (by omega) (by decide) ?_
        refine Z_ine rfl rfl (by first | exact hs.zF _ | exact Zor_r _ _ | exact hs.zA _ _ | assumption | exact zA _ _ | exact zS _ | exact Zr_not (hs.zA _ _) | exact ⟨by omega, by omega⟩) (fun c3 => ?_) (fun c3 => ?_)
        · refine Z_go (f2 := (100, [(3, .int (Zi i)), (0, .ref 83), (1, .int (Zi p)), (2, .int (Zi q))], [.int (Zi 0)])) (fun _ => rfl) ?_
          refine Z_go (f2 := (102, [(4, .int (Zi 0)), (3, .int (Zi i)), (0, .ref 83), (1, .int (Zi p)), (2, .int (Zi q))], [])) (fun _ => rfl) ?_
          refine B_loc (K := [(4, .int (Zi 0)), (3, .int (Zi i)), (0, .ref 83), (1, .int (Zi p)), (2, .int (Zi q))]) (N_all_sub ⟨rfl, rfl, rfl, rfl, rfl, trivial⟩) (show ([4, 3, 0, 1, 2] : List Nat).Nodup by decide) ?_
          have hn : 0 ≤ i * s.2.1 97 p := Int.mul_nonneg i0 t0
          have hn2 : i * s.2.1 97 p + s.2.1 97 p < 160 := by
            have e1 : (i + 1) * s.2.1 97 p ≤ 12 * s.2.1 97 p := Int.mul_le_mul_of_nonneg_right (by omega) t0
            have e2 : (i + 1) * s.2.1 97 p = i * s.2.1 97 p + s.2.1 97 p := by rw [Int.add_mul, Int.one_mul]
            omega
          refine R_bh_t (N0 := i * s.2.1 97 p) (P0 := R_bq (fun t h => E_hd (t ++ h)) s p q 101 i) p0 p1 q0 q1 f96 tv hH i0 (by omega) hn hn2 (fun u h hs hu => ?_) ((s.2.1 97 p).toNat + 1) 0 u h (by omega) hs (by rw [R_tf_0, F_or_no, Int.add_zero]; exact hu) (by omega) t0
          refine Z_iinc (L2 := [(3, .int (Zi (i + 1))), (0, .ref 83), (1, .int (Zi p)), (2, .int (Zi q))]) rfl rfl (by decide) rfl ?_
          refine Z_go (f2 := (52, [(3, .int (Zi (i + 1))), (0, .ref 83), (1, .int (Zi p)), (2, .int (Zi q))], [])) (fun _ => rfl) ?_
          refine B_loc (K := [(3, .int (Zi (i + 1))), (0, .ref 83), (1, .int (Zi p)), (2, .int (Zi q))]) (N_all_sub ⟨rfl, rfl, rfl, rfl, trivial⟩) (show ([3, 0, 1, 2] : List Nat).Nodup by decide) ?_
          refine ih (i + 1) u h (by omega) hs ?_ (by omega) (by omega)
          rw [R_bq_s (fun t h => E_hd (t ++ h)) s p q 101 i0] at hu
          rw [show (i + 1) * s.2.1 97 p = i * s.2.1 97 p + s.2.1 97 p by rw [Int.add_mul, Int.one_mul]]
          exact hu
        · exfalso; omega
theorem R_bt_t {d : Nat} {h0 : E_H} {s : R_S} {sl : Nat} {Φ : E_R → Prop} {p q i N0 : Int} {P0 : P_X} {H : P_X} (p0 : 0 ≤ p) (p1 : p < 44) (q0 : 0 ≤ q) (q1 : q < 44) (f96 : s.2.1 96 q = 1) (tv : R_tv s q) (hH : R_EN 102 s p H) (i0 : 0 ≤ i) (i1 : i < s.2.1 102 p) (n0 : 0 ≤ N0) (n1 : N0 + s.2.1 97 q < 160) (kont : ∀ (u : R_S) (h : E_H), R_is h0 h u → R_shp s u (N0 + s.2.1 97 q) (F_or P0 (R_tf (fun r => (fun t u => E_tl (u ++ t)) r (X_dec (s.2.1 103 (12 * p + i)))) s q (s.2.1 97 q))) → B_R (d + 2) E_m243 (268, [(3, .int (Zi i)), (0, .ref 83), (1, .int (Zi p)), (2, .int (Zi q))], []) h sl Φ) : ∀ (f : Nat) (t : Int) (u : R_S) (h : E_H), s.2.1 97 q - t < f → R_is h0 h u → R_shp s u (N0 + t) (F_or P0 (R_tf (fun r => (fun t u => E_tl (u ++ t)) r (X_dec (s.2.1 103 (12 * p + i)))) s q t)) → 0 ≤ t → t ≤ s.2.1 97 q → B_R (d + 2) E_m243 (220, [(4, .int (Zi t)), (3, .int (Zi i)), (0, .ref 83), (1, .int (Zi p)), (2, .int (Zi q))], []) h sl Φ := by
  intro f
  induction f with
  | zero => intro t u h ht hs hu t0 t1; omega
  | succ f ih =>
    intro t u h ht hs hu t0 t1
    have e97 : u.2.1 97 q = s.2.1 97 q := hu.2.1 97 _ (by decide)
    have e96 : u.2.1 96 q = s.2.1 96 q := hu.2.1 96 _ (by decide)
    have ee : u.2.1 103 (12 * p + i) = s.2.1 103 (12 * p + i) := hu.2.1 103 _ (by decide)
    have e41 := hu.2.2.2.1
    have t8 := tv.2.1
    have h12 := hH.2.1
    have ve : X_v (u.2.1 103 (12 * p + i)) := by rw [ee]; exact hH.2.2.1 i i0 i1
    refine Z_go (f2 := (222, [(4, .int (Zi t)), (3, .int (Zi i)), (0, .ref 83), (1, .int (Zi p)), (2, .int (Zi q))], [.int (Zi t)])) (fun _ => rfl) ?_
    refine Z_go (f2 := (223, [(4, .int (Zi t)), (3, .int (Zi i)), (0, .ref 83), (1, .int (Zi p)), (2, .int (Zi q))], [.ref 83, .int (Zi t)])) (fun _ => rfl) ?_
    refine R_gr (q := 95) rfl hs rfl ?_
    show B_R _ _ (226, [(4, .int (Zi t)), (3, .int (Zi i)), (0, .ref 83), (1, .int (Zi p)), (2, .int (Zi q))], [.ref 97, .int (Zi t)]) _ _ _
    refine Z_go (f2 := (227, [(4, .int (Zi t)), (3, .int (Zi i)), (0, .ref 83), (1, .int (Zi p)), (2, .int (Zi q))], [.int (Zi q), .ref 97, .int (Zi t)])) (fun _ => rfl) ?_
    refine R_ia (q := 13) rfl hs rfl rfl (by omega) (by omega) (by decide) ?_
    refine Z_cge rfl rfl (by first | exact hs.zF _ | exact Zor_r _ _ | exact hs.zA _ _ | assumption | exact zA _ _ | exact zS _ | exact Zr_not (hs.zA _ _) | exact ⟨by omega, by omega⟩) (by first | exact hs.zF _ | exact Zor_r _ _ | exact hs.zA _ _ | assumption | exact zA _ _ | exact zS _ | exact Zr_not (hs.zA _ _) | exact ⟨by omega, by omega⟩) (fun c1 => ?_) (fun c1 => ?_)
    · refine B_loc (K := [(3, .int (Zi i)), (0, .ref 83), (1, .int (Zi p)), (2, .int (Zi q))]) (N_all_sub ⟨rfl, rfl, rfl, rfl, trivial⟩) (show ([3, 0, 1, 2] : List Nat).Nodup by decide) ?_
      obtain rfl : t = s.2.1 97 q := by omega
      exact kont u h hs hu
    · refine Z_go (f2 := (232, [(4, .int (Zi t)), (3, .int (Zi i)), (0, .ref 83), (1, .int (Zi p)), (2, .int (Zi q))], [.ref 83])) (fun _ => rfl) ?_
      refine R_gr (q := 94) rfl hs rfl ?_
      show B_R _ _ (235, [(4, .int (Zi t)), (3, .int (Zi i)), (0, .ref 83), (1, .int (Zi p)), (2, .int (Zi q))], [.ref 96]) _ _ _
      refine Z_go (f2 := (236, [(4, .int (Zi t)), (3, .int (Zi i)), (0, .ref 83), (1, .int (Zi p)), (2, .int (Zi q))], [.int (Zi q), .ref 96])) (fun _ => rfl) ?_
      refine R_ba (q := 12) rfl hs rfl rfl (by omega) (by omega) (by decide) ?_
      refine Z_ieq rfl rfl (by first | exact hs.zF _ | exact Zor_r _ _ | exact hs.zA _ _ | assumption | exact zA _ _ | exact zS _ | exact Zr_not (hs.zA _ _) | exact ⟨by omega, by omega⟩) (fun c2 => ?_) (fun c2 => ?_)
      · refine B_loc (K := [(3, .int (Zi i)), (0, .ref 83), (1, .int (Zi p)), (2, .int (Zi q))]) (N_all_sub ⟨rfl, rfl, rfl, rfl, trivial⟩) (show ([3, 0, 1, 2] : List Nat).Nodup by decide) ?_
        obtain rfl : t = s.2.1 97 q := by omega
        exact kont u h hs hu
      · refine Z_go (f2 := (241, [(4, .int (Zi t)), (3, .int (Zi i)), (0, .ref 83), (1, .int (Zi p)), (2, .int (Zi q))], [.ref 83])) (fun _ => rfl) ?_
        refine Z_go (f2 := (242, [(4, .int (Zi t)), (3, .int (Zi i)), (0, .ref 83), (1, .int (Zi p)), (2, .int (Zi q))], [.ref 83, .ref 83])) (fun _ => rfl) ?_
        refine Z_go (f2 := (243, [(4, .int (Zi t)), (3, .int (Zi i)), (0, .ref 83), (1, .int (Zi p)), (2, .int (Zi q))], [.int (Zi q), .ref 83, .ref 83])) (fun _ => rfl) ?_
        refine Z_go (f2 := (245, [(4, .int (Zi t)), (3, .int (Zi i)), (0, .ref 83), (1, .int (Zi p)), (2, .int (Zi q))], [.int (Zi t), .int (Zi q), .ref 83, .ref 83])) (fun _ => rfl) ?_
        refine Z_go (f2 := (246, [(4, .int (Zi t)), (3, .int (Zi i)), (0, .ref 83), (1, .int (Zi p)), (2, .int (Zi q))], [.ref 83, .int (Zi t), .int (Zi q), .ref 83, .ref 83])) (fun _ => rfl) ?_
        refine R_gr (q := 101) rfl hs rfl ?_
        show B_R _ _ (249, [(4, .int (Zi t)), (3, .int (Zi i)), (0, .ref 83), (1, .int (Zi p)), (2, .int (Zi q))], [.ref 103, .int (Zi t), .int (Zi q), .ref 83, .ref 83]) _ _ _
        refine Z_go (f2 := (251, [(4, .int (Zi t)), (3, .int (Zi i)), (0, .ref 83), (1, .int (Zi p)), (2, .int (Zi q))], [.int (Zi 12), .ref 103, .int (Zi t), .int (Zi q), .ref 83, .ref 83])) (fun _ => rfl) ?_
        refine Z_go (f2 := (252, [(4, .int (Zi t)), (3, .int (Zi i)), (0, .ref 83), (1, .int (Zi p)), (2, .int (Zi q))], [.int (Zi p), .int (Zi 12), .ref 103, .int (Zi t), .int (Zi q), .ref 83, .ref 83])) (fun _ => rfl) ?_
        refine Z_imul rfl ?_
        refine Z_go (f2 := (254, [(4, .int (Zi t)), (3, .int (Zi i)), (0, .ref 83), (1, .int (Zi p)), (2, .int (Zi q))], [.int (Zi i), .int (Zi (12 * p)), .ref 103, .int (Zi t), .int (Zi q), .ref 83, .ref 83])) (fun _ => rfl) ?_
        refine Z_iadd rfl ?_
        refine R_ia (q := 19) rfl hs rfl rfl (by omega) (by omega) (by decide) ?_
        refine R_call (As := [.int (Zi q), .int (Zi t), .int (Zi (u.2.1 103 (12 * p + i)))]) (rest := [.ref 83]) rfl (by decide) rfl rfl rfl rfl (by decide +kernel) (Nat.le_of_ble_eq_true rfl) hs (R_tailOf2 _ u q0 q1 (hu.tv tv) t0 (by omega) ve.zr ve) (fun x h s2 hs q => ?_)
        obtain ⟨q0, v, rfl, vv, vx⟩ := q
        rw [q0] at hs
        rw [hu.trow, ee] at vx
        show B_R _ _ (259, [(4, .int (Zi t)), (3, .int (Zi i)), (0, .ref 83), (1, .int (Zi p)), (2, .int (Zi q))], [.int (Zi v), .ref 83]) _ _ _
        refine R_call (As := [.int (Zi v)]) (rest := []) rfl (by decide) rfl rfl rfl rfl (by decide +kernel) (Nat.le_of_ble_eq_true rfl) hs (R_addShort _ u vv.zr (by omega) (by omega)) (fun x h w hs q => ?_)
        obtain ⟨rfl, q1⟩ := q
        show B_R _ _ (262, [(4, .int (Zi t)), (3, .int (Zi i)), (0, .ref 83), (1, .int (Zi p)), (2, .int (Zi q))], []) _ _ _
        refine Z_iinc (L2 := [(4, .int (Zi (t + 1))), (3, .int (Zi i)), (0, .ref 83), (1, .int (Zi p)), (2, .int (Zi q))]) rfl rfl (by decide) rfl ?_
        refine Z_go (f2 := (220, [(4, .int (Zi (t + 1))), (3, .int (Zi i)), (0, .ref 83), (1, .int (Zi p)), (2, .int (Zi q))], [])) (fun _ => rfl) ?_
        refine B_loc (K := [(4, .int (Zi (t + 1))), (3, .int (Zi i)), (0, .ref 83), (1, .int (Zi p)), (2, .int (Zi q))]) (N_all_sub ⟨rfl, rfl, rfl, rfl, rfl, trivial⟩) (show ([4, 3, 0, 1, 2] : List Nat).Nodup by decide) ?_
        have hw := hu.add (by omega) vv
        have st := R_tf_st (fun r => (fun t u => E_tl (u ++ t)) r (X_dec (s.2.1 103 (12 * p + i)))) s q t0
        rw [← q1, vx, F_or_assoc] at hw
        rw [show F_one (E_tl (X_dec (s.2.1 103 (12 * p + i)) ++ R_trow s q t)) = F_one ((fun r => (fun t u => E_tl (u ++ t)) r (X_dec (s.2.1 103 (12 * p + i)))) (R_trow s q t)) from rfl, st, Int.add_assoc] at hw
        exact ih (t + 1) w h (by omega) hs hw (by omega) (by omega)
theorem R_bt_i {d : Nat} {h0 : E_H} {s : R_S} {sl : Nat} {Φ : E_R → Prop} {p q : Int} {H : P_X} (p0 : 0 ≤ p) (p1 : p < 44) (q0 : 0 ≤ q) (q1 : q < 44) (f96 : s.2.1 96 q = 1) (tv : R_tv s q) (hH : R_EN 102 s p H) (kont : ∀ (u : R_S) (h : E_H), R_is h0 h u → R_shp s u (s.2.1 102 p * s.2.1 97 q) (R_bq (fun t u => E_tl (u ++ t)) s q p 103 (s.2.1 102 p)) → B_R (d + 2) E_m243 (274, [(0, .ref 83), (1, .int (Zi p)), (2, .int (Zi q))], []) h sl Φ) : ∀ (f : Nat) (i : Int) (u : R_S) (h : E_H), s.2.1 102 p - i < f → R_is h0 h u → R_shp s u (i * s.2.1 97 q) (R_bq (fun t u => E_tl (u ++ t)) s q p 103 i) → 0 ≤ i → i ≤ s.2.1 102 p → B_R (d + 2) E_m243 (170, [(3, .int (Zi i)), (0, .ref 83), (1, .int (Zi p)), (2, .int (Zi q))], []) h sl Φ := by
  intro f
  induction f with
  | zero => intro i u h ht hs hu i0 i1; omega
  | succ f ih =>
    intro i u h ht hs hu i0 i1
    have e96 : u.2.1 96 q = s.2.1 96 q := hu.2.1 96 _ (by decide)
    have ec : u.2.1 102 p = s.2.1 102 p := hu.2.1 102 _ (by decide)
    have t8 := tv.2.1
    have t0 := tv.1
    have h12 := hH.2.1
    refine Z_go (f2 := (171, [(3, .int (Zi i)), (0, .ref 83), (1, .int (Zi p)), (2, .int (Zi q))], [.int (Zi i)])) (fun _ => rfl) ?_
    refine Z_go (f2 := (172, [(3, .int (Zi i)), (0, .ref 83), (1, .int (Zi p)), (2, .int (Zi q))], [.ref 83, .int (Zi i)])) (fun _ => rfl) ?_
    refine R_gr (q := 100) rfl hs rfl ?_
    show B_R _ _ (175, [(3, .int (Zi i)), (0, .ref 83), (1, .int (Zi p)), (2, .int (Zi q))], [.ref 102, .int (Zi i)]) _ _ _
    refine Z_go (f2 := (176, [(3, .int (Zi i)), (0, .ref 83), (1, .int (Zi p)), (2, .int (Zi q))], [.ref 83, .ref 102, .int (Zi i)])) (fun _ => rfl) ?_
    refine R_gr (q := 94) rfl hs rfl ?_
    show B_R _ _ (179, [(3, .int (Zi i)), (0, .ref 83), (1, .int (Zi p)), (2, .int (Zi q))], [.ref 96, .ref 102, .int (Zi i)]) _ _ _
    refine Z_go (f2 := (180, [(3, .int (Zi i)), (0, .ref 83), (1, .int (Zi p)), (2, .int (Zi q))], [.int (Zi q), .ref 96, .ref 102, .int (Zi i)])) (fun _ => rfl) ?_
    refine R_ba (q := 12) rfl hs rfl rfl (by omega) (by omega) (by decide) ?_
    refine Z_ieq rfl rfl (by first | exact hs.zF _ | exact Zor_r _ _ | exact hs.zA _ _ | assumption | exact zA _ _ | exact zS _ | exact Zr_not (hs.zA _ _) | exact ⟨by omega, by omega⟩) (fun c1 => ?_) (fun c1 => ?_)
    · exfalso; omega
    · refine Z_go (f2 := (185, [(3, .int (Zi i)), (0, .ref 83), (1, .int (Zi p)), (2, .int (Zi q))], [.int (Zi p), .ref 102, .int (Zi i)])) (fun _ => rfl) ?_
      refine Z_go (f2 := (189, [(3, .int (Zi i)), (0, .ref 83), (1, .int (Zi p)), (2, .int (Zi q))], [.int (Zi p), .ref 102, .int (Zi i)])) (fun _ => rfl) ?_
      refine R_ia (q := 18) rfl hs rfl rfl (by omega) (by omega) (by decide) ?_
      refine Z_cge rfl rfl (by first | exact hs.zF _ | exact Zor_r _ _ | exact hs.zA _ _ | assumption | exact zA _ _ | exact zS _ | exact Zr_not (hs.zA _ _) | exact ⟨by omega, by omega⟩) (by first | exact hs.zF _ | exact Zor_r _ _ | exact hs.zA _ _ | assumption | exact zA _ _ | exact zS _ | exact Zr_not (hs.zA _ _) | exact ⟨by omega, by omega⟩) (fun c2 => ?_) (fun c2 => ?_)
      · refine B_loc (K := [(0, .ref 83), (1, .int (Zi p)), (2, .int (Zi q))]) (N_all_sub ⟨rfl, rfl, rfl, trivial⟩) (show ([0, 1, 2] : List Nat).Nodup by decide) ?_
        obtain rfl : i = s.2.1 102 p := by omega
        exact kont u h hs hu
      · refine Z_go (f2 := (194, [(3, .int (Zi i)), (0, .ref 83), (1, .int (Zi p)), (2, .int (Zi q))], [.ref 83])) (fun _ => rfl) ?_
        refine R_gr (q := 94) rfl hs rfl ?_
        show B_R _ _ (197, [(3, .int (Zi i)), (0, .ref 83), (1, .int (Zi p)), (2, .int (Zi q))], [.ref 96]) _ _ _
        refine Z_go (f2 := (198, [(3, .int (Zi i)), (0, .ref 83), (1, .int (Zi p)), (2, .int (Zi q))], [.int (Zi q), .ref 96])) (fun _ => rfl) ?_
        refine R_ba (q := 12) rfl hs rfl rfl (by omega) (by omega) (by decide) ?_
        refine Z_ine rfl rfl (by first | exact hs.zF _ | exact Zor_r _ _ | exact hs.zA _ _ | assumption | exact zA _ _ | exact zS _ | exact Zr_not (hs.zA _ _) | exact ⟨by omega, by omega⟩) (fun c3 => ?_) (fun c3 => ?_)
        · refine Z_go (f2 := (218, [(3, .int (Zi i)), (0, .ref 83), (1, .int (Zi p)), (2, .int (Zi q))], [.int (Zi 0)])) (fun _ => rfl) ?_
          refine Z_go (f2 := (220, [(4, .int (Zi 0)), (3, .int (Zi i)), (0, .ref 83), (1, .int (Zi p)), (2, .int (Zi q))], [])) (fun _ => rfl) ?_
          refine B_loc (K := [(4, .int (Zi 0)), (3, .int (Zi i)), (0, .ref 83), (1, .int (Zi p)), (2, .int (Zi q))]) (N_all_sub ⟨rfl, rfl, rfl, rfl, rfl, trivial⟩) (show ([4, 3, 0, 1, 2] : List Nat).Nodup by decide) ?_
          have hn : 0 ≤ i * s.2.1 97 q := Int.mul_nonneg i0 t0
          have hn2 : i * s.2.1 97 q + s.2.1 97 q < 160 := by
            have e1 : (i + 1) * s.2.1 97 q ≤ 12 * s.2.1 97 q := Int.mul_le_mul_of_nonneg_right (by omega) t0
            have e2 : (i + 1) * s.2.1 97 q = i * s.2.1 97 q + s.2.1 97 q := by rw [Int.add_mul, Int.one_mul]
            omega
          refine R_bt_t (N0 := i * s.2.1 97 q) (P0 := R_bq (fun t u => E_tl (u ++ t)) s q p 103 i) p0 p1 q0 q1 f96 tv hH i0 (by omega) hn hn2 (fun u h hs hu => ?_) ((s.2.1 97 q).toNat + 1) 0 u h (by omega) hs (by rw [R_tf_0, F_or_no, Int.add_zero]; exact hu) (by omega) t0
          refine Z_iinc (L2 := [(3, .int (Zi (i + 1))), (0, .ref 83), (1, .int (Zi p)), (2, .int (Zi q))]) rfl rfl (by decide) rfl ?_
          refine Z_go (f2 := (170, [(3, .int (Zi (i + 1))), (0, .ref 83), (1, .int (Zi p)), (2, .int (Zi q))], [])) (fun _ => rfl) ?_
          refine B_loc (K := [(3, .int (Zi (i + 1))), (0, .ref 83), (1, .int (Zi p)), (2, .int (Zi q))]) (N_all_sub ⟨rfl, rfl, rfl, rfl, trivial⟩) (show ([3, 0, 1, 2] : List Nat).Nodup by decide) ?_
          refine ih (i + 1) u h (by omega) hs ?_ (by omega) (by omega)
          rw [R_bq_s (fun t u => E_tl (u ++ t)) s q p 103 i0] at hu
          rw [show (i + 1) * s.2.1 97 q = i * s.2.1 97 q + s.2.1 97 q by rw [Int.add_mul, Int.one_mul]]
          exact hu
        · exfalso; omega
