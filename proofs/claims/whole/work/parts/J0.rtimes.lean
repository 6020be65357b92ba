/-! the reference: times -/
/-- what stands behind keeps the choices small -/
def V_hb (v w : P_V) : Prop := (∀ x y, V_C v x → V_C w y → (L_un x y).length ≤ 640) ∧ (∀ x y, F_both (V_C v) (V_C w) x → F_least (F_im2 (fun t h => L_gr (t ++ h)) (V_T v) (V_H w)) y → (L_un x y).length ≤ 640)
/-- so do all that times puts behind -/
def V_hbt (v : P_V) (lo hi : Int) : Prop := (hi = -1 → lo ≠ 0 → (∀ i : Nat, (i : Int) < lo - 1 → V_hb (V_rep V_nil v i) v) ∧ V_hb (V_rep V_nil v (lo.toNat - 1)) (V_open v)) ∧ (hi ≠ -1 → (∀ i : Nat, (i : Int) < lo → V_hb (V_rep V_nil v i) v) ∧ ∀ i : Nat, (i : Int) < hi - lo → V_hb (V_rep (V_rep V_nil v lo.toNat) (V_may v) i) (V_may v))
def R_tK (z : Int) : Int → Prop := fun e => e = z ∨ e = z + 1 ∨ e = z + 2 ∨ e = 40 ∨ e = 41 ∨ e = 42 ∨ e = 43
/-- the slots z, z + 1, z + 2 hold a, v, w -/
def R_t3 (s u : R_S) (z : Int) (a v w : P_V) : Prop := R_V u z a ∧ R_V u (z + 1) v ∧ R_V u (z + 2) w ∧ R_vk s u (R_tK z)
theorem R_ti_1 {d : Nat} {h0 : E_H} {s : R_S} {sl : Nat} {Φ : E_R → Prop} {z lo hi m : Int} {a v w : P_V} (l0 : 0 ≤ lo) (l1 : lo ≤ 20) (zhi : Zr hi) (z0 : 0 ≤ z) (z1 : z < 37) (m1 : m ≤ 20) (hm : hi = -1 ∧ m = lo - 1 ∨ hi ≠ -1 ∧ m = lo) (fa : V_fix a) (fv : V_fix v) (hb : ∀ i : Nat, (i : Int) < m - 0 → V_hb (V_rep a v i) v) (kont : ∀ (u : R_S) (h : E_H), R_is h0 h u → R_t3 s u z (V_rep a v (m - 0).toNat) v w → B_R (d + 8) E_m248 (70, [(0, .ref 83), (1, .int (Zi z)), (2, .int (Zi lo)), (3, .int (Zi hi))], []) h sl Φ) : ∀ (f : Nat) (i : Int) (u : R_S) (h : E_H), m - i < f → R_is h0 h u → R_t3 s u z (V_rep a v (i - 0).toNat) v w → 0 ≤ i → i ≤ m → B_R (d + 8) E_m248 (39, [(4, .int (Zi i)), (0, .ref 83), (1, .int (Zi z)), (2, .int (Zi lo)), (3, .int (Zi hi))], []) h sl Φ := by
  intro f
  induction f with
  | zero => intro i u h ht hs hu i0 i1; omega
  | succ f ih =>
    intro i u h ht hs hu i0 i1
    have zi : Zr i := ⟨by omega, by omega⟩
    have zlo : Zr lo := ⟨by omega, by omega⟩
    have zlo1 : Zr (lo - 1) := ⟨by omega, by omega⟩
    obtain ⟨ha, hv, hw, hk⟩ := hu
    refine Z_go (f2 := (41, [(4, .int (Zi i)), (0, .ref 83), (1, .int (Zi z)), (2, .int (Zi lo)), (3, .int (Zi hi))], [.int (Zi i)])) (fun _ => rfl) ?_
    refine Z_go (f2 := (42, [(4, .int (Zi i)), (0, .ref 83), (1, .int (Zi z)), (2, .int (Zi lo)), (3, .int (Zi hi))], [.int (Zi hi), .int (Zi i)])) (fun _ => rfl) ?_
    refine Z_go (f2 := (43, [(4, .int (Zi i)), (0, .ref 83), (1, .int (Zi z)), (2, .int (Zi lo)), (3, .int (Zi hi))], [.int (Zi (-1)), .int (Zi hi), .int (Zi i)])) (fun _ => rfl) ?_
    refine Z_cne rfl rfl (by first | exact hs.zF _ | exact Zor_r _ _ | exact hs.zA _ _ | assumption | exact zA _ _ | exact zS _ | exact Zr_not (hs.zA _ _) | exact ⟨by omega, by omega⟩) (by first | exact hs.zF _ | exact Zor_r _ _ | exact hs.zA _ _ | assumption | exact zA _ _ | exact zS _ | exact Zr_not (hs.zA _ _) | exact ⟨by omega, by omega⟩) (fun c1 => ?_) (fun c1 => ?_)
    · refine Z_go (f2 := (53, [(4, .int (Zi i)), (0, .ref 83), (1, .int (Zi z)), (2, .int (Zi lo)), (3, .int (Zi hi))], [.int (Zi lo), .int (Zi i)])) (fun _ => rfl) ?_
      refine Z_cge rfl rfl (by first | exact hs.zF _ | exact Zor_r _ _ | exact hs.zA _ _ | assumption | exact zA _ _ | exact zS _ | exact Zr_not (hs.zA _ _) | exact ⟨by omega, by omega⟩) (by first | exact hs.zF _ | exact Zor_r _ _ | exact hs.zA _ _ | assumption | exact zA _ _ | exact zS _ | exact Zr_not (hs.zA _ _) | exact ⟨by omega, by omega⟩) (fun c2 => ?_) (fun c2 => ?_)
      · refine B_loc (K := [(0, .ref 83), (1, .int (Zi z)), (2, .int (Zi lo)), (3, .int (Zi hi))]) (N_all_sub ⟨rfl, rfl, rfl, rfl, trivial⟩) (show ([0, 1, 2, 3] : List Nat).Nodup by decide) ?_
        obtain rfl : i = m := by omega
        exact kont u h hs ⟨ha, hv, hw, hk⟩
      · refine Z_go (f2 := (57, [(4, .int (Zi i)), (0, .ref 83), (1, .int (Zi z)), (2, .int (Zi lo)), (3, .int (Zi hi))], [.ref 83])) (fun _ => rfl) ?_
        refine Z_go (f2 := (58, [(4, .int (Zi i)), (0, .ref 83), (1, .int (Zi z)), (2, .int (Zi lo)), (3, .int (Zi hi))], [.int (Zi z), .ref 83])) (fun _ => rfl) ?_
        refine Z_go (f2 := (59, [(4, .int (Zi i)), (0, .ref 83), (1, .int (Zi z)), (2, .int (Zi lo)), (3, .int (Zi hi))], [.int (Zi z), .int (Zi z), .ref 83])) (fun _ => rfl) ?_
        refine Z_go (f2 := (60, [(4, .int (Zi i)), (0, .ref 83), (1, .int (Zi z)), (2, .int (Zi lo)), (3, .int (Zi hi))], [.int (Zi 1), .int (Zi z), .int (Zi z), .ref 83])) (fun _ => rfl) ?_
        refine Z_iadd rfl ?_
        refine R_call (As := [.int (Zi z), .int (Zi (z + 1))]) (rest := []) rfl (by decide) rfl rfl rfl rfl (by decide +kernel) (Nat.le_of_ble_eq_true rfl) hs (R_behind _ u ⟨by omega, by omega⟩ ⟨by omega, by omega⟩ z0 (by omega) (by omega) (by omega) (by omega) ha hv (V_fix_rep fa fv _) fv (hb (i - 0).toNat (by omega)).1 (hb (i - 0).toNat (by omega)).2) (fun x h x hs q => ?_)
        obtain ⟨rfl, c1, c2, c3⟩ := q
        show B_R _ _ (64, [(4, .int (Zi i)), (0, .ref 83), (1, .int (Zi z)), (2, .int (Zi lo)), (3, .int (Zi hi))], []) _ _ _
        refine Z_iinc (L2 := [(4, .int (Zi (i + 1))), (0, .ref 83), (1, .int (Zi z)), (2, .int (Zi lo)), (3, .int (Zi hi))]) rfl rfl (by decide) rfl ?_
        refine Z_go (f2 := (39, [(4, .int (Zi (i + 1))), (0, .ref 83), (1, .int (Zi z)), (2, .int (Zi lo)), (3, .int (Zi hi))], [])) (fun _ => rfl) ?_
        refine B_loc (K := [(4, .int (Zi (i + 1))), (0, .ref 83), (1, .int (Zi z)), (2, .int (Zi lo)), (3, .int (Zi hi))]) (N_all_sub ⟨rfl, rfl, rfl, rfl, rfl, trivial⟩) (show ([4, 0, 1, 2, 3] : List Nat).Nodup by decide) ?_
        refine ih (i + 1) x h (by omega) hs ⟨?_, c2, R_V_vk c3 (fun e => by rcases e with e | e | e | e | e <;> omega) hw, ?_⟩ (by omega) (by omega)
        · rw [show (i + 1 - 0).toNat = (i - 0).toNat + 1 by omega]
          exact c1
        · exact hk.trans c3 (fun _ h => h) (fun e h => by rcases h with h | h | h | h | h <;> unfold R_tK <;> omega)
    · refine Z_go (f2 := (47, [(4, .int (Zi i)), (0, .ref 83), (1, .int (Zi z)), (2, .int (Zi lo)), (3, .int (Zi hi))], [.int (Zi lo), .int (Zi i)])) (fun _ => rfl) ?_
      refine Z_go (f2 := (48, [(4, .int (Zi i)), (0, .ref 83), (1, .int (Zi z)), (2, .int (Zi lo)), (3, .int (Zi hi))], [.int (Zi 1), .int (Zi lo), .int (Zi i)])) (fun _ => rfl) ?_
      refine Z_isub rfl ?_
      refine Z_go (f2 := (53, [(4, .int (Zi i)), (0, .ref 83), (1, .int (Zi z)), (2, .int (Zi lo)), (3, .int (Zi hi))], [.int (Zi (lo - 1)), .int (Zi i)])) (fun _ => rfl) ?_
      refine Z_cge rfl rfl (by first | exact hs.zF _ | exact Zor_r _ _ | exact hs.zA _ _ | assumption | exact zA _ _ | exact zS _ | exact Zr_not (hs.zA _ _) | exact ⟨by omega, by omega⟩) (by first | exact hs.zF _ | exact Zor_r _ _ | exact hs.zA _ _ | assumption | exact zA _ _ | exact zS _ | exact Zr_not (hs.zA _ _) | exact ⟨by omega, by omega⟩) (fun c3 => ?_) (fun c3 => ?_)
      · refine B_loc (K := [(0, .ref 83), (1, .int (Zi z)), (2, .int (Zi lo)), (3, .int (Zi hi))]) (N_all_sub ⟨rfl, rfl, rfl, rfl, trivial⟩) (show ([0, 1, 2, 3] : List Nat).Nodup by decide) ?_
        obtain rfl : i = m := by omega
        exact kont u h hs ⟨ha, hv, hw, hk⟩
      · refine Z_go (f2 := (57, [(4, .int (Zi i)), (0, .ref 83), (1, .int (Zi z)), (2, .int (Zi lo)), (3, .int (Zi hi))], [.ref 83])) (fun _ => rfl) ?_
        refine Z_go (f2 := (58, [(4, .int (Zi i)), (0, .ref 83), (1, .int (Zi z)), (2, .int (Zi lo)), (3, .int (Zi hi))], [.int (Zi z), .ref 83])) (fun _ => rfl) ?_
        refine Z_go (f2 := (59, [(4, .int (Zi i)), (0, .ref 83), (1, .int (Zi z)), (2, .int (Zi lo)), (3, .int (Zi hi))], [.int (Zi z), .int (Zi z), .ref 83])) (fun _ => rfl) ?_
        refine Z_go (f2 := (60, [(4, .int (Zi i)), (0, .ref 83), (1, .int (Zi z)), (2, .int (Zi lo)), (3, .int (Zi hi))], [.int (Zi 1), .int (Zi z), .int (Zi z), .ref 83])) (fun _ => rfl) ?_
        refine Z_iadd rfl ?_
        refine R_call (As := [.int (Zi z), .int (Zi (z + 1))]) (rest := []) rfl (by decide) rfl rfl rfl rfl (by decide +kernel) (Nat.le_of_ble_eq_true rfl) hs (R_behind _ u ⟨by omega, by omega⟩ ⟨by omega, by omega⟩ z0 (by omega) (by omega) (by omega) (by omega) ha hv (V_fix_rep fa fv _) fv (hb (i - 0).toNat (by omega)).1 (hb (i - 0).toNat (by omega)).2) (fun x h x hs q => ?_)
        obtain ⟨rfl, c1, c2, c3⟩ := q
        show B_R _ _ (64, [(4, .int (Zi i)), (0, .ref 83), (1, .int (Zi z)), (2, .int (Zi lo)), (3, .int (Zi hi))], []) _ _ _
        refine Z_iinc (L2 := [(4, .int (Zi (i + 1))), (0, .ref 83), (1, .int (Zi z)), (2, .int (Zi lo)), (3, .int (Zi hi))]) rfl rfl (by decide) rfl ?_
        refine Z_go (f2 := (39, [(4, .int (Zi (i + 1))), (0, .ref 83), (1, .int (Zi z)), (2, .int (Zi lo)), (3, .int (Zi hi))], [])) (fun _ => rfl) ?_
        refine B_loc (K := [(4, .int (Zi (i + 1))), (0, .ref 83), (1, .int (Zi z)), (2, .int (Zi lo)), (3, .int (Zi hi))]) (N_all_sub ⟨rfl, rfl, rfl, rfl, rfl, trivial⟩) (show ([4, 0, 1, 2, 3] : List Nat).Nodup by decide) ?_
        refine ih (i + 1) x h (by omega) hs ⟨?_, c2, R_V_vk c3 (fun e => by rcases e with e | e | e | e | e <;> omega) hw, ?_⟩ (by omega) (by omega)
        · rw [show (i + 1 - 0).toNat = (i - 0).toNat + 1 by omega]
          exact c1
        · exact hk.trans c3 (fun _ h => h) (fun e h => by rcases h with h | h | h | h | h <;> unfold R_tK <;> omega)
theorem R_ti_2 {d : Nat} {h0 : E_H} {s : R_S} {sl : Nat} {Φ : E_R → Prop} {z lo hi m : Int} {a v w : P_V} (l0 : 0 ≤ lo) (l1 : lo ≤ 20) (zhi : Zr hi) (z0 : 0 ≤ z) (z1 : z < 37) (m1 : m ≤ 20) (hm : m = hi) (fa : V_fix a) (fv : V_fix w) (hb : ∀ i : Nat, (i : Int) < m - lo → V_hb (V_rep a w i) w) (kont : ∀ (u : R_S) (h : E_H), R_is h0 h u → R_t3 s u z (V_rep a w (m - lo).toNat) v w → B_R (d + 8) E_m248 (121, [(0, .ref 83), (1, .int (Zi z)), (2, .int (Zi lo)), (3, .int (Zi hi))], []) h sl Φ) : ∀ (f : Nat) (i : Int) (u : R_S) (h : E_H), m - i < f → R_is h0 h u → R_t3 s u z (V_rep a w (i - lo).toNat) v w → lo ≤ i → i ≤ m → B_R (d + 8) E_m248 (101, [(4, .int (Zi i)), (0, .ref 83), (1, .int (Zi z)), (2, .int (Zi lo)), (3, .int (Zi hi))], []) h sl Φ := by
  intro f
  induction f with
  | zero => intro i u h ht hs hu i0 i1; omega
  | succ f ih =>
    intro i u h ht hs hu i0 i1
    have zi : Zr i := ⟨by omega, by omega⟩
    have zlo : Zr lo := ⟨by omega, by omega⟩
    have zlo1 : Zr (lo - 1) := ⟨by omega, by omega⟩
    obtain ⟨ha, hv, hw, hk⟩ := hu
    refine Z_go (f2 := (103, [(4, .int (Zi i)), (0, .ref 83), (1, .int (Zi z)), (2, .int (Zi lo)), (3, .int (Zi hi))], [.int (Zi i)])) (fun _ => rfl) ?_
    refine Z_go (f2 := (104, [(4, .int (Zi i)), (0, .ref 83), (1, .int (Zi z)), (2, .int (Zi lo)), (3, .int (Zi hi))], [.int (Zi hi), .int (Zi i)])) (fun _ => rfl) ?_
    refine Z_cge rfl rfl (by first | exact hs.zF _ | exact Zor_r _ _ | exact hs.zA _ _ | assumption | exact zA _ _ | exact zS _ | exact Zr_not (hs.zA _ _) | exact ⟨by omega, by omega⟩) (by first | exact hs.zF _ | exact Zor_r _ _ | exact hs.zA _ _ | assumption | exact zA _ _ | exact zS _ | exact Zr_not (hs.zA _ _) | exact ⟨by omega, by omega⟩) (fun c1 => ?_) (fun c1 => ?_)
    · refine B_loc (K := [(0, .ref 83), (1, .int (Zi z)), (2, .int (Zi lo)), (3, .int (Zi hi))]) (N_all_sub ⟨rfl, rfl, rfl, rfl, trivial⟩) (show ([0, 1, 2, 3] : List Nat).Nodup by decide) ?_
      obtain rfl : i = m := by omega
      exact kont u h hs ⟨ha, hv, hw, hk⟩
    · refine Z_go (f2 := (108, [(4, .int (Zi i)), (0, .ref 83), (1, .int (Zi z)), (2, .int (Zi lo)), (3, .int (Zi hi))], [.ref 83])) (fun _ => rfl) ?_
      refine Z_go (f2 := (109, [(4, .int (Zi i)), (0, .ref 83), (1, .int (Zi z)), (2, .int (Zi lo)), (3, .int (Zi hi))], [.int (Zi z), .ref 83])) (fun _ => rfl) ?_
      refine Z_go (f2 := (110, [(4, .int (Zi i)), (0, .ref 83), (1, .int (Zi z)), (2, .int (Zi lo)), (3, .int (Zi hi))], [.int (Zi z), .int (Zi z), .ref 83])) (fun _ => rfl) ?_
      refine Z_go (f2 := (111, [(4, .int (Zi i)), (0, .ref 83), (1, .int (Zi z)), (2, .int (Zi lo)), (3, .int (Zi hi))], [.int (Zi 2), .int (Zi z), .int (Zi z), .ref 83])) (fun _ => rfl) ?_
      refine Z_iadd rfl ?_
      refine R_call (As := [.int (Zi z), .int (Zi (z + 2))]) (rest := []) rfl (by decide) rfl rfl rfl rfl (by decide +kernel) (Nat.le_of_ble_eq_true rfl) hs (R_behind _ u ⟨by omega, by omega⟩ ⟨by omega, by omega⟩ z0 (by omega) (by omega) (by omega) (by omega) ha hw (V_fix_rep fa fv _) fv (hb (i - lo).toNat (by omega)).1 (hb (i - lo).toNat (by omega)).2) (fun x h x hs q => ?_)
      obtain ⟨rfl, c1, c2, c3⟩ := q
      show B_R _ _ (115, [(4, .int (Zi i)), (0, .ref 83), (1, .int (Zi z)), (2, .int (Zi lo)), (3, .int (Zi hi))], []) _ _ _
      refine Z_iinc (L2 := [(4, .int (Zi (i + 1))), (0, .ref 83), (1, .int (Zi z)), (2, .int (Zi lo)), (3, .int (Zi hi))]) rfl rfl (by decide) rfl ?_
      refine Z_go (f2 := (101, [(4, .int (Zi (i + 1))), (0, .ref 83), (1, .int (Zi z)), (2, .int (Zi lo)), (3, .int (Zi hi))], [])) (fun _ => rfl) ?_
      refine B_loc (K := [(4, .int (Zi (i + 1))), (0, .ref 83), (1, .int (Zi z)), (2, .int (Zi lo)), (3, .int (Zi hi))]) (N_all_sub ⟨rfl, rfl, rfl, rfl, rfl, trivial⟩) (show ([4, 0, 1, 2, 3] : List Nat).Nodup by decide) ?_
      refine ih (i + 1) x h (by omega) hs ⟨?_, R_V_vk c3 (fun e => by rcases e with e | e | e | e | e <;> omega) hv, c2, ?_⟩ (by omega) (by omega)
      · rw [show (i + 1 - lo).toNat = (i - lo).toNat + 1 by omega]
        exact c1
      · exact hk.trans c3 (fun _ h => h) (fun e h => by rcases h with h | h | h | h | h <;> unfold R_tK <;> omega)
theorem R_ti_70 {d : Nat} {h0 : E_H} {s : R_S} {sl : Nat} {Φ : E_R → Prop} {z lo hi m : Int} {v : P_V} (l0 : 0 ≤ lo) (l1 : lo ≤ 20) (zhi : Zr hi) (z0 : 0 ≤ z) (z1 : z < 37) (hi1 : hi = -1 ∨ lo ≤ hi ∧ hi ≤ 20) (m0 : 0 ≤ m) (hm : hi = -1 ∧ m = lo - 1 ∨ hi ≠ -1 ∧ m = lo) (fv : V_fix v) (hb : V_hbt v lo hi) (kont : ∀ (u : R_S) (h : E_H), R_is h0 h u → R_V u z (V_times v lo hi) → R_vk s u (R_tK z) → Φ (none, h, sl)) (u : R_S) (h : E_H) (hs : R_is h0 h u) (hu : R_t3 s u z (V_rep V_nil v (m - 0).toNat) v v) : B_R (d + 8) E_m248 (70, [(0, .ref 83), (1, .int (Zi z)), (2, .int (Zi lo)), (3, .int (Zi hi))], []) h sl Φ := by
  obtain ⟨ha, hv, hw, hk⟩ := hu
  have zlo : Zr lo := ⟨by omega, by omega⟩
  have zhi1 : Zr hi := zhi
  refine Z_go (f2 := (71, [(0, .ref 83), (1, .int (Zi z)), (2, .int (Zi lo)), (3, .int (Zi hi))], [.int (Zi hi)])) (fun _ => rfl) ?_
  refine Z_go (f2 := (72, [(0, .ref 83), (1, .int (Zi z)), (2, .int (Zi lo)), (3, .int (Zi hi))], [.int (Zi (-1)), .int (Zi hi)])) (fun _ => rfl) ?_
  refine Z_cne rfl rfl (by first | exact hs.zF _ | exact Zor_r _ _ | exact hs.zA _ _ | assumption | exact zA _ _ | exact zS _ | exact Zr_not (hs.zA _ _) | exact ⟨by omega, by omega⟩) (by first | exact hs.zF _ | exact Zor_r _ _ | exact hs.zA _ _ | assumption | exact zA _ _ | exact zS _ | exact Zr_not (hs.zA _ _) | exact ⟨by omega, by omega⟩) (fun c1 => ?_) (fun c1 => ?_)
  · refine Z_go (f2 := (92, [(0, .ref 83), (1, .int (Zi z)), (2, .int (Zi lo)), (3, .int (Zi hi))], [.ref 83])) (fun _ => rfl) ?_
    refine Z_go (f2 := (93, [(0, .ref 83), (1, .int (Zi z)), (2, .int (Zi lo)), (3, .int (Zi hi))], [.int (Zi z), .ref 83])) (fun _ => rfl) ?_
    refine Z_go (f2 := (94, [(0, .ref 83), (1, .int (Zi z)), (2, .int (Zi lo)), (3, .int (Zi hi))], [.int (Zi 2), .int (Zi z), .ref 83])) (fun _ => rfl) ?_
    refine Z_iadd rfl ?_
    refine R_call (As := [.int (Zi (z + 2))]) (rest := []) rfl (by decide) rfl rfl rfl rfl (by decide +kernel) (Nat.le_of_ble_eq_true rfl) hs (R_may _ u ⟨by omega, by omega⟩ (by omega) (by omega) hw) (fun x h x hs q => ?_)
    obtain ⟨rfl, e1, e2⟩ := q
    show B_R _ _ (98, [(0, .ref 83), (1, .int (Zi z)), (2, .int (Zi lo)), (3, .int (Zi hi))], []) _ _ _
    refine Z_go (f2 := (99, [(0, .ref 83), (1, .int (Zi z)), (2, .int (Zi lo)), (3, .int (Zi hi))], [.int (Zi lo)])) (fun _ => rfl) ?_
    refine Z_go (f2 := (101, [(4, .int (Zi lo)), (0, .ref 83), (1, .int (Zi z)), (2, .int (Zi lo)), (3, .int (Zi hi))], [])) (fun _ => rfl) ?_
    have em : (m - 0).toNat = lo.toNat := by omega
    rw [em] at ha
    refine R_ti_2 (m := hi) (s := s) (v := v) l0 l1 zhi z0 z1 (by omega) rfl (V_fix_rep V_fix_nil fv lo.toNat) (V_fix_or v V_nil) (hb.2 (by omega)).2 (fun u h hs hu => ?_) (hi - lo).toNat.succ lo x h (by omega) hs ⟨by rw [Int.sub_self]; exact R_V_vk e2 (by omega) ha, R_V_vk e2 (by omega) hv, e1, hk.trans e2 (fun _ h => h) (fun e h => by unfold R_tK; omega)⟩ (Int.le_refl _) (by omega)
    refine Z_ret rfl rfl (kont u h hs ?_ hu.2.2.2)
    unfold V_times
    rw [if_neg (by omega)]
    exact hu.1
  · have em : (m - 0).toNat = lo.toNat - 1 := by omega
    have hq := (hb.1 (by omega) (by omega)).2
    rw [← em] at hq
    refine Z_go (f2 := (76, [(0, .ref 83), (1, .int (Zi z)), (2, .int (Zi lo)), (3, .int (Zi hi))], [.ref 83])) (fun _ => rfl) ?_
    refine Z_go (f2 := (77, [(0, .ref 83), (1, .int (Zi z)), (2, .int (Zi lo)), (3, .int (Zi hi))], [.int (Zi z), .ref 83])) (fun _ => rfl) ?_
    refine Z_go (f2 := (78, [(0, .ref 83), (1, .int (Zi z)), (2, .int (Zi lo)), (3, .int (Zi hi))], [.int (Zi 2), .int (Zi z), .ref 83])) (fun _ => rfl) ?_
    refine Z_iadd rfl ?_
    refine R_call (As := [.int (Zi (z + 2))]) (rest := []) rfl (by decide) rfl rfl rfl rfl (by decide +kernel) (Nat.le_of_ble_eq_true rfl) hs (R_openOnly _ u ⟨by omega, by omega⟩ (by omega) (by omega) hw) (fun x h x hs q => ?_)
    obtain ⟨rfl, e1, e2⟩ := q
    show B_R _ _ (82, [(0, .ref 83), (1, .int (Zi z)), (2, .int (Zi lo)), (3, .int (Zi hi))], []) _ _ _
    refine Z_go (f2 := (83, [(0, .ref 83), (1, .int (Zi z)), (2, .int (Zi lo)), (3, .int (Zi hi))], [.ref 83])) (fun _ => rfl) ?_
    refine Z_go (f2 := (84, [(0, .ref 83), (1, .int (Zi z)), (2, .int (Zi lo)), (3, .int (Zi hi))], [.int (Zi z), .ref 83])) (fun _ => rfl) ?_
    refine Z_go (f2 := (85, [(0, .ref 83), (1, .int (Zi z)), (2, .int (Zi lo)), (3, .int (Zi hi))], [.int (Zi z), .int (Zi z), .ref 83])) (fun _ => rfl) ?_
    refine Z_go (f2 := (86, [(0, .ref 83), (1, .int (Zi z)), (2, .int (Zi lo)), (3, .int (Zi hi))], [.int (Zi 2), .int (Zi z), .int (Zi z), .ref 83])) (fun _ => rfl) ?_
    refine Z_iadd rfl ?_
    refine R_call (As := [.int (Zi z), .int (Zi (z + 2))]) (rest := []) rfl (by decide) rfl rfl rfl rfl (by decide +kernel) (Nat.le_of_ble_eq_true rfl) hs (R_behind _ x ⟨by omega, by omega⟩ ⟨by omega, by omega⟩ z0 (by omega) (by omega) (by omega) (by omega) (R_V_vk e2 (by omega) ha) e1 (V_fix_rep V_fix_nil fv _) (V_fix_open fv) hq.1 hq.2) (fun x h y hs q => ?_)
    obtain ⟨rfl, c1, c2, c3⟩ := q
    show B_R _ _ (90, [(0, .ref 83), (1, .int (Zi z)), (2, .int (Zi lo)), (3, .int (Zi hi))], []) _ _ _
    refine Z_ret rfl rfl ?_
    refine kont y _ hs ?_ ((hk.trans e2 (fun _ h => h) (fun e h => by unfold R_tK; omega)).trans c3 (fun _ h => h) (fun e h => by rcases h with h | h | h | h | h <;> unfold R_tK <;> omega))
    unfold V_times
    rw [if_pos (by omega), if_neg (by omega), ← em]
    exact c1
theorem R_ti_15 {d : Nat} {h0 : E_H} {s : R_S} {sl : Nat} {Φ : E_R → Prop} {z lo hi : Int} {v : P_V} (l0 : 0 ≤ lo) (l1 : lo ≤ 20) (zhi : Zr hi) (z0 : 0 ≤ z) (z1 : z < 37) (hi1 : hi = -1 ∧ lo ≠ 0 ∨ lo ≤ hi ∧ hi ≤ 20) (hp : R_V s z v) (fv : V_fix v) (hb : V_hbt v lo hi) (kont : ∀ (u : R_S) (h : E_H), R_is h0 h u → R_V u z (V_times v lo hi) → R_vk s u (R_tK z) → Φ (none, h, sl)) (h : E_H) (hs : R_is h0 h s) : B_R (d + 8) E_m248 (15, [(0, .ref 83), (1, .int (Zi z)), (2, .int (Zi lo)), (3, .int (Zi hi))], []) h sl Φ := by
  refine Z_go (f2 := (16, [(0, .ref 83), (1, .int (Zi z)), (2, .int (Zi lo)), (3, .int (Zi hi))], [.ref 83])) (fun _ => rfl) ?_
  refine Z_go (f2 := (17, [(0, .ref 83), (1, .int (Zi z)), (2, .int (Zi lo)), (3, .int (Zi hi))], [.int (Zi z), .ref 83])) (fun _ => rfl) ?_
  refine Z_go (f2 := (18, [(0, .ref 83), (1, .int (Zi z)), (2, .int (Zi lo)), (3, .int (Zi hi))], [.int (Zi z), .int (Zi z), .ref 83])) (fun _ => rfl) ?_
  refine Z_go (f2 := (19, [(0, .ref 83), (1, .int (Zi z)), (2, .int (Zi lo)), (3, .int (Zi hi))], [.int (Zi 1), .int (Zi z), .int (Zi z), .ref 83])) (fun _ => rfl) ?_
  refine Z_iadd rfl ?_
  refine R_call (As := [.int (Zi z), .int (Zi (z + 1))]) (rest := []) rfl (by decide) rfl rfl rfl rfl (by decide +kernel) (Nat.le_of_ble_eq_true rfl) hs (R_copies _ s ⟨by omega, by omega⟩ ⟨by omega, by omega⟩ z0 (by omega) (by omega) (by omega) (by omega) hp) (fun x h s1 hs q => ?_)
  obtain ⟨rfl, a1, a2⟩ := q
  show B_R _ _ (23, [(0, .ref 83), (1, .int (Zi z)), (2, .int (Zi lo)), (3, .int (Zi hi))], []) _ _ _
  refine Z_go (f2 := (24, [(0, .ref 83), (1, .int (Zi z)), (2, .int (Zi lo)), (3, .int (Zi hi))], [.ref 83])) (fun _ => rfl) ?_
  refine Z_go (f2 := (25, [(0, .ref 83), (1, .int (Zi z)), (2, .int (Zi lo)), (3, .int (Zi hi))], [.int (Zi z), .ref 83])) (fun _ => rfl) ?_
  refine Z_go (f2 := (26, [(0, .ref 83), (1, .int (Zi z)), (2, .int (Zi lo)), (3, .int (Zi hi))], [.int (Zi z), .int (Zi z), .ref 83])) (fun _ => rfl) ?_
  refine Z_go (f2 := (27, [(0, .ref 83), (1, .int (Zi z)), (2, .int (Zi lo)), (3, .int (Zi hi))], [.int (Zi 2), .int (Zi z), .int (Zi z), .ref 83])) (fun _ => rfl) ?_
  refine Z_iadd rfl ?_
  refine R_call (As := [.int (Zi z), .int (Zi (z + 2))]) (rest := []) rfl (by decide) rfl rfl rfl rfl (by decide +kernel) (Nat.le_of_ble_eq_true rfl) hs (R_copies _ s1 ⟨by omega, by omega⟩ ⟨by omega, by omega⟩ z0 (by omega) (by omega) (by omega) (by omega) (R_V_vk a2 (by omega) hp)) (fun x h s2 hs q => ?_)
  obtain ⟨rfl, b1, b2⟩ := q
  show B_R _ _ (31, [(0, .ref 83), (1, .int (Zi z)), (2, .int (Zi lo)), (3, .int (Zi hi))], []) _ _ _
  refine Z_go (f2 := (32, [(0, .ref 83), (1, .int (Zi z)), (2, .int (Zi lo)), (3, .int (Zi hi))], [.ref 83])) (fun _ => rfl) ?_
  refine Z_go (f2 := (33, [(0, .ref 83), (1, .int (Zi z)), (2, .int (Zi lo)), (3, .int (Zi hi))], [.int (Zi z), .ref 83])) (fun _ => rfl) ?_
  refine R_call (As := [.int (Zi z)]) (rest := []) rfl (by decide) rfl rfl rfl rfl (by decide +kernel) (Nat.le_of_ble_eq_true rfl) hs (R_empties _ s2 ⟨by omega, by omega⟩ z0 (by omega)) (fun x h s3 hs q => ?_)
  obtain ⟨rfl, e1, e2⟩ := q
  show B_R _ _ (36, [(0, .ref 83), (1, .int (Zi z)), (2, .int (Zi lo)), (3, .int (Zi hi))], []) _ _ _
  refine Z_go (f2 := (37, [(0, .ref 83), (1, .int (Zi z)), (2, .int (Zi lo)), (3, .int (Zi hi))], [.int (Zi 0)])) (fun _ => rfl) ?_
  refine Z_go (f2 := (39, [(4, .int (Zi 0)), (0, .ref 83), (1, .int (Zi z)), (2, .int (Zi lo)), (3, .int (Zi hi))], [])) (fun _ => rfl) ?_
  have h3 : R_t3 s s3 z (V_rep V_nil v (0 - 0 : Int).toNat) v v := ⟨e1, R_V_vk e2 (by omega) (R_V_vk b2 (by omega) a1), R_V_vk e2 (by omega) b1, (a2.trans b2 (fun e h => by unfold R_tK; omega) (fun e h => by unfold R_tK; omega)).trans e2 (fun _ h => h) (fun e h => by unfold R_tK; omega)⟩
  have ⟨m, m0, m1, hm⟩ : ∃ m : Int, 0 ≤ m ∧ m ≤ 20 ∧ (hi = -1 ∧ m = lo - 1 ∨ hi ≠ -1 ∧ m = lo) := by
    by_cases c : hi = -1
    · exact ⟨lo - 1, by omega, by omega, .inl ⟨c, rfl⟩⟩
    · exact ⟨lo, by omega, by omega, .inr ⟨c, rfl⟩⟩
  refine R_ti_1 (m := m) (s := s) (v := v) (w := v) (a := V_nil) l0 l1 zhi z0 z1 m1 hm V_fix_nil fv (fun i hi2 => ?_) (fun u h hs hu => R_ti_70 l0 l1 zhi z0 z1 (by omega) m0 hm fv hb kont u h hs hu) m.toNat.succ 0 s3 h (by omega) hs h3 (Int.le_refl _) m0
  rcases hm with ⟨c, hm⟩ | ⟨c, hm⟩
  · exact (hb.1 c (by omega)).1 i (by omega)
  · exact (hb.2 c).1 i (by omega)
theorem R_times (d : Nat) (s : R_S) {z lo hi : Int} {v : P_V} (l0 : 0 ≤ lo) (l1 : lo ≤ 20) (zhi : Zr hi) (z0 : 0 ≤ z) (z1 : z < 37) (hi1 : hi = -1 ∨ lo ≤ hi ∧ hi ≤ 20) (hp : R_V s z v) (fv : V_fix v) (hb : V_hbt v lo hi) : R_ok (d + 9) 248 [.int (Zi z), .int (Zi lo), .int (Zi hi)] s (fun x s2 => x = none ∧ R_V s2 z (V_times v lo hi) ∧ R_vk s s2 (R_tK z)) := by
  refine R_enter (M := E_m248) rfl (Nat.le_of_ble_eq_true rfl) (fun h0 h hs => ?_)
  show B_R (d + 8) _ (0, [(0, .ref 83), (1, .int (Zi z)), (2, .int (Zi lo)), (3, .int (Zi hi))], []) _ _ _
  have zlo : Zr lo := ⟨by omega, by omega⟩
  refine Z_go (f2 := (1, [(0, .ref 83), (1, .int (Zi z)), (2, .int (Zi lo)), (3, .int (Zi hi))], [.int (Zi hi)])) (fun _ => rfl) ?_
  refine Z_go (f2 := (2, [(0, .ref 83), (1, .int (Zi z)), (2, .int (Zi lo)), (3, .int (Zi hi))], [.int (Zi (-1)), .int (Zi hi)])) (fun _ => rfl) ?_
  refine Z_cne rfl rfl (by first | exact hs.zF _ | exact Zor_r _ _ | exact hs.zA _ _ | assumption | exact zA _ _ | exact zS _ | exact Zr_not (hs.zA _ _) | exact ⟨by omega, by omega⟩) (by first | exact hs.zF _ | exact Zor_r _ _ | exact hs.zA _ _ | assumption | exact zA _ _ | exact zS _ | exact Zr_not (hs.zA _ _) | exact ⟨by omega, by omega⟩) (fun c1 => ?_) (fun c1 => ?_)
  · exact R_ti_15 l0 l1 zhi z0 z1 (by omega) hp fv hb (fun u h hs h1 h2 => ⟨_, hs, ⟨rfl, h1, h2⟩, rfl⟩) h hs
  · refine Z_go (f2 := (6, [(0, .ref 83), (1, .int (Zi z)), (2, .int (Zi lo)), (3, .int (Zi hi))], [.int (Zi lo)])) (fun _ => rfl) ?_
    refine Z_ine rfl rfl (by first | exact hs.zF _ | exact Zor_r _ _ | exact hs.zA _ _ | assumption | exact zA _ _ | exact zS _ | exact Zr_not (hs.zA _ _) | exact ⟨by omega, by omega⟩) (fun c2 => ?_) (fun c2 => ?_)
    · exact R_ti_15 l0 l1 zhi z0 z1 (by omega) hp fv hb (fun u h hs h1 h2 => ⟨_, hs, ⟨rfl, h1, h2⟩, rfl⟩) h hs
    · refine Z_go (f2 := (10, [(0, .ref 83), (1, .int (Zi z)), (2, .int (Zi lo)), (3, .int (Zi hi))], [.ref 83])) (fun _ => rfl) ?_
      refine Z_go (f2 := (11, [(0, .ref 83), (1, .int (Zi z)), (2, .int (Zi lo)), (3, .int (Zi hi))], [.int (Zi z), .ref 83])) (fun _ => rfl) ?_
      refine R_call (As := [.int (Zi z)]) (rest := []) rfl (by decide) rfl rfl rfl rfl (by decide +kernel) (Nat.le_of_ble_eq_true rfl) hs (R_shuts _ s ⟨by omega, by omega⟩ z0 (by omega)) (fun x h s1 hs q => ?_)
      obtain ⟨rfl, a1, a2⟩ := q
      show B_R _ _ (14, [(0, .ref 83), (1, .int (Zi z)), (2, .int (Zi lo)), (3, .int (Zi hi))], []) _ _ _
      refine Z_ret rfl rfl ⟨_, hs, ?_, rfl⟩
      refine ⟨rfl, ?_, a2.trans (R_vk_0 _ (fun _ => False)) (fun e h => by unfold R_tK; omega) (fun e h => h.elim)⟩
      unfold V_times
      rw [if_pos (by omega), if_pos (by omega)]
      exact a1
