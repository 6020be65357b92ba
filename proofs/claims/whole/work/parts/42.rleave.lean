/-! the reference: a file leaves the pool -/
/-- u is s, but what stands n behind in the pool has come to the places a .. k - 1 -/
def R_lvA (s u : R_S) (a n k : Int) : Prop := u.1 = s.1 ∧ (∀ q j, u.2.1 q j = if q = 85 ∧ a ≤ j ∧ j < k then s.2.1 85 (j + n) else s.2.1 q j) ∧ u.2.2 = s.2.2
theorem R_lvA_ne {s u : R_S} {a n k : Int} (h : R_lvA s u a n k) {q : Nat} (hq : q ≠ 85) (j : Int) : u.2.1 q j = s.2.1 q j := by
  rw [h.2.1, if_neg (fun e => hq e.1)]
theorem R_lvA_st {s u : R_S} {a n k : Int} (h : R_lvA s u a n k) (n0 : 0 ≤ n) (ak : a ≤ k) : R_lvA s (R_sA u 85 k (u.2.1 85 (k + n))) a n (k + 1) := by
  refine ⟨h.1, fun q j => ?_, h.2.2⟩
  show R_up2 u.2.1 85 k (u.2.1 85 (k + n)) q j = _
  unfold R_up2
  have e : u.2.1 85 (k + n) = s.2.1 85 (k + n) := by rw [h.2.1, if_neg (by omega)]
  rw [e]
  by_cases c : q = 85 ∧ j = k
  · obtain ⟨c1, c2⟩ := c
    rw [if_pos ⟨c1, c2⟩, if_pos ⟨c1, by omega, by omega⟩, c2]
  · rw [if_neg c, h.2.1]
    by_cases c3 : q = 85 ∧ a ≤ j ∧ j < k
    · rw [if_pos c3, if_pos ⟨c3.1, c3.2.1, by omega⟩]
    · rw [if_neg c3, if_neg (fun e => c3 ⟨e.1, e.2.1, by have := e.2.2; have : ¬ j = k := fun z => c ⟨e.1, z⟩; omega⟩)]
theorem R_leaves_a {d : Nat} {h0 : E_H} {s : R_S} {sl : Nat} {Φ : E_R → Prop} {f n a : Int} (n0 : 0 ≤ n) (n1 : n ≤ 1000) (a0 : 0 ≤ a) (p1 : s.1 3 ≤ 16000) (kont : ∀ (k : Int) (u : R_S) (h : E_H), R_is h0 h u → R_lvA s u a n k → a ≤ k → s.1 3 ≤ k + n → (k = a ∨ k + n ≤ s.1 3) → B_R d E_m179 (44, [(3, .int (Zi k)), (2, .int (Zi n)), (0, .ref 83), (1, .int (Zi f))], []) h sl Φ) : ∀ (t : Nat) (k : Int) (u : R_S) (h : E_H), s.1 3 - k < t → R_is h0 h u → R_lvA s u a n k → a ≤ k → k ≤ 16000 → (k = a ∨ k + n ≤ s.1 3) → B_R d E_m179 (14, [(3, .int (Zi k)), (2, .int (Zi n)), (0, .ref 83), (1, .int (Zi f))], []) h sl Φ := by
  intro t
  induction t with
  | zero =>
    intro k u h ht hs hu k0 k1 k2
    have e3 : u.1 3 = s.1 3 := by rw [hu.1]
    refine Z_go (f2 := (15, [(3, .int (Zi k)), (2, .int (Zi n)), (0, .ref 83), (1, .int (Zi f))], [.int (Zi k)])) (fun _ => rfl) ?_
    refine Z_go (f2 := (16, [(3, .int (Zi k)), (2, .int (Zi n)), (0, .ref 83), (1, .int (Zi f))], [.int (Zi n), .int (Zi k)])) (fun _ => rfl) ?_
    refine Z_iadd rfl ?_
    refine Z_go (f2 := (18, [(3, .int (Zi k)), (2, .int (Zi n)), (0, .ref 83), (1, .int (Zi f))], [.ref 83, .int (Zi (k + n))])) (fun _ => rfl) ?_
    refine R_gi rfl hs rfl ?_
    show B_R _ _ (21, [(3, .int (Zi k)), (2, .int (Zi n)), (0, .ref 83), (1, .int (Zi f))], [.int (Zi (u.1 3)), .int (Zi (k + n))]) _ _ _
    refine Z_cge rfl rfl (by first | exact hs.zF _ | exact Zor_r _ _ | exact hs.zA _ _ | assumption | exact zS _ | exact Zr_not (hs.zA _ _) | exact ⟨by omega, by omega⟩) (by first | exact hs.zF _ | exact Zor_r _ _ | exact hs.zA _ _ | assumption | exact zS _ | exact Zr_not (hs.zA _ _) | exact ⟨by omega, by omega⟩) (fun c1 => ?_) (fun c1 => ?_)
    · exact kont k u h hs hu k0 (by omega) k2
    · exfalso; omega
  | succ t ih =>
    intro k u h ht hs hu k0 k1 k2
    have e3 : u.1 3 = s.1 3 := by rw [hu.1]
    refine Z_go (f2 := (15, [(3, .int (Zi k)), (2, .int (Zi n)), (0, .ref 83), (1, .int (Zi f))], [.int (Zi k)])) (fun _ => rfl) ?_
    refine Z_go (f2 := (16, [(3, .int (Zi k)), (2, .int (Zi n)), (0, .ref 83), (1, .int (Zi f))], [.int (Zi n), .int (Zi k)])) (fun _ => rfl) ?_
    refine Z_iadd rfl ?_
    refine Z_go (f2 := (18, [(3, .int (Zi k)), (2, .int (Zi n)), (0, .ref 83), (1, .int (Zi f))], [.ref 83, .int (Zi (k + n))])) (fun _ => rfl) ?_
    refine R_gi rfl hs rfl ?_
    show B_R _ _ (21, [(3, .int (Zi k)), (2, .int (Zi n)), (0, .ref 83), (1, .int (Zi f))], [.int (Zi (u.1 3)), .int (Zi (k + n))]) _ _ _
    refine Z_cge rfl rfl (by first | exact hs.zF _ | exact Zor_r _ _ | exact hs.zA _ _ | assumption | exact zS _ | exact Zr_not (hs.zA _ _) | exact ⟨by omega, by omega⟩) (by first | exact hs.zF _ | exact Zor_r _ _ | exact hs.zA _ _ | assumption | exact zS _ | exact Zr_not (hs.zA _ _) | exact ⟨by omega, by omega⟩) (fun c1 => ?_) (fun c1 => ?_)
    · exact kont k u h hs hu k0 (by omega) k2
    · refine Z_go (f2 := (25, [(3, .int (Zi k)), (2, .int (Zi n)), (0, .ref 83), (1, .int (Zi f))], [.ref 83])) (fun _ => rfl) ?_
      refine R_gr (q := 83) rfl hs rfl ?_
      show B_R _ _ (28, [(3, .int (Zi k)), (2, .int (Zi n)), (0, .ref 83), (1, .int (Zi f))], [.ref 85]) _ _ _
      refine Z_go (f2 := (29, [(3, .int (Zi k)), (2, .int (Zi n)), (0, .ref 83), (1, .int (Zi f))], [.int (Zi k), .ref 85])) (fun _ => rfl) ?_
      refine Z_go (f2 := (30, [(3, .int (Zi k)), (2, .int (Zi n)), (0, .ref 83), (1, .int (Zi f))], [.ref 83, .int (Zi k), .ref 85])) (fun _ => rfl) ?_
      refine R_gr (q := 83) rfl hs rfl ?_
      show B_R _ _ (33, [(3, .int (Zi k)), (2, .int (Zi n)), (0, .ref 83), (1, .int (Zi f))], [.ref 85, .int (Zi k), .ref 85]) _ _ _
      refine Z_go (f2 := (34, [(3, .int (Zi k)), (2, .int (Zi n)), (0, .ref 83), (1, .int (Zi f))], [.int (Zi k), .ref 85, .int (Zi k), .ref 85])) (fun _ => rfl) ?_
      refine Z_go (f2 := (35, [(3, .int (Zi k)), (2, .int (Zi n)), (0, .ref 83), (1, .int (Zi f))], [.int (Zi n), .int (Zi k), .ref 85, .int (Zi k), .ref 85])) (fun _ => rfl) ?_
      refine Z_iadd rfl ?_
      refine R_ia (q := 1) rfl hs rfl rfl (by omega) (by omega) (by decide) ?_
      refine R_is_ (q := 1) rfl hs rfl rfl (by omega) (by omega) (by decide) (by first | exact hs.zF _ | exact Zor_r _ _ | exact hs.zA _ _ | assumption | exact zS _ | exact Zr_not (hs.zA _ _) | exact ⟨by omega, by omega⟩) (fun h hs => ?_)
      refine Z_iinc (L2 := [(3, .int (Zi (k + 1))), (2, .int (Zi n)), (0, .ref 83), (1, .int (Zi f))]) rfl rfl (by decide) rfl ?_
      refine Z_go (f2 := (14, [(3, .int (Zi (k + 1))), (2, .int (Zi n)), (0, .ref 83), (1, .int (Zi f))], [])) (fun _ => rfl) ?_
      refine B_loc (K := [(3, .int (Zi (k + 1))), (2, .int (Zi n)), (0, .ref 83), (1, .int (Zi f))]) (N_all_sub ⟨rfl, rfl, rfl, rfl, trivial⟩) (show ([3, 2, 0, 1] : List Nat).Nodup by decide) ?_
      exact ih _ _ _ (by omega) hs (R_lvA_st hu n0 k0) (by omega) (by omega) (by omega)
/-- u is s, but the present files below k that begin behind f begin n earlier -/
def R_lvB (s u : R_S) (f n k : Int) : Prop := u.1 = s.1 ∧ (∀ q j, u.2.1 q j = if q = 86 ∧ 0 ≤ j ∧ j < k ∧ s.2.1 88 j ≠ 0 ∧ s.2.1 86 f < s.2.1 86 j then s.2.1 86 j - n else s.2.1 q j) ∧ u.2.2 = s.2.2
theorem R_lvB_ne {s u : R_S} {f n k : Int} (h : R_lvB s u f n k) {q : Nat} (hq : q ≠ 86) (j : Int) : u.2.1 q j = s.2.1 q j := by
  rw [h.2.1, if_neg (fun e => hq e.1)]
theorem R_lvB_ge {s u : R_S} {f n k : Int} (h : R_lvB s u f n k) {j : Int} (hj : k ≤ j) : u.2.1 86 j = s.2.1 86 j := by
  rw [h.2.1, if_neg (by omega)]
theorem R_lvB_f {s u : R_S} {f n k : Int} (h : R_lvB s u f n k) : u.2.1 86 f = s.2.1 86 f := by
  rw [h.2.1, if_neg (by omega)]
theorem R_lvB_st {s u : R_S} {f n k : Int} (h : R_lvB s u f n k) (k0 : 0 ≤ k) (c1 : s.2.1 88 k ≠ 0) (c2 : s.2.1 86 f < s.2.1 86 k) : R_lvB s (R_sA u 86 k (u.2.1 86 k - n)) f n (k + 1) := by
  refine ⟨h.1, fun q j => ?_, h.2.2⟩
  show R_up2 u.2.1 86 k (u.2.1 86 k - n) q j = _
  unfold R_up2
  rw [R_lvB_ge h (Int.le_refl k)]
  by_cases c : q = 86 ∧ j = k
  · obtain ⟨d1, d2⟩ := c
    subst d2
    rw [if_pos ⟨d1, rfl⟩, if_pos ⟨d1, by omega, by omega, c1, c2⟩]
  · rw [if_neg c, h.2.1]
    by_cases c3 : q = 86 ∧ 0 ≤ j ∧ j < k ∧ s.2.1 88 j ≠ 0 ∧ s.2.1 86 f < s.2.1 86 j
    · rw [if_pos c3, if_pos ⟨c3.1, c3.2.1, by omega, c3.2.2.2⟩]
    · rw [if_neg c3, if_neg (fun e => c3 ⟨e.1, e.2.1, by have := e.2.2.1; have : ¬ j = k := fun z => c ⟨e.1, z⟩; omega, e.2.2.2⟩)]
theorem R_lvB_sk {s u : R_S} {f n k : Int} (h : R_lvB s u f n k) (c : ¬ (s.2.1 88 k ≠ 0 ∧ s.2.1 86 f < s.2.1 86 k)) : R_lvB s u f n (k + 1) := by
  refine ⟨h.1, fun q j => ?_, h.2.2⟩
  rw [h.2.1]
  by_cases c3 : q = 86 ∧ 0 ≤ j ∧ j < k ∧ s.2.1 88 j ≠ 0 ∧ s.2.1 86 f < s.2.1 86 j
  · rw [if_pos c3, if_pos ⟨c3.1, c3.2.1, by omega, c3.2.2.2⟩]
  · rw [if_neg c3, if_neg (fun e => c3 ⟨e.1, e.2.1, by have := e.2.2.1; have : ¬ j = k := fun z => c (by rw [← z]; exact e.2.2.2); omega, e.2.2.2⟩)]
theorem R_leaves_b {d : Nat} {h0 : E_H} {s : R_S} {sl : Nat} {Φ : E_R → Prop} {f n : Int} (zf : Zr f) (f0 : 0 ≤ f) (f1 : f < 200) (n0 : 0 ≤ n) (n1 : n ≤ 1000) (a0 : 0 ≤ s.2.1 86 f) (p1 : s.1 8 ≤ 200) (kont : ∀ (k : Int) (u : R_S) (h : E_H), R_is h0 h u → R_lvB s u f n (s.1 8) → B_R d E_m179 (104, [(3, .int (Zi k)), (2, .int (Zi n)), (0, .ref 83), (1, .int (Zi f))], []) h sl Φ) : ∀ (t : Nat) (k : Int) (u : R_S) (h : E_H), s.1 8 - k < t → R_is h0 h u → R_lvB s u f n k → 0 ≤ k → k ≤ s.1 8 → B_R d E_m179 (56, [(3, .int (Zi k)), (2, .int (Zi n)), (0, .ref 83), (1, .int (Zi f))], []) h sl Φ := by
  intro t
  induction t with
  | zero => intro k u h ht hs hu k0 k1; omega
  | succ t ih =>
    intro k u h ht hs hu k0 k1
    have e8 : u.1 8 = s.1 8 := by rw [hu.1]
    have e88 := R_lvB_ne hu (show 88 ≠ 86 by decide) k
    have e86 := R_lvB_ge hu (Int.le_refl k)
    have e86f := R_lvB_f hu
    have z86 : -2147483648 ≤ u.2.1 86 k ∧ u.2.1 86 k < 2147483648 := hs.zA 86 k
    refine Z_go (f2 := (57, [(3, .int (Zi k)), (2, .int (Zi n)), (0, .ref 83), (1, .int (Zi f))], [.int (Zi k)])) (fun _ => rfl) ?_
    refine Z_go (f2 := (58, [(3, .int (Zi k)), (2, .int (Zi n)), (0, .ref 83), (1, .int (Zi f))], [.ref 83, .int (Zi k)])) (fun _ => rfl) ?_
    refine R_gi rfl hs rfl ?_
    show B_R _ _ (61, [(3, .int (Zi k)), (2, .int (Zi n)), (0, .ref 83), (1, .int (Zi f))], [.int (Zi (u.1 8)), .int (Zi k)]) _ _ _
    refine Z_cge rfl rfl (by first | exact hs.zF _ | exact Zor_r _ _ | exact hs.zA _ _ | assumption | exact zS _ | exact Zr_not (hs.zA _ _) | exact ⟨by omega, by omega⟩) (by first | exact hs.zF _ | exact Zor_r _ _ | exact hs.zA _ _ | assumption | exact zS _ | exact Zr_not (hs.zA _ _) | exact ⟨by omega, by omega⟩) (fun c1 => ?_) (fun c1 => ?_)
    · have e : k = s.1 8 := by omega
      rw [e] at hu
      exact kont k u h hs hu
    · refine Z_go (f2 := (65, [(3, .int (Zi k)), (2, .int (Zi n)), (0, .ref 83), (1, .int (Zi f))], [.ref 83])) (fun _ => rfl) ?_
      refine R_gr (q := 86) rfl hs rfl ?_
      show B_R _ _ (68, [(3, .int (Zi k)), (2, .int (Zi n)), (0, .ref 83), (1, .int (Zi f))], [.ref 88]) _ _ _
      refine Z_go (f2 := (69, [(3, .int (Zi k)), (2, .int (Zi n)), (0, .ref 83), (1, .int (Zi f))], [.int (Zi k), .ref 88])) (fun _ => rfl) ?_
      refine R_ba (q := 4) rfl hs rfl rfl (by omega) (by omega) (by decide) ?_
      refine Z_ieq rfl rfl (by first | exact hs.zF _ | exact Zor_r _ _ | exact hs.zA _ _ | assumption | exact zS _ | exact Zr_not (hs.zA _ _) | exact ⟨by omega, by omega⟩) (fun c2 => ?_) (fun c2 => ?_)
      · refine Z_iinc (L2 := [(3, .int (Zi (k + 1))), (2, .int (Zi n)), (0, .ref 83), (1, .int (Zi f))]) rfl rfl (by decide) rfl ?_
        refine Z_go (f2 := (56, [(3, .int (Zi (k + 1))), (2, .int (Zi n)), (0, .ref 83), (1, .int (Zi f))], [])) (fun _ => rfl) ?_
        refine B_loc (K := [(3, .int (Zi (k + 1))), (2, .int (Zi n)), (0, .ref 83), (1, .int (Zi f))]) (N_all_sub ⟨rfl, rfl, rfl, rfl, trivial⟩) (show ([3, 2, 0, 1] : List Nat).Nodup by decide) ?_
        exact ih _ _ _ (by omega) hs (R_lvB_sk hu (by omega)) (by omega) (by omega)
      · refine Z_go (f2 := (74, [(3, .int (Zi k)), (2, .int (Zi n)), (0, .ref 83), (1, .int (Zi f))], [.ref 83])) (fun _ => rfl) ?_
        refine R_gr (q := 84) rfl hs rfl ?_
        show B_R _ _ (77, [(3, .int (Zi k)), (2, .int (Zi n)), (0, .ref 83), (1, .int (Zi f))], [.ref 86]) _ _ _
        refine Z_go (f2 := (78, [(3, .int (Zi k)), (2, .int (Zi n)), (0, .ref 83), (1, .int (Zi f))], [.int (Zi k), .ref 86])) (fun _ => rfl) ?_
        refine R_ia (q := 2) rfl hs rfl rfl (by omega) (by omega) (by decide) ?_
        refine Z_go (f2 := (80, [(3, .int (Zi k)), (2, .int (Zi n)), (0, .ref 83), (1, .int (Zi f))], [.ref 83, .int (Zi (u.2.1 86 k))])) (fun _ => rfl) ?_
        refine R_gr (q := 84) rfl hs rfl ?_
        show B_R _ _ (83, [(3, .int (Zi k)), (2, .int (Zi n)), (0, .ref 83), (1, .int (Zi f))], [.ref 86, .int (Zi (u.2.1 86 k))]) _ _ _
        refine Z_go (f2 := (84, [(3, .int (Zi k)), (2, .int (Zi n)), (0, .ref 83), (1, .int (Zi f))], [.int (Zi f), .ref 86, .int (Zi (u.2.1 86 k))])) (fun _ => rfl) ?_
        refine R_ia (q := 2) rfl hs rfl rfl (by omega) (by omega) (by decide) ?_
        refine Z_cle rfl rfl (by first | exact hs.zF _ | exact Zor_r _ _ | exact hs.zA _ _ | assumption | exact zS _ | exact Zr_not (hs.zA _ _) | exact ⟨by omega, by omega⟩) (by first | exact hs.zF _ | exact Zor_r _ _ | exact hs.zA _ _ | assumption | exact zS _ | exact Zr_not (hs.zA _ _) | exact ⟨by omega, by omega⟩) (fun c3 => ?_) (fun c3 => ?_)
        · refine Z_iinc (L2 := [(3, .int (Zi (k + 1))), (2, .int (Zi n)), (0, .ref 83), (1, .int (Zi f))]) rfl rfl (by decide) rfl ?_
          refine Z_go (f2 := (56, [(3, .int (Zi (k + 1))), (2, .int (Zi n)), (0, .ref 83), (1, .int (Zi f))], [])) (fun _ => rfl) ?_
          refine B_loc (K := [(3, .int (Zi (k + 1))), (2, .int (Zi n)), (0, .ref 83), (1, .int (Zi f))]) (N_all_sub ⟨rfl, rfl, rfl, rfl, trivial⟩) (show ([3, 2, 0, 1] : List Nat).Nodup by decide) ?_
          exact ih _ _ _ (by omega) hs (R_lvB_sk hu (by omega)) (by omega) (by omega)
        · refine Z_go (f2 := (89, [(3, .int (Zi k)), (2, .int (Zi n)), (0, .ref 83), (1, .int (Zi f))], [.ref 83])) (fun _ => rfl) ?_
          refine R_gr (q := 84) rfl hs rfl ?_
          show B_R _ _ (92, [(3, .int (Zi k)), (2, .int (Zi n)), (0, .ref 83), (1, .int (Zi f))], [.ref 86]) _ _ _
          refine Z_go (f2 := (93, [(3, .int (Zi k)), (2, .int (Zi n)), (0, .ref 83), (1, .int (Zi f))], [.int (Zi k), .ref 86])) (fun _ => rfl) ?_
          refine Z_go (f2 := (94, [(3, .int (Zi k)), (2, .int (Zi n)), (0, .ref 83), (1, .int (Zi f))], [.int (Zi k), .ref 86, .int (Zi k), .ref 86])) (fun _ => rfl) ?_
          refine R_ia (q := 2) rfl hs rfl rfl (by omega) (by omega) (by decide) ?_
          refine Z_go (f2 := (96, [(3, .int (Zi k)), (2, .int (Zi n)), (0, .ref 83), (1, .int (Zi f))], [.int (Zi n), .int (Zi (u.2.1 86 k)), .int (Zi k), .ref 86])) (fun _ => rfl) ?_
          refine Z_isub rfl ?_
          refine R_is_ (q := 2) rfl hs rfl rfl (by omega) (by omega) (by decide) (by first | exact hs.zF _ | exact Zor_r _ _ | exact hs.zA _ _ | assumption | exact zS _ | exact Zr_not (hs.zA _ _) | exact ⟨by omega, by omega⟩) (fun h hs => ?_)
          refine Z_iinc (L2 := [(3, .int (Zi (k + 1))), (2, .int (Zi n)), (0, .ref 83), (1, .int (Zi f))]) rfl rfl (by decide) rfl ?_
          refine Z_go (f2 := (56, [(3, .int (Zi (k + 1))), (2, .int (Zi n)), (0, .ref 83), (1, .int (Zi f))], [])) (fun _ => rfl) ?_
          refine B_loc (K := [(3, .int (Zi (k + 1))), (2, .int (Zi n)), (0, .ref 83), (1, .int (Zi f))]) (N_all_sub ⟨rfl, rfl, rfl, rfl, trivial⟩) (show ([3, 2, 0, 1] : List Nat).Nodup by decide) ?_
          exact ih _ _ _ (by omega) hs (R_lvB_st hu k0 (by omega) (by omega)) (by omega) (by omega)
theorem R_leaves (d : Nat) (s : R_S) {f : Int}  (zf : Zr f) (f0 : 0 ≤ f) (f1 : f < 200) (c0 : 0 ≤ s.1 8) (c1 : s.1 8 ≤ 200) (a0 : 0 ≤ s.2.1 86 f) (n0 : 0 ≤ s.2.1 87 f) (n1 : s.2.1 87 f ≤ 1000) (a1 : s.2.1 86 f + s.2.1 87 f ≤ s.1 3) (p1 : s.1 3 ≤ 16000) : R_ok (d + 1) 179 [.int (Zi f)] s (fun x s2 => x = none ∧ ∃ (u : R_S) (k : Int), R_lvA s u (s.2.1 86 f) (s.2.1 87 f) k ∧ s.2.1 86 f ≤ k ∧ s.1 3 ≤ k + s.2.1 87 f ∧ (k = s.2.1 86 f ∨ k + s.2.1 87 f ≤ s.1 3) ∧ R_lvB (R_sF u 3 (s.1 3 - s.2.1 87 f)) s2 f (s.2.1 87 f) (s.1 8)) := by
  refine R_enter (M := E_m179) rfl (Nat.le_of_ble_eq_true rfl) (fun h0 h hs => ?_)
  show B_R d _ (0, [(0, .ref 83), (1, .int (Zi f))], []) _ _ _
  refine Z_go (f2 := (1, [(0, .ref 83), (1, .int (Zi f))], [.ref 83])) (fun _ => rfl) ?_
  refine R_gr (q := 85) rfl hs rfl ?_
  show B_R _ _ (4, [(0, .ref 83), (1, .int (Zi f))], [.ref 87]) _ _ _
  refine Z_go (f2 := (5, [(0, .ref 83), (1, .int (Zi f))], [.int (Zi f), .ref 87])) (fun _ => rfl) ?_
  refine R_ia (q := 3) rfl hs rfl rfl (by omega) (by omega) (by decide) ?_
  refine Z_go (f2 := (7, [(2, .int (Zi (s.2.1 87 f))), (0, .ref 83), (1, .int (Zi f))], [])) (fun _ => rfl) ?_
  refine Z_go (f2 := (8, [(2, .int (Zi (s.2.1 87 f))), (0, .ref 83), (1, .int (Zi f))], [.ref 83])) (fun _ => rfl) ?_
  refine R_gr (q := 84) rfl hs rfl ?_
  show B_R _ _ (11, [(2, .int (Zi (s.2.1 87 f))), (0, .ref 83), (1, .int (Zi f))], [.ref 86]) _ _ _
  refine Z_go (f2 := (12, [(2, .int (Zi (s.2.1 87 f))), (0, .ref 83), (1, .int (Zi f))], [.int (Zi f), .ref 86])) (fun _ => rfl) ?_
  refine R_ia (q := 2) rfl hs rfl rfl (by omega) (by omega) (by decide) ?_
  refine Z_go (f2 := (14, [(3, .int (Zi (s.2.1 86 f))), (2, .int (Zi (s.2.1 87 f))), (0, .ref 83), (1, .int (Zi f))], [])) (fun _ => rfl) ?_
  refine R_leaves_a n0 n1 a0 p1 (fun k u h hs hu k0 k1 k2 => ?_) ((s.1 3 - s.2.1 86 f).toNat + 1) _ _ _ (by omega) hs ⟨rfl, fun q j => by rw [if_neg (by omega)], rfl⟩ (by omega) (by omega) (.inl rfl)
  have e3 : u.1 3 = s.1 3 := by rw [hu.1]
  have e8 : u.1 8 = s.1 8 := by rw [hu.1]
  have e86 := R_lvA_ne hu (show 86 ≠ 85 by decide) f
  refine Z_go (f2 := (45, [(3, .int (Zi k)), (2, .int (Zi (s.2.1 87 f))), (0, .ref 83), (1, .int (Zi f))], [.ref 83])) (fun _ => rfl) ?_
  refine Z_go (f2 := (46, [(3, .int (Zi k)), (2, .int (Zi (s.2.1 87 f))), (0, .ref 83), (1, .int (Zi f))], [.ref 83, .ref 83])) (fun _ => rfl) ?_
  refine R_gi rfl hs rfl ?_
  show B_R _ _ (49, [(3, .int (Zi k)), (2, .int (Zi (s.2.1 87 f))), (0, .ref 83), (1, .int (Zi f))], [.int (Zi (u.1 3)), .ref 83]) _ _ _
  refine Z_go (f2 := (50, [(3, .int (Zi k)), (2, .int (Zi (s.2.1 87 f))), (0, .ref 83), (1, .int (Zi f))], [.int (Zi (s.2.1 87 f)), .int (Zi (u.1 3)), .ref 83])) (fun _ => rfl) ?_
  refine Z_isub rfl ?_
  refine R_pf rfl hs rfl (by first | exact hs.zF _ | exact Zor_r _ _ | exact hs.zA _ _ | assumption | exact zS _ | exact Zr_not (hs.zA _ _) | exact ⟨by omega, by omega⟩) ⟨rfl, rfl, rfl⟩ (fun h hs => ?_)
  refine Z_go (f2 := (55, [(3, .int (Zi k)), (2, .int (Zi (s.2.1 87 f))), (0, .ref 83), (1, .int (Zi f))], [.int (Zi 0)])) (fun _ => rfl) ?_
  refine Z_go (f2 := (56, [(3, .int (Zi 0)), (2, .int (Zi (s.2.1 87 f))), (0, .ref 83), (1, .int (Zi f))], [])) (fun _ => rfl) ?_
  refine R_leaves_b (s := R_sF u 3 (u.1 3 - s.2.1 87 f)) zf f0 f1 n0 n1 (by show 0 ≤ u.2.1 86 f; omega) (by show u.1 8 ≤ 200; omega) (fun kk w h hs hw => ?_) ((s.1 8).toNat + 1) _ _ _ (by show u.1 8 - 0 < _; omega) hs ⟨rfl, fun q j => by rw [if_neg (by omega)], rfl⟩ (by omega) (by show 0 ≤ u.1 8; omega)
  refine Z_ret rfl rfl ⟨_, hs, ?_, rfl⟩
  exact ⟨rfl, u, k, hu, k0, k1, k2, by rw [← e3, ← e8]; exact hw⟩
