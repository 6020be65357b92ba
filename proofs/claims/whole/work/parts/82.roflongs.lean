/-! the reference: ofLongs -/
def R_lrow (s : R_S) (k : Int) : List Int := D_row (fun j => s.2.1 112 (60 * k + j)) (s.2.1 111 k)
/-- the grams of the texts gathered before k -/
def R_LF (s : R_S) (k : Int) : P_X := fun x => ∃ c, 0 ≤ c ∧ c < k ∧ x = L_gr (R_lrow s c)
def R_lv (s : R_S) : Prop := 0 ≤ s.1 43 ∧ s.1 43 ≤ 160 ∧ ∀ k, 0 ≤ k → k < s.1 43 → 0 ≤ s.2.1 111 k ∧ s.2.1 111 k ≤ 60 ∧ ∀ j, 60 * k ≤ j → j < 60 * k + s.2.1 111 k → 0 ≤ s.2.1 112 j ∧ s.2.1 112 j < 256
theorem R_LF_0 (s : R_S) : R_LF s 0 = fun _ => False := funext (fun x => propext ⟨fun ⟨c, h⟩ => by omega, fun h => h.elim⟩)
theorem R_LF_st (s : R_S) {k : Int} (k0 : 0 ≤ k) : F_or (R_LF s k) (F_one (L_gr (R_lrow s k))) = R_LF s (k + 1) := by
  funext x
  refine propext ⟨?_, ?_⟩
  · rintro (⟨c, a, b, h⟩ | h)
    · exact ⟨c, a, by omega, h⟩
    · exact ⟨k, k0, by omega, h⟩
  · rintro ⟨j, a, b, h⟩
    by_cases e : j = k
    · exact .inr (by rw [← e]; exact h)
    · exact .inl ⟨j, a, by omega, h⟩
theorem D_row_get (A : Int → Int) (n : Int) (i : Nat) (h : i < (D_row A n).length) : (D_row A n)[i] = A (i : Int) := by
  simp [D_row]
theorem R_lg_in {A : Int → Int} {n b v : Int} (n0 : 0 ≤ n) (hb : b = 0 ∧ n ≤ 2 ∨ b + 2 = n ∧ 0 ≤ b) : D_in (fun j => 65536 * A j + 256 * A (j + 1) + A (j + 2)) b v ↔ v ∈ L_gr (D_row A n) := by
  rw [L_gr_mem]
  constructor
  · rintro ⟨i, i0, i1, h⟩
    have hl : i.toNat + 2 < (D_row A n).length := by rw [D_row_len]; omega
    refine ⟨i.toNat, hl, ?_⟩
    rw [D_row_get, D_row_get, D_row_get, ← h]
    show 65536 * A i + 256 * A (i + 1) + A (i + 2) = 65536 * A ((i.toNat : Nat) : Int) + 256 * A ((i.toNat + 1 : Nat) : Int) + A ((i.toNat + 2 : Nat) : Int)
    rw [show ((i.toNat : Nat) : Int) = i by omega, show ((i.toNat + 1 : Nat) : Int) = i + 1 by omega, show ((i.toNat + 2 : Nat) : Int) = i + 2 by omega]
  · rintro ⟨i, hl, h⟩
    rw [D_row_get, D_row_get, D_row_get] at h
    rw [D_row_len] at hl
    refine ⟨(i : Int), by omega, by omega, ?_⟩
    rw [h]
    show 65536 * A (i : Int) + 256 * A ((i : Int) + 1) + A ((i : Int) + 2) = 65536 * A (i : Int) + 256 * A ((i + 1 : Nat) : Int) + A ((i + 2 : Nat) : Int)
    rw [show ((i + 1 : Nat) : Int) = (i : Int) + 1 by omega, show ((i + 2 : Nat) : Int) = (i : Int) + 2 by omega]
theorem R_slf.vk {s u : R_S} {k : Int} (h : R_slf s u k) : R_vk s u (fun e => e = k) := by
  refine ⟨⟨fun b _ => congrFun h.1.1 b, fun q hq j => h.1.2.1 q j (fun e => hq (by simp at e ⊢; omega)), h.1.2.2⟩, fun q q0 q1 j hj => ?_⟩
  by_cases c4 : q = 104
  · subst c4
    exact h.2.1 j (fun e => hj (by show _ / (1 : Int) = k; rw [Int.ediv_one]; exact e))
  · by_cases c5 : q = 105
    · subst c5
      exact h.2.2.1 j (fun e => hj (by show _ / (24 : Int) = k; omega))
    · by_cases c6 : q = 106
      · subst c6
        exact h.2.2.2 j (fun e => hj (by show _ / (15360 : Int) = k; omega))
      · exact h.1.2.1 q j (by simp; omega)
/-- u is s with the grams of the texts before k among the pairs -/
def R_olq (s u : R_S) (k : Int) : Prop := (∀ b, b ≠ 37 → u.1 b = s.1 b) ∧ u.1 37 = k ∧ (∀ q j, q ≠ 89 → q ≠ 107 → q ≠ 108 → u.2.1 q j = s.2.1 q j) ∧ u.2.2 = s.2.2 ∧ R_pv u ∧ R_PF u = R_LF s k
theorem R_olq_0 (s : R_S) : R_olq s (R_sF s 37 0) 0 := by
  have h := R_pst_0 s
  exact ⟨h.1, h.2.1, fun q j _ a b => h.2.2.1 q j a b, h.2.2.2.1, h.2.2.2.2.1, by rw [R_LF_0]; exact h.2.2.2.2.2⟩
theorem R_olq.vk {s u : R_S} {k : Int} (h : R_olq s u k) (K : Int → Prop) : R_vk s u K := ⟨⟨fun b hb => h.1 b (fun e => hb (by rw [e]; simp)), fun q hq j => h.2.2.1 q j (fun e => hq (by rw [e]; simp)) (fun e => hq (by rw [e]; simp)) (fun e => hq (by rw [e]; simp)), h.2.2.2.1⟩, fun q q0 q1 j _ => h.2.2.1 q j (by omega) (by omega) (by omega)⟩
theorem R_olq_st {s u v w : R_S} {k m : Int} (h : R_olq s u k) (k0 : 0 ≤ k) (r : ∀ q j, q ≠ 89 → v.2.1 q j = u.2.1 q j) (r1 : v.1 = u.1) (r2 : v.2.2 = u.2.2) (g : R_pad v w (D_row (v.2.1 89) m)) (e : D_row (v.2.1 89) m = L_gr (R_lrow s k)) : R_olq s w (k + 1) := by
  obtain ⟨h1, h2, h3, h4, h5, h6⟩ := h
  have ef : R_PF v = R_PF u := by
    funext x
    unfold R_PF
    rw [r1]
    refine propext ⟨?_, ?_⟩ <;> rintro ⟨i, i0, i1, rfl⟩ <;> refine ⟨i, i0, i1, ?_⟩
    · exact D_row_eq (r 107 _ (by decide)) (fun j _ _ => r 108 _ (by decide))
    · exact D_row_eq (r 107 _ (by decide)).symm (fun j _ _ => (r 108 _ (by decide)).symm)
  refine ⟨fun b hb => by rw [g.1 b hb, r1]; exact h1 b hb, by rw [g.2.1, r1, h2], fun q j a b c => by rw [g.2.2.1 q j b c, r q j a]; exact h3 q j a b c, by rw [g.2.2.2.1, r2]; exact h4, g.2.2.2.2.1, ?_⟩
  rw [R_pad_PF g (by rw [r1, h2]; exact k0), ef, h6, e, R_LF_st s k0]
theorem R_pv_row {u v : R_S} (h : R_pv u) (r : ∀ q j, q ≠ 89 → v.2.1 q j = u.2.1 q j) (r1 : v.1 = u.1) : R_pv v := by
  refine ⟨by rw [r1]; exact h.1, by rw [r1]; exact h.2.1, fun i i0 i1 => ?_⟩
  rw [r1] at i1
  have hv := h.2.2 i i0 i1
  rw [r 107 _ (by decide)]
  refine ⟨hv.1, hv.2.1, fun a b a0 ab bn => ?_⟩
  show v.2.1 108 _ < v.2.1 108 _
  rw [r 108 _ (by decide), r 108 _ (by decide)]
  exact hv.2.2 a b a0 ab bn
theorem R_ol_g {d : Nat} {h0 : E_H} {s : R_S} {sl : Nat} {Φ : E_R → Prop} {k b z : Int} (k0 : 0 ≤ k) (k1 : k < 160) (n0 : 0 ≤ s.2.1 111 k) (n1 : s.2.1 111 k ≤ 60) (hb : b = 0 ∧ s.2.1 111 k ≤ 2 ∨ b + 2 = s.2.1 111 k ∧ 0 ≤ b) (hx : ∀ j, 60 * k ≤ j → j < 60 * k + s.2.1 111 k → 0 ≤ s.2.1 112 j ∧ s.2.1 112 j < 256) (zA : ∀ q j, Zr (s.2.1 q j)) (kont : ∀ (h : E_H), R_is h0 h (R_fl s 89 0 b (fun x => 65536 * s.2.1 112 (60 * k + x) + 256 * s.2.1 112 (60 * k + x + 1) + s.2.1 112 (60 * k + x + 2))) → B_R (d + 1) E_m234 (91, [(4, .int (Zi b)), (3, .int (Zi b)), (2, .int (Zi k)), (0, .ref 83), (1, .int (Zi z))], []) h sl Φ) : ∀ (t : Nat) (i : Int) (h : E_H), b - i < t → R_is h0 h (R_fl s 89 0 i (fun x => 65536 * s.2.1 112 (60 * k + x) + 256 * s.2.1 112 (60 * k + x + 1) + s.2.1 112 (60 * k + x + 2))) → 0 ≤ i → i ≤ b → B_R (d + 1) E_m234 (20, [(4, .int (Zi i)), (3, .int (Zi i)), (2, .int (Zi k)), (0, .ref 83), (1, .int (Zi z))], []) h sl Φ := by
  intro t
  induction t with
  | zero => intro i h ht hs i0 i1; omega
  | succ t ih =>
    intro i h ht hs i0 i1
    refine Z_go (f2 := (22, [(4, .int (Zi i)), (3, .int (Zi i)), (2, .int (Zi k)), (0, .ref 83), (1, .int (Zi z))], [.int (Zi i)])) (fun _ => rfl) ?_
    refine Z_go (f2 := (23, [(4, .int (Zi i)), (3, .int (Zi i)), (2, .int (Zi k)), (0, .ref 83), (1, .int (Zi z))], [.int (Zi 2), .int (Zi i)])) (fun _ => rfl) ?_
    refine Z_iadd rfl ?_
    refine Z_go (f2 := (25, [(4, .int (Zi i)), (3, .int (Zi i)), (2, .int (Zi k)), (0, .ref 83), (1, .int (Zi z))], [.ref 83, .int (Zi (i + 2))])) (fun _ => rfl) ?_
    refine R_gr (q := 109) rfl hs rfl ?_
    show B_R _ _ (28, [(4, .int (Zi i)), (3, .int (Zi i)), (2, .int (Zi k)), (0, .ref 83), (1, .int (Zi z))], [.ref 111, .int (Zi (i + 2))]) _ _ _
    refine Z_go (f2 := (29, [(4, .int (Zi i)), (3, .int (Zi i)), (2, .int (Zi k)), (0, .ref 83), (1, .int (Zi z))], [.int (Zi k), .ref 111, .int (Zi (i + 2))])) (fun _ => rfl) ?_
    refine R_ia (q := 27) rfl hs rfl rfl (by omega) (by omega) (by decide) ?_
    rw [show (R_fl s 89 0 i (fun x => 65536 * s.2.1 112 (60 * k + x) + 256 * s.2.1 112 (60 * k + x + 1) + s.2.1 112 (60 * k + x + 2))).2.1 111 k = s.2.1 111 k by first | rfl | simp [R_sA, R_sF, R_up2, R_fl, R_fL, R_sM, R_sL, R_p3, R_em]]; show B_R _ _ (30, [(4, .int (Zi i)), (3, .int (Zi i)), (2, .int (Zi k)), (0, .ref 83), (1, .int (Zi z))], [.int (Zi (s.2.1 111 k)), .int (Zi (i + 2))]) _ _ _
    refine Z_cge rfl rfl (by first | exact hs.zF _ | exact Zor_r _ _ | exact hs.zA _ _ | assumption | exact zA _ _ | exact zS _ | exact Zr_not (hs.zA _ _) | exact ⟨by omega, by omega⟩) (by first | exact hs.zF _ | exact Zor_r _ _ | exact hs.zA _ _ | assumption | exact zA _ _ | exact zS _ | exact Zr_not (hs.zA _ _) | exact ⟨by omega, by omega⟩) (fun c1 => ?_) (fun c1 => ?_)
    · obtain rfl : i = b := by omega
      exact kont h hs
    · have x0 := hx (60 * k + i) (by omega) (by omega)
      have x1 := hx (60 * k + i + 1) (by omega) (by omega)
      have x2 := hx (60 * k + i + 2) (by omega) (by omega)
      refine Z_go (f2 := (35, [(4, .int (Zi i)), (3, .int (Zi i)), (2, .int (Zi k)), (0, .ref 83), (1, .int (Zi z))], [.int (Zi 60)])) (fun _ => rfl) ?_
      refine Z_go (f2 := (36, [(4, .int (Zi i)), (3, .int (Zi i)), (2, .int (Zi k)), (0, .ref 83), (1, .int (Zi z))], [.int (Zi k), .int (Zi 60)])) (fun _ => rfl) ?_
      refine Z_imul rfl ?_
      refine Z_go (f2 := (39, [(4, .int (Zi i)), (3, .int (Zi i)), (2, .int (Zi k)), (0, .ref 83), (1, .int (Zi z))], [.int (Zi i), .int (Zi (60 * k))])) (fun _ => rfl) ?_
      refine Z_iadd rfl ?_
      refine Z_go (f2 := (42, [(5, .int (Zi (60 * k + i))), (4, .int (Zi i)), (3, .int (Zi i)), (2, .int (Zi k)), (0, .ref 83), (1, .int (Zi z))], [])) (fun _ => rfl) ?_
      refine Z_go (f2 := (43, [(5, .int (Zi (60 * k + i))), (4, .int (Zi i)), (3, .int (Zi i)), (2, .int (Zi k)), (0, .ref 83), (1, .int (Zi z))], [.ref 83])) (fun _ => rfl) ?_
      refine R_gr (q := 87) rfl hs rfl ?_
      show B_R _ _ (46, [(5, .int (Zi (60 * k + i))), (4, .int (Zi i)), (3, .int (Zi i)), (2, .int (Zi k)), (0, .ref 83), (1, .int (Zi z))], [.ref 89]) _ _ _
      refine Z_go (f2 := (47, [(5, .int (Zi (60 * k + i))), (4, .int (Zi i)), (3, .int (Zi i)), (2, .int (Zi k)), (0, .ref 83), (1, .int (Zi z))], [.int (Zi i), .ref 89])) (fun _ => rfl) ?_
      refine Z_go (f2 := (49, [(5, .int (Zi (60 * k + i))), (4, .int (Zi i)), (3, .int (Zi i)), (2, .int (Zi k)), (0, .ref 83), (1, .int (Zi z))], [.int (Zi 65536), .int (Zi i), .ref 89])) (fun _ => rfl) ?_
      refine Z_go (f2 := (50, [(5, .int (Zi (60 * k + i))), (4, .int (Zi i)), (3, .int (Zi i)), (2, .int (Zi k)), (0, .ref 83), (1, .int (Zi z))], [.ref 83, .int (Zi 65536), .int (Zi i), .ref 89])) (fun _ => rfl) ?_
      refine R_gr (q := 110) rfl hs rfl ?_
      show B_R _ _ (53, [(5, .int (Zi (60 * k + i))), (4, .int (Zi i)), (3, .int (Zi i)), (2, .int (Zi k)), (0, .ref 83), (1, .int (Zi z))], [.ref 112, .int (Zi 65536), .int (Zi i), .ref 89]) _ _ _
      refine Z_go (f2 := (55, [(5, .int (Zi (60 * k + i))), (4, .int (Zi i)), (3, .int (Zi i)), (2, .int (Zi k)), (0, .ref 83), (1, .int (Zi z))], [.int (Zi (60 * k + i)), .ref 112, .int (Zi 65536), .int (Zi i), .ref 89])) (fun _ => rfl) ?_
      refine R_ia (q := 28) rfl hs rfl rfl (by omega) (by omega) (by decide) ?_
      rw [show (R_fl s 89 0 i (fun x => 65536 * s.2.1 112 (60 * k + x) + 256 * s.2.1 112 (60 * k + x + 1) + s.2.1 112 (60 * k + x + 2))).2.1 112 (60 * k + i) = s.2.1 112 (60 * k + i) by first | rfl | simp [R_sA, R_sF, R_up2, R_fl, R_fL, R_sM, R_sL, R_p3, R_em]]; show B_R _ _ (56, [(5, .int (Zi (60 * k + i))), (4, .int (Zi i)), (3, .int (Zi i)), (2, .int (Zi k)), (0, .ref 83), (1, .int (Zi z))], [.int (Zi (s.2.1 112 (60 * k + i))), .int (Zi 65536), .int (Zi i), .ref 89]) _ _ _
      refine Z_imul rfl ?_
      refine Z_go (f2 := (60, [(5, .int (Zi (60 * k + i))), (4, .int (Zi i)), (3, .int (Zi i)), (2, .int (Zi k)), (0, .ref 83), (1, .int (Zi z))], [.int (Zi 256), .int (Zi (65536 * (s.2.1 112 (60 * k + i)))), .int (Zi i), .ref 89])) (fun _ => rfl) ?_
      refine Z_go (f2 := (61, [(5, .int (Zi (60 * k + i))), (4, .int (Zi i)), (3, .int (Zi i)), (2, .int (Zi k)), (0, .ref 83), (1, .int (Zi z))], [.ref 83, .int (Zi 256), .int (Zi (65536 * (s.2.1 112 (60 * k + i)))), .int (Zi i), .ref 89])) (fun _ => rfl) ?_
      refine R_gr (q := 110) rfl hs rfl ?_
      show B_R _ _ (64, [(5, .int (Zi (60 * k + i))), (4, .int (Zi i)), (3, .int (Zi i)), (2, .int (Zi k)), (0, .ref 83), (1, .int (Zi z))], [.ref 112, .int (Zi 256), .int (Zi (65536 * (s.2.1 112 (60 * k + i)))), .int (Zi i), .ref 89]) _ _ _
      refine Z_go (f2 := (66, [(5, .int (Zi (60 * k + i))), (4, .int (Zi i)), (3, .int (Zi i)), (2, .int (Zi k)), (0, .ref 83), (1, .int (Zi z))], [.int (Zi (60 * k + i)), .ref 112, .int (Zi 256), .int (Zi (65536 * (s.2.1 112 (60 * k + i)))), .int (Zi i), .ref 89])) (fun _ => rfl) ?_
      refine Z_go (f2 := (67, [(5, .int (Zi (60 * k + i))), (4, .int (Zi i)), (3, .int (Zi i)), (2, .int (Zi k)), (0, .ref 83), (1, .int (Zi z))], [.int (Zi 1), .int (Zi (60 * k + i)), .ref 112, .int (Zi 256), .int (Zi (65536 * (s.2.1 112 (60 * k + i)))), .int (Zi i), .ref 89])) (fun _ => rfl) ?_
      refine Z_iadd rfl ?_
      refine R_ia (q := 28) rfl hs rfl rfl (by omega) (by omega) (by decide) ?_
      rw [show (R_fl s 89 0 i (fun x => 65536 * s.2.1 112 (60 * k + x) + 256 * s.2.1 112 (60 * k + x + 1) + s.2.1 112 (60 * k + x + 2))).2.1 112 (60 * k + i + 1) = s.2.1 112 (60 * k + i + 1) by first | rfl | simp [R_sA, R_sF, R_up2, R_fl, R_fL, R_sM, R_sL, R_p3, R_em]]; show B_R _ _ (69, [(5, .int (Zi (60 * k + i))), (4, .int (Zi i)), (3, .int (Zi i)), (2, .int (Zi k)), (0, .ref 83), (1, .int (Zi z))], [.int (Zi (s.2.1 112 (60 * k + i + 1))), .int (Zi 256), .int (Zi (65536 * (s.2.1 112 (60 * k + i)))), .int (Zi i), .ref 89]) _ _ _
      refine Z_imul rfl ?_
      refine Z_iadd rfl ?_
      refine Z_go (f2 := (72, [(5, .int (Zi (60 * k + i))), (4, .int (Zi i)), (3, .int (Zi i)), (2, .int (Zi k)), (0, .ref 83), (1, .int (Zi z))], [.ref 83, .int (Zi (65536 * (s.2.1 112 (60 * k + i)) + (256 * (s.2.1 112 (60 * k + i + 1))))), .int (Zi i), .ref 89])) (fun _ => rfl) ?_
      refine R_gr (q := 110) rfl hs rfl ?_
      show B_R _ _ (75, [(5, .int (Zi (60 * k + i))), (4, .int (Zi i)), (3, .int (Zi i)), (2, .int (Zi k)), (0, .ref 83), (1, .int (Zi z))], [.ref 112, .int (Zi (65536 * (s.2.1 112 (60 * k + i)) + (256 * (s.2.1 112 (60 * k + i + 1))))), .int (Zi i), .ref 89]) _ _ _
      refine Z_go (f2 := (77, [(5, .int (Zi (60 * k + i))), (4, .int (Zi i)), (3, .int (Zi i)), (2, .int (Zi k)), (0, .ref 83), (1, .int (Zi z))], [.int (Zi (60 * k + i)), .ref 112, .int (Zi (65536 * (s.2.1 112 (60 * k + i)) + (256 * (s.2.1 112 (60 * k + i + 1))))), .int (Zi i), .ref 89])) (fun _ => rfl) ?_
      refine Z_go (f2 := (78, [(5, .int (Zi (60 * k + i))), (4, .int (Zi i)), (3, .int (Zi i)), (2, .int (Zi k)), (0, .ref 83), (1, .int (Zi z))], [.int (Zi 2), .int (Zi (60 * k + i)), .ref 112, .int (Zi (65536 * (s.2.1 112 (60 * k + i)) + (256 * (s.2.1 112 (60 * k + i + 1))))), .int (Zi i), .ref 89])) (fun _ => rfl) ?_
      refine Z_iadd rfl ?_
      refine R_ia (q := 28) rfl hs rfl rfl (by omega) (by omega) (by decide) ?_
      rw [show (R_fl s 89 0 i (fun x => 65536 * s.2.1 112 (60 * k + x) + 256 * s.2.1 112 (60 * k + x + 1) + s.2.1 112 (60 * k + x + 2))).2.1 112 (60 * k + i + 2) = s.2.1 112 (60 * k + i + 2) by first | rfl | simp [R_sA, R_sF, R_up2, R_fl, R_fL, R_sM, R_sL, R_p3, R_em]]; show B_R _ _ (80, [(5, .int (Zi (60 * k + i))), (4, .int (Zi i)), (3, .int (Zi i)), (2, .int (Zi k)), (0, .ref 83), (1, .int (Zi z))], [.int (Zi (s.2.1 112 (60 * k + i + 2))), .int (Zi (65536 * (s.2.1 112 (60 * k + i)) + (256 * (s.2.1 112 (60 * k + i + 1))))), .int (Zi i), .ref 89]) _ _ _
      refine Z_iadd rfl ?_
      refine R_is_ (q := 5) rfl hs rfl rfl (by omega) (by omega) (by decide) (by first | exact hs.zF _ | exact Zor_r _ _ | exact hs.zA _ _ | assumption | exact zA _ _ | exact zS _ | exact Zr_not (hs.zA _ _) | exact ⟨by omega, by omega⟩) (fun h hs => ?_)
      refine Z_iinc (L2 := [(3, .int (Zi (i + 1))), (5, .int (Zi (60 * k + i))), (4, .int (Zi i)), (2, .int (Zi k)), (0, .ref 83), (1, .int (Zi z))]) rfl rfl (by decide) rfl ?_
      refine Z_iinc (L2 := [(4, .int (Zi (i + 1))), (3, .int (Zi (i + 1))), (5, .int (Zi (60 * k + i))), (2, .int (Zi k)), (0, .ref 83), (1, .int (Zi z))]) rfl rfl (by decide) rfl ?_
      refine Z_go (f2 := (20, [(4, .int (Zi (i + 1))), (3, .int (Zi (i + 1))), (5, .int (Zi (60 * k + i))), (2, .int (Zi k)), (0, .ref 83), (1, .int (Zi z))], [])) (fun _ => rfl) ?_
      refine B_loc (K := [(4, .int (Zi (i + 1))), (3, .int (Zi (i + 1))), (2, .int (Zi k)), (0, .ref 83), (1, .int (Zi z))]) (N_all_sub ⟨rfl, rfl, rfl, rfl, rfl, trivial⟩) (show ([4, 3, 2, 0, 1] : List Nat).Nodup by decide) ?_
      rw [R_fl_st (by omega) (by omega) rfl] at hs
      exact ih _ _ (by omega) (by first | exact hs | (rw [← Int.add_assoc]; exact hs)) (by omega) (by omega)
theorem R_ol_j {d : Nat} {h0 : E_H} {s : R_S} {sl : Nat} {Φ : E_R → Prop} {k m z : Int} (p0 : 0 ≤ s.1 37) (p1 : s.1 37 < 580) (m1 : m ≤ 640) (zA : ∀ q j, Zr (s.2.1 q j)) (kont : ∀ (h : E_H), R_is h0 h (R_fl s 108 (640 * s.1 37) (640 * s.1 37 + m) (fun x => s.2.1 89 (x - 640 * s.1 37))) → B_R (d + 1) E_m234 (135, [(4, .int (Zi m)), (3, .int (Zi m)), (2, .int (Zi k)), (0, .ref 83), (1, .int (Zi z))], []) h sl Φ) : ∀ (t : Nat) (j : Int) (h : E_H), m - j < t → R_is h0 h (R_fl s 108 (640 * s.1 37) (640 * s.1 37 + j) (fun x => s.2.1 89 (x - 640 * s.1 37))) → 0 ≤ j → j ≤ m → B_R (d + 1) E_m234 (100, [(4, .int (Zi j)), (3, .int (Zi m)), (2, .int (Zi k)), (0, .ref 83), (1, .int (Zi z))], []) h sl Φ := by
  intro t
  induction t with
  | zero => intro j h ht hs j0 j1; omega
  | succ t ih =>
    intro j h ht hs j0 j1
    refine Z_go (f2 := (102, [(4, .int (Zi j)), (3, .int (Zi m)), (2, .int (Zi k)), (0, .ref 83), (1, .int (Zi z))], [.int (Zi j)])) (fun _ => rfl) ?_
    refine Z_go (f2 := (103, [(4, .int (Zi j)), (3, .int (Zi m)), (2, .int (Zi k)), (0, .ref 83), (1, .int (Zi z))], [.int (Zi m), .int (Zi j)])) (fun _ => rfl) ?_
    refine Z_cge rfl rfl (by first | exact hs.zF _ | exact Zor_r _ _ | exact hs.zA _ _ | assumption | exact zA _ _ | exact zS _ | exact Zr_not (hs.zA _ _) | exact ⟨by omega, by omega⟩) (by first | exact hs.zF _ | exact Zor_r _ _ | exact hs.zA _ _ | assumption | exact zA _ _ | exact zS _ | exact Zr_not (hs.zA _ _) | exact ⟨by omega, by omega⟩) (fun c1 => ?_) (fun c1 => ?_)
    · obtain rfl : j = m := by omega
      exact kont h hs 
    · refine Z_go (f2 := (107, [(4, .int (Zi j)), (3, .int (Zi m)), (2, .int (Zi k)), (0, .ref 83), (1, .int (Zi z))], [.ref 83])) (fun _ => rfl) ?_
      refine R_gr (q := 106) rfl hs rfl ?_
      show B_R _ _ (110, [(4, .int (Zi j)), (3, .int (Zi m)), (2, .int (Zi k)), (0, .ref 83), (1, .int (Zi z))], [.ref 108]) _ _ _
      refine Z_go (f2 := (113, [(4, .int (Zi j)), (3, .int (Zi m)), (2, .int (Zi k)), (0, .ref 83), (1, .int (Zi z))], [.int (Zi 640), .ref 108])) (fun _ => rfl) ?_
      refine Z_go (f2 := (114, [(4, .int (Zi j)), (3, .int (Zi m)), (2, .int (Zi k)), (0, .ref 83), (1, .int (Zi z))], [.ref 83, .int (Zi 640), .ref 108])) (fun _ => rfl) ?_
      refine R_gi rfl hs rfl ?_
      show B_R _ _ (117, [(4, .int (Zi j)), (3, .int (Zi m)), (2, .int (Zi k)), (0, .ref 83), (1, .int (Zi z))], [.int (Zi (s.1 37)), .int (Zi 640), .ref 108]) _ _ _
      refine Z_imul rfl ?_
      refine Z_go (f2 := (120, [(4, .int (Zi j)), (3, .int (Zi m)), (2, .int (Zi k)), (0, .ref 83), (1, .int (Zi z))], [.int (Zi j), .int (Zi (640 * (s.1 37))), .ref 108])) (fun _ => rfl) ?_
      refine Z_iadd rfl ?_
      refine Z_go (f2 := (122, [(4, .int (Zi j)), (3, .int (Zi m)), (2, .int (Zi k)), (0, .ref 83), (1, .int (Zi z))], [.ref 83, .int (Zi (640 * (s.1 37) + j)), .ref 108])) (fun _ => rfl) ?_
      refine R_gr (q := 87) rfl hs rfl ?_
      show B_R _ _ (125, [(4, .int (Zi j)), (3, .int (Zi m)), (2, .int (Zi k)), (0, .ref 83), (1, .int (Zi z))], [.ref 89, .int (Zi (640 * (s.1 37) + j)), .ref 108]) _ _ _
      refine Z_go (f2 := (127, [(4, .int (Zi j)), (3, .int (Zi m)), (2, .int (Zi k)), (0, .ref 83), (1, .int (Zi z))], [.int (Zi j), .ref 89, .int (Zi (640 * (s.1 37) + j)), .ref 108])) (fun _ => rfl) ?_
      refine R_ia (q := 5) rfl hs rfl rfl (by omega) (by omega) (by decide) ?_
      rw [show (R_fl s 108 (640 * s.1 37) (640 * s.1 37 + j) (fun x => s.2.1 89 (x - 640 * s.1 37))).2.1 89 j = s.2.1 89 j by first | rfl | simp [R_sA, R_sF, R_up2, R_fl, R_fL, R_sM, R_sL, R_p3, R_em]]; show B_R _ _ (128, [(4, .int (Zi j)), (3, .int (Zi m)), (2, .int (Zi k)), (0, .ref 83), (1, .int (Zi z))], [.int (Zi (s.2.1 89 j)), .int (Zi (640 * (s.1 37) + j)), .ref 108]) _ _ _
      refine R_is_ (q := 24) rfl hs rfl rfl (by omega) (by omega) (by decide) (by first | exact hs.zF _ | exact Zor_r _ _ | exact hs.zA _ _ | assumption | exact zA _ _ | exact zS _ | exact Zr_not (hs.zA _ _) | exact ⟨by omega, by omega⟩) (fun h hs => ?_)
      refine Z_iinc (L2 := [(4, .int (Zi (j + 1))), (3, .int (Zi m)), (2, .int (Zi k)), (0, .ref 83), (1, .int (Zi z))]) rfl rfl (by decide) rfl ?_
      refine Z_go (f2 := (100, [(4, .int (Zi (j + 1))), (3, .int (Zi m)), (2, .int (Zi k)), (0, .ref 83), (1, .int (Zi z))], [])) (fun _ => rfl) ?_
      refine B_loc (K := [(4, .int (Zi (j + 1))), (3, .int (Zi m)), (2, .int (Zi k)), (0, .ref 83), (1, .int (Zi z))]) (N_all_sub ⟨rfl, rfl, rfl, rfl, rfl, trivial⟩) (show ([4, 3, 2, 0, 1] : List Nat).Nodup by decide) ?_
      rw [R_fl_st (by omega) rfl (by show _ = s.2.1 89 _; exact congrArg (s.2.1 89) (by omega))] at hs
      exact ih _ _ (by omega) (by rw [← Int.add_assoc]; exact hs) (by omega) (by omega)
theorem R_ol_k {d : Nat} {h0 : E_H} {s : R_S} {sl : Nat} {Φ : E_R → Prop} {z : Int} (lv : R_lv s) (kont : ∀ (u : R_S) (h : E_H), R_is h0 h u → R_olq s u (s.1 43) → B_R (d + 1) E_m234 (161, [(0, .ref 83), (1, .int (Zi z))], []) h sl Φ) : ∀ (t : Nat) (k : Int) (u : R_S) (h : E_H), s.1 43 - k < t → R_is h0 h u → R_olq s u k → 0 ≤ k → k ≤ s.1 43 → B_R (d + 1) E_m234 (7, [(2, .int (Zi k)), (0, .ref 83), (1, .int (Zi z))], []) h sl Φ := by
  intro t
  induction t with
  | zero => intro k u h ht hs hu k0 k1; omega
  | succ t ih =>
    intro k u h ht hs hu k0 k1
    have e43 : u.1 43 = s.1 43 := hu.1 43 (by decide)
    have e37 := hu.2.1
    have lv1 := lv.2.1
    refine Z_go (f2 := (8, [(2, .int (Zi k)), (0, .ref 83), (1, .int (Zi z))], [.int (Zi k)])) (fun _ => rfl) ?_
    refine Z_go (f2 := (9, [(2, .int (Zi k)), (0, .ref 83), (1, .int (Zi z))], [.ref 83, .int (Zi k)])) (fun _ => rfl) ?_
    refine R_gi rfl hs rfl ?_
    show B_R _ _ (12, [(2, .int (Zi k)), (0, .ref 83), (1, .int (Zi z))], [.int (Zi (u.1 43)), .int (Zi k)]) _ _ _
    refine Z_cge rfl rfl (by first | exact hs.zF _ | exact Zor_r _ _ | exact hs.zA _ _ | assumption | exact zA _ _ | exact zS _ | exact Zr_not (hs.zA _ _) | exact ⟨by omega, by omega⟩) (by first | exact hs.zF _ | exact Zor_r _ _ | exact hs.zA _ _ | assumption | exact zA _ _ | exact zS _ | exact Zr_not (hs.zA _ _) | exact ⟨by omega, by omega⟩) (fun c1 => ?_) (fun c1 => ?_)
    · refine B_loc (K := [(0, .ref 83), (1, .int (Zi z))]) (N_all_sub ⟨rfl, rfl, trivial⟩) (show ([0, 1] : List Nat).Nodup by decide) ?_
      obtain rfl : k = s.1 43 := by omega
      exact kont u h hs hu
    · refine Z_go (f2 := (16, [(2, .int (Zi k)), (0, .ref 83), (1, .int (Zi z))], [.int (Zi 0)])) (fun _ => rfl) ?_
      refine Z_go (f2 := (17, [(3, .int (Zi 0)), (2, .int (Zi k)), (0, .ref 83), (1, .int (Zi z))], [])) (fun _ => rfl) ?_
      refine Z_go (f2 := (18, [(3, .int (Zi 0)), (2, .int (Zi k)), (0, .ref 83), (1, .int (Zi z))], [.int (Zi 0)])) (fun _ => rfl) ?_
      refine Z_go (f2 := (20, [(4, .int (Zi 0)), (3, .int (Zi 0)), (2, .int (Zi k)), (0, .ref 83), (1, .int (Zi z))], [])) (fun _ => rfl) ?_
      refine B_loc (K := [(4, .int (Zi 0)), (3, .int (Zi 0)), (2, .int (Zi k)), (0, .ref 83), (1, .int (Zi z))]) (N_all_sub ⟨rfl, rfl, rfl, rfl, rfl, trivial⟩) (show ([4, 3, 2, 0, 1] : List Nat).Nodup by decide) ?_
      obtain ⟨n0, n1, hx⟩ := lv.2.2 k k0 (by omega)
      have e111 : u.2.1 111 k = s.2.1 111 k := hu.2.2.1 111 k (by decide) (by decide) (by decide)
      have e112 : ∀ j, u.2.1 112 j = s.2.1 112 j := fun j => hu.2.2.1 112 j (by decide) (by decide) (by decide)
      have key : ∃ b : Int, b = 0 ∧ s.2.1 111 k ≤ 2 ∨ b + 2 = s.2.1 111 k ∧ 0 ≤ b := by
        by_cases q : s.2.1 111 k ≤ 2
        · exact ⟨0, .inl ⟨rfl, q⟩⟩
        · exact ⟨s.2.1 111 k - 2, .inr ⟨by omega, by omega⟩⟩
      obtain ⟨b, hb⟩ := key
      have b0 : 0 ≤ b := by omega
      have b1 : b ≤ 60 := by omega
      refine R_ol_g (s := u) (b := b) k0 (by omega) (by rw [e111]; exact n0) (by rw [e111]; exact n1) (by rw [e111]; exact hb) (fun j j0 j1 => by rw [e111] at j1; rw [e112]; exact hx j j0 j1) (fun q j => hs.zA q j) (fun h hs => ?_) (b.toNat + 1) 0 h (by omega) (by rw [R_fl_0]; exact hs) (by omega) b0
      refine Z_go (f2 := (92, [(4, .int (Zi b)), (3, .int (Zi b)), (2, .int (Zi k)), (0, .ref 83), (1, .int (Zi z))], [.ref 83])) (fun _ => rfl) ?_
      refine Z_go (f2 := (93, [(4, .int (Zi b)), (3, .int (Zi b)), (2, .int (Zi k)), (0, .ref 83), (1, .int (Zi z))], [.int (Zi b), .ref 83])) (fun _ => rfl) ?_
      refine R_call (As := [.int (Zi b)]) (rest := []) rfl (by decide) rfl rfl rfl rfl (by decide +kernel) (Nat.le_of_ble_eq_true rfl) hs (R_sorted _ (R_fl u 89 0 b (fun x => 65536 * u.2.1 112 (60 * k + x) + 256 * u.2.1 112 (60 * k + x + 1) + u.2.1 112 (60 * k + x + 2))) ⟨by omega, by omega⟩ b0 (by omega)) (fun x h v hs q => ?_)
      obtain ⟨m, rfl, r1, m0, m1, r2, r3⟩ := q
      have rv : ∀ q j, q ≠ 89 → v.2.1 q j = u.2.1 q j := fun q j hq => by rw [r1.2.1 q j hq]; exact R_fl_n hq j
      have rv1 : v.1 = u.1 := r1.1
      have rv2 : v.2.2 = u.2.2 := r1.2.2
      have pv : R_pv v := R_pv_row hu.2.2.2.2.1 rv rv1
      have e37v : v.1 37 = k := by rw [rv1]; exact e37
      have er : D_row (v.2.1 89) m = L_gr (R_lrow s k) := by
        refine L_srt_ext (D_row_srt r2) (L_gr_srt _) (fun x => ?_)
        rw [D_row_mem, r3]
        unfold R_lrow
        rw [← R_lg_in n0 hb]
        constructor
        · rintro ⟨i, i0, i1, hh⟩
          refine ⟨i, i0, i1, ?_⟩
          rw [R_fl_i i0 i1, e112, e112, e112] at hh
          show 65536 * s.2.1 112 (60 * k + i) + 256 * s.2.1 112 (60 * k + (i + 1)) + s.2.1 112 (60 * k + (i + 2)) = x
          rw [show 60 * k + (i + 1) = 60 * k + i + 1 by omega, show 60 * k + (i + 2) = 60 * k + i + 2 by omega]
          exact hh
        · rintro ⟨i, i0, i1, hh⟩
          refine ⟨i, i0, i1, ?_⟩
          have hh : 65536 * s.2.1 112 (60 * k + i) + 256 * s.2.1 112 (60 * k + (i + 1)) + s.2.1 112 (60 * k + (i + 2)) = x := hh
          rw [show 60 * k + (i + 1) = 60 * k + i + 1 by omega, show 60 * k + (i + 2) = 60 * k + i + 2 by omega] at hh
          rw [R_fl_i i0 i1, e112, e112, e112]
          exact hh
      show B_R _ _ (96, [(4, .int (Zi b)), (3, .int (Zi b)), (2, .int (Zi k)), (0, .ref 83), (1, .int (Zi z))], [.int (Zi m)]) _ _ _
      refine Z_go (f2 := (97, [(3, .int (Zi m)), (4, .int (Zi b)), (2, .int (Zi k)), (0, .ref 83), (1, .int (Zi z))], [])) (fun _ => rfl) ?_
      refine Z_go (f2 := (98, [(3, .int (Zi m)), (4, .int (Zi b)), (2, .int (Zi k)), (0, .ref 83), (1, .int (Zi z))], [.int (Zi 0)])) (fun _ => rfl) ?_
      refine Z_go (f2 := (100, [(4, .int (Zi 0)), (3, .int (Zi m)), (2, .int (Zi k)), (0, .ref 83), (1, .int (Zi z))], [])) (fun _ => rfl) ?_
      refine B_loc (K := [(4, .int (Zi 0)), (3, .int (Zi m)), (2, .int (Zi k)), (0, .ref 83), (1, .int (Zi z))]) (N_all_sub ⟨rfl, rfl, rfl, rfl, rfl, trivial⟩) (show ([4, 3, 2, 0, 1] : List Nat).Nodup by decide) ?_
      refine R_ol_j (s := v) (m := m) (k := k) (by omega) (by omega) (by omega) (fun q j => hs.zA q j) (fun h hs => ?_) (m.toNat + 1) 0 h (by omega) (by rw [Int.add_zero, R_fl_0]; exact hs) (by omega) m0
      refine Z_go (f2 := (136, [(4, .int (Zi m)), (3, .int (Zi m)), (2, .int (Zi k)), (0, .ref 83), (1, .int (Zi z))], [.ref 83])) (fun _ => rfl) ?_
      refine R_gr (q := 105) rfl hs rfl ?_
      show B_R _ _ (139, [(4, .int (Zi m)), (3, .int (Zi m)), (2, .int (Zi k)), (0, .ref 83), (1, .int (Zi z))], [.ref 107]) _ _ _
      refine Z_go (f2 := (140, [(4, .int (Zi m)), (3, .int (Zi m)), (2, .int (Zi k)), (0, .ref 83), (1, .int (Zi z))], [.ref 83, .ref 107])) (fun _ => rfl) ?_
      refine R_gi rfl hs rfl ?_
      show B_R _ _ (143, [(4, .int (Zi m)), (3, .int (Zi m)), (2, .int (Zi k)), (0, .ref 83), (1, .int (Zi z))], [.int (Zi (v.1 37)), .ref 107]) _ _ _
      refine Z_go (f2 := (144, [(4, .int (Zi m)), (3, .int (Zi m)), (2, .int (Zi k)), (0, .ref 83), (1, .int (Zi z))], [.int (Zi m), .int (Zi (v.1 37)), .ref 107])) (fun _ => rfl) ?_
      refine R_is_ (q := 23) rfl hs rfl rfl (by omega) (by omega) (by decide) (by first | exact hs.zF _ | exact Zor_r _ _ | exact hs.zA _ _ | assumption | exact zA _ _ | exact zS _ | exact Zr_not (hs.zA _ _) | exact ⟨by omega, by omega⟩) (fun h hs => ?_)
      refine Z_go (f2 := (146, [(4, .int (Zi m)), (3, .int (Zi m)), (2, .int (Zi k)), (0, .ref 83), (1, .int (Zi z))], [.ref 83])) (fun _ => rfl) ?_
      refine Z_go (f2 := (147, [(4, .int (Zi m)), (3, .int (Zi m)), (2, .int (Zi k)), (0, .ref 83), (1, .int (Zi z))], [.ref 83, .ref 83])) (fun _ => rfl) ?_
      refine R_gi rfl hs rfl ?_
      show B_R _ _ (150, [(4, .int (Zi m)), (3, .int (Zi m)), (2, .int (Zi k)), (0, .ref 83), (1, .int (Zi z))], [.int (Zi (v.1 37)), .ref 83]) _ _ _
      refine Z_go (f2 := (151, [(4, .int (Zi m)), (3, .int (Zi m)), (2, .int (Zi k)), (0, .ref 83), (1, .int (Zi z))], [.int (Zi 1), .int (Zi (v.1 37)), .ref 83])) (fun _ => rfl) ?_
      refine Z_iadd rfl ?_
      refine R_pf rfl hs rfl (by first | exact hs.zF _ | exact Zor_r _ _ | exact hs.zA _ _ | assumption | exact zA _ _ | exact zS _ | exact Zr_not (hs.zA _ _) | exact ⟨by omega, by omega⟩) ⟨rfl, rfl, rfl⟩ (fun h hs => ?_)
      refine Z_iinc (L2 := [(2, .int (Zi (k + 1))), (4, .int (Zi m)), (3, .int (Zi m)), (0, .ref 83), (1, .int (Zi z))]) rfl rfl (by decide) rfl ?_
      refine Z_goto (p2 := 7) rfl (by decide +kernel) (by decide +kernel) ?_
      refine B_loc (K := [(2, .int (Zi (k + 1))), (0, .ref 83), (1, .int (Zi z))]) (N_all_sub ⟨rfl, rfl, rfl, trivial⟩) (show ([2, 0, 1] : List Nat).Nodup by decide) ?_
      refine ih (k + 1) _ h (by omega) hs (R_olq_st (m := m) hu k0 rv rv1 rv2 (R_pad_mk pv (by omega) (fun b hb => R_sF_n _ _ hb) (R_sF_s _ _ _) (fun q j h7 h8 => ?_) rfl (fun i hi => ?_) ?_ (fun j hj => ?_) (fun j j0 j1 => ?_) m0 (by omega) r2) er) (by omega) (by omega)
      · rw [R_sF_a, R_sA_n _ _ _ _ h7, R_fl_n h8]
      · rw [R_sF_a, R_sA_m _ _ _ _ (by show i ≠ v.1 37; omega), R_fl_n (by decide)]
      · rw [R_sF_a]
        exact R_sA_s _ _ _ _
      · rw [R_sF_a, R_sA_n _ _ _ _ (by decide), R_fl_o (by omega)]
      · rw [R_sF_a, R_sA_n _ _ _ _ (by decide), R_fl_i (by omega) (by omega)]
        exact congrArg (v.2.1 89) (by omega)
theorem R_ofLongs (d : Nat) (s : R_S) {z : Int} (zz : Zr z) (z0 : 0 ≤ z) (z1 : z < 44) (lv : R_lv s) : R_ok (d + 4) 234 [.int (Zi z)] s (fun x s2 => x = none ∧ R_CC s2 z (F_least (R_LF s (s.1 43))) ∧ R_vk s s2 (fun e => e = z) ∧ (∀ q j, 96 ≤ q → q ≤ 103 → s2.2.1 q j = s.2.1 q j)) := by
  refine R_enter (M := E_m234) rfl (Nat.le_of_ble_eq_true rfl) (fun h0 h hs => ?_)
  show B_R (d + 3) _ (0, [(0, .ref 83), (1, .int (Zi z))], []) _ _ _
  refine Z_go (f2 := (1, [(0, .ref 83), (1, .int (Zi z))], [.ref 83])) (fun _ => rfl) ?_
  refine Z_go (f2 := (2, [(0, .ref 83), (1, .int (Zi z))], [.int (Zi 0), .ref 83])) (fun _ => rfl) ?_
  refine R_pf rfl hs rfl (by first | exact hs.zF _ | exact Zor_r _ _ | exact hs.zA _ _ | assumption | exact zA _ _ | exact zS _ | exact Zr_not (hs.zA _ _) | exact ⟨by omega, by omega⟩) ⟨rfl, rfl, rfl⟩ (fun h hs => ?_)
  refine Z_go (f2 := (6, [(0, .ref 83), (1, .int (Zi z))], [.int (Zi 0)])) (fun _ => rfl) ?_
  refine Z_go (f2 := (7, [(2, .int (Zi 0)), (0, .ref 83), (1, .int (Zi z))], [])) (fun _ => rfl) ?_
  refine B_loc (K := [(2, .int (Zi 0)), (0, .ref 83), (1, .int (Zi z))]) (N_all_sub ⟨rfl, rfl, rfl, trivial⟩) (show ([2, 0, 1] : List Nat).Nodup by decide) ?_
  refine R_ol_k (s := s) lv (fun u h hs hu => ?_) ((s.1 43).toNat + 1) 0 _ h (by omega) hs (R_olq_0 s) (by omega) lv.1
  refine Z_go (f2 := (162, [(0, .ref 83), (1, .int (Zi z))], [.ref 83])) (fun _ => rfl) ?_
  refine Z_go (f2 := (163, [(0, .ref 83), (1, .int (Zi z))], [.int (Zi z), .ref 83])) (fun _ => rfl) ?_
  refine R_call (As := [.int (Zi z)]) (rest := []) rfl (by decide) rfl rfl rfl rfl (by decide +kernel) (Nat.le_of_ble_eq_true rfl) hs (R_least _ u zz z0 z1 hu.2.2.2.2.1) (fun x h w hs q => ?_)
  obtain ⟨rfl, c1, c2⟩ := q
  rw [hu.2.2.2.2.2] at c1
  show B_R _ _ (166, [(0, .ref 83), (1, .int (Zi z))], []) _ _ _
  refine Z_ret rfl rfl ⟨_, hs, ?_, rfl⟩
  exact ⟨rfl, c1, (hu.vk (fun e => e = z)).trans c2.vk (fun _ h => h) (fun _ h => h), fun q j q0 q1 => by rw [c2.1.2.1 q j (by simp; omega)]; exact hu.2.2.1 q j (by omega) (by omega) (by omega)⟩
