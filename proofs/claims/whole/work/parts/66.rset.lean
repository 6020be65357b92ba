/-! the reference: the pairs as a set; the core of a slot, either of two -/
/-- u is s, but what is wanted in the slots K, and the pairs -/
def R_wk (s u : R_S) (K : Int → Prop) : Prop := R_fr [37] [104, 105, 106, 107, 108, 109] s u ∧ ∀ e, ¬ K e → u.2.1 104 e = s.2.1 104 e ∧ (∀ j, 24 * e ≤ j → j < 24 * e + 24 → u.2.1 105 j = s.2.1 105 j) ∧ (∀ j, 15360 * e ≤ j → j < 15360 * e + 15360 → u.2.1 106 j = s.2.1 106 j)
theorem R_wk.trans {s u w : R_S} {K L M : Int → Prop} (h : R_wk s u K) (g : R_wk u w L) (hK : ∀ e, K e → M e) (hL : ∀ e, L e → M e) : R_wk s w M := by
  refine ⟨h.1.trans g.1 (fun _ e => e.elim id id) (fun _ e => e.elim id id), fun e he => ?_⟩
  obtain ⟨a1, a2, a3⟩ := h.2 e (fun q => he (hK e q))
  obtain ⟨b1, b2, b3⟩ := g.2 e (fun q => he (hL e q))
  exact ⟨by rw [b1, a1], fun j j0 j1 => by rw [b2 j j0 j1, a2 j j0 j1], fun j j0 j1 => by rw [b3 j j0 j1, a3 j j0 j1]⟩
theorem R_wk_slf {s u : R_S} {k : Int} (h : R_slf s u k) : R_wk s u (fun e => e = k) := by
  refine ⟨⟨fun b _ => congrFun h.1.1 b, fun q hq j => h.1.2.1 q j (fun e => hq (by revert e; simp; intro e; rcases e with e | e | e | e <;> simp [e])), h.1.2.2⟩, fun e he => ⟨h.2.1 e he, fun j j0 j1 => h.2.2.1 j ?_, fun j j0 j1 => h.2.2.2 j ?_⟩⟩
  · have he : e ≠ k := he
    omega
  · have he : e ≠ k := he
    omega
theorem R_CC_wk {s u : R_S} {K : Int → Prop} {e : Int} {C : P_X} (h : R_wk s u K) (ne : ¬ K e) (hC : R_CC s e C) : R_CC u e C := by
  obtain ⟨a1, a2, a3⟩ := h.2 e ne
  obtain ⟨c0, c1, c2, c3, c4⟩ := hC
  have e2 : ∀ c, 0 ≤ c → c < 24 → u.2.1 105 (24 * e + c) = s.2.1 105 (24 * e + c) := fun c a b => a2 _ (by omega) (by omega)
  have e3 : ∀ c, 0 ≤ c → c < 24 → ∀ x, 0 ≤ x → x < 640 → u.2.1 106 (640 * (24 * e + c) + x) = s.2.1 106 (640 * (24 * e + c) + x) := fun c a b x x0 x1 => a3 _ (by omega) (by omega)
  have er : ∀ c, 0 ≤ c → c < s.2.1 104 e → R_crow u e c = R_crow s e c := fun c a b => D_row_eq (e2 c a (by omega)) (fun j j0 j1 => e3 c a (by omega) j j0 (by rw [e2 c a (by omega)] at j1; have := (c2 c a b).2.1; omega))
  refine ⟨by rw [a1]; exact c0, by rw [a1]; exact c1, fun c a b => ?_, fun c q a b d => ?_, fun x => (c4 x).trans ?_⟩
  · rw [a1] at b
    rw [e2 c a (by omega)]
    obtain ⟨z1, z2, z3⟩ := c2 c a b
    refine ⟨z1, z2, fun i j i0 ij jn => ?_⟩
    show u.2.1 106 _ < u.2.1 106 _
    rw [e3 c a (by omega) i i0 (by omega), e3 c a (by omega) j (by omega) (by omega)]
    exact z3 i j i0 ij jn
  · rw [a1] at d
    rw [er c a (by omega), er q (by omega) d]
    exact c3 c q a b d
  · rw [a1]
    constructor
    · rintro ⟨c, a, b, rfl⟩; exact ⟨c, a, b, (er c a b).symm⟩
    · rintro ⟨c, a, b, rfl⟩; exact ⟨c, a, b, er c a b⟩
/-- u is s with N pairs, which make P -/
def R_pst (s u : R_S) (N : Int) (P : P_X) : Prop := (∀ b, b ≠ 37 → u.1 b = s.1 b) ∧ u.1 37 = N ∧ (∀ q j, q ≠ 107 → q ≠ 108 → u.2.1 q j = s.2.1 q j) ∧ u.2.2 = s.2.2 ∧ R_pv u ∧ R_PF u = P
theorem R_pst_0 (s : R_S) : R_pst s (R_sF s 37 0) 0 (fun _ => False) := by
  have e : (R_sF s 37 0).1 37 = 0 := R_sF_s _ _ _
  refine ⟨fun b hb => R_sF_n _ _ hb, e, fun _ _ _ _ => rfl, rfl, ⟨by rw [e]; decide, by rw [e]; decide, fun i i0 i1 => by rw [e] at i1; omega⟩, ?_⟩
  funext x
  refine propext ⟨?_, fun h => h.elim⟩
  rintro ⟨i, i0, i1, _⟩
  rw [e] at i1
  omega
theorem R_pst.add {s u w : R_S} {N : Int} {P : P_X} {x : List Int} (h : R_pst s u N P) (g : R_pad u w x) : R_pst s w (N + 1) (F_or P (F_one x)) := by
  obtain ⟨h1, h2, h3, h4, h5, h6⟩ := h
  refine ⟨fun b hb => by rw [g.1 b hb, h1 b hb], by rw [g.2.1, h2], fun q j a b => by rw [g.2.2.1 q j a b, h3 q j a b], by rw [g.2.2.2.1, h4], g.2.2.2.2.1, ?_⟩
  rw [R_pad_PF g h5.1, h6]
theorem R_pst.wk {s u : R_S} {N : Int} {P : P_X} (h : R_pst s u N P) : R_wk s u (fun _ => False) := by
  obtain ⟨h1, h2, h3, h4, h5, h6⟩ := h
  refine ⟨⟨fun b hb => h1 b (fun e => hb (by rw [e]; simp)), fun q hq j => h3 q j (fun e => hq (by rw [e]; simp)) (fun e => hq (by rw [e]; simp)), h4⟩, fun e _ => ⟨h3 104 e (by decide) (by decide), fun j _ _ => h3 105 j (by decide) (by decide), fun j _ _ => h3 106 j (by decide) (by decide)⟩⟩
theorem R_pst.crow {s u : R_S} {N : Int} {P : P_X} (h : R_pst s u N P) (k c : Int) : R_crow u k c = R_crow s k c := by
  obtain ⟨h1, h2, h3, h4, h5, h6⟩ := h
  unfold R_crow
  rw [h3 105 _ (by decide) (by decide)]
  have : (fun x => u.2.1 106 (640 * (24 * k + c) + x)) = fun x => s.2.1 106 (640 * (24 * k + c) + x) := funext (fun x => h3 106 _ (by decide) (by decide))
  rw [this]
theorem R_pst.cv {s u : R_S} {N : Int} {P : P_X} {k : Int} (h : R_pst s u N P) (c : R_cv s k) : R_cv u k := by
  obtain ⟨h1, h2, h3, h4, h5, h6⟩ := h
  obtain ⟨c1, c2, c3⟩ := c
  refine ⟨by rw [h3 104 _ (by decide) (by decide)]; exact c1, by rw [h3 104 _ (by decide) (by decide)]; exact c2, fun c a b => ?_⟩
  rw [h3 104 _ (by decide) (by decide)] at b
  rw [h3 105 _ (by decide) (by decide)]
  have : (fun x => u.2.1 106 (640 * (24 * k + c) + x)) = fun x => s.2.1 106 (640 * (24 * k + c) + x) := funext (fun x => h3 106 _ (by decide) (by decide))
  rw [this]
  exact c3 c a b
/-- the first k choices of a slot -/
def R_cho (s : R_S) (e k : Int) : P_X := fun x => ∃ c, 0 ≤ c ∧ c < k ∧ x = R_crow s e c
theorem R_cho_0 (s : R_S) (e : Int) : R_cho s e 0 = fun _ => False := funext (fun x => propext ⟨fun ⟨c, a, b, _⟩ => by omega, fun h => h.elim⟩)
theorem R_cho_s (s : R_S) (e : Int) {k : Int} (k0 : 0 ≤ k) : F_or (R_cho s e k) (F_one (R_crow s e k)) = R_cho s e (k + 1) := by
  funext x
  refine propext ⟨?_, ?_⟩
  · rintro (⟨c, a, b, h⟩ | h)
    · exact ⟨c, a, by omega, h⟩
    · exact ⟨k, k0, by omega, h⟩
  · rintro ⟨c, a, b, h⟩
    by_cases q : c = k
    · exact .inr (by rw [← q]; exact h)
    · exact .inl ⟨c, a, by omega, h⟩
theorem R_CC.cho {s : R_S} {e : Int} {C : P_X} (h : R_CC s e C) : R_cho s e (s.2.1 104 e) = C := funext (fun x => propext (h.2.2.2.2 x).symm)
theorem F_or_assoc (A B C : P_X) : F_or (F_or A B) C = F_or A (F_or B C) := funext (fun x => propext or_assoc)
theorem F_or_no (A : P_X) : F_or A (fun _ => False) = A := funext (fun x => propext ⟨fun h => h.elim id False.elim, .inl⟩)
theorem F_no_or (A : P_X) : F_or (fun _ => False) A = A := funext (fun x => propext ⟨fun h => h.elim False.elim id, .inr⟩)
theorem R_co_lp {d : Nat} {h0 : E_H} {s : R_S} {sl : Nat} {Φ : E_R → Prop} {N0 : Int} {P0 : P_X} {e : Int} (s0 : 0 ≤ e) (s1 : e < 44) (cv : R_cv s e) (n0 : 0 ≤ N0) (n1 : N0 ≤ 24) (kont : ∀ (u : R_S) (h : E_H), R_is h0 h u → R_pst s u (N0 + s.2.1 104 e) (F_or P0 (R_cho s e (s.2.1 104 e))) → B_R (d + 1) E_m231 (29, [(2, .int (Zi (s.2.1 104 e))), (0, .ref 83), (1, .int (Zi e))], []) h sl Φ) : ∀ (t : Nat) (k : Int) (u : R_S) (h : E_H), s.2.1 104 e - k < t → R_is h0 h u → R_pst s u (N0 + k) (F_or P0 (R_cho s e k)) → 0 ≤ k → k ≤ s.2.1 104 e → B_R (d + 1) E_m231 (7, [(2, .int (Zi k)), (0, .ref 83), (1, .int (Zi e))], []) h sl Φ := by
  intro t
  induction t with
  | zero => intro k u h ht hs hu k0 k1; omega
  | succ t ih =>
    intro k u h ht hs hu k0 k1
    have e104 : u.2.1 104 e = s.2.1 104 e := hu.2.2.1 104 _ (by decide) (by decide)
    have cvu := hu.cv cv
    have cv2 := cv.2.1
    have e37 := hu.2.1
    refine Z_go (f2 := (8, [(2, .int (Zi k)), (0, .ref 83), (1, .int (Zi e))], [.int (Zi k)])) (fun _ => rfl) ?_
    refine Z_go (f2 := (9, [(2, .int (Zi k)), (0, .ref 83), (1, .int (Zi e))], [.ref 83, .int (Zi k)])) (fun _ => rfl) ?_
    refine R_gr (q := 102) rfl hs rfl ?_
    show B_R _ _ (12, [(2, .int (Zi k)), (0, .ref 83), (1, .int (Zi e))], [.ref 104, .int (Zi k)]) _ _ _
    refine Z_go (f2 := (13, [(2, .int (Zi k)), (0, .ref 83), (1, .int (Zi e))], [.int (Zi e), .ref 104, .int (Zi k)])) (fun _ => rfl) ?_
    refine R_ia (q := 20) rfl hs rfl rfl (by omega) (by omega) (by decide) ?_
    refine Z_cge rfl rfl (by first | exact hs.zF _ | exact Zor_r _ _ | exact hs.zA _ _ | assumption | exact zA _ _ | exact zS _ | exact Zr_not (hs.zA _ _) | exact ⟨by omega, by omega⟩) (by first | exact hs.zF _ | exact Zor_r _ _ | exact hs.zA _ _ | assumption | exact zA _ _ | exact zS _ | exact Zr_not (hs.zA _ _) | exact ⟨by omega, by omega⟩) (fun c1 => ?_) (fun c1 => ?_)
    · refine B_loc (K := [(2, .int (Zi k)), (0, .ref 83), (1, .int (Zi e))]) (N_all_sub ⟨rfl, rfl, rfl, trivial⟩) (show ([2, 0, 1] : List Nat).Nodup by decide) ?_
      have e : k = s.2.1 104 e := by omega
      rw [e] at hu ⊢
      exact kont u h hs hu
    · refine Z_go (f2 := (18, [(2, .int (Zi k)), (0, .ref 83), (1, .int (Zi e))], [.ref 83])) (fun _ => rfl) ?_
      refine Z_go (f2 := (19, [(2, .int (Zi k)), (0, .ref 83), (1, .int (Zi e))], [.int (Zi e), .ref 83])) (fun _ => rfl) ?_
      refine Z_go (f2 := (20, [(2, .int (Zi k)), (0, .ref 83), (1, .int (Zi e))], [.int (Zi k), .int (Zi e), .ref 83])) (fun _ => rfl) ?_
      refine R_call (As := [.int (Zi e), .int (Zi k)]) (rest := []) rfl (by decide) rfl rfl rfl rfl (by decide +kernel) (Nat.le_of_ble_eq_true rfl) hs (R_addChoice _ u (by first | assumption | exact hs.zF _ | exact hs.zA _ _ | exact ⟨by omega, by omega⟩ | omega) (by first | assumption | exact hs.zF _ | exact hs.zA _ _ | exact ⟨by omega, by omega⟩ | omega) (by omega) (by omega) (by omega) (by rw [e104]; omega) cvu hu.2.2.2.2.1 (by omega)) (fun x h w hs q => ?_)
      obtain ⟨rfl, q1⟩ := q
      show B_R _ _ (23, [(2, .int (Zi k)), (0, .ref 83), (1, .int (Zi e))], []) _ _ _
      refine Z_iinc (L2 := [(2, .int (Zi (k + 1))), (0, .ref 83), (1, .int (Zi e))]) rfl rfl (by decide) rfl ?_
      refine Z_go (f2 := (7, [(2, .int (Zi (k + 1))), (0, .ref 83), (1, .int (Zi e))], [])) (fun _ => rfl) ?_
      refine B_loc (K := [(2, .int (Zi (k + 1))), (0, .ref 83), (1, .int (Zi e))]) (N_all_sub ⟨rfl, rfl, rfl, trivial⟩) (show ([2, 0, 1] : List Nat).Nodup by decide) ?_
      refine ih (k + 1) w h (by omega) hs ?_ (by omega) (by omega)
      have := hu.add q1
      rw [hu.crow, F_or_assoc, R_cho_s s e k0, Int.add_assoc] at this
      exact this
theorem R_ei_lp1 {d : Nat} {h0 : E_H} {s : R_S} {sl : Nat} {Φ : E_R → Prop} {N0 : Int} {P0 : P_X} {p q to : Int} (s0 : 0 ≤ p) (s1 : p < 44) (cv : R_cv s p) (n0 : 0 ≤ N0) (n1 : N0 ≤ 24) (kont : ∀ (u : R_S) (h : E_H), R_is h0 h u → R_pst s u (N0 + s.2.1 104 p) (F_or P0 (R_cho s p (s.2.1 104 p))) → B_R (d + 1) E_m233 (32, [(4, .int (Zi (s.2.1 104 p))), (0, .ref 83), (1, .int (Zi p)), (2, .int (Zi q)), (3, .int (Zi to))], []) h sl Φ) : ∀ (t : Nat) (k : Int) (u : R_S) (h : E_H), s.2.1 104 p - k < t → R_is h0 h u → R_pst s u (N0 + k) (F_or P0 (R_cho s p k)) → 0 ≤ k → k ≤ s.2.1 104 p → B_R (d + 1) E_m233 (8, [(4, .int (Zi k)), (0, .ref 83), (1, .int (Zi p)), (2, .int (Zi q)), (3, .int (Zi to))], []) h sl Φ := by
  intro t
  induction t with
  | zero => intro k u h ht hs hu k0 k1; omega
  | succ t ih =>
    intro k u h ht hs hu k0 k1
    have e104 : u.2.1 104 p = s.2.1 104 p := hu.2.2.1 104 _ (by decide) (by decide)
    have cvu := hu.cv cv
    have cv2 := cv.2.1
    have e37 := hu.2.1
    refine Z_go (f2 := (10, [(4, .int (Zi k)), (0, .ref 83), (1, .int (Zi p)), (2, .int (Zi q)), (3, .int (Zi to))], [.int (Zi k)])) (fun _ => rfl) ?_
    refine Z_go (f2 := (11, [(4, .int (Zi k)), (0, .ref 83), (1, .int (Zi p)), (2, .int (Zi q)), (3, .int (Zi to))], [.ref 83, .int (Zi k)])) (fun _ => rfl) ?_
    refine R_gr (q := 102) rfl hs rfl ?_
    show B_R _ _ (14, [(4, .int (Zi k)), (0, .ref 83), (1, .int (Zi p)), (2, .int (Zi q)), (3, .int (Zi to))], [.ref 104, .int (Zi k)]) _ _ _
    refine Z_go (f2 := (15, [(4, .int (Zi k)), (0, .ref 83), (1, .int (Zi p)), (2, .int (Zi q)), (3, .int (Zi to))], [.int (Zi p), .ref 104, .int (Zi k)])) (fun _ => rfl) ?_
    refine R_ia (q := 20) rfl hs rfl rfl (by omega) (by omega) (by decide) ?_
    refine Z_cge rfl rfl (by first | exact hs.zF _ | exact Zor_r _ _ | exact hs.zA _ _ | assumption | exact zA _ _ | exact zS _ | exact Zr_not (hs.zA _ _) | exact ⟨by omega, by omega⟩) (by first | exact hs.zF _ | exact Zor_r _ _ | exact hs.zA _ _ | assumption | exact zA _ _ | exact zS _ | exact Zr_not (hs.zA _ _) | exact ⟨by omega, by omega⟩) (fun c1 => ?_) (fun c1 => ?_)
    · refine B_loc (K := [(4, .int (Zi k)), (0, .ref 83), (1, .int (Zi p)), (2, .int (Zi q)), (3, .int (Zi to))]) (N_all_sub ⟨rfl, rfl, rfl, rfl, rfl, trivial⟩) (show ([4, 0, 1, 2, 3] : List Nat).Nodup by decide) ?_
      have e : k = s.2.1 104 p := by omega
      rw [e] at hu ⊢
      exact kont u h hs hu
    · refine Z_go (f2 := (20, [(4, .int (Zi k)), (0, .ref 83), (1, .int (Zi p)), (2, .int (Zi q)), (3, .int (Zi to))], [.ref 83])) (fun _ => rfl) ?_
      refine Z_go (f2 := (21, [(4, .int (Zi k)), (0, .ref 83), (1, .int (Zi p)), (2, .int (Zi q)), (3, .int (Zi to))], [.int (Zi p), .ref 83])) (fun _ => rfl) ?_
      refine Z_go (f2 := (23, [(4, .int (Zi k)), (0, .ref 83), (1, .int (Zi p)), (2, .int (Zi q)), (3, .int (Zi to))], [.int (Zi k), .int (Zi p), .ref 83])) (fun _ => rfl) ?_
      refine R_call (As := [.int (Zi p), .int (Zi k)]) (rest := []) rfl (by decide) rfl rfl rfl rfl (by decide +kernel) (Nat.le_of_ble_eq_true rfl) hs (R_addChoice _ u (by first | assumption | exact hs.zF _ | exact hs.zA _ _ | exact ⟨by omega, by omega⟩ | omega) (by first | assumption | exact hs.zF _ | exact hs.zA _ _ | exact ⟨by omega, by omega⟩ | omega) (by omega) (by omega) (by omega) (by rw [e104]; omega) cvu hu.2.2.2.2.1 (by omega)) (fun x h w hs q => ?_)
      obtain ⟨rfl, q1⟩ := q
      show B_R _ _ (26, [(4, .int (Zi k)), (0, .ref 83), (1, .int (Zi p)), (2, .int (Zi q)), (3, .int (Zi to))], []) _ _ _
      refine Z_iinc (L2 := [(4, .int (Zi (k + 1))), (0, .ref 83), (1, .int (Zi p)), (2, .int (Zi q)), (3, .int (Zi to))]) rfl rfl (by decide) rfl ?_
      refine Z_go (f2 := (8, [(4, .int (Zi (k + 1))), (0, .ref 83), (1, .int (Zi p)), (2, .int (Zi q)), (3, .int (Zi to))], [])) (fun _ => rfl) ?_
      refine B_loc (K := [(4, .int (Zi (k + 1))), (0, .ref 83), (1, .int (Zi p)), (2, .int (Zi q)), (3, .int (Zi to))]) (N_all_sub ⟨rfl, rfl, rfl, rfl, rfl, trivial⟩) (show ([4, 0, 1, 2, 3] : List Nat).Nodup by decide) ?_
      refine ih (k + 1) w h (by omega) hs ?_ (by omega) (by omega)
      have := hu.add q1
      rw [hu.crow, F_or_assoc, R_cho_s s p k0, Int.add_assoc] at this
      exact this
theorem R_ei_lp2 {d : Nat} {h0 : E_H} {s : R_S} {sl : Nat} {Φ : E_R → Prop} {N0 : Int} {P0 : P_X} {p q to : Int} (s0 : 0 ≤ q) (s1 : q < 44) (cv : R_cv s q) (n0 : 0 ≤ N0) (n1 : N0 ≤ 24) (kont : ∀ (u : R_S) (h : E_H), R_is h0 h u → R_pst s u (N0 + s.2.1 104 q) (F_or P0 (R_cho s q (s.2.1 104 q))) → B_R (d + 1) E_m233 (59, [(4, .int (Zi (s.2.1 104 q))), (0, .ref 83), (1, .int (Zi p)), (2, .int (Zi q)), (3, .int (Zi to))], []) h sl Φ) : ∀ (t : Nat) (k : Int) (u : R_S) (h : E_H), s.2.1 104 q - k < t → R_is h0 h u → R_pst s u (N0 + k) (F_or P0 (R_cho s q k)) → 0 ≤ k → k ≤ s.2.1 104 q → B_R (d + 1) E_m233 (35, [(4, .int (Zi k)), (0, .ref 83), (1, .int (Zi p)), (2, .int (Zi q)), (3, .int (Zi to))], []) h sl Φ := by
  intro t
  induction t with
  | zero => intro k u h ht hs hu k0 k1; omega
  | succ t ih =>
    intro k u h ht hs hu k0 k1
    have e104 : u.2.1 104 q = s.2.1 104 q := hu.2.2.1 104 _ (by decide) (by decide)
    have cvu := hu.cv cv
    have cv2 := cv.2.1
    have e37 := hu.2.1
    refine Z_go (f2 := (37, [(4, .int (Zi k)), (0, .ref 83), (1, .int (Zi p)), (2, .int (Zi q)), (3, .int (Zi to))], [.int (Zi k)])) (fun _ => rfl) ?_
    refine Z_go (f2 := (38, [(4, .int (Zi k)), (0, .ref 83), (1, .int (Zi p)), (2, .int (Zi q)), (3, .int (Zi to))], [.ref 83, .int (Zi k)])) (fun _ => rfl) ?_
    refine R_gr (q := 102) rfl hs rfl ?_
    show B_R _ _ (41, [(4, .int (Zi k)), (0, .ref 83), (1, .int (Zi p)), (2, .int (Zi q)), (3, .int (Zi to))], [.ref 104, .int (Zi k)]) _ _ _
    refine Z_go (f2 := (42, [(4, .int (Zi k)), (0, .ref 83), (1, .int (Zi p)), (2, .int (Zi q)), (3, .int (Zi to))], [.int (Zi q), .ref 104, .int (Zi k)])) (fun _ => rfl) ?_
    refine R_ia (q := 20) rfl hs rfl rfl (by omega) (by omega) (by decide) ?_
    refine Z_cge rfl rfl (by first | exact hs.zF _ | exact Zor_r _ _ | exact hs.zA _ _ | assumption | exact zA _ _ | exact zS _ | exact Zr_not (hs.zA _ _) | exact ⟨by omega, by omega⟩) (by first | exact hs.zF _ | exact Zor_r _ _ | exact hs.zA _ _ | assumption | exact zA _ _ | exact zS _ | exact Zr_not (hs.zA _ _) | exact ⟨by omega, by omega⟩) (fun c1 => ?_) (fun c1 => ?_)
    · refine B_loc (K := [(4, .int (Zi k)), (0, .ref 83), (1, .int (Zi p)), (2, .int (Zi q)), (3, .int (Zi to))]) (N_all_sub ⟨rfl, rfl, rfl, rfl, rfl, trivial⟩) (show ([4, 0, 1, 2, 3] : List Nat).Nodup by decide) ?_
      have e : k = s.2.1 104 q := by omega
      rw [e] at hu ⊢
      exact kont u h hs hu
    · refine Z_go (f2 := (47, [(4, .int (Zi k)), (0, .ref 83), (1, .int (Zi p)), (2, .int (Zi q)), (3, .int (Zi to))], [.ref 83])) (fun _ => rfl) ?_
      refine Z_go (f2 := (48, [(4, .int (Zi k)), (0, .ref 83), (1, .int (Zi p)), (2, .int (Zi q)), (3, .int (Zi to))], [.int (Zi q), .ref 83])) (fun _ => rfl) ?_
      refine Z_go (f2 := (50, [(4, .int (Zi k)), (0, .ref 83), (1, .int (Zi p)), (2, .int (Zi q)), (3, .int (Zi to))], [.int (Zi k), .int (Zi q), .ref 83])) (fun _ => rfl) ?_
      refine R_call (As := [.int (Zi q), .int (Zi k)]) (rest := []) rfl (by decide) rfl rfl rfl rfl (by decide +kernel) (Nat.le_of_ble_eq_true rfl) hs (R_addChoice _ u (by first | assumption | exact hs.zF _ | exact hs.zA _ _ | exact ⟨by omega, by omega⟩ | omega) (by first | assumption | exact hs.zF _ | exact hs.zA _ _ | exact ⟨by omega, by omega⟩ | omega) (by omega) (by omega) (by omega) (by rw [e104]; omega) cvu hu.2.2.2.2.1 (by omega)) (fun x h w hs q => ?_)
      obtain ⟨rfl, q1⟩ := q
      show B_R _ _ (53, [(4, .int (Zi k)), (0, .ref 83), (1, .int (Zi p)), (2, .int (Zi q)), (3, .int (Zi to))], []) _ _ _
      refine Z_iinc (L2 := [(4, .int (Zi (k + 1))), (0, .ref 83), (1, .int (Zi p)), (2, .int (Zi q)), (3, .int (Zi to))]) rfl rfl (by decide) rfl ?_
      refine Z_go (f2 := (35, [(4, .int (Zi (k + 1))), (0, .ref 83), (1, .int (Zi p)), (2, .int (Zi q)), (3, .int (Zi to))], [])) (fun _ => rfl) ?_
      refine B_loc (K := [(4, .int (Zi (k + 1))), (0, .ref 83), (1, .int (Zi p)), (2, .int (Zi q)), (3, .int (Zi to))]) (N_all_sub ⟨rfl, rfl, rfl, rfl, rfl, trivial⟩) (show ([4, 0, 1, 2, 3] : List Nat).Nodup by decide) ?_
      refine ih (k + 1) w h (by omega) hs ?_ (by omega) (by omega)
      have := hu.add q1
      rw [hu.crow, F_or_assoc, R_cho_s s q k0, Int.add_assoc] at this
      exact this
