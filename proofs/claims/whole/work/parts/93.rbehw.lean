/-! the reference: behind, where texts do not join -/
theorem R_wk.vk {s u : R_S} {K : Int → Prop} (h : R_wk s u K) : R_vk s u K := by
  refine ⟨⟨fun b hb => h.1.1 b (fun e => hb (by simp at e ⊢; omega)), fun q hq j => h.1.2.1 q (fun e => hq (by simp at e ⊢; omega)) j, h.1.2.2⟩, fun q q0 q1 j hj => ?_⟩
  by_cases c4 : q = 104
  · subst c4
    exact (h.2 j (fun e => hj (by show K (_ / (1 : Int)); rw [Int.ediv_one]; exact e))).1
  · by_cases c5 : q = 105
    · subst c5
      exact (h.2 (j / 24) hj).2.1 j (by omega) (by omega)
    · by_cases c6 : q = 106
      · subst c6
        exact (h.2 (j / 15360) hj).2.2 j (by omega) (by omega)
      · exact h.1.2.1 q (by simp; omega) j
theorem R_wk.lo {s u : R_S} {K : Int → Prop} (h : R_wk s u K) {q : Nat} (q1 : q ≤ 103) (j : Int) : u.2.1 q j = s.2.1 q j := h.1.2.1 q (by simp; omega) j
theorem R_CC_vk {s u : R_S} {K : Int → Prop} (h : R_vk s u K) {e : Int} (he : ¬ K e) {C : P_X} (a4 : R_CC s e C) : R_CC u e C := by
  have hk : ∀ q (q0 : 96 ≤ q) (q1 : q ≤ 106) j, j / R_wd q = e → u.2.1 q j = s.2.1 q j := fun q q0 q1 j w => h.2 q q0 q1 j (by rw [w]; exact he)
  exact R_CC_at (hk 104 (by decide) (by decide) _ (Int.ediv_one e)) (fun t t0 t1 => hk 105 (by decide) (by decide) _ (by show _ / (24 : Int) = e; have := a4.2.1; omega)) (fun t t0 t1 i i0 i1 => hk 106 (by decide) (by decide) _ (by show _ / (15360 : Int) = e; have := a4.2.1; have := (a4.2.2.1 t t0 t1).2.1; omega)) a4
def R_bK (p q : Int) : Int → Prop := fun e => e = p ∨ e = q ∨ e = 40 ∨ e = 41 ∨ e = 42
set_option maxRecDepth 4000 in
theorem R_be_35 {d : Nat} {h0 : E_H} {s : R_S} {sl : Nat} {Φ : E_R → Prop} {p q : Int} {v w : P_V} (p0 : 0 ≤ p) (p1 : p < 40) (q0 : 0 ≤ q) (q1 : q < 40) (ne : p ≠ q) (hp : R_V s p v) (hq : R_V s q w) (fv : V_fix v) (fw : V_fix w) (hb1 : ∀ x y, V_C v x → V_C w y → (L_un x y).length ≤ 640) (hb2 : ∀ x y, F_both (V_C v) (V_C w) x → F_least (F_im2 (fun t h => L_gr (t ++ h)) (V_T v) (V_H w)) y → (L_un x y).length ≤ 640) (kont : ∀ (u : R_S) (h : E_H), R_is h0 h u → R_V u p (V_beh2 v w) → R_V u q w → R_vk s u (R_bK p q) → Φ (none, h, sl)) (h : E_H) (hs : R_is h0 h s) : B_R (d + 6) E_m243 (35, [(0, .ref 83), (1, .int (Zi p)), (2, .int (Zi q))], []) h sl Φ := by
  have zp : Zr p := ⟨by omega, by omega⟩
  have zq : Zr q := ⟨by omega, by omega⟩
  refine Z_go (f2 := (36, [(0, .ref 83), (1, .int (Zi p)), (2, .int (Zi q))], [.ref 83])) (fun _ => rfl) ?_
  refine Z_go (f2 := (37, [(0, .ref 83), (1, .int (Zi p)), (2, .int (Zi q))], [.int (Zi p), .ref 83])) (fun _ => rfl) ?_
  refine R_call (As := [.int (Zi p)]) (rest := []) rfl (by decide) rfl rfl rfl rfl (by decide +kernel) (Nat.le_of_ble_eq_true rfl) hs (R_opens _ s zp p0 (by omega) hp) (fun x h s1 hs q => ?_)
  obtain ⟨rfl, op1, k1⟩ := q
  have hq1 := R_V_vk k1 (fun e => ne e.symm) hq
  show B_R _ _ (40, [(0, .ref 83), (1, .int (Zi p)), (2, .int (Zi q))], []) _ _ _
  refine Z_go (f2 := (41, [(0, .ref 83), (1, .int (Zi p)), (2, .int (Zi q))], [.ref 83])) (fun _ => rfl) ?_
  refine Z_go (f2 := (42, [(0, .ref 83), (1, .int (Zi p)), (2, .int (Zi q))], [.int (Zi q), .ref 83])) (fun _ => rfl) ?_
  refine R_call (As := [.int (Zi q)]) (rest := []) rfl (by decide) rfl rfl rfl rfl (by decide +kernel) (Nat.le_of_ble_eq_true rfl) hs (R_opens _ s1 zq q0 (by omega) hq1) (fun x h s2 hs q => ?_)
  obtain ⟨rfl, oq2, k2⟩ := q
  have op2 := R_opn_vk k2 ne op1
  show B_R _ _ (45, [(0, .ref 83), (1, .int (Zi p)), (2, .int (Zi q))], []) _ _ _
  refine Z_go (f2 := (46, [(0, .ref 83), (1, .int (Zi p)), (2, .int (Zi q))], [.ref 83])) (fun _ => rfl) ?_
  refine Z_go (f2 := (47, [(0, .ref 83), (1, .int (Zi p)), (2, .int (Zi q))], [.int (Zi 0), .ref 83])) (fun _ => rfl) ?_
  refine R_pf rfl hs rfl (by first | exact hs.zF _ | exact Zor_r _ _ | exact hs.zA _ _ | assumption | exact zA _ _ | exact zS _ | exact Zr_not (hs.zA _ _) | exact ⟨by omega, by omega⟩) ⟨rfl, rfl, rfl⟩ (fun h hs => ?_)
  refine Z_go (f2 := (51, [(0, .ref 83), (1, .int (Zi p)), (2, .int (Zi q))], [.int (Zi 0)])) (fun _ => rfl) ?_
  refine Z_go (f2 := (52, [(3, .int (Zi 0)), (0, .ref 83), (1, .int (Zi p)), (2, .int (Zi q))], [])) (fun _ => rfl) ?_
  refine B_loc (K := [(3, .int (Zi 0)), (0, .ref 83), (1, .int (Zi p)), (2, .int (Zi q))]) (N_all_sub ⟨rfl, rfl, rfl, rfl, trivial⟩) (show ([3, 0, 1, 2] : List Nat).Nodup by decide) ?_
  refine R_be_h (d := d + 1) (s := s2) p0 (by omega) q0 (by omega) op2 oq2 fv (fun u h hs en hk he => ?_) _ hs
  have op3 := R_opn_vk hk (by omega) op2
  have oq3 := R_opn_vk hk (by omega) oq2
  refine Z_go (f2 := (164, [(0, .ref 83), (1, .int (Zi p)), (2, .int (Zi q))], [.ref 83])) (fun _ => rfl) ?_
  refine Z_go (f2 := (165, [(0, .ref 83), (1, .int (Zi p)), (2, .int (Zi q))], [.int (Zi 0), .ref 83])) (fun _ => rfl) ?_
  refine R_pf rfl hs rfl (by first | exact hs.zF _ | exact Zor_r _ _ | exact hs.zA _ _ | assumption | exact zA _ _ | exact zS _ | exact Zr_not (hs.zA _ _) | exact ⟨by omega, by omega⟩) ⟨rfl, rfl, rfl⟩ (fun h hs => ?_)
  refine Z_go (f2 := (169, [(0, .ref 83), (1, .int (Zi p)), (2, .int (Zi q))], [.int (Zi 0)])) (fun _ => rfl) ?_
  refine Z_go (f2 := (170, [(3, .int (Zi 0)), (0, .ref 83), (1, .int (Zi p)), (2, .int (Zi q))], [])) (fun _ => rfl) ?_
  refine B_loc (K := [(3, .int (Zi 0)), (0, .ref 83), (1, .int (Zi p)), (2, .int (Zi q))]) (N_all_sub ⟨rfl, rfl, rfl, rfl, trivial⟩) (show ([3, 0, 1, 2] : List Nat).Nodup by decide) ?_
  refine R_be_t (d := d + 1) (s := u) p0 (by omega) q0 (by omega) op3 oq3 fw (fun u3 h hs en3 hk3 he3 => ?_) _ hs
  have op4 := R_opn_vk hk3 (by omega) op3
  have oq4 := R_opn_vk hk3 (by omega) oq3
  have eh3 : R_EN 100 u3 40 (V_bH v w) := R_EN_at (he3 100 _ (by decide) (by decide) (by decide) (by decide)) (fun j _ _ => he3 101 _ (by decide) (by decide) (by decide) (by decide)) en
  refine Z_go (f2 := (282, [(0, .ref 83), (1, .int (Zi p)), (2, .int (Zi q))], [.ref 83])) (fun _ => rfl) ?_
  refine Z_go (f2 := (283, [(0, .ref 83), (1, .int (Zi p)), (2, .int (Zi q))], [.int (Zi p), .ref 83])) (fun _ => rfl) ?_
  refine Z_go (f2 := (284, [(0, .ref 83), (1, .int (Zi p)), (2, .int (Zi q))], [.int (Zi q), .int (Zi p), .ref 83])) (fun _ => rfl) ?_
  refine Z_go (f2 := (286, [(0, .ref 83), (1, .int (Zi p)), (2, .int (Zi q))], [.int (Zi 41), .int (Zi q), .int (Zi p), .ref 83])) (fun _ => rfl) ?_
  refine R_call (As := [.int (Zi p), .int (Zi q), .int (Zi 41)]) (rest := []) rfl (by decide) rfl rfl rfl rfl (by decide +kernel) (Nat.le_of_ble_eq_true rfl) hs (R_both _ u3 (to := 41) zp zq ⟨by omega, by omega⟩ p0 (by omega) q0 (by omega) (by omega) (by omega) (by omega) (by omega) op4.2.2.2 oq4.2.2.2 hb1) (fun x h u4 hs q => ?_)
  obtain ⟨rfl, b1, b2⟩ := q
  have op5 := R_opn_vk b2.vk (by omega) op4
  have oq5 := R_opn_vk b2.vk (by omega) oq4
  show B_R _ _ (289, [(0, .ref 83), (1, .int (Zi p)), (2, .int (Zi q))], []) _ _ _
  refine Z_go (f2 := (290, [(0, .ref 83), (1, .int (Zi p)), (2, .int (Zi q))], [.ref 83])) (fun _ => rfl) ?_
  refine Z_go (f2 := (291, [(0, .ref 83), (1, .int (Zi p)), (2, .int (Zi q))], [.int (Zi p), .ref 83])) (fun _ => rfl) ?_
  refine Z_go (f2 := (292, [(0, .ref 83), (1, .int (Zi p)), (2, .int (Zi q))], [.int (Zi q), .int (Zi p), .ref 83])) (fun _ => rfl) ?_
  refine R_call (As := [.int (Zi p), .int (Zi q)]) (rest := []) rfl (by decide) rfl rfl rfl rfl (by decide +kernel) (Nat.le_of_ble_eq_true rfl) hs (R_meets _ u4 p0 (by omega) q0 (by omega) op5.2.2.1 oq5.2.1 zp zq) (fun x h u5 hs q => ?_)
  obtain ⟨rfl, m1, m2, m3⟩ := q
  show B_R _ _ (295, [(0, .ref 83), (1, .int (Zi p)), (2, .int (Zi q))], []) _ _ _
  refine Z_go (f2 := (296, [(0, .ref 83), (1, .int (Zi p)), (2, .int (Zi q))], [.ref 83])) (fun _ => rfl) ?_
  refine Z_go (f2 := (298, [(0, .ref 83), (1, .int (Zi p)), (2, .int (Zi q))], [.int (Zi 41), .ref 83])) (fun _ => rfl) ?_
  refine Z_go (f2 := (300, [(0, .ref 83), (1, .int (Zi p)), (2, .int (Zi q))], [.int (Zi 40), .int (Zi 41), .ref 83])) (fun _ => rfl) ?_
  refine Z_go (f2 := (302, [(0, .ref 83), (1, .int (Zi p)), (2, .int (Zi q))], [.int (Zi 40), .int (Zi 40), .int (Zi 41), .ref 83])) (fun _ => rfl) ?_
  refine R_call (As := [.int (Zi 41), .int (Zi 40), .int (Zi 40)]) (rest := []) rfl (by decide) rfl rfl rfl rfl (by decide +kernel) (Nat.le_of_ble_eq_true rfl) hs (R_both _ u5 (p := 41) (q := 40) (to := 40) ⟨by omega, by omega⟩ ⟨by omega, by omega⟩ ⟨by omega, by omega⟩ (by omega) (by omega) (by omega) (by omega) (by omega) (by omega) (by omega) (by omega) (R_CC_vk m2 (by omega) b1) m1 hb2) (fun x h u6 hs q => ?_)
  obtain ⟨rfl, d1, d2⟩ := q
  show B_R _ _ (305, [(0, .ref 83), (1, .int (Zi p)), (2, .int (Zi q))], []) _ _ _
  refine Z_go (f2 := (306, [(0, .ref 83), (1, .int (Zi p)), (2, .int (Zi q))], [.ref 83])) (fun _ => rfl) ?_
  refine R_gr (q := 94) rfl hs rfl ?_
  show B_R _ _ (309, [(0, .ref 83), (1, .int (Zi p)), (2, .int (Zi q))], [.ref 96]) _ _ _
  refine Z_go (f2 := (311, [(0, .ref 83), (1, .int (Zi p)), (2, .int (Zi q))], [.int (Zi 40), .ref 96])) (fun _ => rfl) ?_
  refine Z_go (f2 := (312, [(0, .ref 83), (1, .int (Zi p)), (2, .int (Zi q))], [.int (Zi 0), .int (Zi 40), .ref 96])) (fun _ => rfl) ?_
  refine R_bs (q := 12) rfl hs rfl rfl (by omega) (by omega) (by decide) (by first | exact .inl rfl | exact .inr rfl | assumption) (fun h hs => ?_)
  have hv40 : R_V (R_sA u6 96 40 0) 40 (V_beh2 v w) := by
    have aa : ∀ q j, 100 ≤ q → q ≤ 103 → (R_sA u6 96 40 0).2.1 q j = u3.2.1 q j := fun q j a b => by
      rw [R_sA_n _ _ _ _ (by omega), d2.lo b, m3 q j (by omega) b, b2.lo b]
    have ab : ∀ q j, 104 ≤ q → (R_sA u6 96 40 0).2.1 q j = u6.2.1 q j := fun q j a => R_sA_n _ _ _ _ (by omega)
    exact ⟨R_sA_s _ _ _ _, R_EN_at (aa _ _ (by decide) (by decide)) (fun j _ _ => aa _ _ (by decide) (by decide)) eh3, R_EN_at (aa _ _ (by decide) (by decide)) (fun j _ _ => aa _ _ (by decide) (by decide)) en3, R_CC_at (ab _ _ (by decide)) (fun t _ _ => ab _ _ (by decide)) (fun t _ _ i _ _ => ab _ _ (by decide)) d1⟩
  refine Z_go (f2 := (314, [(0, .ref 83), (1, .int (Zi p)), (2, .int (Zi q))], [.ref 83])) (fun _ => rfl) ?_
  refine Z_go (f2 := (316, [(0, .ref 83), (1, .int (Zi p)), (2, .int (Zi q))], [.int (Zi 40), .ref 83])) (fun _ => rfl) ?_
  refine Z_go (f2 := (317, [(0, .ref 83), (1, .int (Zi p)), (2, .int (Zi q))], [.int (Zi p), .int (Zi 40), .ref 83])) (fun _ => rfl) ?_
  refine R_call (As := [.int (Zi 40), .int (Zi p)]) (rest := []) rfl (by decide) rfl rfl rfl rfl (by decide +kernel) (Nat.le_of_ble_eq_true rfl) hs (R_copies _ (R_sA u6 96 40 0) (e := 40) (k := p) (v := V_beh2 v w) ⟨by omega, by omega⟩ zp (by omega) (by omega) p0 (by omega) (by omega) hv40) (fun x h u7 hs q => ?_)
  obtain ⟨rfl, e1, e2⟩ := q
  show B_R _ _ (320, [(0, .ref 83), (1, .int (Zi p)), (2, .int (Zi q))], []) _ _ _
  refine Z_ret rfl rfl ?_
  refine kont u7 h hs e1 (R_V_vk e2 (fun e => ne e.symm) (R_V_vk ((R_vk_0 u6 (fun e => e = 40)).st (q := 96) (i := 40) (v := 0) (by decide) (by decide) rfl) (by omega) (R_V_vk d2.vk (by omega) (R_V_vk m2 (by omega) oq5.1)))) ?_
  have I1 : ∀ e, (fun e => e = p) e → R_bK p q e := fun e h => .inl h
  have I2 : ∀ e, (fun e => e = q) e → R_bK p q e := fun e h => .inr (.inl h)
  have I3 : ∀ e, (fun e => e = (40 : Int)) e → R_bK p q e := fun e h => .inr (.inr (.inl h))
  have I4 : ∀ e, (fun e => e = (41 : Int) ∨ e = 42) e → R_bK p q e := fun e h => .inr (.inr (.inr h))
  have I5 : ∀ e, (fun e => e = (40 : Int) ∨ e = 42) e → R_bK p q e := fun e h => h.elim (fun h => .inr (.inr (.inl h))) (fun h => .inr (.inr (.inr (.inr h))))
  have I0 : ∀ e, R_bK p q e → R_bK p q e := fun _ h => h
  have g1 := ((((k1.trans k2 I1 I2).trans hk I0 I3).trans hk3 I0 I3).trans b2.vk I0 I4).trans m2 I0 I3
  have g2 := (g1.trans d2.vk I0 I5).st (q := 96) (i := 40) (v := 0) (by decide) (by decide) (I3 _ rfl)
  exact g2.trans e2 I0 I1
