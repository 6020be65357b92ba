/-! the reference: or, where texts do not fit -/
set_option maxRecDepth 4000 in
theorem R_or_170 {d : Nat} {h0 : E_H} {s : R_S} {sl : Nat} {Φ : E_R → Prop} {p q : Int} {v w : P_V} (p0 : 0 ≤ p) (p1 : p < 40) (q0 : 0 ≤ q) (q1 : q < 44) (nq : q ≠ 40) (ne : p ≠ q) (hp : R_V s p v) (hq : R_V s q w) (kont : ∀ (u : R_S) (h : E_H), R_is h0 h u → R_V u p (V_or2 v w) → R_vk s u (R_bK p q) → Φ (none, h, sl)) (h : E_H) (hs : R_is h0 h s) : B_R (d + 6) E_m245 (170, [(0, .ref 83), (1, .int (Zi p)), (2, .int (Zi q))], []) h sl Φ := by
  have zp : Zr p := ⟨by omega, by omega⟩
  have zq : Zr q := ⟨by omega, by omega⟩
  refine Z_go (f2 := (171, [(0, .ref 83), (1, .int (Zi p)), (2, .int (Zi q))], [.ref 83])) (fun _ => rfl) ?_
  refine Z_go (f2 := (172, [(0, .ref 83), (1, .int (Zi p)), (2, .int (Zi q))], [.int (Zi p), .ref 83])) (fun _ => rfl) ?_
  refine R_call (As := [.int (Zi p)]) (rest := []) rfl (by decide) rfl rfl rfl rfl (by decide +kernel) (Nat.le_of_ble_eq_true rfl) hs (R_opens _ s zp p0 (by omega) hp) (fun x h s1 hs q => ?_)
  obtain ⟨rfl, op1, k1⟩ := q
  have hq1 := R_V_vk k1 (fun e => ne e.symm) hq
  show B_R _ _ (175, [(0, .ref 83), (1, .int (Zi p)), (2, .int (Zi q))], []) _ _ _
  refine Z_go (f2 := (176, [(0, .ref 83), (1, .int (Zi p)), (2, .int (Zi q))], [.ref 83])) (fun _ => rfl) ?_
  refine Z_go (f2 := (177, [(0, .ref 83), (1, .int (Zi p)), (2, .int (Zi q))], [.int (Zi q), .ref 83])) (fun _ => rfl) ?_
  refine R_call (As := [.int (Zi q)]) (rest := []) rfl (by decide) rfl rfl rfl rfl (by decide +kernel) (Nat.le_of_ble_eq_true rfl) hs (R_opens _ s1 zq q0 (by omega) hq1) (fun x h s2 hs q => ?_)
  obtain ⟨rfl, oq2, k2⟩ := q
  have op2 := R_opn_vk k2 ne op1
  show B_R _ _ (180, [(0, .ref 83), (1, .int (Zi p)), (2, .int (Zi q))], []) _ _ _
  refine Z_go (f2 := (181, [(0, .ref 83), (1, .int (Zi p)), (2, .int (Zi q))], [.ref 83])) (fun _ => rfl) ?_
  refine Z_go (f2 := (182, [(0, .ref 83), (1, .int (Zi p)), (2, .int (Zi q))], [.int (Zi 0), .ref 83])) (fun _ => rfl) ?_
  refine R_pf rfl hs rfl (by first | exact hs.zF _ | exact Zor_r _ _ | exact hs.zA _ _ | assumption | exact zA _ _ | exact zS _ | exact Zr_not (hs.zA _ _) | exact ⟨by omega, by omega⟩) ⟨rfl, rfl, rfl⟩ (fun h hs => ?_)
  refine Z_go (f2 := (186, [(0, .ref 83), (1, .int (Zi p)), (2, .int (Zi q))], [.int (Zi 0)])) (fun _ => rfl) ?_
  refine Z_go (f2 := (187, [(3, .int (Zi 0)), (0, .ref 83), (1, .int (Zi p)), (2, .int (Zi q))], [])) (fun _ => rfl) ?_
  refine B_loc (K := [(3, .int (Zi 0)), (0, .ref 83), (1, .int (Zi p)), (2, .int (Zi q))]) (N_all_sub ⟨rfl, rfl, rfl, rfl, trivial⟩) (show ([3, 0, 1, 2] : List Nat).Nodup by decide) ?_
  have b1 := op2.2.1.1
  have b2 := op2.2.1.2.1
  refine R_or_hp (d := d + 4) (s := s2) (N0 := 0) (P0 := fun _ => False) p0 (by omega) q0 (by omega) op2.2.1 (by omega) (by omega) (fun u h hs hu => ?_) ((s2.2.1 100 p).toNat + 1) 0 _ h (by omega) hs (by rw [R_en_0, F_or_no]; exact R_shp_0 s2) (by omega) b1
  refine Z_go (f2 := (219, [(0, .ref 83), (1, .int (Zi p)), (2, .int (Zi q))], [.int (Zi 0)])) (fun _ => rfl) ?_
  refine Z_go (f2 := (220, [(3, .int (Zi 0)), (0, .ref 83), (1, .int (Zi p)), (2, .int (Zi q))], [])) (fun _ => rfl) ?_
  refine B_loc (K := [(3, .int (Zi 0)), (0, .ref 83), (1, .int (Zi p)), (2, .int (Zi q))]) (N_all_sub ⟨rfl, rfl, rfl, rfl, trivial⟩) (show ([3, 0, 1, 2] : List Nat).Nodup by decide) ?_
  refine R_or_hq (d := d + 4) (s := s2) (N0 := 0 + s2.2.1 100 p) (P0 := F_or (fun _ => False) (V_H v)) p0 (by omega) q0 (by omega) oq2.2.1 (by omega) (by omega) (fun u h hs hu => ?_) ((s2.2.1 100 q).toNat + 1) 0 u h (by omega) hs (by rw [R_en_0, F_or_no, Int.add_zero]; exact hu) (by omega) oq2.2.1.1
  rw [F_no_or] at hu
  refine Z_go (f2 := (252, [(0, .ref 83), (1, .int (Zi p)), (2, .int (Zi q))], [.ref 83])) (fun _ => rfl) ?_
  refine Z_go (f2 := (254, [(0, .ref 83), (1, .int (Zi p)), (2, .int (Zi q))], [.int (Zi 40), .ref 83])) (fun _ => rfl) ?_
  refine Z_go (f2 := (255, [(0, .ref 83), (1, .int (Zi p)), (2, .int (Zi q))], [.int (Zi 1), .int (Zi 40), .ref 83])) (fun _ => rfl) ?_
  refine R_call (As := [.int (Zi 40), .int (Zi 1)]) (rest := []) rfl (by decide) rfl rfl rfl rfl (by decide +kernel) (Nat.le_of_ble_eq_true rfl) hs (R_shortsAre _ u ⟨by omega, by omega⟩ ⟨by omega, by omega⟩ (by omega) (by omega) hu.2.2.2.2.1) (fun x h u2 hs q => ?_)
  obtain ⟨rfl, qa, qb⟩ := q
  obtain ⟨en, ek⟩ := qa (by decide)
  rw [hu.2.2.2.2.2] at en
  have hk := (hu.vk (fun e => e = (40 : Int))).trans (ek.vk (.inl rfl)) (fun _ h => h) (fun _ h => h)
  have op3 := R_opn_vk hk (by omega) op2
  have oq3 := R_opn_vk hk (by omega) oq2
  have c1 := op3.2.2.1.1
  have c2 := op3.2.2.1.2.1
  show B_R _ _ (258, [(0, .ref 83), (1, .int (Zi p)), (2, .int (Zi q))], []) _ _ _
  refine Z_go (f2 := (259, [(0, .ref 83), (1, .int (Zi p)), (2, .int (Zi q))], [.ref 83])) (fun _ => rfl) ?_
  refine Z_go (f2 := (260, [(0, .ref 83), (1, .int (Zi p)), (2, .int (Zi q))], [.int (Zi 0), .ref 83])) (fun _ => rfl) ?_
  refine R_pf rfl hs rfl (by first | exact hs.zF _ | exact Zor_r _ _ | exact hs.zA _ _ | assumption | exact zA _ _ | exact zS _ | exact Zr_not (hs.zA _ _) | exact ⟨by omega, by omega⟩) ⟨rfl, rfl, rfl⟩ (fun h hs => ?_)
  refine Z_go (f2 := (264, [(0, .ref 83), (1, .int (Zi p)), (2, .int (Zi q))], [.int (Zi 0)])) (fun _ => rfl) ?_
  refine Z_go (f2 := (265, [(3, .int (Zi 0)), (0, .ref 83), (1, .int (Zi p)), (2, .int (Zi q))], [])) (fun _ => rfl) ?_
  refine B_loc (K := [(3, .int (Zi 0)), (0, .ref 83), (1, .int (Zi p)), (2, .int (Zi q))]) (N_all_sub ⟨rfl, rfl, rfl, rfl, trivial⟩) (show ([3, 0, 1, 2] : List Nat).Nodup by decide) ?_
  refine R_or_tp (d := d + 4) (s := u2) (N0 := 0) (P0 := fun _ => False) p0 (by omega) q0 (by omega) op3.2.2.1 (by omega) (by omega) (fun u h hs hu => ?_) ((u2.2.1 102 p).toNat + 1) 0 _ h (by omega) hs (by rw [R_en_0, F_or_no]; exact R_shp_0 u2) (by omega) c1
  refine Z_go (f2 := (297, [(0, .ref 83), (1, .int (Zi p)), (2, .int (Zi q))], [.int (Zi 0)])) (fun _ => rfl) ?_
  refine Z_go (f2 := (298, [(3, .int (Zi 0)), (0, .ref 83), (1, .int (Zi p)), (2, .int (Zi q))], [])) (fun _ => rfl) ?_
  refine B_loc (K := [(3, .int (Zi 0)), (0, .ref 83), (1, .int (Zi p)), (2, .int (Zi q))]) (N_all_sub ⟨rfl, rfl, rfl, rfl, trivial⟩) (show ([3, 0, 1, 2] : List Nat).Nodup by decide) ?_
  refine R_or_tq (d := d + 4) (s := u2) (N0 := 0 + u2.2.1 102 p) (P0 := F_or (fun _ => False) (V_T v)) p0 (by omega) q0 (by omega) oq3.2.2.1 (by omega) (by omega) (fun u h hs hu => ?_) ((u2.2.1 102 q).toNat + 1) 0 u h (by omega) hs (by rw [R_en_0, F_or_no, Int.add_zero]; exact hu) (by omega) oq3.2.2.1.1
  rw [F_no_or] at hu
  refine Z_go (f2 := (330, [(0, .ref 83), (1, .int (Zi p)), (2, .int (Zi q))], [.ref 83])) (fun _ => rfl) ?_
  refine Z_go (f2 := (332, [(0, .ref 83), (1, .int (Zi p)), (2, .int (Zi q))], [.int (Zi 40), .ref 83])) (fun _ => rfl) ?_
  refine Z_go (f2 := (333, [(0, .ref 83), (1, .int (Zi p)), (2, .int (Zi q))], [.int (Zi 0), .int (Zi 40), .ref 83])) (fun _ => rfl) ?_
  refine R_call (As := [.int (Zi 40), .int (Zi 0)]) (rest := []) rfl (by decide) rfl rfl rfl rfl (by decide +kernel) (Nat.le_of_ble_eq_true rfl) hs (R_shortsAre _ u ⟨by omega, by omega⟩ ⟨by omega, by omega⟩ (by omega) (by omega) hu.2.2.2.2.1) (fun x h u3 hs q => ?_)
  obtain ⟨rfl, qa, qb⟩ := q
  obtain ⟨en3, ek3⟩ := qb rfl
  rw [hu.2.2.2.2.2] at en3
  have hk3 := (hu.vk (fun e => e = (40 : Int))).trans (ek3.vk (.inr rfl)) (fun _ h => h) (fun _ h => h)
  have op4 := R_opn_vk hk3 (by omega) op3
  have oq4 := R_opn_vk hk3 (by omega) oq3
  have he3 : ∀ q j, 96 ≤ q → q ≤ 101 → u3.2.1 q j = u2.2.1 q j := fun q j a b => (ek3.2.1 q j (by omega) (by omega) (by omega) (by omega)).trans (hu.2.1 q j (by omega))
  show B_R _ _ (336, [(0, .ref 83), (1, .int (Zi p)), (2, .int (Zi q))], []) _ _ _
  refine Z_go (f2 := (337, [(0, .ref 83), (1, .int (Zi p)), (2, .int (Zi q))], [.ref 83])) (fun _ => rfl) ?_
  refine Z_go (f2 := (338, [(0, .ref 83), (1, .int (Zi p)), (2, .int (Zi q))], [.int (Zi p), .ref 83])) (fun _ => rfl) ?_
  refine Z_go (f2 := (339, [(0, .ref 83), (1, .int (Zi p)), (2, .int (Zi q))], [.int (Zi q), .int (Zi p), .ref 83])) (fun _ => rfl) ?_
  refine Z_go (f2 := (341, [(0, .ref 83), (1, .int (Zi p)), (2, .int (Zi q))], [.int (Zi 40), .int (Zi q), .int (Zi p), .ref 83])) (fun _ => rfl) ?_
  refine R_call (As := [.int (Zi p), .int (Zi q), .int (Zi 40)]) (rest := []) rfl (by decide) rfl rfl rfl rfl (by decide +kernel) (Nat.le_of_ble_eq_true rfl) hs (R_either _ u3 (to := 40) zp zq ⟨by omega, by omega⟩ p0 (by omega) q0 (by omega) (by omega) (by omega) op4.2.2.2 oq4.2.2.2) (fun x h u6 hs q => ?_)
  obtain ⟨rfl, d1, d2⟩ := q
  show B_R _ _ (344, [(0, .ref 83), (1, .int (Zi p)), (2, .int (Zi q))], []) _ _ _
  refine Z_go (f2 := (345, [(0, .ref 83), (1, .int (Zi p)), (2, .int (Zi q))], [.ref 83])) (fun _ => rfl) ?_
  refine R_gr (q := 94) rfl hs rfl ?_
  show B_R _ _ (348, [(0, .ref 83), (1, .int (Zi p)), (2, .int (Zi q))], [.ref 96]) _ _ _
  refine Z_go (f2 := (350, [(0, .ref 83), (1, .int (Zi p)), (2, .int (Zi q))], [.int (Zi 40), .ref 96])) (fun _ => rfl) ?_
  refine Z_go (f2 := (351, [(0, .ref 83), (1, .int (Zi p)), (2, .int (Zi q))], [.int (Zi 0), .int (Zi 40), .ref 96])) (fun _ => rfl) ?_
  refine R_bs (q := 12) rfl hs rfl rfl (by omega) (by omega) (by decide) (by first | exact .inl rfl | exact .inr rfl | assumption) (fun h hs => ?_)
  have hv40 : R_V (R_sA u6 96 40 0) 40 (V_or2 v w) := by
    have aa : ∀ q j, 100 ≤ q → q ≤ 103 → (R_sA u6 96 40 0).2.1 q j = u3.2.1 q j := fun q j a b => by
      rw [R_sA_n _ _ _ _ (by omega), d2.lo b]
    have ab : ∀ q j, 104 ≤ q → (R_sA u6 96 40 0).2.1 q j = u6.2.1 q j := fun q j a => R_sA_n _ _ _ _ (by omega)
    exact ⟨R_sA_s _ _ _ _, R_EN_at ((aa _ _ (by decide) (by decide)).trans (he3 _ _ (by decide) (by decide))) (fun j _ _ => (aa _ _ (by decide) (by decide)).trans (he3 _ _ (by decide) (by decide))) en, R_EN_at (aa _ _ (by decide) (by decide)) (fun j _ _ => aa _ _ (by decide) (by decide)) en3, R_CC_at (ab _ _ (by decide)) (fun t _ _ => ab _ _ (by decide)) (fun t _ _ i _ _ => ab _ _ (by decide)) d1⟩
  refine Z_go (f2 := (353, [(0, .ref 83), (1, .int (Zi p)), (2, .int (Zi q))], [.ref 83])) (fun _ => rfl) ?_
  refine Z_go (f2 := (355, [(0, .ref 83), (1, .int (Zi p)), (2, .int (Zi q))], [.int (Zi 40), .ref 83])) (fun _ => rfl) ?_
  refine Z_go (f2 := (356, [(0, .ref 83), (1, .int (Zi p)), (2, .int (Zi q))], [.int (Zi p), .int (Zi 40), .ref 83])) (fun _ => rfl) ?_
  refine R_call (As := [.int (Zi 40), .int (Zi p)]) (rest := []) rfl (by decide) rfl rfl rfl rfl (by decide +kernel) (Nat.le_of_ble_eq_true rfl) hs (R_copies _ (R_sA u6 96 40 0) (e := 40) (k := p) (v := V_or2 v w) ⟨by omega, by omega⟩ zp (by omega) (by omega) p0 (by omega) (by omega) hv40) (fun x h u7 hs q => ?_)
  obtain ⟨rfl, e1, e2⟩ := q
  show B_R _ _ (359, [(0, .ref 83), (1, .int (Zi p)), (2, .int (Zi q))], []) _ _ _
  refine Z_ret rfl rfl ?_
  refine kont u7 h hs e1 ?_
  have I1 : ∀ e, (fun e => e = p) e → R_bK p q e := fun e h => .inl h
  have I2 : ∀ e, (fun e => e = q) e → R_bK p q e := fun e h => .inr (.inl h)
  have I3 : ∀ e, (fun e => e = (40 : Int)) e → R_bK p q e := fun e h => .inr (.inr (.inl h))
  have I0 : ∀ e, R_bK p q e → R_bK p q e := fun _ h => h
  have g1 := (((k1.trans k2 I1 I2).trans hk I0 I3).trans hk3 I0 I3).trans d2.vk I0 I3
  have g2 := g1.st (q := 96) (i := 40) (v := 0) (by decide) (by decide) (I3 _ rfl)
  exact g2.trans e2 I0 I1
