/-! the class: Machine: step -/
abbrev M_XS : Nat → Prop := fun f => f = 10 ∨ f = 11
theorem M_fr.fr {X : Nat → Prop} {o : Nat} {A : Nat → Nat} {s u : C_S} {p : List Nat} (h : M_fr X o A s u) (hm : D_M0 s p o A) : C_fr (fun t => t = p) s u := by
  obtain ⟨⟨a1, a2, a3, a4, a5, a6⟩, a7, a8⟩ := h
  refine ⟨by omega, fun j _ => ⟨by rw [a2], by rw [a3]⟩, fun j _ hx => ⟨?_, by rw [a4], a8 j (fun f _ hf e => hx (by rw [e]; exact (hm.2.2.1 f (by omega)).2.2)), by rw [a5], by rw [a6]⟩, fun j h1 h2 => by omega⟩
  funext f
  exact a7 j f (fun c => hx (by rw [c.1]; exact hm.2.1))
theorem C_stp_lp {d : Nat} {h0 : E_H} {s : C_S} {sl : Nat} {Φ : E_R → Prop} {p : List Nat} {o : Nat} {A : Nat → Nat} {κ : Nat → Int → Int} {W : Int → Int} {m e B : Int} {tb N tr : Nat} {i : Int} {p2 : List Nat} {A2 : Nat → Nat} {m2 sm : Int} {τ : Nat → Int → Int} {β : Int → Int64} (hm : D_M0 s p o A) (sw : C_wf s) (et : C_P s o 14 = some tb) (kt : C_K s tb = (1, N)) (hW : C_wb s tb N = W) (hκ : ∀ f, (f = 1 ∨ f = 2 ∨ f = 3 ∨ f = 4) → C_A s (A f) = κ f) (hok : M_kok κ m) (hset : ∀ q, 0 ≤ q → q < m → κ 1 q = 3 → -1 ≤ κ 4 q ∧ κ 4 q < 80) (hB : ∀ b j, 0 ≤ b → M_ac κ (T_has β) W N e b j → B ≤ b) (B0 : 0 ≤ B) (m1 : m ≤ 202) (N1 : N ≤ 1000) (e0 : C_P s o 0 = some tr) (ht : D_Tr s p2 tr A2 m2 sm τ β) (np : p2 ≠ p) (iv : M_IV κ (T_has β) W N m e B i o A s 0 i (-1)) (i0 : 0 ≤ i) (i1 : i ≤ N) (d0 : 0 ≤ C_F s o 13) (d1 : C_F s o 13 ≤ 202) (ret : ∀ (u : C_S) (h : E_H), C_is h0 h u → M_fr M_XS o A s u → M_sd κ (T_has β) W N m e (i + 1) (C_A u (A 10)) (C_F u o 11) → 0 ≤ C_F u o 11 → C_F u o 11 ≤ C_F s o 13 → (i = N → C_F u o 11 ≤ 0) → (i < N → (∀ k2 q, 0 ≤ k2 → k2 < C_F s o 13 → C_A s (A 12) k2 = B * 256 + q → 0 ≤ q → q < m → κ 1 q = 3 → ∀ j, M_ac κ (T_has β) W N q i j → ∃ k3, 0 ≤ k3 ∧ k3 < C_F u o 11 ∧ C_A u (A 10) k3 / 256 = B ∧ M_ac κ (T_has β) W N (C_A u (A 10) k3 % 256) (i + 1) j)) → Φ (none, h, sl)) : ∀ (t : Nat) (k : Int) (u : C_S) (h : E_H), C_F s o 13 - k < t → 0 ≤ k → k ≤ C_F s o 13 → C_is h0 h u → M_fr M_XS o A s u → M_sd κ (T_has β) W N m e (i + 1) (C_A u (A 10)) (C_F u o 11) → 0 ≤ C_F u o 11 → C_F u o 11 ≤ k → (i = N → C_F u o 11 ≤ 0) → (∀ k2 k3, 0 ≤ k2 → k2 < C_F u o 11 → k ≤ k3 → k3 < C_F s o 13 → C_A u (A 10) k2 / 256 ≤ C_A s (A 12) k3 / 256) → (∀ k2 q, 0 ≤ k2 → k2 < k → C_A s (A 12) k2 = B * 256 + q → 0 ≤ q → q < m → κ 1 q = 3 → ∀ j, M_ac κ (T_has β) W N q i j → ∃ k3, 0 ≤ k3 ∧ k3 < C_F u o 11 ∧ C_A u (A 10) k3 / 256 = B ∧ M_ac κ (T_has β) W N (C_A u (A 10) k3 % 256) (i + 1) j) → B_R (d + 2) E_m30 (16, [(3, .int (Zi k)), (0, .ref o), (1, .int (Zi i)), (2, .int (Zi (W i)))], []) h sl Φ := by
  intro t
  induction t with
  | zero => intro k u h ht2 k0 k1 hs go sd c0 c1 cn hr hc; omega
  | succ t ih =>
    intro k u h ht2 k0 k1 hs go sd c0 c1 cn hr hc
    have hmu := go.M0 hm
    have hκu : ∀ f, (f = 1 ∨ f = 2 ∨ f = 3 ∨ f = 4) → C_A u (A f) = κ f := fun f hf => by rw [go.arr hm (by omega) (by unfold M_XS; omega)]; exact hκ f hf
    have e13 : C_F u o 13 = C_F s o 13 := go.2.1 o 13 (by unfold M_XS; omega)
    have e15 : C_F u o 15 = C_F s o 15 := go.2.1 o 15 (by unfold M_XS; omega)
    have ea : C_A u (A 12) = C_A s (A 12) := go.arr hm (by omega) (by unfold M_XS; omega)
    have ok := hmu.1
    have w := hs.1
    obtain ⟨ee2, k2_, t2⟩ := hmu.2.2.1 2 (by omega)
    obtain ⟨ee4, k4_, t4⟩ := hmu.2.2.1 4 (by omega)
    obtain ⟨ee10, k10, t10⟩ := hmu.2.2.1 10 (by omega)
    obtain ⟨ee12, k12, t12⟩ := hmu.2.2.1 12 (by omega)
    have eu0 : C_P u o 0 = some tr := by rw [go.1.2.2.2.1]; exact e0
    have zk : Zr k := ⟨by omega, by omega⟩
    have zi : Zr i := ⟨by omega, by omega⟩
    have zW : -1 ≤ W i ∧ W i < 256 := by rw [← hW]; exact C_wb_zr s tb N i
    have zWi : Zr (W i) := ⟨by omega, by omega⟩
    have z15 := w.1 o 15
    rw [e15] at z15
    have z13 := w.1 o 13
    rw [e13] at z13
    have z11 := w.1 o 11
    have hs0w : C_wf s := sw
    have rets : ∀ (u : C_S) (h : E_H), C_is h0 h u → M_fr M_XS o A s u → (M_sd κ (T_has β) W N m e (i + 1) (C_A u (A 10)) (C_F u o 11) ∧ 0 ≤ C_F u o 11 ∧ C_F u o 11 ≤ C_F s o 13 ∧ (i = N → C_F u o 11 ≤ 0) ∧ (i < N → (∀ k2 q, 0 ≤ k2 → k2 < C_F s o 13 → C_A s (A 12) k2 = B * 256 + q → 0 ≤ q → q < m → κ 1 q = 3 → ∀ j, M_ac κ (T_has β) W N q i j → ∃ k3, 0 ≤ k3 ∧ k3 < C_F u o 11 ∧ C_A u (A 10) k3 / 256 = B ∧ M_ac κ (T_has β) W N (C_A u (A 10) k3 % 256) (i + 1) j))) → Φ (none, h, sl) := fun u h a b c => ret u h a b c.1 c.2.1 c.2.2.1 c.2.2.2.1 c.2.2.2.2
    refine Z_go (f2 := (17, [(3, .int (Zi k)), (0, .ref o), (1, .int (Zi i)), (2, .int (Zi (W i)))], [.int (Zi k)])) (fun _ => rfl) ?_
    refine Z_go (f2 := (18, [(3, .int (Zi k)), (0, .ref o), (1, .int (Zi i)), (2, .int (Zi (W i)))], [.ref o, .int (Zi k)])) (fun _ => rfl) ?_
    refine C_gi rfl hs ok (by decide) (Nat.le_of_ble_eq_true rfl) rfl ?_
    rw [show C_F (u) o 13 = C_F s o 13 from (by first | exact e13 | exact (if_neg (fun e => absurd e.1 (by assumption))).trans e13 | exact (if_neg (fun e => absurd e.2 (by decide))).trans e13 | exact (if_neg (fun e => absurd e.2 (by decide))).trans ((if_neg (fun e => absurd e.2 (by decide))).trans e13) | exact (if_neg (fun e => absurd e.2 (by decide))).trans ((if_neg (fun e => absurd e.2 (by decide))).trans ((if_neg (fun e => absurd e.2 (by decide))).trans e13)))]
    show B_R _ _ (21, [(3, .int (Zi k)), (0, .ref o), (1, .int (Zi i)), (2, .int (Zi (W i)))], [.int (Zi (C_F s o 13)), .int (Zi k)]) _ _ _
    refine Z_cge rfl rfl (by first | exact hs.zF _ _ | exact Zor_r _ _ | exact hs.zA _ _ | assumption | exact zA _ _ | exact zS _ | exact Zr_not (hs.zA _ _) | exact hs.1.1 _ _ | exact ⟨by omega, by omega⟩) (by first | exact hs.zF _ _ | exact Zor_r _ _ | exact hs.zA _ _ | assumption | exact zA _ _ | exact zS _ | exact Zr_not (hs.zA _ _) | exact hs.1.1 _ _ | exact ⟨by omega, by omega⟩) (fun y91 => ?_) (fun y91 => ?_)
    · refine Z_ret rfl rfl (rets _ _ hs go ?_)
      try dsimp only
      obtain rfl : k = C_F s o 13 := by omega
      exact ⟨sd, c0, by omega, cn, fun _ => hc⟩
    · refine Z_go (f2 := (25, [(3, .int (Zi k)), (0, .ref o), (1, .int (Zi i)), (2, .int (Zi (W i)))], [.int (Zi (W i))])) (fun _ => rfl) ?_
      refine Z_go (f2 := (26, [(3, .int (Zi k)), (0, .ref o), (1, .int (Zi i)), (2, .int (Zi (W i)))], [.int (Zi (-1)), .int (Zi (W i))])) (fun _ => rfl) ?_
      refine Z_ceq rfl rfl (by first | exact hs.zF _ _ | exact Zor_r _ _ | exact hs.zA _ _ | assumption | exact zA _ _ | exact zS _ | exact Zr_not (hs.zA _ _) | exact hs.1.1 _ _ | exact ⟨by omega, by omega⟩) (by first | exact hs.zF _ _ | exact Zor_r _ _ | exact hs.zA _ _ | assumption | exact zA _ _ | exact zS _ | exact Zr_not (hs.zA _ _) | exact hs.1.1 _ _ | exact ⟨by omega, by omega⟩) (fun y92 => ?_) (fun y92 => ?_)
      · refine Z_ret rfl rfl (rets _ _ hs go ?_)
        try dsimp only
        have hN : ¬ i < N := fun c => by
          have : W i = C_A s tb i % 256 := by rw [← hW]; exact if_pos ⟨i0, c⟩
          omega
        exact ⟨sd, c0, by omega, cn, fun c => absurd c hN⟩
      · obtain ⟨b2, q2, ew, w2, w3, w4, w5, w6, w7⟩ := iv.2.1 k k0 (by omega)
        have w8 := hset q2 w4 w5 w6
        have w9 : 0 ≤ κ 2 q2 ∧ κ 2 q2 < m := by have := hok q2 w4 w5; omega
        refine Z_go (f2 := (30, [(3, .int (Zi k)), (0, .ref o), (1, .int (Zi i)), (2, .int (Zi (W i)))], [.ref o])) (fun _ => rfl) ?_
        refine C_gr rfl hs ok (by decide) (Nat.le_of_ble_eq_true rfl) rfl ee12 ?_
        refine Z_go (f2 := (34, [(3, .int (Zi k)), (0, .ref o), (1, .int (Zi i)), (2, .int (Zi (W i)))], [.int (Zi k), .ref (A 12)])) (fun _ => rfl) ?_
        refine C_callSR (vs := [.ref (A 12), .int (Zi k)]) (rest := []) rfl (by decide) rfl rfl rfl (Nat.le_of_ble_eq_true rfl) hs (C_pick _ (k12) (i := k) ⟨by omega, by omega⟩) (fun x q => ?_)
        obtain rfl := q
        rw [if_pos (by omega), ea, ew]
        show B_R _ _ (37, [(3, .int (Zi k)), (0, .ref o), (1, .int (Zi i)), (2, .int (Zi (W i)))], [.int (Zi (b2 * 256 + q2))]) _ _ _
        refine Z_go (f2 := (39, [(4, .int (Zi (b2 * 256 + q2))), (3, .int (Zi k)), (0, .ref o), (1, .int (Zi i)), (2, .int (Zi (W i)))], [])) (fun _ => rfl) ?_
        refine Z_go (f2 := (41, [(4, .int (Zi (b2 * 256 + q2))), (3, .int (Zi k)), (0, .ref o), (1, .int (Zi i)), (2, .int (Zi (W i)))], [.int (Zi (b2 * 256 + q2))])) (fun _ => rfl) ?_
        refine Z_go (f2 := (44, [(4, .int (Zi (b2 * 256 + q2))), (3, .int (Zi k)), (0, .ref o), (1, .int (Zi i)), (2, .int (Zi (W i)))], [.int (Zi 255), .int (Zi (b2 * 256 + q2))])) (fun _ => rfl) ?_
        refine Z_and255 rfl ?_
        rw [show (b2 * 256 + q2) % 256 = q2 by omega]
        refine Z_go (f2 := (47, [(5, .int (Zi q2)), (4, .int (Zi (b2 * 256 + q2))), (3, .int (Zi k)), (0, .ref o), (1, .int (Zi i)), (2, .int (Zi (W i)))], [])) (fun _ => rfl) ?_
        refine Z_go (f2 := (49, [(5, .int (Zi q2)), (4, .int (Zi (b2 * 256 + q2))), (3, .int (Zi k)), (0, .ref o), (1, .int (Zi i)), (2, .int (Zi (W i)))], [.int (Zi (b2 * 256 + q2))])) (fun _ => rfl) ?_
        refine Z_go (f2 := (51, [(5, .int (Zi q2)), (4, .int (Zi (b2 * 256 + q2))), (3, .int (Zi k)), (0, .ref o), (1, .int (Zi i)), (2, .int (Zi (W i)))], [.int (Zi 8), .int (Zi (b2 * 256 + q2))])) (fun _ => rfl) ?_
        refine Z_ishr rfl ⟨by omega, by omega⟩ (by omega) (by omega) (p := 256) (by rfl) ?_
        rw [show (b2 * 256 + q2) / 256 = b2 by omega]
        refine Z_go (f2 := (54, [(6, .int (Zi b2)), (5, .int (Zi q2)), (4, .int (Zi (b2 * 256 + q2))), (3, .int (Zi k)), (0, .ref o), (1, .int (Zi i)), (2, .int (Zi (W i)))], [])) (fun _ => rfl) ?_
        refine Z_go (f2 := (55, [(6, .int (Zi b2)), (5, .int (Zi q2)), (4, .int (Zi (b2 * 256 + q2))), (3, .int (Zi k)), (0, .ref o), (1, .int (Zi i)), (2, .int (Zi (W i)))], [.ref o])) (fun _ => rfl) ?_
        refine C_gi rfl hs ok (by decide) (Nat.le_of_ble_eq_true rfl) rfl ?_
        rw [show C_F (u) o 15 = C_F s o 15 from (by first | exact e15 | exact (if_neg (fun e => absurd e.1 (by assumption))).trans e15 | exact (if_neg (fun e => absurd e.2 (by decide))).trans e15 | exact (if_neg (fun e => absurd e.2 (by decide))).trans ((if_neg (fun e => absurd e.2 (by decide))).trans e15) | exact (if_neg (fun e => absurd e.2 (by decide))).trans ((if_neg (fun e => absurd e.2 (by decide))).trans ((if_neg (fun e => absurd e.2 (by decide))).trans e15)))]
        show B_R _ _ (58, [(6, .int (Zi b2)), (5, .int (Zi q2)), (4, .int (Zi (b2 * 256 + q2))), (3, .int (Zi k)), (0, .ref o), (1, .int (Zi i)), (2, .int (Zi (W i)))], [.int (Zi (C_F s o 15))]) _ _ _
        refine Z_go (f2 := (59, [(6, .int (Zi b2)), (5, .int (Zi q2)), (4, .int (Zi (b2 * 256 + q2))), (3, .int (Zi k)), (0, .ref o), (1, .int (Zi i)), (2, .int (Zi (W i)))], [.int (Zi (-1)), .int (Zi (C_F s o 15))])) (fun _ => rfl) ?_
        refine Z_ceq rfl rfl (by first | exact hs.zF _ _ | exact Zor_r _ _ | exact hs.zA _ _ | assumption | exact zA _ _ | exact zS _ | exact Zr_not (hs.zA _ _) | exact hs.1.1 _ _ | exact ⟨by omega, by omega⟩) (by first | exact hs.zF _ _ | exact Zor_r _ _ | exact hs.zA _ _ | assumption | exact zA _ _ | exact zS _ | exact Zr_not (hs.zA _ _) | exact hs.1.1 _ _ | exact ⟨by omega, by omega⟩) (fun y93 => ?_) (fun y93 => ?_)
        · refine Z_go (f2 := (72, [(6, .int (Zi b2)), (5, .int (Zi q2)), (4, .int (Zi (b2 * 256 + q2))), (3, .int (Zi k)), (0, .ref o), (1, .int (Zi i)), (2, .int (Zi (W i)))], [.ref o])) (fun _ => rfl) ?_
          refine C_gr rfl hs ok (by decide) (Nat.le_of_ble_eq_true rfl) rfl eu0 ?_
          refine Z_go (f2 := (76, [(6, .int (Zi b2)), (5, .int (Zi q2)), (4, .int (Zi (b2 * 256 + q2))), (3, .int (Zi k)), (0, .ref o), (1, .int (Zi i)), (2, .int (Zi (W i)))], [.ref o, .ref tr])) (fun _ => rfl) ?_
          refine C_gr rfl hs ok (by decide) (Nat.le_of_ble_eq_true rfl) rfl ee4 ?_
          refine Z_go (f2 := (81, [(6, .int (Zi b2)), (5, .int (Zi q2)), (4, .int (Zi (b2 * 256 + q2))), (3, .int (Zi k)), (0, .ref o), (1, .int (Zi i)), (2, .int (Zi (W i)))], [.int (Zi q2), .ref (A 4), .ref tr])) (fun _ => rfl) ?_
          refine C_callSR (vs := [.ref (A 4), .int (Zi q2)]) (rest := [.ref tr]) rfl (by decide) rfl rfl rfl (Nat.le_of_ble_eq_true rfl) hs (C_pick _ (k4_) (i := q2) ⟨by omega, by omega⟩) (fun x q => ?_)
          obtain rfl := q
          rw [if_pos (by omega), congrFun (hκu 4 (by omega)) q2]
          have zz4 : Zr (κ 4 q2) := by rw [← congrFun (hκu 4 (by omega)) q2]; exact w.2.1 _ _
          show B_R _ _ (84, [(6, .int (Zi b2)), (5, .int (Zi q2)), (4, .int (Zi (b2 * 256 + q2))), (3, .int (Zi k)), (0, .ref o), (1, .int (Zi i)), (2, .int (Zi (W i)))], [.int (Zi (κ 4 q2)), .ref tr]) _ _ _
          refine Z_go (f2 := (85, [(6, .int (Zi b2)), (5, .int (Zi q2)), (4, .int (Zi (b2 * 256 + q2))), (3, .int (Zi k)), (0, .ref o), (1, .int (Zi i)), (2, .int (Zi (W i)))], [.int (Zi (W i)), .int (Zi (κ 4 q2)), .ref tr])) (fun _ => rfl) ?_
          refine C_callVR (As := [.int (Zi (κ 4 q2)), .int (Zi (W i))]) (rest := []) rfl (by decide) rfl (by decide) rfl rfl (by decide +kernel) (Nat.le_of_ble_eq_true rfl) hs (ht.fr hs0w (go.fr hm) np).1.1 (C_cont _ (ht.fr hs0w (go.fr hm) np) (c := κ 4 q2) (k := W i) zWi (by omega) (by omega)) (fun x q => ?_)
          obtain ⟨zc, rfl, hzc⟩ := q
          have zzc : Zr zc := by rcases hzc with ⟨e, _⟩ | ⟨e, _⟩ <;> exact ⟨by omega, by omega⟩
          show B_R _ _ (88, [(6, .int (Zi b2)), (5, .int (Zi q2)), (4, .int (Zi (b2 * 256 + q2))), (3, .int (Zi k)), (0, .ref o), (1, .int (Zi i)), (2, .int (Zi (W i)))], [.int (Zi zc)]) _ _ _
          refine Z_ieq rfl rfl (by first | exact hs.zF _ _ | exact Zor_r _ _ | exact hs.zA _ _ | assumption | exact zA _ _ | exact zS _ | exact Zr_not (hs.zA _ _) | exact hs.1.1 _ _ | exact ⟨by omega, by omega⟩) (fun y94 => ?_) (fun y94 => ?_)
          · refine Z_iinc (L2 := [(3, .int (Zi (k + 1))), (6, .int (Zi b2)), (5, .int (Zi q2)), (4, .int (Zi (b2 * 256 + q2))), (0, .ref o), (1, .int (Zi i)), (2, .int (Zi (W i)))]) rfl rfl (by decide) rfl ?_
            refine Z_go (f2 := (16, [(3, .int (Zi (k + 1))), (6, .int (Zi b2)), (5, .int (Zi q2)), (4, .int (Zi (b2 * 256 + q2))), (0, .ref o), (1, .int (Zi i)), (2, .int (Zi (W i)))], [])) (fun _ => rfl) ?_
            refine B_loc (K := [(3, .int (Zi (k + 1))), (0, .ref o), (1, .int (Zi i)), (2, .int (Zi (W i)))]) (N_all_sub ⟨rfl, rfl, rfl, rfl, trivial⟩) (show ([3, 0, 1, 2] : List Nat).Nodup by decide) ?_
            have hz : ¬ T_has β (κ 4 q2) (W i) := by rcases hzc with ⟨e, _⟩ | ⟨_, e⟩; omega; exact e
            refine ih _ u _ (by omega) (by omega) (by omega) hs go sd c0 (by omega) cn (fun k2 k3 g0 g1 g2 g3 => hr k2 k3 g0 g1 (by omega) g3) (fun k2 q g0 g1 g2 g3 g4 g5 j hj => ?_)
            by_cases c : k2 = k
            · rw [c, ew] at g2
              obtain rfl : q = q2 := by omega
              exact absurd (M_ac.k3i g5 hj).2.1 hz
            · exact hc k2 q g0 (by omega) g2 g3 g4 g5 j hj
          · refine Z_go (f2 := (92, [(6, .int (Zi b2)), (5, .int (Zi q2)), (4, .int (Zi (b2 * 256 + q2))), (3, .int (Zi k)), (0, .ref o), (1, .int (Zi i)), (2, .int (Zi (W i)))], [.ref o])) (fun _ => rfl) ?_
            refine C_gr rfl hs ok (by decide) (Nat.le_of_ble_eq_true rfl) rfl ee10 ?_
            refine Z_go (f2 := (96, [(6, .int (Zi b2)), (5, .int (Zi q2)), (4, .int (Zi (b2 * 256 + q2))), (3, .int (Zi k)), (0, .ref o), (1, .int (Zi i)), (2, .int (Zi (W i)))], [.ref o, .ref (A 10)])) (fun _ => rfl) ?_
            refine C_gi rfl hs ok (by decide) (Nat.le_of_ble_eq_true rfl) rfl ?_
            show B_R _ _ (99, [(6, .int (Zi b2)), (5, .int (Zi q2)), (4, .int (Zi (b2 * 256 + q2))), (3, .int (Zi k)), (0, .ref o), (1, .int (Zi i)), (2, .int (Zi (W i)))], [.int (Zi (C_F u o 11)), .ref (A 10)]) _ _ _
            refine Z_go (f2 := (101, [(6, .int (Zi b2)), (5, .int (Zi q2)), (4, .int (Zi (b2 * 256 + q2))), (3, .int (Zi k)), (0, .ref o), (1, .int (Zi i)), (2, .int (Zi (W i)))], [.int (Zi b2), .int (Zi (C_F u o 11)), .ref (A 10)])) (fun _ => rfl) ?_
            refine Z_go (f2 := (103, [(6, .int (Zi b2)), (5, .int (Zi q2)), (4, .int (Zi (b2 * 256 + q2))), (3, .int (Zi k)), (0, .ref o), (1, .int (Zi i)), (2, .int (Zi (W i)))], [.int (Zi 8), .int (Zi b2), .int (Zi (C_F u o 11)), .ref (A 10)])) (fun _ => rfl) ?_
            refine Z_ishl rfl (by omega) (by omega) (p := 256) (by rfl) ?_
            refine Z_go (f2 := (105, [(6, .int (Zi b2)), (5, .int (Zi q2)), (4, .int (Zi (b2 * 256 + q2))), (3, .int (Zi k)), (0, .ref o), (1, .int (Zi i)), (2, .int (Zi (W i)))], [.ref o, .int (Zi (b2 * 256)), .int (Zi (C_F u o 11)), .ref (A 10)])) (fun _ => rfl) ?_
            refine C_gr rfl hs ok (by decide) (Nat.le_of_ble_eq_true rfl) rfl ee2 ?_
            refine Z_go (f2 := (110, [(6, .int (Zi b2)), (5, .int (Zi q2)), (4, .int (Zi (b2 * 256 + q2))), (3, .int (Zi k)), (0, .ref o), (1, .int (Zi i)), (2, .int (Zi (W i)))], [.int (Zi q2), .ref (A 2), .int (Zi (b2 * 256)), .int (Zi (C_F u o 11)), .ref (A 10)])) (fun _ => rfl) ?_
            refine C_callSR (vs := [.ref (A 2), .int (Zi q2)]) (rest := [.int (Zi (b2 * 256)), .int (Zi (C_F u o 11)), .ref (A 10)]) rfl (by decide) rfl rfl rfl (Nat.le_of_ble_eq_true rfl) hs (C_pick _ (k2_) (i := q2) ⟨by omega, by omega⟩) (fun x q => ?_)
            obtain rfl := q
            rw [if_pos (by omega), congrFun (hκu 2 (by omega)) q2]
            have zz2 : Zr (κ 2 q2) := by rw [← congrFun (hκu 2 (by omega)) q2]; exact w.2.1 _ _
            show B_R _ _ (113, [(6, .int (Zi b2)), (5, .int (Zi q2)), (4, .int (Zi (b2 * 256 + q2))), (3, .int (Zi k)), (0, .ref o), (1, .int (Zi i)), (2, .int (Zi (W i)))], [.int (Zi (κ 2 q2)), .int (Zi (b2 * 256)), .int (Zi (C_F u o 11)), .ref (A 10)]) _ _ _
            refine Z_go (f2 := (114, [(6, .int (Zi b2)), (5, .int (Zi q2)), (4, .int (Zi (b2 * 256 + q2))), (3, .int (Zi k)), (0, .ref o), (1, .int (Zi i)), (2, .int (Zi (W i)))], [.int (Zi (b2 * 256) ||| Zi (κ 2 q2)), .int (Zi (C_F u o 11)), .ref (A 10)])) (fun _ => rfl) ?_
            rw [show Zi (b2 * 256) ||| Zi (κ 2 q2) = Zi (b2 * 256 + κ 2 q2) from Zor_add (k := 8) (a := b2) (by omega) w2 (by omega) w9.1 (by omega) (by omega)]
            refine C_callS (vs := [.ref (A 10), .int (Zi (C_F u o 11)), .int (Zi (b2 * 256 + κ 2 q2))]) (rest := []) rfl (by decide) rfl rfl rfl (Nat.le_of_ble_eq_true rfl) hs (C_store _ (k10) (i := C_F u o 11) (v := b2 * 256 + κ 2 q2) z11 ⟨by omega, by omega⟩) (fun x h w1 n1 hs q => ?_)
            obtain ⟨rfl, rfl, rfl⟩ := q
            rw [if_pos (by omega)] at hs
            show B_R _ _ (117, [(6, .int (Zi b2)), (5, .int (Zi q2)), (4, .int (Zi (b2 * 256 + q2))), (3, .int (Zi k)), (0, .ref o), (1, .int (Zi i)), (2, .int (Zi (W i)))], []) _ _ _
            refine Z_go (f2 := (118, [(6, .int (Zi b2)), (5, .int (Zi q2)), (4, .int (Zi (b2 * 256 + q2))), (3, .int (Zi k)), (0, .ref o), (1, .int (Zi i)), (2, .int (Zi (W i)))], [.ref o])) (fun _ => rfl) ?_
            refine Z_go (f2 := (119, [(6, .int (Zi b2)), (5, .int (Zi q2)), (4, .int (Zi (b2 * 256 + q2))), (3, .int (Zi k)), (0, .ref o), (1, .int (Zi i)), (2, .int (Zi (W i)))], [.ref o, .ref o])) (fun _ => rfl) ?_
            refine C_gi rfl hs ok (by decide) (Nat.le_of_ble_eq_true rfl) rfl ?_
            rw [show C_F (C_sA u (A 10) (C_F u o 11) (b2 * 256 + κ 2 q2)) o 11 = C_F u o 11 from (by first | rfl | (simp only [C_F, C_P, C_A, C_L, C_Q, C_K, C_T, C_n, C_sF, C_sP, C_sA, C_sL, C_sQ, C_sAf, C_sQf]; simp [*]; done) | (simp only [C_F, C_P, C_A, C_L, C_Q, C_K, C_T, C_n, C_sF, C_sP, C_sA, C_sL, C_sQ, C_sAf, C_sQf]; simp; omega))]; show B_R _ _ (122, [(6, .int (Zi b2)), (5, .int (Zi q2)), (4, .int (Zi (b2 * 256 + q2))), (3, .int (Zi k)), (0, .ref o), (1, .int (Zi i)), (2, .int (Zi (W i)))], [.int (Zi (C_F u o 11)), .ref o]) _ _ _
            refine Z_go (f2 := (123, [(6, .int (Zi b2)), (5, .int (Zi q2)), (4, .int (Zi (b2 * 256 + q2))), (3, .int (Zi k)), (0, .ref o), (1, .int (Zi i)), (2, .int (Zi (W i)))], [.int (Zi 1), .int (Zi (C_F u o 11)), .ref o])) (fun _ => rfl) ?_
            refine Z_iadd rfl ?_
            refine C_pi rfl hs ok (by decide) (Nat.le_of_ble_eq_true rfl) (.inl rfl) rfl rfl rfl (by first | exact hs.zF _ _ | exact Zor_r _ _ | exact hs.zA _ _ | assumption | exact zA _ _ | exact zS _ | exact Zr_not (hs.zA _ _) | exact hs.1.1 _ _ | exact ⟨by omega, by omega⟩) (fun h hs => ?_)
            refine Z_iinc (L2 := [(3, .int (Zi (k + 1))), (6, .int (Zi b2)), (5, .int (Zi q2)), (4, .int (Zi (b2 * 256 + q2))), (0, .ref o), (1, .int (Zi i)), (2, .int (Zi (W i)))]) rfl rfl (by decide) rfl ?_
            refine Z_go (f2 := (16, [(3, .int (Zi (k + 1))), (6, .int (Zi b2)), (5, .int (Zi q2)), (4, .int (Zi (b2 * 256 + q2))), (0, .ref o), (1, .int (Zi i)), (2, .int (Zi (W i)))], [])) (fun _ => rfl) ?_
            refine B_loc (K := [(3, .int (Zi (k + 1))), (0, .ref o), (1, .int (Zi i)), (2, .int (Zi (W i)))]) (N_all_sub ⟨rfl, rfl, rfl, rfl, trivial⟩) (show ([3, 0, 1, 2] : List Nat).Nodup by decide) ?_
            have hz : T_has β (κ 4 q2) (W i) := by rcases hzc with ⟨_, e⟩ | ⟨e, _⟩; exact e; omega
            have n10 : C_A (C_sF (C_sA u (A 10) (C_F u o 11) (b2 * 256 + κ 2 q2)) o 11 (C_F u o 11 + 1)) (A 10) = M_up (C_A u (A 10)) (C_F u o 11) (b2 * 256 + κ 2 q2) := by
              funext j
              show (if A 10 = A 10 ∧ j = C_F u o 11 then b2 * 256 + κ 2 q2 else C_A u (A 10) j) = if j = C_F u o 11 then b2 * 256 + κ 2 q2 else C_A u (A 10) j
              by_cases d : j = C_F u o 11
              · rw [if_pos ⟨rfl, d⟩, if_pos d]
              · rw [if_neg (fun e => d e.2), if_neg d]
            have n11 : C_F (C_sF (C_sA u (A 10) (C_F u o 11) (b2 * 256 + κ 2 q2)) o 11 (C_F u o 11 + 1)) o 11 = C_F u o 11 + 1 := if_pos ⟨rfl, rfl⟩
            have iN : i < N := by
              by_cases c : i < N
              · exact c
              · exfalso
                have : W i = -1 := by rw [← hW]; exact if_neg (by omega)
                omega
            have hup : ∀ k2, k2 < C_F u o 11 → M_up (C_A u (A 10)) (C_F u o 11) (b2 * 256 + κ 2 q2) k2 = C_A u (A 10) k2 := fun k2 g => if_neg (by omega)
            have hue : M_up (C_A u (A 10)) (C_F u o 11) (b2 * 256 + κ 2 q2) (C_F u o 11) = b2 * 256 + κ 2 q2 := if_pos rfl
            refine ih _ _ _ (by omega) (by omega) (by omega) hs ((go.sA (f := 10) (by unfold M_XS; omega) (by omega) _ _).sF (f := 11) (by unfold M_XS; omega) _) ?_ (by omega) (by omega) (fun c => by omega) ?_ ?_
            · rw [n10, n11]
              refine ⟨fun k2 g0 g1 => ?_, fun k2 k3 g0 g1 g2 => ?_⟩
              · by_cases d : k2 = C_F u o 11
                · rw [d, hue]
                  rw [show (b2 * 256 + κ 2 q2) / 256 = b2 by omega, show (b2 * 256 + κ 2 q2) % 256 = κ 2 q2 by omega]
                  exact ⟨w2, by omega, by omega, fun j hj => w7 j (M_ac.k3 w6 iN hz hj)⟩
                · rw [hup k2 (by omega)]
                  exact sd.1 k2 g0 (by omega)
              · by_cases d : k3 = C_F u o 11
                · rw [d, hue]
                  by_cases d2 : k2 = C_F u o 11
                  · rw [d2, hue]; omega
                  · rw [hup k2 (by omega), show (b2 * 256 + κ 2 q2) / 256 = b2 by omega]
                    have := hr k2 k g0 (by omega) (by omega) (by omega)
                    rw [ew] at this
                    omega
                · rw [hup k2 (by omega), hup k3 (by omega)]
                  exact sd.2 k2 k3 g0 g1 (by omega)
            · intro k2 k3 g0 g1 g2 g3
              rw [n11] at g1
              rw [n10]
              by_cases d : k2 = C_F u o 11
              · rw [d, hue]
                have := iv.2.2.1 k k3 k0 (by omega) g3
                rw [ew] at this
                omega
              · rw [hup k2 (by omega)]
                exact hr k2 k3 g0 (by omega) (by omega) g3
            · intro k2 q g0 g1 g2 g3 g4 g5 j hj
              rw [n10, n11]
              by_cases c : k2 = k
              · rw [c, ew] at g2
                obtain rfl : q = q2 := by omega
                obtain rfl : b2 = B := by omega
                refine ⟨C_F u o 11, by omega, by omega, ?_, ?_⟩
                · rw [hue]; omega
                · rw [hue, show (b2 * 256 + κ 2 q) % 256 = κ 2 q by omega]
                  exact (M_ac.k3i g5 hj).2.2
              · obtain ⟨k3, f0, f1, f2, f3⟩ := hc k2 q g0 (by omega) g2 g3 g4 g5 j hj
                exact ⟨k3, f0, by omega, by rw [hup k3 f1]; exact f2, by rw [hup k3 f1]; exact f3⟩
        · refine Z_go (f2 := (64, [(6, .int (Zi b2)), (5, .int (Zi q2)), (4, .int (Zi (b2 * 256 + q2))), (3, .int (Zi k)), (0, .ref o), (1, .int (Zi i)), (2, .int (Zi (W i)))], [.int (Zi b2)])) (fun _ => rfl) ?_
          refine Z_go (f2 := (65, [(6, .int (Zi b2)), (5, .int (Zi q2)), (4, .int (Zi (b2 * 256 + q2))), (3, .int (Zi k)), (0, .ref o), (1, .int (Zi i)), (2, .int (Zi (W i)))], [.ref o, .int (Zi b2)])) (fun _ => rfl) ?_
          refine C_gi rfl hs ok (by decide) (Nat.le_of_ble_eq_true rfl) rfl ?_
          rw [show C_F (u) o 15 = C_F s o 15 from (by first | exact e15 | exact (if_neg (fun e => absurd e.1 (by assumption))).trans e15 | exact (if_neg (fun e => absurd e.2 (by decide))).trans e15 | exact (if_neg (fun e => absurd e.2 (by decide))).trans ((if_neg (fun e => absurd e.2 (by decide))).trans e15) | exact (if_neg (fun e => absurd e.2 (by decide))).trans ((if_neg (fun e => absurd e.2 (by decide))).trans ((if_neg (fun e => absurd e.2 (by decide))).trans e15)))]
          show B_R _ _ (68, [(6, .int (Zi b2)), (5, .int (Zi q2)), (4, .int (Zi (b2 * 256 + q2))), (3, .int (Zi k)), (0, .ref o), (1, .int (Zi i)), (2, .int (Zi (W i)))], [.int (Zi (C_F s o 15)), .int (Zi b2)]) _ _ _
          refine Z_cgt rfl rfl (by first | exact hs.zF _ _ | exact Zor_r _ _ | exact hs.zA _ _ | assumption | exact zA _ _ | exact zS _ | exact Zr_not (hs.zA _ _) | exact hs.1.1 _ _ | exact ⟨by omega, by omega⟩) (by first | exact hs.zF _ _ | exact Zor_r _ _ | exact hs.zA _ _ | assumption | exact zA _ _ | exact zS _ | exact Zr_not (hs.zA _ _) | exact hs.1.1 _ _ | exact ⟨by omega, by omega⟩) (fun y95 => ?_) (fun y95 => ?_)
          · refine Z_iinc (L2 := [(3, .int (Zi (k + 1))), (6, .int (Zi b2)), (5, .int (Zi q2)), (4, .int (Zi (b2 * 256 + q2))), (0, .ref o), (1, .int (Zi i)), (2, .int (Zi (W i)))]) rfl rfl (by decide) rfl ?_
            refine Z_go (f2 := (16, [(3, .int (Zi (k + 1))), (6, .int (Zi b2)), (5, .int (Zi q2)), (4, .int (Zi (b2 * 256 + q2))), (0, .ref o), (1, .int (Zi i)), (2, .int (Zi (W i)))], [])) (fun _ => rfl) ?_
            refine B_loc (K := [(3, .int (Zi (k + 1))), (0, .ref o), (1, .int (Zi i)), (2, .int (Zi (W i)))]) (N_all_sub ⟨rfl, rfl, rfl, rfl, trivial⟩) (show ([3, 0, 1, 2] : List Nat).Nodup by decide) ?_
            refine ih _ u _ (by omega) (by omega) (by omega) hs go sd c0 (by omega) cn (fun k2 k3 g0 g1 g2 g3 => hr k2 k3 g0 g1 (by omega) g3) (fun k2 q g0 g1 g2 g3 g4 g5 j hj => ?_)
            by_cases c : k2 = k
            · exfalso
              rw [c, ew] at g2
              rcases iv.2.2.2.1 with x | ⟨x1, x2, x3, x4⟩
              · omega
              · have := hB _ _ x1 x4
                omega
            · exact hc k2 q g0 (by omega) g2 g3 g4 g5 j hj
          · refine Z_go (f2 := (72, [(6, .int (Zi b2)), (5, .int (Zi q2)), (4, .int (Zi (b2 * 256 + q2))), (3, .int (Zi k)), (0, .ref o), (1, .int (Zi i)), (2, .int (Zi (W i)))], [.ref o])) (fun _ => rfl) ?_
            refine C_gr rfl hs ok (by decide) (Nat.le_of_ble_eq_true rfl) rfl eu0 ?_
            refine Z_go (f2 := (76, [(6, .int (Zi b2)), (5, .int (Zi q2)), (4, .int (Zi (b2 * 256 + q2))), (3, .int (Zi k)), (0, .ref o), (1, .int (Zi i)), (2, .int (Zi (W i)))], [.ref o, .ref tr])) (fun _ => rfl) ?_
            refine C_gr rfl hs ok (by decide) (Nat.le_of_ble_eq_true rfl) rfl ee4 ?_
            refine Z_go (f2 := (81, [(6, .int (Zi b2)), (5, .int (Zi q2)), (4, .int (Zi (b2 * 256 + q2))), (3, .int (Zi k)), (0, .ref o), (1, .int (Zi i)), (2, .int (Zi (W i)))], [.int (Zi q2), .ref (A 4), .ref tr])) (fun _ => rfl) ?_
            refine C_callSR (vs := [.ref (A 4), .int (Zi q2)]) (rest := [.ref tr]) rfl (by decide) rfl rfl rfl (Nat.le_of_ble_eq_true rfl) hs (C_pick _ (k4_) (i := q2) ⟨by omega, by omega⟩) (fun x q => ?_)
            obtain rfl := q
            rw [if_pos (by omega), congrFun (hκu 4 (by omega)) q2]
            have zz4 : Zr (κ 4 q2) := by rw [← congrFun (hκu 4 (by omega)) q2]; exact w.2.1 _ _
            show B_R _ _ (84, [(6, .int (Zi b2)), (5, .int (Zi q2)), (4, .int (Zi (b2 * 256 + q2))), (3, .int (Zi k)), (0, .ref o), (1, .int (Zi i)), (2, .int (Zi (W i)))], [.int (Zi (κ 4 q2)), .ref tr]) _ _ _
            refine Z_go (f2 := (85, [(6, .int (Zi b2)), (5, .int (Zi q2)), (4, .int (Zi (b2 * 256 + q2))), (3, .int (Zi k)), (0, .ref o), (1, .int (Zi i)), (2, .int (Zi (W i)))], [.int (Zi (W i)), .int (Zi (κ 4 q2)), .ref tr])) (fun _ => rfl) ?_
            refine C_callVR (As := [.int (Zi (κ 4 q2)), .int (Zi (W i))]) (rest := []) rfl (by decide) rfl (by decide) rfl rfl (by decide +kernel) (Nat.le_of_ble_eq_true rfl) hs (ht.fr hs0w (go.fr hm) np).1.1 (C_cont _ (ht.fr hs0w (go.fr hm) np) (c := κ 4 q2) (k := W i) zWi (by omega) (by omega)) (fun x q => ?_)
            obtain ⟨zc, rfl, hzc⟩ := q
            have zzc : Zr zc := by rcases hzc with ⟨e, _⟩ | ⟨e, _⟩ <;> exact ⟨by omega, by omega⟩
            show B_R _ _ (88, [(6, .int (Zi b2)), (5, .int (Zi q2)), (4, .int (Zi (b2 * 256 + q2))), (3, .int (Zi k)), (0, .ref o), (1, .int (Zi i)), (2, .int (Zi (W i)))], [.int (Zi zc)]) _ _ _
            refine Z_ieq rfl rfl (by first | exact hs.zF _ _ | exact Zor_r _ _ | exact hs.zA _ _ | assumption | exact zA _ _ | exact zS _ | exact Zr_not (hs.zA _ _) | exact hs.1.1 _ _ | exact ⟨by omega, by omega⟩) (fun y96 => ?_) (fun y96 => ?_)
            · refine Z_iinc (L2 := [(3, .int (Zi (k + 1))), (6, .int (Zi b2)), (5, .int (Zi q2)), (4, .int (Zi (b2 * 256 + q2))), (0, .ref o), (1, .int (Zi i)), (2, .int (Zi (W i)))]) rfl rfl (by decide) rfl ?_
              refine Z_go (f2 := (16, [(3, .int (Zi (k + 1))), (6, .int (Zi b2)), (5, .int (Zi q2)), (4, .int (Zi (b2 * 256 + q2))), (0, .ref o), (1, .int (Zi i)), (2, .int (Zi (W i)))], [])) (fun _ => rfl) ?_
              refine B_loc (K := [(3, .int (Zi (k + 1))), (0, .ref o), (1, .int (Zi i)), (2, .int (Zi (W i)))]) (N_all_sub ⟨rfl, rfl, rfl, rfl, trivial⟩) (show ([3, 0, 1, 2] : List Nat).Nodup by decide) ?_
              have hz : ¬ T_has β (κ 4 q2) (W i) := by rcases hzc with ⟨e, _⟩ | ⟨_, e⟩; omega; exact e
              refine ih _ u _ (by omega) (by omega) (by omega) hs go sd c0 (by omega) cn (fun k2 k3 g0 g1 g2 g3 => hr k2 k3 g0 g1 (by omega) g3) (fun k2 q g0 g1 g2 g3 g4 g5 j hj => ?_)
              by_cases c : k2 = k
              · rw [c, ew] at g2
                obtain rfl : q = q2 := by omega
                exact absurd (M_ac.k3i g5 hj).2.1 hz
              · exact hc k2 q g0 (by omega) g2 g3 g4 g5 j hj
            · refine Z_go (f2 := (92, [(6, .int (Zi b2)), (5, .int (Zi q2)), (4, .int (Zi (b2 * 256 + q2))), (3, .int (Zi k)), (0, .ref o), (1, .int (Zi i)), (2, .int (Zi (W i)))], [.ref o])) (fun _ => rfl) ?_
              refine C_gr rfl hs ok (by decide) (Nat.le_of_ble_eq_true rfl) rfl ee10 ?_
              refine Z_go (f2 := (96, [(6, .int (Zi b2)), (5, .int (Zi q2)), (4, .int (Zi (b2 * 256 + q2))), (3, .int (Zi k)), (0, .ref o), (1, .int (Zi i)), (2, .int (Zi (W i)))], [.ref o, .ref (A 10)])) (fun _ => rfl) ?_
              refine C_gi rfl hs ok (by decide) (Nat.le_of_ble_eq_true rfl) rfl ?_
              show B_R _ _ (99, [(6, .int (Zi b2)), (5, .int (Zi q2)), (4, .int (Zi (b2 * 256 + q2))), (3, .int (Zi k)), (0, .ref o), (1, .int (Zi i)), (2, .int (Zi (W i)))], [.int (Zi (C_F u o 11)), .ref (A 10)]) _ _ _
              refine Z_go (f2 := (101, [(6, .int (Zi b2)), (5, .int (Zi q2)), (4, .int (Zi (b2 * 256 + q2))), (3, .int (Zi k)), (0, .ref o), (1, .int (Zi i)), (2, .int (Zi (W i)))], [.int (Zi b2), .int (Zi (C_F u o 11)), .ref (A 10)])) (fun _ => rfl) ?_
              refine Z_go (f2 := (103, [(6, .int (Zi b2)), (5, .int (Zi q2)), (4, .int (Zi (b2 * 256 + q2))), (3, .int (Zi k)), (0, .ref o), (1, .int (Zi i)), (2, .int (Zi (W i)))], [.int (Zi 8), .int (Zi b2), .int (Zi (C_F u o 11)), .ref (A 10)])) (fun _ => rfl) ?_
              refine Z_ishl rfl (by omega) (by omega) (p := 256) (by rfl) ?_
              refine Z_go (f2 := (105, [(6, .int (Zi b2)), (5, .int (Zi q2)), (4, .int (Zi (b2 * 256 + q2))), (3, .int (Zi k)), (0, .ref o), (1, .int (Zi i)), (2, .int (Zi (W i)))], [.ref o, .int (Zi (b2 * 256)), .int (Zi (C_F u o 11)), .ref (A 10)])) (fun _ => rfl) ?_
              refine C_gr rfl hs ok (by decide) (Nat.le_of_ble_eq_true rfl) rfl ee2 ?_
              refine Z_go (f2 := (110, [(6, .int (Zi b2)), (5, .int (Zi q2)), (4, .int (Zi (b2 * 256 + q2))), (3, .int (Zi k)), (0, .ref o), (1, .int (Zi i)), (2, .int (Zi (W i)))], [.int (Zi q2), .ref (A 2), .int (Zi (b2 * 256)), .int (Zi (C_F u o 11)), .ref (A 10)])) (fun _ => rfl) ?_
              refine C_callSR (vs := [.ref (A 2), .int (Zi q2)]) (rest := [.int (Zi (b2 * 256)), .int (Zi (C_F u o 11)), .ref (A 10)]) rfl (by decide) rfl rfl rfl (Nat.le_of_ble_eq_true rfl) hs (C_pick _ (k2_) (i := q2) ⟨by omega, by omega⟩) (fun x q => ?_)
              obtain rfl := q
              rw [if_pos (by omega), congrFun (hκu 2 (by omega)) q2]
              have zz2 : Zr (κ 2 q2) := by rw [← congrFun (hκu 2 (by omega)) q2]; exact w.2.1 _ _
              show B_R _ _ (113, [(6, .int (Zi b2)), (5, .int (Zi q2)), (4, .int (Zi (b2 * 256 + q2))), (3, .int (Zi k)), (0, .ref o), (1, .int (Zi i)), (2, .int (Zi (W i)))], [.int (Zi (κ 2 q2)), .int (Zi (b2 * 256)), .int (Zi (C_F u o 11)), .ref (A 10)]) _ _ _
              refine Z_go (f2 := (114, [(6, .int (Zi b2)), (5, .int (Zi q2)), (4, .int (Zi (b2 * 256 + q2))), (3, .int (Zi k)), (0, .ref o), (1, .int (Zi i)), (2, .int (Zi (W i)))], [.int (Zi (b2 * 256) ||| Zi (κ 2 q2)), .int (Zi (C_F u o 11)), .ref (A 10)])) (fun _ => rfl) ?_
              rw [show Zi (b2 * 256) ||| Zi (κ 2 q2) = Zi (b2 * 256 + κ 2 q2) from Zor_add (k := 8) (a := b2) (by omega) w2 (by omega) w9.1 (by omega) (by omega)]
              refine C_callS (vs := [.ref (A 10), .int (Zi (C_F u o 11)), .int (Zi (b2 * 256 + κ 2 q2))]) (rest := []) rfl (by decide) rfl rfl rfl (Nat.le_of_ble_eq_true rfl) hs (C_store _ (k10) (i := C_F u o 11) (v := b2 * 256 + κ 2 q2) z11 ⟨by omega, by omega⟩) (fun x h w1 n1 hs q => ?_)
              obtain ⟨rfl, rfl, rfl⟩ := q
              rw [if_pos (by omega)] at hs
              show B_R _ _ (117, [(6, .int (Zi b2)), (5, .int (Zi q2)), (4, .int (Zi (b2 * 256 + q2))), (3, .int (Zi k)), (0, .ref o), (1, .int (Zi i)), (2, .int (Zi (W i)))], []) _ _ _
              refine Z_go (f2 := (118, [(6, .int (Zi b2)), (5, .int (Zi q2)), (4, .int (Zi (b2 * 256 + q2))), (3, .int (Zi k)), (0, .ref o), (1, .int (Zi i)), (2, .int (Zi (W i)))], [.ref o])) (fun _ => rfl) ?_
              refine Z_go (f2 := (119, [(6, .int (Zi b2)), (5, .int (Zi q2)), (4, .int (Zi (b2 * 256 + q2))), (3, .int (Zi k)), (0, .ref o), (1, .int (Zi i)), (2, .int (Zi (W i)))], [.ref o, .ref o])) (fun _ => rfl) ?_
              refine C_gi rfl hs ok (by decide) (Nat.le_of_ble_eq_true rfl) rfl ?_
              rw [show C_F (C_sA u (A 10) (C_F u o 11) (b2 * 256 + κ 2 q2)) o 11 = C_F u o 11 from (by first | rfl | (simp only [C_F, C_P, C_A, C_L, C_Q, C_K, C_T, C_n, C_sF, C_sP, C_sA, C_sL, C_sQ, C_sAf, C_sQf]; simp [*]; done) | (simp only [C_F, C_P, C_A, C_L, C_Q, C_K, C_T, C_n, C_sF, C_sP, C_sA, C_sL, C_sQ, C_sAf, C_sQf]; simp; omega))]; show B_R _ _ (122, [(6, .int (Zi b2)), (5, .int (Zi q2)), (4, .int (Zi (b2 * 256 + q2))), (3, .int (Zi k)), (0, .ref o), (1, .int (Zi i)), (2, .int (Zi (W i)))], [.int (Zi (C_F u o 11)), .ref o]) _ _ _
              refine Z_go (f2 := (123, [(6, .int (Zi b2)), (5, .int (Zi q2)), (4, .int (Zi (b2 * 256 + q2))), (3, .int (Zi k)), (0, .ref o), (1, .int (Zi i)), (2, .int (Zi (W i)))], [.int (Zi 1), .int (Zi (C_F u o 11)), .ref o])) (fun _ => rfl) ?_
              refine Z_iadd rfl ?_
              refine C_pi rfl hs ok (by decide) (Nat.le_of_ble_eq_true rfl) (.inl rfl) rfl rfl rfl (by first | exact hs.zF _ _ | exact Zor_r _ _ | exact hs.zA _ _ | assumption | exact zA _ _ | exact zS _ | exact Zr_not (hs.zA _ _) | exact hs.1.1 _ _ | exact ⟨by omega, by omega⟩) (fun h hs => ?_)
              refine Z_iinc (L2 := [(3, .int (Zi (k + 1))), (6, .int (Zi b2)), (5, .int (Zi q2)), (4, .int (Zi (b2 * 256 + q2))), (0, .ref o), (1, .int (Zi i)), (2, .int (Zi (W i)))]) rfl rfl (by decide) rfl ?_
              refine Z_go (f2 := (16, [(3, .int (Zi (k + 1))), (6, .int (Zi b2)), (5, .int (Zi q2)), (4, .int (Zi (b2 * 256 + q2))), (0, .ref o), (1, .int (Zi i)), (2, .int (Zi (W i)))], [])) (fun _ => rfl) ?_
              refine B_loc (K := [(3, .int (Zi (k + 1))), (0, .ref o), (1, .int (Zi i)), (2, .int (Zi (W i)))]) (N_all_sub ⟨rfl, rfl, rfl, rfl, trivial⟩) (show ([3, 0, 1, 2] : List Nat).Nodup by decide) ?_
              have hz : T_has β (κ 4 q2) (W i) := by rcases hzc with ⟨_, e⟩ | ⟨e, _⟩; exact e; omega
              have n10 : C_A (C_sF (C_sA u (A 10) (C_F u o 11) (b2 * 256 + κ 2 q2)) o 11 (C_F u o 11 + 1)) (A 10) = M_up (C_A u (A 10)) (C_F u o 11) (b2 * 256 + κ 2 q2) := by
                funext j
                show (if A 10 = A 10 ∧ j = C_F u o 11 then b2 * 256 + κ 2 q2 else C_A u (A 10) j) = if j = C_F u o 11 then b2 * 256 + κ 2 q2 else C_A u (A 10) j
                by_cases d : j = C_F u o 11
                · rw [if_pos ⟨rfl, d⟩, if_pos d]
                · rw [if_neg (fun e => d e.2), if_neg d]
              have n11 : C_F (C_sF (C_sA u (A 10) (C_F u o 11) (b2 * 256 + κ 2 q2)) o 11 (C_F u o 11 + 1)) o 11 = C_F u o 11 + 1 := if_pos ⟨rfl, rfl⟩
              have iN : i < N := by
                by_cases c : i < N
                · exact c
                · exfalso
                  have : W i = -1 := by rw [← hW]; exact if_neg (by omega)
                  omega
              have hup : ∀ k2, k2 < C_F u o 11 → M_up (C_A u (A 10)) (C_F u o 11) (b2 * 256 + κ 2 q2) k2 = C_A u (A 10) k2 := fun k2 g => if_neg (by omega)
              have hue : M_up (C_A u (A 10)) (C_F u o 11) (b2 * 256 + κ 2 q2) (C_F u o 11) = b2 * 256 + κ 2 q2 := if_pos rfl
              refine ih _ _ _ (by omega) (by omega) (by omega) hs ((go.sA (f := 10) (by unfold M_XS; omega) (by omega) _ _).sF (f := 11) (by unfold M_XS; omega) _) ?_ (by omega) (by omega) (fun c => by omega) ?_ ?_
              · rw [n10, n11]
                refine ⟨fun k2 g0 g1 => ?_, fun k2 k3 g0 g1 g2 => ?_⟩
                · by_cases d : k2 = C_F u o 11
                  · rw [d, hue]
                    rw [show (b2 * 256 + κ 2 q2) / 256 = b2 by omega, show (b2 * 256 + κ 2 q2) % 256 = κ 2 q2 by omega]
                    exact ⟨w2, by omega, by omega, fun j hj => w7 j (M_ac.k3 w6 iN hz hj)⟩
                  · rw [hup k2 (by omega)]
                    exact sd.1 k2 g0 (by omega)
                · by_cases d : k3 = C_F u o 11
                  · rw [d, hue]
                    by_cases d2 : k2 = C_F u o 11
                    · rw [d2, hue]; omega
                    · rw [hup k2 (by omega), show (b2 * 256 + κ 2 q2) / 256 = b2 by omega]
                      have := hr k2 k g0 (by omega) (by omega) (by omega)
                      rw [ew] at this
                      omega
                  · rw [hup k2 (by omega), hup k3 (by omega)]
                    exact sd.2 k2 k3 g0 g1 (by omega)
              · intro k2 k3 g0 g1 g2 g3
                rw [n11] at g1
                rw [n10]
                by_cases d : k2 = C_F u o 11
                · rw [d, hue]
                  have := iv.2.2.1 k k3 k0 (by omega) g3
                  rw [ew] at this
                  omega
                · rw [hup k2 (by omega)]
                  exact hr k2 k3 g0 (by omega) (by omega) g3
              · intro k2 q g0 g1 g2 g3 g4 g5 j hj
                rw [n10, n11]
                by_cases c : k2 = k
                · rw [c, ew] at g2
                  obtain rfl : q = q2 := by omega
                  obtain rfl : b2 = B := by omega
                  refine ⟨C_F u o 11, by omega, by omega, ?_, ?_⟩
                  · rw [hue]; omega
                  · rw [hue, show (b2 * 256 + κ 2 q) % 256 = κ 2 q by omega]
                    exact (M_ac.k3i g5 hj).2.2
                · obtain ⟨k3, f0, f1, f2, f3⟩ := hc k2 q g0 (by omega) g2 g3 g4 g5 j hj
                  exact ⟨k3, f0, by omega, by rw [hup k3 f1]; exact f2, by rw [hup k3 f1]; exact f3⟩
theorem C_stp (d : Nat) {s : C_S} {p : List Nat} {o : Nat} {A : Nat → Nat} {κ : Nat → Int → Int} {W : Int → Int} {m e B : Int} {tb N tr : Nat} {i : Int} {p2 : List Nat} {A2 : Nat → Nat} {m2 sm : Int} {τ : Nat → Int → Int} {β : Int → Int64} (hm : D_M0 s p o A) (et : C_P s o 14 = some tb) (kt : C_K s tb = (1, N)) (hW : C_wb s tb N = W) (hκ : ∀ f, (f = 1 ∨ f = 2 ∨ f = 3 ∨ f = 4) → C_A s (A f) = κ f) (hok : M_kok κ m) (hset : ∀ q, 0 ≤ q → q < m → κ 1 q = 3 → -1 ≤ κ 4 q ∧ κ 4 q < 80) (hB : ∀ b j, 0 ≤ b → M_ac κ (T_has β) W N e b j → B ≤ b) (B0 : 0 ≤ B) (m1 : m ≤ 202) (N1 : N ≤ 1000) (e0 : C_P s o 0 = some tr) (ht : D_Tr s p2 tr A2 m2 sm τ β) (np : p2 ≠ p) (iv : M_IV κ (T_has β) W N m e B i o A s 0 i (-1)) (i0 : 0 ≤ i) (i1 : i ≤ N) (d0 : 0 ≤ C_F s o 13) (d1 : C_F s o 13 ≤ 202) : C_ok (d + 3) 30 [.ref o, .int (Zi i)] s (fun x s2 n => x = none ∧ n = 0 ∧ M_fr M_XS o A s s2 ∧ M_sd κ (T_has β) W N m e (i + 1) (C_A s2 (A 10)) (C_F s2 o 11) ∧ 0 ≤ C_F s2 o 11 ∧ C_F s2 o 11 ≤ 202 ∧ (i = N → C_F s2 o 11 ≤ 0) ∧ (i < N → ∀ j, M_FN κ (T_has β) W N m B i o A s j → (C_F s o 15 = B ∧ j ≤ C_F s o 16) ∨ ∃ k, 0 ≤ k ∧ k < C_F s2 o 11 ∧ C_A s2 (A 10) k / 256 = B ∧ M_ac κ (T_has β) W N (C_A s2 (A 10) k % 256) (i + 1) j)) := by
  refine C_enter (M := E_m30) rfl (Nat.le_of_ble_eq_true rfl) (fun h0 h hs => ?_)
  show B_R (d + 2) _ (0, [(0, .ref o), (1, .int (Zi i))], []) _ _ _
  have w := hs.1
  have sw := hs.1
  have ok := hm.1
  have zi : Zr i := ⟨by omega, by omega⟩
  have zW : -1 ≤ W i ∧ W i < 256 := by rw [← hW]; exact C_wb_zr s tb N i
  have zWi : Zr (W i) := ⟨by omega, by omega⟩
  have s13 : C_F (C_sF s o 11 0) o 13 = C_F s o 13 := if_neg (by omega)
  have s15 : C_F (C_sF s o 11 0) o 15 = C_F s o 15 := if_neg (by omega)
  have s16 : C_F (C_sF s o 11 0) o 16 = C_F s o 16 := if_neg (by omega)
  have s11 : C_F (C_sF s o 11 0) o 11 = 0 := if_pos ⟨rfl, rfl⟩
  have fr0 : M_fr M_XS o A s (C_sF s o 11 0) := M_fr.refl.sF (f := 11) (by unfold M_XS; omega) _
  refine Z_go (f2 := (1, [(0, .ref o), (1, .int (Zi i))], [.ref o])) (fun _ => rfl) ?_
  refine Z_go (f2 := (2, [(0, .ref o), (1, .int (Zi i))], [.int (Zi 0), .ref o])) (fun _ => rfl) ?_
  refine C_pi rfl hs ok (by decide) (Nat.le_of_ble_eq_true rfl) (.inl rfl) rfl rfl rfl (by first | exact hs.zF _ _ | exact Zor_r _ _ | exact hs.zA _ _ | assumption | exact zA _ _ | exact zS _ | exact Zr_not (hs.zA _ _) | exact hs.1.1 _ _ | exact ⟨by omega, by omega⟩) (fun h hs => ?_)
  refine Z_go (f2 := (6, [(0, .ref o), (1, .int (Zi i))], [.ref o])) (fun _ => rfl) ?_
  refine C_gr rfl hs ok (by decide) (Nat.le_of_ble_eq_true rfl) rfl et ?_
  refine Z_go (f2 := (10, [(0, .ref o), (1, .int (Zi i))], [.int (Zi i), .ref tb])) (fun _ => rfl) ?_
  refine C_callSR (vs := [.ref tb, .int (Zi i)]) (rest := []) rfl (by decide) rfl rfl rfl (Nat.le_of_ble_eq_true rfl) hs (C_byteOf _ (show C_K (C_sF s o 11 0) tb = (1, N) from kt) (i := i) zi) (fun x q => ?_)
  obtain rfl := q
  rw [show (if 0 ≤ i ∧ i < N then C_A (C_sF s o 11 0) tb i % 256 else -1) = W i from by rw [← hW]; rfl]
  show B_R _ _ (13, [(0, .ref o), (1, .int (Zi i))], [.int (Zi (W i))]) _ _ _
  refine Z_go (f2 := (14, [(2, .int (Zi (W i))), (0, .ref o), (1, .int (Zi i))], [])) (fun _ => rfl) ?_
  refine Z_go (f2 := (15, [(2, .int (Zi (W i))), (0, .ref o), (1, .int (Zi i))], [.int (Zi 0)])) (fun _ => rfl) ?_
  refine Z_go (f2 := (16, [(3, .int (Zi 0)), (2, .int (Zi (W i))), (0, .ref o), (1, .int (Zi i))], [])) (fun _ => rfl) ?_
  refine B_loc (K := [(3, .int (Zi 0)), (0, .ref o), (1, .int (Zi i)), (2, .int (Zi (W i)))]) (N_all_sub ⟨rfl, rfl, rfl, rfl, trivial⟩) (show ([3, 0, 1, 2] : List Nat).Nodup by decide) ?_
  refine C_stp_lp (s := s) hm sw et kt hW hκ hok hset hB B0 m1 N1 e0 ht np iv i0 i1 d0 d1 (fun u h hs go sd c0 c1 cn hc => ⟨u, hs, rfl, rfl, go, sd, c0, by omega, cn, fun iN j hj => ?_⟩) 204 0 _ h (by omega) (by omega) (by omega) hs fr0 ?_ (by omega) (by omega) (fun _ => by omega) (fun k2 k3 g0 g1 => by omega) (fun k2 q g0 g1 => by omega)
  rotate_left
  · rcases hj with hj | ⟨k, q, g0, g1, g2, g3, g4, g5, g6⟩
    · exact .inl hj
    · exact .inr (hc iN k q g0 g1 g2 g3 g4 g5 j g6)
  · rw [s11]
    exact ⟨fun k g0 g1 => by omega, fun k k2 g0 g1 g2 => by omega⟩
