/-! the reference: opens -/
/-- the texts gathered -/
def R_LT (s : R_S) : P_X := fun x => ∃ c, 0 ≤ c ∧ c < s.1 43 ∧ x = R_lrow s c
theorem R_LF_LT (s : R_S) : R_LF s (s.1 43) = F_im L_gr (R_LT s) := by
  funext x
  refine propext ⟨?_, ?_⟩
  · rintro ⟨c, a, b, h⟩
    exact ⟨_, ⟨c, a, b, rfl⟩, h⟩
  · rintro ⟨y, ⟨c, a, b, rfl⟩, h⟩
    exact ⟨c, a, b, h⟩
/-- u is s, but N texts are gathered: H -/
def R_lgs (s u : R_S) (N : Int) (H : P_X) : Prop := (∀ b, b ≠ 43 → u.1 b = s.1 b) ∧ (∀ q j, q ≠ 111 → q ≠ 112 → u.2.1 q j = s.2.1 q j) ∧ u.2.2 = s.2.2 ∧ u.1 43 = N ∧ R_lv u ∧ R_LT u = H
theorem R_lgs_0 (s : R_S) : R_lgs s (R_sF s 43 0) 0 (fun _ => False) := by
  have e : (R_sF s 43 0).1 43 = 0 := R_sF_s _ _ _
  refine ⟨fun b hb => R_sF_n _ _ hb, fun _ _ _ _ => rfl, rfl, e, ⟨by rw [e]; decide, by rw [e]; decide, fun i i0 i1 => by rw [e] at i1; omega⟩, ?_⟩
  funext x
  refine propext ⟨?_, fun h => h.elim⟩
  rintro ⟨i, i0, i1, _⟩
  rw [e] at i1
  omega
theorem R_lgs.add {s u w : R_S} {N n : Int} {g : Int → Int} {H : P_X} (h : R_lgs s u N H) (n1 : N < 160) (f : ∀ b, b ≠ 43 → w.1 b = u.1 b) (q : ∀ q j, q ≠ 111 → q ≠ 112 → w.2.1 q j = u.2.1 q j) (l : w.2.2 = u.2.2) (f43 : w.1 43 = N + 1) (a111 : ∀ j, j < N → w.2.1 111 j = u.2.1 111 j) (b111 : w.2.1 111 N = n) (a112 : ∀ j, j < 60 * N → w.2.1 112 j = u.2.1 112 j) (b112 : ∀ j, 0 ≤ j → j < n → w.2.1 112 (60 * N + j) = g j) (m0 : 0 ≤ n) (m1 : n ≤ 60) (hg : ∀ j, 0 ≤ j → j < n → 0 ≤ g j ∧ g j < 256) : R_lgs s w (N + 1) (F_or H (F_one (D_row g n))) := by
  obtain ⟨h1, h2, h3, h4, h5, h6⟩ := h
  have p0 := h5.1
  rw [h4] at p0
  have old : ∀ c, 0 ≤ c → c < N → R_lrow w c = R_lrow u c := fun c c0 c1 => by
    have hv := h5.2.2 c c0 (by omega)
    exact D_row_eq (a111 c c1) (fun i i0 i1 => by rw [a111 c c1] at i1; exact a112 _ (by omega))
  have new : R_lrow w N = D_row g n := D_row_eq b111 (fun i i0 i1 => by rw [b111] at i1; exact b112 i i0 i1)
  refine ⟨fun b hb => by rw [f b hb]; exact h1 b hb, fun p j a b => by rw [q p j a b]; exact h2 p j a b, by rw [l]; exact h3, f43, ⟨by rw [f43]; omega, by rw [f43]; omega, fun c c0 c1 => ?_⟩, ?_⟩
  · rw [f43] at c1
    by_cases e : c = N
    · subst e
      rw [b111]
      refine ⟨m0, m1, fun j j0 j1 => ?_⟩
      have := b112 (j - 60 * c) (by omega) (by omega)
      rw [show 60 * c + (j - 60 * c) = j by omega] at this
      rw [this]
      exact hg _ (by omega) (by omega)
    · have hv := h5.2.2 c c0 (by omega)
      rw [a111 c (by omega)]
      exact ⟨hv.1, hv.2.1, fun j j0 j1 => by rw [a112 j (by omega)]; exact hv.2.2 j j0 j1⟩
  · funext x
    refine propext ⟨?_, ?_⟩
    · rintro ⟨c, c0, c1, rfl⟩
      rw [f43] at c1
      by_cases e : c = N
      · rw [e, new]; exact .inr rfl
      · rw [old c c0 (by omega)]
        exact .inl (by rw [← h6]; exact ⟨c, c0, by omega, rfl⟩)
    · rintro (k | k)
      · rw [← h6] at k
        obtain ⟨c, c0, c1, rfl⟩ := k
        exact ⟨c, c0, by omega, (old c c0 (by omega)).symm⟩
      · exact ⟨N, p0, by omega, by rw [new]; exact k⟩
theorem R_lgs.vk {s u : R_S} {N : Int} {H : P_X} (h : R_lgs s u N H) (K : Int → Prop) : R_vk s u K := ⟨⟨fun b hb => h.1 b (fun e => hb (by rw [e]; simp)), fun q hq j => h.2.1 q j (fun e => hq (by rw [e]; simp)) (fun e => hq (by rw [e]; simp)), h.2.2.1⟩, fun q q0 q1 j _ => h.2.1 q j (by omega) (by omega)⟩
theorem R_shp.vk {s u : R_S} {N : Int} {H : P_X} (h : R_shp s u N H) (K : Int → Prop) : R_vk s u K := ⟨⟨fun b hb => h.1 b (fun e => hb (by rw [e]; simp)), fun q hq j => h.2.1 q j (fun e => hq (by rw [e]; simp)), h.2.2.1⟩, fun q q0 q1 j _ => h.2.1 q j (by omega)⟩
theorem R_ek.vk {q : Nat} (hq : q = 100 ∨ q = 102) {s u : R_S} {k : Int} (h : R_ek q s u k) : R_vk s u (fun e => e = k) := by
  obtain ⟨h1, h2, h3, h4, h5⟩ := h
  refine ⟨⟨fun b hb => h1 b (fun e => hb (by rw [e]; simp)), fun p hp j => h2 p j (fun e => hp (by rw [e]; simp)) (fun e => hp (by rw [e]; simp)) (fun e => hp (by rcases hq with c | c <;> rw [e, c] <;> simp)) (fun e => hp (by rcases hq with c | c <;> rw [e, c] <;> simp)), h3⟩, fun p p0 p1 j hj => ?_⟩
  by_cases c : p = q
  · subst c
    refine h4 j (fun e => hj ?_)
    rcases hq with c | c <;> subst c <;> show _ / (1 : Int) = k <;> rw [Int.ediv_one] <;> exact e
  · by_cases c1 : p = q + 1
    · subst c1
      refine h5 j (fun e => hj ?_)
      rcases hq with c | c <;> subst c <;> show _ / (12 : Int) = k <;> omega
    · exact h2 p j (by omega) (by omega) c c1
theorem R_vk.sub {s u : R_S} {K M : Int → Prop} (h : R_vk s u K) (hK : ∀ e, K e → M e) : R_vk s u M := ⟨h.1, fun q q0 q1 j hj => h.2 q q0 q1 j (fun e => hj (hK _ e))⟩
/-- an array's part of a slot that nothing touched -/
theorem R_EX_eq {s u : R_S} {k : Int} {A : P_X} (e97 : ∀ j, u.2.1 97 j = s.2.1 97 j) (e98 : ∀ j, u.2.1 98 j = s.2.1 98 j) (e99 : ∀ j, u.2.1 99 j = s.2.1 99 j) (h : R_EX s k A) : R_EX u k A := R_EX_up (e97 k) e98 e99 h
theorem R_op_i {d : Nat} {h0 : E_H} {s : R_S} {sl : Nat} {Φ : E_R → Prop} {z r n : Int} (z0 : 0 ≤ z) (z1 : z < 44) (r0 : 0 ≤ r) (r1 : r < 8) (p0 : 0 ≤ s.1 43) (p1 : s.1 43 < 160) (n1 : n ≤ 60) (hn : n = s.2.1 111 (s.1 43)) (zA : ∀ q j, Zr (s.2.1 q j)) (kont : ∀ (h : E_H), R_is h0 h (R_fl s 112 (60 * s.1 43) (60 * s.1 43 + n) (fun x => s.2.1 99 (60 * (8 * z + r) + (x - 60 * s.1 43)))) → B_R (d + 1) E_m235 (169, [(3, .int (Zi n)), (2, .int (Zi r)), (0, .ref 83), (1, .int (Zi z))], []) h sl Φ) : ∀ (t : Nat) (i : Int) (h : E_H), n - i < t → R_is h0 h (R_fl s 112 (60 * s.1 43) (60 * s.1 43 + i) (fun x => s.2.1 99 (60 * (8 * z + r) + (x - 60 * s.1 43)))) → 0 ≤ i → i ≤ n → B_R (d + 1) E_m235 (129, [(3, .int (Zi i)), (2, .int (Zi r)), (0, .ref 83), (1, .int (Zi z))], []) h sl Φ := by
  intro t
  induction t with
  | zero => intro i h ht hs i0 i1; omega
  | succ t ih =>
    intro i h ht hs i0 i1
    refine Z_go (f2 := (130, [(3, .int (Zi i)), (2, .int (Zi r)), (0, .ref 83), (1, .int (Zi z))], [.int (Zi i)])) (fun _ => rfl) ?_
    refine Z_go (f2 := (131, [(3, .int (Zi i)), (2, .int (Zi r)), (0, .ref 83), (1, .int (Zi z))], [.ref 83, .int (Zi i)])) (fun _ => rfl) ?_
    refine R_gr (q := 109) rfl hs rfl ?_
    show B_R _ _ (134, [(3, .int (Zi i)), (2, .int (Zi r)), (0, .ref 83), (1, .int (Zi z))], [.ref 111, .int (Zi i)]) _ _ _
    refine Z_go (f2 := (135, [(3, .int (Zi i)), (2, .int (Zi r)), (0, .ref 83), (1, .int (Zi z))], [.ref 83, .ref 111, .int (Zi i)])) (fun _ => rfl) ?_
    refine R_gi rfl hs rfl ?_
    show B_R _ _ (138, [(3, .int (Zi i)), (2, .int (Zi r)), (0, .ref 83), (1, .int (Zi z))], [.int (Zi (s.1 43)), .ref 111, .int (Zi i)]) _ _ _
    refine R_ia (q := 27) rfl hs rfl rfl (by omega) (by omega) (by decide) ?_
    rw [show (R_fl s 112 (60 * s.1 43) (60 * s.1 43 + i) (fun x => s.2.1 99 (60 * (8 * z + r) + (x - 60 * s.1 43)))).2.1 111 (s.1 43) = s.2.1 111 (s.1 43) by first | rfl | simp [R_sA, R_sF, R_up2, R_fl, R_fL, R_sM, R_sL, R_p3, R_em]]; show B_R _ _ (139, [(3, .int (Zi i)), (2, .int (Zi r)), (0, .ref 83), (1, .int (Zi z))], [.int (Zi (s.2.1 111 (s.1 43))), .int (Zi i)]) _ _ _
    refine Z_cge rfl rfl (by first | exact hs.zF _ | exact Zor_r _ _ | exact hs.zA _ _ | assumption | exact zA _ _ | exact zS _ | exact Zr_not (hs.zA _ _) | exact ⟨by omega, by omega⟩) (by first | exact hs.zF _ | exact Zor_r _ _ | exact hs.zA _ _ | assumption | exact zA _ _ | exact zS _ | exact Zr_not (hs.zA _ _) | exact ⟨by omega, by omega⟩) (fun c1 => ?_) (fun c1 => ?_)
    · obtain rfl : i = n := by omega
      exact kont h hs 
    · refine Z_go (f2 := (143, [(3, .int (Zi i)), (2, .int (Zi r)), (0, .ref 83), (1, .int (Zi z))], [.ref 83])) (fun _ => rfl) ?_
      refine R_gr (q := 110) rfl hs rfl ?_
      show B_R _ _ (146, [(3, .int (Zi i)), (2, .int (Zi r)), (0, .ref 83), (1, .int (Zi z))], [.ref 112]) _ _ _
      refine Z_go (f2 := (148, [(3, .int (Zi i)), (2, .int (Zi r)), (0, .ref 83), (1, .int (Zi z))], [.int (Zi 60), .ref 112])) (fun _ => rfl) ?_
      refine Z_go (f2 := (149, [(3, .int (Zi i)), (2, .int (Zi r)), (0, .ref 83), (1, .int (Zi z))], [.ref 83, .int (Zi 60), .ref 112])) (fun _ => rfl) ?_
      refine R_gi rfl hs rfl ?_
      show B_R _ _ (152, [(3, .int (Zi i)), (2, .int (Zi r)), (0, .ref 83), (1, .int (Zi z))], [.int (Zi (s.1 43)), .int (Zi 60), .ref 112]) _ _ _
      refine Z_imul rfl ?_
      refine Z_go (f2 := (154, [(3, .int (Zi i)), (2, .int (Zi r)), (0, .ref 83), (1, .int (Zi z))], [.int (Zi i), .int (Zi (60 * (s.1 43))), .ref 112])) (fun _ => rfl) ?_
      refine Z_iadd rfl ?_
      refine Z_go (f2 := (156, [(3, .int (Zi i)), (2, .int (Zi r)), (0, .ref 83), (1, .int (Zi z))], [.ref 83, .int (Zi (60 * (s.1 43) + i)), .ref 112])) (fun _ => rfl) ?_
      refine Z_go (f2 := (157, [(3, .int (Zi i)), (2, .int (Zi r)), (0, .ref 83), (1, .int (Zi z))], [.int (Zi z), .ref 83, .int (Zi (60 * (s.1 43) + i)), .ref 112])) (fun _ => rfl) ?_
      refine Z_go (f2 := (158, [(3, .int (Zi i)), (2, .int (Zi r)), (0, .ref 83), (1, .int (Zi z))], [.int (Zi r), .int (Zi z), .ref 83, .int (Zi (60 * (s.1 43) + i)), .ref 112])) (fun _ => rfl) ?_
      refine Z_go (f2 := (159, [(3, .int (Zi i)), (2, .int (Zi r)), (0, .ref 83), (1, .int (Zi z))], [.int (Zi i), .int (Zi r), .int (Zi z), .ref 83, .int (Zi (60 * (s.1 43) + i)), .ref 112])) (fun _ => rfl) ?_
      refine R_call (As := [.int (Zi z), .int (Zi r), .int (Zi i)]) (rest := [.int (Zi (60 * (s.1 43) + i)), .ref 112]) rfl (by decide) rfl rfl rfl rfl (by decide +kernel) (Nat.le_of_ble_eq_true rfl) hs (R_textByte _ (R_fl s 112 (60 * s.1 43) (60 * s.1 43 + i) (fun x => s.2.1 99 (60 * (8 * z + r) + (x - 60 * s.1 43)))) (by first | assumption | exact hs.zA _ _ | exact zA _ _ | exact ⟨by omega, by omega⟩) (by first | assumption | exact hs.zA _ _ | exact zA _ _ | exact ⟨by omega, by omega⟩) (by first | assumption | exact hs.zA _ _ | exact zA _ _ | exact ⟨by omega, by omega⟩) (by omega) (by omega)) (fun x h s2 hs q => ?_)
      obtain ⟨q0, v, rfl, q2⟩ := q
      rw [q0] at hs
      rw [q2, R_fl_n (by decide)]
      show B_R _ _ (162, [(3, .int (Zi i)), (2, .int (Zi r)), (0, .ref 83), (1, .int (Zi z))], [.int (Zi (s.2.1 99 (60 * (8 * z + r) + i))), .int (Zi (60 * (s.1 43) + i)), .ref 112]) _ _ _
      refine R_is_ (q := 28) rfl hs rfl rfl (by omega) (by omega) (by decide) (by first | exact hs.zF _ | exact Zor_r _ _ | exact hs.zA _ _ | assumption | exact zA _ _ | exact zS _ | exact Zr_not (hs.zA _ _) | exact ⟨by omega, by omega⟩) (fun h hs => ?_)
      refine Z_iinc (L2 := [(3, .int (Zi (i + 1))), (2, .int (Zi r)), (0, .ref 83), (1, .int (Zi z))]) rfl rfl (by decide) rfl ?_
      refine Z_go (f2 := (129, [(3, .int (Zi (i + 1))), (2, .int (Zi r)), (0, .ref 83), (1, .int (Zi z))], [])) (fun _ => rfl) ?_
      refine B_loc (K := [(3, .int (Zi (i + 1))), (2, .int (Zi r)), (0, .ref 83), (1, .int (Zi z))]) (N_all_sub ⟨rfl, rfl, rfl, rfl, trivial⟩) (show ([3, 2, 0, 1] : List Nat).Nodup by decide) ?_
      rw [R_fl_st (by omega) rfl (by show _ = s.2.1 99 _; exact congrArg (s.2.1 99) (by omega))] at hs
      exact ih _ _ (by omega) (by rw [← Int.add_assoc]; exact hs) (by omega) (by omega)
theorem R_op_l {d : Nat} {h0 : E_H} {s : R_S} {sl : Nat} {Φ : E_R → Prop} {z : Int} (z0 : 0 ≤ z) (z1 : z < 44) (tv : R_tv s z) (kont : ∀ (u : R_S) (h : E_H), R_is h0 h u → R_lgs s u (s.2.1 97 z) (R_tf id s z (s.2.1 97 z)) → B_R (d + 1) E_m235 (185, [(0, .ref 83), (1, .int (Zi z))], []) h sl Φ) : ∀ (f : Nat) (t : Int) (u : R_S) (h : E_H), s.2.1 97 z - t < f → R_is h0 h u → R_lgs s u t (R_tf id s z t) → 0 ≤ t → t ≤ s.2.1 97 z → B_R (d + 1) E_m235 (97, [(2, .int (Zi t)), (0, .ref 83), (1, .int (Zi z))], []) h sl Φ := by
  intro f
  induction f with
  | zero => intro t u h ht hs hu t0 t1; omega
  | succ f ih =>
    intro t u h ht hs hu t0 t1
    have e97 : u.2.1 97 z = s.2.1 97 z := hu.2.1 97 z (by decide) (by decide)
    have e98 : ∀ j, u.2.1 98 j = s.2.1 98 j := fun j => hu.2.1 98 j (by decide) (by decide)
    have e99 : ∀ j, u.2.1 99 j = s.2.1 99 j := fun j => hu.2.1 99 j (by decide) (by decide)
    have e43 := hu.2.2.2.1
    have zA : ∀ q j, Zr (u.2.1 q j) := fun q j => hs.zA q j
    have t8 := tv.2.1
    refine Z_go (f2 := (98, [(2, .int (Zi t)), (0, .ref 83), (1, .int (Zi z))], [.int (Zi t)])) (fun _ => rfl) ?_
    refine Z_go (f2 := (99, [(2, .int (Zi t)), (0, .ref 83), (1, .int (Zi z))], [.ref 83, .int (Zi t)])) (fun _ => rfl) ?_
    refine R_gr (q := 95) rfl hs rfl ?_
    show B_R _ _ (102, [(2, .int (Zi t)), (0, .ref 83), (1, .int (Zi z))], [.ref 97, .int (Zi t)]) _ _ _
    refine Z_go (f2 := (103, [(2, .int (Zi t)), (0, .ref 83), (1, .int (Zi z))], [.int (Zi z), .ref 97, .int (Zi t)])) (fun _ => rfl) ?_
    refine R_ia (q := 13) rfl hs rfl rfl (by omega) (by omega) (by decide) ?_
    refine Z_cge rfl rfl (by first | exact hs.zF _ | exact Zor_r _ _ | exact hs.zA _ _ | assumption | exact zA _ _ | exact zS _ | exact Zr_not (hs.zA _ _) | exact ⟨by omega, by omega⟩) (by first | exact hs.zF _ | exact Zor_r _ _ | exact hs.zA _ _ | assumption | exact zA _ _ | exact zS _ | exact Zr_not (hs.zA _ _) | exact ⟨by omega, by omega⟩) (fun c1 => ?_) (fun c1 => ?_)
    · refine B_loc (K := [(0, .ref 83), (1, .int (Zi z))]) (N_all_sub ⟨rfl, rfl, trivial⟩) (show ([0, 1] : List Nat).Nodup by decide) ?_
      obtain rfl : t = s.2.1 97 z := by omega
      exact kont u h hs hu
    · refine Z_go (f2 := (108, [(2, .int (Zi t)), (0, .ref 83), (1, .int (Zi z))], [.ref 83])) (fun _ => rfl) ?_
      refine R_gr (q := 109) rfl hs rfl ?_
      show B_R _ _ (111, [(2, .int (Zi t)), (0, .ref 83), (1, .int (Zi z))], [.ref 111]) _ _ _
      refine Z_go (f2 := (112, [(2, .int (Zi t)), (0, .ref 83), (1, .int (Zi z))], [.ref 83, .ref 111])) (fun _ => rfl) ?_
      refine R_gi rfl hs rfl ?_
      show B_R _ _ (115, [(2, .int (Zi t)), (0, .ref 83), (1, .int (Zi z))], [.int (Zi (u.1 43)), .ref 111]) _ _ _
      refine Z_go (f2 := (116, [(2, .int (Zi t)), (0, .ref 83), (1, .int (Zi z))], [.ref 83, .int (Zi (u.1 43)), .ref 111])) (fun _ => rfl) ?_
      refine R_gr (q := 96) rfl hs rfl ?_
      show B_R _ _ (119, [(2, .int (Zi t)), (0, .ref 83), (1, .int (Zi z))], [.ref 98, .int (Zi (u.1 43)), .ref 111]) _ _ _
      refine Z_go (f2 := (121, [(2, .int (Zi t)), (0, .ref 83), (1, .int (Zi z))], [.int (Zi 8), .ref 98, .int (Zi (u.1 43)), .ref 111])) (fun _ => rfl) ?_
      refine Z_go (f2 := (122, [(2, .int (Zi t)), (0, .ref 83), (1, .int (Zi z))], [.int (Zi z), .int (Zi 8), .ref 98, .int (Zi (u.1 43)), .ref 111])) (fun _ => rfl) ?_
      refine Z_imul rfl ?_
      refine Z_go (f2 := (124, [(2, .int (Zi t)), (0, .ref 83), (1, .int (Zi z))], [.int (Zi t), .int (Zi (8 * z)), .ref 98, .int (Zi (u.1 43)), .ref 111])) (fun _ => rfl) ?_
      refine Z_iadd rfl ?_
      refine R_ia (q := 14) rfl hs rfl rfl (by omega) (by omega) (by decide) ?_
      refine R_is_ (q := 27) rfl hs rfl rfl (by omega) (by omega) (by decide) (by first | exact hs.zF _ | exact Zor_r _ _ | exact hs.zA _ _ | assumption | exact zA _ _ | exact zS _ | exact Zr_not (hs.zA _ _) | exact ⟨by omega, by omega⟩) (fun h hs => ?_)
      refine Z_go (f2 := (128, [(2, .int (Zi t)), (0, .ref 83), (1, .int (Zi z))], [.int (Zi 0)])) (fun _ => rfl) ?_
      refine Z_go (f2 := (129, [(3, .int (Zi 0)), (2, .int (Zi t)), (0, .ref 83), (1, .int (Zi z))], [])) (fun _ => rfl) ?_
      refine B_loc (K := [(3, .int (Zi 0)), (2, .int (Zi t)), (0, .ref 83), (1, .int (Zi z))]) (N_all_sub ⟨rfl, rfl, rfl, rfl, trivial⟩) (show ([3, 2, 0, 1] : List Nat).Nodup by decide) ?_
      obtain ⟨n0, n1, hx⟩ := tv.2.2 t t0 (by omega)
      rw [← e98] at n0 n1 hx
      have q43 : (R_sA u 111 (u.1 43) (u.2.1 98 (8 * z + t))).1 43 = u.1 43 := rfl
      refine R_op_i (s := R_sA u 111 (u.1 43) (u.2.1 98 (8 * z + t))) (z := z) (r := t) (n := u.2.1 98 (8 * z + t)) z0 z1 t0 (by omega) (by omega) (by omega) n1 (by rw [q43, R_sA_s]) (fun q j => hs.zA q j) (fun h hs => ?_) ((u.2.1 98 (8 * z + t)).toNat + 1) 0 h (by omega) (by rw [Int.add_zero, R_fl_0]; exact hs) (by omega) n0
      refine Z_go (f2 := (170, [(3, .int (Zi (u.2.1 98 (8 * z + t)))), (2, .int (Zi t)), (0, .ref 83), (1, .int (Zi z))], [.ref 83])) (fun _ => rfl) ?_
      refine Z_go (f2 := (171, [(3, .int (Zi (u.2.1 98 (8 * z + t)))), (2, .int (Zi t)), (0, .ref 83), (1, .int (Zi z))], [.ref 83, .ref 83])) (fun _ => rfl) ?_
      refine R_gi rfl hs rfl ?_
      show B_R _ _ (174, [(3, .int (Zi (u.2.1 98 (8 * z + t)))), (2, .int (Zi t)), (0, .ref 83), (1, .int (Zi z))], [.int (Zi (u.1 43)), .ref 83]) _ _ _
      refine Z_go (f2 := (175, [(3, .int (Zi (u.2.1 98 (8 * z + t)))), (2, .int (Zi t)), (0, .ref 83), (1, .int (Zi z))], [.int (Zi 1), .int (Zi (u.1 43)), .ref 83])) (fun _ => rfl) ?_
      refine Z_iadd rfl ?_
      refine R_pf rfl hs rfl (by first | exact hs.zF _ | exact Zor_r _ _ | exact hs.zA _ _ | assumption | exact zA _ _ | exact zS _ | exact Zr_not (hs.zA _ _) | exact ⟨by omega, by omega⟩) ⟨rfl, rfl, rfl⟩ (fun h hs => ?_)
      refine Z_iinc (L2 := [(2, .int (Zi (t + 1))), (3, .int (Zi (u.2.1 98 (8 * z + t)))), (0, .ref 83), (1, .int (Zi z))]) rfl rfl (by decide) rfl ?_
      refine Z_go (f2 := (97, [(2, .int (Zi (t + 1))), (3, .int (Zi (u.2.1 98 (8 * z + t)))), (0, .ref 83), (1, .int (Zi z))], [])) (fun _ => rfl) ?_
      refine B_loc (K := [(2, .int (Zi (t + 1))), (0, .ref 83), (1, .int (Zi z))]) (N_all_sub ⟨rfl, rfl, rfl, trivial⟩) (show ([2, 0, 1] : List Nat).Nodup by decide) ?_
      have hw := hu.add (n := u.2.1 98 (8 * z + t)) (g := fun i => u.2.1 99 (60 * (8 * z + t) + i)) (w := R_sF (R_fl (R_sA u 111 (u.1 43) (u.2.1 98 (8 * z + t))) 112 (60 * u.1 43) (60 * u.1 43 + u.2.1 98 (8 * z + t)) (fun x => (R_sA u 111 (u.1 43) (u.2.1 98 (8 * z + t))).2.1 99 (60 * (8 * z + t) + (x - 60 * u.1 43)))) 43 (u.1 43 + 1)) (by omega) (fun b hb => R_sF_n _ _ hb) (fun q j h7 h8 => by rw [R_sF_a, R_fl_n h8, R_sA_n _ _ _ _ h7]) rfl (by rw [R_sF_s, e43]) (fun j hj => by rw [R_sF_a, R_fl_n (by decide), R_sA_m _ _ _ _ (by omega)]) (by rw [R_sF_a, R_fl_n (by decide), ← e43, R_sA_s]) (fun j hj => by rw [R_sF_a, R_fl_o (by omega), R_sA_n _ _ _ _ (by decide)]) (fun j j0 j1 => by rw [R_sF_a, R_fl_i (by omega) (by omega), R_sA_n _ _ _ _ (by decide)]; exact congrArg (u.2.1 99) (by omega)) n0 n1 (fun j j0 j1 => by rw [e99]; exact hx j j0 j1)
      have er : D_row (fun i => u.2.1 99 (60 * (8 * z + t) + i)) (u.2.1 98 (8 * z + t)) = R_trow s z t := D_row_eq (e98 _) (fun i _ _ => e99 _)
      rw [er] at hw
      have ef := R_tf_st id s z t0
      rw [show F_one (id (R_trow s z t)) = F_one (R_trow s z t) from rfl] at ef
      rw [ef] at hw
      exact ih (t + 1) _ h (by omega) hs hw (by omega) (by omega)
