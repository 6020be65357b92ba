/-! the class: Machine: what is built: a REPEAT -/
theorem T_cnt_b {op lo hi X : Int} (hc : T_cok op lo hi) (x0 : 0 ≤ X) : 0 ≤ (N_lh op lo hi).1 ∧ (N_lh op lo hi).1 ≤ 20 ∧ ((N_lh op lo hi).2 = -1 ∨ (N_lh op lo hi).1 ≤ (N_lh op lo hi).2 ∧ (N_lh op lo hi).2 ≤ 20) ∧ ((N_lh op lo hi).2 = -1 → 1 + X + (((N_lh op lo hi).1 - 1).toNat : Int) * X ≤ if op = 11 then (if hi = -1 then (lo + 1) * X + 1 else hi * X + hi - lo) else X + 1) ∧ ((N_lh op lo hi).2 ≠ -1 → (((N_lh op lo hi).2 - (N_lh op lo hi).1).toNat : Int) * (X + 1) + ((N_lh op lo hi).1.toNat : Int) * X ≤ if op = 11 then (if hi = -1 then (lo + 1) * X + 1 else hi * X + hi - lo) else X + 1) := by
  rcases hc with ⟨rfl | rfl | rfl, h2, h3⟩ | ⟨rfl, h2, h3, h4⟩
  · rw [N_lh8]
    refine ⟨by decide, by decide, .inl rfl, fun _ => ?_, fun h => absurd rfl h⟩
    rw [if_neg (by decide), show ((((0, -1) : Int × Int).1 - 1).toNat : Int) = 0 from rfl]; omega
  · rw [N_lh9]
    refine ⟨by decide, by decide, .inl rfl, fun _ => ?_, fun h => absurd rfl h⟩
    rw [if_neg (by decide), show ((((1, -1) : Int × Int).1 - 1).toNat : Int) = 0 from rfl]; omega
  · rw [N_lh10]
    refine ⟨by decide, by decide, .inr (by decide), fun h => absurd h (by decide), fun _ => ?_⟩
    rw [if_neg (by decide), show ((((0, 1) : Int × Int).2 - ((0, 1) : Int × Int).1).toNat : Int) = 1 from rfl, show (((0, 1) : Int × Int).1.toNat : Int) = 0 from rfl]; omega
  · rw [N_lh11]
    dsimp only
    refine ⟨h2, h3, h4, fun h => ?_, fun h => ?_⟩
    · rw [if_pos rfl, if_pos h]
      by_cases c : lo = 0
      · rw [c, show (((0 : Int) - 1).toNat : Int) = 0 from rfl]; omega
      · have e : lo = ((lo - 1).toNat : Int) + 1 := by omega
        have : (lo + 1) * X = ((lo - 1).toNat : Int) * X + 2 * X := by
          rw [show lo + 1 = ((lo - 1).toNat : Int) + 2 by omega, Int.add_mul]
        omega
    · rw [if_pos rfl, if_neg h]
      have e1 : ((hi - lo).toNat : Int) = hi - lo := by omega
      have e2 : (lo.toNat : Int) = lo := by omega
      rw [e1, e2]
      have : (hi - lo) * (X + 1) + lo * X = hi * X + hi - lo := by
        rw [Int.mul_add, Int.sub_mul, Int.mul_one]; omega
      omega
theorem C_brep3 {d dd : Nat} {h0 : E_H} {s : C_S} {sl : Nat} {p : List Nat} {o : Nat} {A : Nat → Nat} {tr : Nat} {p2 : List Nat} {A2 : Nat → Nat} {m2 sm : Int} {τ : Nat → Int → Int} {β : Int → Int64} {na nb x i r dep : Int} {tt : P_T} {E cp : Int} {R : (Int → Int) → Int → M_R} (hB : M_BN (d + 2) dd) (hx : M_cx s p o A tr p2 A2 m2 sm τ β) (sw : C_wf s) (hn : N_is τ (T_has β) sm dd 0 na nb x tt) (n0 : 0 ≤ na) (n1 : nb ≤ 168) (nk : τ 0 x ≠ 2) (zr : Zr r) (dep0 : 0 ≤ dep) (hdep : 4 * dep + 3 * (dd : Int) ≤ 143) (hE : E ≤ 202) (zc : Zr cp) (cp1 : cp ≤ 20) : ∀ (c : Nat) (k st : Int) (u : C_S) (h : E_H), c = (cp - k).toNat → 0 ≤ k → k ≤ 20 → (k ≤ cp ∨ k = 0) → C_is h0 h u → M_fb p o A s u → C_F u o 5 + (c : Int) * T_sz tt ≤ E → Zr st → M_bl (M_κ s A) (M_κ u A) (T_has β) sm (C_F s o 5) (C_F u o 5) r st (fun W n => M_seq (M_pow n (M_of W n tt) k.toNat) (R W n)) → B_R (d + 2) E_m21 (141, [(7, .int (Zi k)), (6, .int (Zi st)), (4, .int (Zi x)), (5, .int (Zi cp)), (0, .ref o), (1, .int (Zi i)), (2, .int (Zi r)), (3, .int (Zi dep))], []) h sl (fun z => ∃ s2 : C_S, C_is h0 z.2.1 s2 ∧ ∃ n, z.2.2 = sl + n ∧ M_ps p o A (T_has β) sm s r (fun W n => M_seq (M_pow n (M_of W n tt) cp.toNat) (R W n)) (E - C_F s o 5) z.1 s2 n) := by
  intro c
  have htt := N_is.is _ _ _ _ _ _ hn
  have szq := T_sz_pos htt
  have nr := N_is.r hn
  have zx : Zr x := ⟨by omega, by omega⟩
  have zdep : Zr dep := ⟨by omega, by omega⟩
  induction c with
  | zero =>
    intro k st u h hc k0 k1 k2 hs fb h5 zst bl
    have zk : Zr k := ⟨by omega, by omega⟩
    rw [show ((0 : Nat) : Int) * T_sz tt = 0 from Int.zero_mul _] at h5
    have ek : k.toNat = cp.toNat := by omega
    rw [ek] at bl
    refine Z_go (f2 := (143, [(7, .int (Zi k)), (6, .int (Zi st)), (4, .int (Zi x)), (5, .int (Zi cp)), (0, .ref o), (1, .int (Zi i)), (2, .int (Zi r)), (3, .int (Zi dep))], [.int (Zi k)])) (fun _ => rfl) ?_
    refine Z_go (f2 := (145, [(7, .int (Zi k)), (6, .int (Zi st)), (4, .int (Zi x)), (5, .int (Zi cp)), (0, .ref o), (1, .int (Zi i)), (2, .int (Zi r)), (3, .int (Zi dep))], [.int (Zi cp), .int (Zi k)])) (fun _ => rfl) ?_
    refine Z_cge rfl rfl (by first | exact hs.zF _ _ | exact Zor_r _ _ | exact hs.zA _ _ | assumption | exact zA _ _ | exact zS _ | exact Zr_not (hs.zA _ _) | exact hs.1.1 _ _ | exact ⟨by omega, by omega⟩) (by first | exact hs.zF _ _ | exact Zor_r _ _ | exact hs.zA _ _ | assumption | exact zA _ _ | exact zS _ | exact Zr_not (hs.zA _ _) | exact hs.1.1 _ _ | exact ⟨by omega, by omega⟩) (fun y1 => ?_) (fun y1 => ?_)
    · refine Z_go (f2 := (169, [(7, .int (Zi k)), (6, .int (Zi st)), (4, .int (Zi x)), (5, .int (Zi cp)), (0, .ref o), (1, .int (Zi i)), (2, .int (Zi r)), (3, .int (Zi dep))], [.int (Zi st)])) (fun _ => rfl) ?_
      refine Z_iret rfl rfl (by first | rfl | decide | exact narrow_b01 (by omega)) ?_
      try dsimp only
      exact ⟨_, hs, 0, rfl, rfl, st, zst, rfl, fb, by omega, bl⟩
    · exfalso; omega
  | succ c ih =>
    intro k st u h hc k0 k1 k2 hs fb h5 zst bl
    have zk : Zr k := ⟨by omega, by omega⟩
    have hmul : ((c + 1 : Nat) : Int) * T_sz tt = (c : Int) * T_sz tt + T_sz tt := by rw [Int.natCast_add, Int.add_mul, show ((1 : Nat) : Int) * T_sz tt = T_sz tt from Int.one_mul _]
    have hmp : 0 ≤ (c : Int) * T_sz tt := Int.mul_nonneg (by omega) szq
    rw [hmul] at h5
    have ok := fb.2.2.1.1
    have bl0 := bl.1
    have hxu := fb.cx hx sw (by have := hx.2.2.2.2; omega)
    have hsu := hs
    refine Z_go (f2 := (143, [(7, .int (Zi k)), (6, .int (Zi st)), (4, .int (Zi x)), (5, .int (Zi cp)), (0, .ref o), (1, .int (Zi i)), (2, .int (Zi r)), (3, .int (Zi dep))], [.int (Zi k)])) (fun _ => rfl) ?_
    refine Z_go (f2 := (145, [(7, .int (Zi k)), (6, .int (Zi st)), (4, .int (Zi x)), (5, .int (Zi cp)), (0, .ref o), (1, .int (Zi i)), (2, .int (Zi r)), (3, .int (Zi dep))], [.int (Zi cp), .int (Zi k)])) (fun _ => rfl) ?_
    refine Z_cge rfl rfl (by first | exact hs.zF _ _ | exact Zor_r _ _ | exact hs.zA _ _ | assumption | exact zA _ _ | exact zS _ | exact Zr_not (hs.zA _ _) | exact hs.1.1 _ _ | exact ⟨by omega, by omega⟩) (by first | exact hs.zF _ _ | exact Zor_r _ _ | exact hs.zA _ _ | assumption | exact zA _ _ | exact zS _ | exact Zr_not (hs.zA _ _) | exact hs.1.1 _ _ | exact ⟨by omega, by omega⟩) (fun y1 => ?_) (fun y1 => ?_)
    · exfalso; omega
    · refine Z_go (f2 := (149, [(7, .int (Zi k)), (6, .int (Zi st)), (4, .int (Zi x)), (5, .int (Zi cp)), (0, .ref o), (1, .int (Zi i)), (2, .int (Zi r)), (3, .int (Zi dep))], [.ref o])) (fun _ => rfl) ?_
      refine Z_go (f2 := (151, [(7, .int (Zi k)), (6, .int (Zi st)), (4, .int (Zi x)), (5, .int (Zi cp)), (0, .ref o), (1, .int (Zi i)), (2, .int (Zi r)), (3, .int (Zi dep))], [.int (Zi x), .ref o])) (fun _ => rfl) ?_
      refine Z_go (f2 := (153, [(7, .int (Zi k)), (6, .int (Zi st)), (4, .int (Zi x)), (5, .int (Zi cp)), (0, .ref o), (1, .int (Zi i)), (2, .int (Zi r)), (3, .int (Zi dep))], [.int (Zi st), .int (Zi x), .ref o])) (fun _ => rfl) ?_
      refine Z_go (f2 := (154, [(7, .int (Zi k)), (6, .int (Zi st)), (4, .int (Zi x)), (5, .int (Zi cp)), (0, .ref o), (1, .int (Zi i)), (2, .int (Zi r)), (3, .int (Zi dep))], [.int (Zi dep), .int (Zi st), .int (Zi x), .ref o])) (fun _ => rfl) ?_
      refine Z_go (f2 := (155, [(7, .int (Zi k)), (6, .int (Zi st)), (4, .int (Zi x)), (5, .int (Zi cp)), (0, .ref o), (1, .int (Zi i)), (2, .int (Zi r)), (3, .int (Zi dep))], [.int (Zi 1), .int (Zi dep), .int (Zi st), .int (Zi x), .ref o])) (fun _ => rfl) ?_
      refine Z_iadd rfl ?_
      refine C_callV (As := [.int (Zi x), .int (Zi st), .int (Zi (dep + 1))]) (rest := []) rfl (by decide) rfl (by decide) rfl rfl (by decide +kernel) (Nat.le_of_ble_eq_true rfl) hs ok (hB u p o A tr p2 A2 m2 sm τ β 0 na nb x tt st (dep + 1) hxu hn (by omega) (by omega) zst (by omega) (by omega) (by rw [if_neg (by omega), if_neg (by omega), if_neg nk]; omega) (by omega)) (fun x h v n1 hs q => ?_)
      obtain ⟨rfl, q1, zq1, rfl, fb1, f51, bl1⟩ := q
      have fb := fb.tr fb1
      show B_R _ _ (159, [(7, .int (Zi k)), (6, .int (Zi st)), (4, .int (Zi x)), (5, .int (Zi cp)), (0, .ref o), (1, .int (Zi i)), (2, .int (Zi r)), (3, .int (Zi dep))], [.int (Zi q1)]) _ _ _
      refine Z_go (f2 := (161, [(6, .int (Zi q1)), (7, .int (Zi k)), (4, .int (Zi x)), (5, .int (Zi cp)), (0, .ref o), (1, .int (Zi i)), (2, .int (Zi r)), (3, .int (Zi dep))], [])) (fun _ => rfl) ?_
      refine Z_iinc (L2 := [(7, .int (Zi (k + 1))), (6, .int (Zi q1)), (4, .int (Zi x)), (5, .int (Zi cp)), (0, .ref o), (1, .int (Zi i)), (2, .int (Zi r)), (3, .int (Zi dep))]) rfl rfl (by decide) rfl ?_
      refine Z_go (f2 := (141, [(7, .int (Zi (k + 1))), (6, .int (Zi q1)), (4, .int (Zi x)), (5, .int (Zi cp)), (0, .ref o), (1, .int (Zi i)), (2, .int (Zi r)), (3, .int (Zi dep))], [])) (fun _ => rfl) ?_
      refine B_loc (K := [(7, .int (Zi (k + 1))), (6, .int (Zi q1)), (4, .int (Zi x)), (5, .int (Zi cp)), (0, .ref o), (1, .int (Zi i)), (2, .int (Zi r)), (3, .int (Zi dep))]) (N_all_sub ⟨rfl, rfl, rfl, rfl, rfl, rfl, rfl, rfl, trivial⟩) (show ([7, 6, 4, 5, 0, 1, 2, 3] : List Nat).Nodup by decide) ?_
      refine ih (k + 1) q1 v h (by omega) (by omega) (by omega) (by omega) hs fb (by omega) zq1 ((bl.seq bl1).same (fun W n i j => ?_))
      rw [show (k + 1).toNat = k.toNat + 1 by omega]
      exact M_seq_as.symm
theorem C_brep2 {d dd : Nat} {h0 : E_H} {s : C_S} {sl : Nat} {p : List Nat} {o : Nat} {A : Nat → Nat} {tr : Nat} {p2 : List Nat} {A2 : Nat → Nat} {m2 sm : Int} {τ : Nat → Int → Int} {β : Int → Int64} {na nb x i r dep : Int} {tt : P_T} {E cp lw hg : Int} (hB : M_BN (d + 2) dd) (hx : M_cx s p o A tr p2 A2 m2 sm τ β) (sw : C_wf s) (hn : N_is τ (T_has β) sm dd 0 na nb x tt) (n0 : 0 ≤ na) (n1 : nb ≤ 168) (nk : τ 0 x ≠ 2) (zr : Zr r) (dep0 : 0 ≤ dep) (hdep : 4 * dep + 3 * (dd : Int) ≤ 143) (hE : E ≤ 202) (zc : Zr cp) (cp1 : cp ≤ 20) (cp0 : 0 ≤ cp) (zi : Zr i) (e5 : T_g τ 5 i = lw) (e6 : T_g τ 6 i = hg) (l0 : 0 ≤ lw) (l1 : lw ≤ hg) (l2 : hg ≤ 20) : ∀ (c : Nat) (k st : Int) (u : C_S) (h : E_H), c = (hg - k).toNat → lw ≤ k → k ≤ hg → C_is h0 h u → M_fb p o A s u → C_F u o 5 + (c : Int) * (T_sz tt + 1) + (cp.toNat : Int) * T_sz tt ≤ E → Zr st → M_bl (M_κ s A) (M_κ u A) (T_has β) sm (C_F s o 5) (C_F u o 5) r st (fun W n => M_upto n (M_of W n tt) (k - lw).toNat) → B_R (d + 2) E_m21 (97, [(7, .int (Zi k)), (6, .int (Zi st)), (4, .int (Zi x)), (5, .int (Zi cp)), (0, .ref o), (1, .int (Zi i)), (2, .int (Zi r)), (3, .int (Zi dep))], []) h sl (fun z => ∃ s2 : C_S, C_is h0 z.2.1 s2 ∧ ∃ n, z.2.2 = sl + n ∧ M_ps p o A (T_has β) sm s r (fun W n => M_seq (M_pow n (M_of W n tt) cp.toNat) (M_upto n (M_of W n tt) (hg - lw).toNat)) (E - C_F s o 5) z.1 s2 n) := by
  intro c
  have htt := N_is.is _ _ _ _ _ _ hn
  have szq := T_sz_pos htt
  have nr := N_is.r hn
  have zx : Zr x := ⟨by omega, by omega⟩
  have zdep : Zr dep := ⟨by omega, by omega⟩
  have hmc : 0 ≤ (cp.toNat : Int) * T_sz tt := Int.mul_nonneg (by omega) szq
  have zhg : Zr hg := ⟨by omega, by omega⟩
  induction c with
  | zero =>
    intro k st u h hc k0 k1 hs fb h5 zst bl
    have zk : Zr k := ⟨by omega, by omega⟩
    rw [show ((0 : Nat) : Int) * (T_sz tt + 1) = 0 from Int.zero_mul _] at h5
    obtain rfl : k = hg := by omega
    have ok := fb.2.2.1.1
    have bl0 := bl.1
    have hxu := fb.cx hx sw (by have := hx.2.2.2.2; omega)
    have eu0 := hxu.2.1
    have htr := hxu.2.2.1
    refine Z_go (f2 := (99, [(7, .int (Zi k)), (6, .int (Zi st)), (4, .int (Zi x)), (5, .int (Zi cp)), (0, .ref o), (1, .int (Zi i)), (2, .int (Zi r)), (3, .int (Zi dep))], [.int (Zi k)])) (fun _ => rfl) ?_
    refine Z_go (f2 := (100, [(7, .int (Zi k)), (6, .int (Zi st)), (4, .int (Zi x)), (5, .int (Zi cp)), (0, .ref o), (1, .int (Zi i)), (2, .int (Zi r)), (3, .int (Zi dep))], [.ref o, .int (Zi k)])) (fun _ => rfl) ?_
    refine C_gr rfl hs ok (by decide) (Nat.le_of_ble_eq_true rfl) rfl eu0 ?_
    refine Z_go (f2 := (104, [(7, .int (Zi k)), (6, .int (Zi st)), (4, .int (Zi x)), (5, .int (Zi cp)), (0, .ref o), (1, .int (Zi i)), (2, .int (Zi r)), (3, .int (Zi dep))], [.int (Zi i), .ref tr, .int (Zi k)])) (fun _ => rfl) ?_
    refine C_callVR (As := [.int (Zi i)]) (rest := [.int (Zi k)]) rfl (by decide) rfl (by decide) rfl rfl (by decide +kernel) (Nat.le_of_ble_eq_true rfl) hs htr.1.1 (C_t6 _ htr (i := i) zi) (fun x q => ?_)
    obtain rfl := q
    rw [e6]
    show B_R _ _ (107, [(7, .int (Zi k)), (6, .int (Zi st)), (4, .int (Zi x)), (5, .int (Zi cp)), (0, .ref o), (1, .int (Zi i)), (2, .int (Zi r)), (3, .int (Zi dep))], [.int (Zi k), .int (Zi k)]) _ _ _
    refine Z_cge rfl rfl (by first | exact hs.zF _ _ | exact Zor_r _ _ | exact hs.zA _ _ | assumption | exact zA _ _ | exact zS _ | exact Zr_not (hs.zA _ _) | exact hs.1.1 _ _ | exact ⟨by omega, by omega⟩) (by first | exact hs.zF _ _ | exact Zor_r _ _ | exact hs.zA _ _ | assumption | exact zA _ _ | exact zS _ | exact Zr_not (hs.zA _ _) | exact hs.1.1 _ _ | exact ⟨by omega, by omega⟩) (fun y1 => ?_) (fun y1 => ?_)
    · refine Z_go (f2 := (139, [(7, .int (Zi k)), (6, .int (Zi st)), (4, .int (Zi x)), (5, .int (Zi cp)), (0, .ref o), (1, .int (Zi i)), (2, .int (Zi r)), (3, .int (Zi dep))], [.int (Zi 0)])) (fun _ => rfl) ?_
      refine Z_go (f2 := (141, [(7, .int (Zi 0)), (6, .int (Zi st)), (4, .int (Zi x)), (5, .int (Zi cp)), (0, .ref o), (1, .int (Zi i)), (2, .int (Zi r)), (3, .int (Zi dep))], [])) (fun _ => rfl) ?_
      refine B_loc (K := [(7, .int (Zi 0)), (6, .int (Zi st)), (4, .int (Zi x)), (5, .int (Zi cp)), (0, .ref o), (1, .int (Zi i)), (2, .int (Zi r)), (3, .int (Zi dep))]) (N_all_sub ⟨rfl, rfl, rfl, rfl, rfl, rfl, rfl, rfl, trivial⟩) (show ([7, 6, 4, 5, 0, 1, 2, 3] : List Nat).Nodup by decide) ?_
      exact C_brep3 hB hx sw hn n0 n1 nk zr dep0 hdep hE zc cp1 cp.toNat 0 st u h (by omega) (by omega) (by omega) (.inr rfl) hs fb (by omega) zst (bl.same (fun W n i j => (M_id_seq (bl.2.2.2.2.2 W n)).symm))
    · exfalso; omega
  | succ c ih =>
    intro k st u h hc k0 k1 hs fb h5 zst bl
    have zk : Zr k := ⟨by omega, by omega⟩
    have hmul : ((c + 1 : Nat) : Int) * (T_sz tt + 1) = (c : Int) * (T_sz tt + 1) + (T_sz tt + 1) := by rw [Int.natCast_add, Int.add_mul]; rw [show ((1 : Nat) : Int) * (T_sz tt + 1) = T_sz tt + 1 from Int.one_mul _]
    have hmp : 0 ≤ (c : Int) * (T_sz tt + 1) := Int.mul_nonneg (by omega) (by omega)
    rw [hmul] at h5
    have ok := fb.2.2.1.1
    have bl0 := bl.1
    have hxu := fb.cx hx sw (by have := hx.2.2.2.2; omega)
    have eu0 := hxu.2.1
    have htr := hxu.2.2.1
    have hsu := hs
    refine Z_go (f2 := (99, [(7, .int (Zi k)), (6, .int (Zi st)), (4, .int (Zi x)), (5, .int (Zi cp)), (0, .ref o), (1, .int (Zi i)), (2, .int (Zi r)), (3, .int (Zi dep))], [.int (Zi k)])) (fun _ => rfl) ?_
    refine Z_go (f2 := (100, [(7, .int (Zi k)), (6, .int (Zi st)), (4, .int (Zi x)), (5, .int (Zi cp)), (0, .ref o), (1, .int (Zi i)), (2, .int (Zi r)), (3, .int (Zi dep))], [.ref o, .int (Zi k)])) (fun _ => rfl) ?_
    refine C_gr rfl hs ok (by decide) (Nat.le_of_ble_eq_true rfl) rfl eu0 ?_
    refine Z_go (f2 := (104, [(7, .int (Zi k)), (6, .int (Zi st)), (4, .int (Zi x)), (5, .int (Zi cp)), (0, .ref o), (1, .int (Zi i)), (2, .int (Zi r)), (3, .int (Zi dep))], [.int (Zi i), .ref tr, .int (Zi k)])) (fun _ => rfl) ?_
    refine C_callVR (As := [.int (Zi i)]) (rest := [.int (Zi k)]) rfl (by decide) rfl (by decide) rfl rfl (by decide +kernel) (Nat.le_of_ble_eq_true rfl) hs htr.1.1 (C_t6 _ htr (i := i) zi) (fun x q => ?_)
    obtain rfl := q
    rw [e6]
    show B_R _ _ (107, [(7, .int (Zi k)), (6, .int (Zi st)), (4, .int (Zi x)), (5, .int (Zi cp)), (0, .ref o), (1, .int (Zi i)), (2, .int (Zi r)), (3, .int (Zi dep))], [.int (Zi hg), .int (Zi k)]) _ _ _
    refine Z_cge rfl rfl (by first | exact hs.zF _ _ | exact Zor_r _ _ | exact hs.zA _ _ | assumption | exact zA _ _ | exact zS _ | exact Zr_not (hs.zA _ _) | exact hs.1.1 _ _ | exact ⟨by omega, by omega⟩) (by first | exact hs.zF _ _ | exact Zor_r _ _ | exact hs.zA _ _ | assumption | exact zA _ _ | exact zS _ | exact Zr_not (hs.zA _ _) | exact hs.1.1 _ _ | exact ⟨by omega, by omega⟩) (fun y1 => ?_) (fun y1 => ?_)
    · exfalso; omega
    · refine Z_go (f2 := (111, [(7, .int (Zi k)), (6, .int (Zi st)), (4, .int (Zi x)), (5, .int (Zi cp)), (0, .ref o), (1, .int (Zi i)), (2, .int (Zi r)), (3, .int (Zi dep))], [.ref o])) (fun _ => rfl) ?_
      refine Z_go (f2 := (113, [(7, .int (Zi k)), (6, .int (Zi st)), (4, .int (Zi x)), (5, .int (Zi cp)), (0, .ref o), (1, .int (Zi i)), (2, .int (Zi r)), (3, .int (Zi dep))], [.int (Zi 7), .ref o])) (fun _ => rfl) ?_
      refine Z_go (f2 := (114, [(7, .int (Zi k)), (6, .int (Zi st)), (4, .int (Zi x)), (5, .int (Zi cp)), (0, .ref o), (1, .int (Zi i)), (2, .int (Zi r)), (3, .int (Zi dep))], [.ref o, .int (Zi 7), .ref o])) (fun _ => rfl) ?_
      refine Z_go (f2 := (116, [(7, .int (Zi k)), (6, .int (Zi st)), (4, .int (Zi x)), (5, .int (Zi cp)), (0, .ref o), (1, .int (Zi i)), (2, .int (Zi r)), (3, .int (Zi dep))], [.int (Zi x), .ref o, .int (Zi 7), .ref o])) (fun _ => rfl) ?_
      refine Z_go (f2 := (118, [(7, .int (Zi k)), (6, .int (Zi st)), (4, .int (Zi x)), (5, .int (Zi cp)), (0, .ref o), (1, .int (Zi i)), (2, .int (Zi r)), (3, .int (Zi dep))], [.int (Zi st), .int (Zi x), .ref o, .int (Zi 7), .ref o])) (fun _ => rfl) ?_
      refine Z_go (f2 := (119, [(7, .int (Zi k)), (6, .int (Zi st)), (4, .int (Zi x)), (5, .int (Zi cp)), (0, .ref o), (1, .int (Zi i)), (2, .int (Zi r)), (3, .int (Zi dep))], [.int (Zi dep), .int (Zi st), .int (Zi x), .ref o, .int (Zi 7), .ref o])) (fun _ => rfl) ?_
      refine Z_go (f2 := (120, [(7, .int (Zi k)), (6, .int (Zi st)), (4, .int (Zi x)), (5, .int (Zi cp)), (0, .ref o), (1, .int (Zi i)), (2, .int (Zi r)), (3, .int (Zi dep))], [.int (Zi 1), .int (Zi dep), .int (Zi st), .int (Zi x), .ref o, .int (Zi 7), .ref o])) (fun _ => rfl) ?_
      refine Z_iadd rfl ?_
      refine C_callV (As := [.int (Zi x), .int (Zi st), .int (Zi (dep + 1))]) (rest := [.int (Zi 7), .ref o]) rfl (by decide) rfl (by decide) rfl rfl (by decide +kernel) (Nat.le_of_ble_eq_true rfl) hs ok (hB u p o A tr p2 A2 m2 sm τ β 0 na nb x tt st (dep + 1) hxu hn (by omega) (by omega) zst (by omega) (by omega) (by rw [if_neg (by omega), if_neg (by omega), if_neg nk]; omega) (by omega)) (fun x h v n1 hs q => ?_)
      obtain ⟨rfl, q1, zq1, rfl, fb1, f51, bl1⟩ := q
      have fb := fb.tr fb1
      have bl10 := bl1.1
      have hxv := fb1.cx hxu hsu.1 (by have := hxu.2.2.2.2; omega)
      have hsv := hs
      show B_R _ _ (124, [(7, .int (Zi k)), (6, .int (Zi st)), (4, .int (Zi x)), (5, .int (Zi cp)), (0, .ref o), (1, .int (Zi i)), (2, .int (Zi r)), (3, .int (Zi dep))], [.int (Zi q1), .int (Zi 7), .ref o]) _ _ _
      refine Z_go (f2 := (126, [(7, .int (Zi k)), (6, .int (Zi st)), (4, .int (Zi x)), (5, .int (Zi cp)), (0, .ref o), (1, .int (Zi i)), (2, .int (Zi r)), (3, .int (Zi dep))], [.int (Zi st), .int (Zi q1), .int (Zi 7), .ref o])) (fun _ => rfl) ?_
      refine Z_go (f2 := (127, [(7, .int (Zi k)), (6, .int (Zi st)), (4, .int (Zi x)), (5, .int (Zi cp)), (0, .ref o), (1, .int (Zi i)), (2, .int (Zi r)), (3, .int (Zi dep))], [.int (Zi (-1)), .int (Zi st), .int (Zi q1), .int (Zi 7), .ref o])) (fun _ => rfl) ?_
      refine C_callV (As := [.int (Zi 7), .int (Zi q1), .int (Zi st), .int (Zi (-1))]) (rest := []) rfl (by decide) rfl (by decide) rfl rfl (by decide +kernel) (Nat.le_of_ble_eq_true rfl) hs fb.2.2.1.1 (C_nst _ hxv.1 hxv.2.2.2.2 (by omega) (a := 7) (b := q1) (c := st) (e := -1) ⟨by omega, by omega⟩ zq1 zst ⟨by omega, by omega⟩) (fun x h w n2 hs q => ?_)
      obtain ⟨rfl, rfl, fb2, f52, nw⟩ := q
      have fb := fb.tr fb2
      have zv5 : Zr (C_F v o 5) := hsv.1.1 o 5
      show B_R _ _ (130, [(7, .int (Zi k)), (6, .int (Zi st)), (4, .int (Zi x)), (5, .int (Zi cp)), (0, .ref o), (1, .int (Zi i)), (2, .int (Zi r)), (3, .int (Zi dep))], [.int (Zi (C_F v o 5))]) _ _ _
      refine Z_go (f2 := (132, [(6, .int (Zi (C_F v o 5))), (7, .int (Zi k)), (4, .int (Zi x)), (5, .int (Zi cp)), (0, .ref o), (1, .int (Zi i)), (2, .int (Zi r)), (3, .int (Zi dep))], [])) (fun _ => rfl) ?_
      refine Z_iinc (L2 := [(7, .int (Zi (k + 1))), (6, .int (Zi (C_F v o 5))), (4, .int (Zi x)), (5, .int (Zi cp)), (0, .ref o), (1, .int (Zi i)), (2, .int (Zi r)), (3, .int (Zi dep))]) rfl rfl (by decide) rfl ?_
      refine Z_go (f2 := (97, [(7, .int (Zi (k + 1))), (6, .int (Zi (C_F v o 5))), (4, .int (Zi x)), (5, .int (Zi cp)), (0, .ref o), (1, .int (Zi i)), (2, .int (Zi r)), (3, .int (Zi dep))], [])) (fun _ => rfl) ?_
      refine B_loc (K := [(7, .int (Zi (k + 1))), (6, .int (Zi (C_F v o 5))), (4, .int (Zi x)), (5, .int (Zi cp)), (0, .ref o), (1, .int (Zi i)), (2, .int (Zi r)), (3, .int (Zi dep))]) (N_all_sub ⟨rfl, rfl, rfl, rfl, rfl, rfl, rfl, rfl, trivial⟩) (show ([7, 6, 4, 5, 0, 1, 2, 3] : List Nat).Nodup by decide) ?_
      have bl2 := bl.opt bl1 nw
      rw [← f52] at bl2
      refine ih (k + 1) (C_F v o 5) w h (by omega) (by omega) (by omega) hs fb (by omega) zv5 (bl2.same (fun W n i j => ?_))
      rw [show (k + 1 - lw).toNat = (k - lw).toNat + 1 by omega]
      exact M_upto_s (M_of_rg htt)
theorem C_brep (d : Nat) {s : C_S} {p : List Nat} {o : Nat} {A : Nat → Nat} {tr : Nat} {p2 : List Nat} {A2 : Nat → Nat} {m2 sm : Int} {τ : Nat → Int → Int} {β : Int → Int64} {na nb x9 i r dep : Int} {tt : P_T} {op a b B : Int} {dd : Nat} (hB : M_BN (d + 2) dd) (hx : M_cx s p o A tr p2 A2 m2 sm τ β) (hn : N_is τ (T_has β) sm dd 0 na nb x9 tt) (n0 : 0 ≤ na) (n1 : nb ≤ 168) (nk : τ 0 x9 ≠ 2) (zr : Zr r) (dep0 : 0 ≤ dep) (hdep : 4 * dep + 3 * (dd : Int) ≤ 143) (zi : Zr i) (hc : T_cok op a b) (e1 : T_g τ 1 i = x9) (e5 : T_g τ 5 i = (N_lh op a b).1) (e6 : T_g τ 6 i = (N_lh op a b).2) (hBe : B = if op = 11 then (if b = -1 then (a + 1) * T_sz tt + 1 else b * T_sz tt + b - a) else T_sz tt + 1) (hsz : C_F s o 5 + B ≤ 202) : C_ok (d + 3) 21 [.ref o, .int (Zi i), .int (Zi r), .int (Zi dep)] s (fun x s2 n => M_ps p o A (T_has β) sm s r (fun W n => M_cnt n (M_of W n tt) op a b) B x s2 n) := by
  refine C_enter (M := E_m21) rfl (Nat.le_of_ble_eq_true rfl) (fun h0 h hs => ?_)
  show B_R (d + 2) _ (0, [(0, .ref o), (1, .int (Zi i)), (2, .int (Zi r)), (3, .int (Zi dep))], []) _ _ _
  have sw := hs.1
  have ok := hx.1.1
  have e0 := hx.2.1
  have htr := hx.2.2.1
  have h50 := hx.2.2.2.2
  have zdep : Zr dep := ⟨by omega, by omega⟩
  have htt := N_is.is _ _ _ _ _ _ hn
  have szq := T_sz_pos htt
  have nr := N_is.r hn
  have zx : Zr x9 := ⟨by omega, by omega⟩
  obtain ⟨c1, c2, c3, c4, c5⟩ := T_cnt_b hc szq
  have hce : ∀ W n i j, M_cnt n (M_of W n tt) op a b i j ↔ _ := fun W n i j => M_cnt_b (M_of_rg htt) hc
  rw [← hBe] at c4 c5
  generalize (N_lh op a b).1 = lw at *
  generalize (N_lh op a b).2 = hg at *
  have zlw : Zr lw := ⟨by omega, by omega⟩
  have zhg : Zr hg := ⟨by omega, by omega⟩
  have hml : 0 ≤ ((lw - 1).toNat : Int) * T_sz tt := Int.mul_nonneg (by omega) szq
  have hml2 : 0 ≤ (lw.toNat : Int) * T_sz tt := Int.mul_nonneg (by omega) szq
  have hml3 : 0 ≤ ((hg - lw).toNat : Int) * (T_sz tt + 1) := Int.mul_nonneg (by omega) (by omega)
  refine Z_go (f2 := (1, [(0, .ref o), (1, .int (Zi i)), (2, .int (Zi r)), (3, .int (Zi dep))], [.ref o])) (fun _ => rfl) ?_
  refine C_gr rfl hs ok (by decide) (Nat.le_of_ble_eq_true rfl) rfl e0 ?_
  refine Z_go (f2 := (5, [(0, .ref o), (1, .int (Zi i)), (2, .int (Zi r)), (3, .int (Zi dep))], [.int (Zi i), .ref tr])) (fun _ => rfl) ?_
  refine C_callVR (As := [.int (Zi i)]) (rest := []) rfl (by decide) rfl (by decide) rfl rfl (by decide +kernel) (Nat.le_of_ble_eq_true rfl) hs htr.1.1 (C_t1 _ htr (i := i) zi) (fun x q => ?_)
  obtain rfl := q
  rw [e1]
  show B_R _ _ (8, [(0, .ref o), (1, .int (Zi i)), (2, .int (Zi r)), (3, .int (Zi dep))], [.int (Zi x9)]) _ _ _
  refine Z_go (f2 := (10, [(4, .int (Zi x9)), (0, .ref o), (1, .int (Zi i)), (2, .int (Zi r)), (3, .int (Zi dep))], [])) (fun _ => rfl) ?_
  refine Z_go (f2 := (11, [(4, .int (Zi x9)), (0, .ref o), (1, .int (Zi i)), (2, .int (Zi r)), (3, .int (Zi dep))], [.ref o])) (fun _ => rfl) ?_
  refine C_gr rfl hs ok (by decide) (Nat.le_of_ble_eq_true rfl) rfl e0 ?_
  refine Z_go (f2 := (15, [(4, .int (Zi x9)), (0, .ref o), (1, .int (Zi i)), (2, .int (Zi r)), (3, .int (Zi dep))], [.int (Zi i), .ref tr])) (fun _ => rfl) ?_
  refine C_callVR (As := [.int (Zi i)]) (rest := []) rfl (by decide) rfl (by decide) rfl rfl (by decide +kernel) (Nat.le_of_ble_eq_true rfl) hs htr.1.1 (C_t5 _ htr (i := i) zi) (fun x q => ?_)
  obtain rfl := q
  rw [e5]
  show B_R _ _ (18, [(4, .int (Zi x9)), (0, .ref o), (1, .int (Zi i)), (2, .int (Zi r)), (3, .int (Zi dep))], [.int (Zi lw)]) _ _ _
  refine Z_go (f2 := (20, [(5, .int (Zi lw)), (4, .int (Zi x9)), (0, .ref o), (1, .int (Zi i)), (2, .int (Zi r)), (3, .int (Zi dep))], [])) (fun _ => rfl) ?_
  refine Z_go (f2 := (21, [(5, .int (Zi lw)), (4, .int (Zi x9)), (0, .ref o), (1, .int (Zi i)), (2, .int (Zi r)), (3, .int (Zi dep))], [.int (Zi r)])) (fun _ => rfl) ?_
  refine Z_go (f2 := (23, [(6, .int (Zi r)), (5, .int (Zi lw)), (4, .int (Zi x9)), (0, .ref o), (1, .int (Zi i)), (2, .int (Zi r)), (3, .int (Zi dep))], [])) (fun _ => rfl) ?_
  refine Z_go (f2 := (24, [(6, .int (Zi r)), (5, .int (Zi lw)), (4, .int (Zi x9)), (0, .ref o), (1, .int (Zi i)), (2, .int (Zi r)), (3, .int (Zi dep))], [.ref o])) (fun _ => rfl) ?_
  refine C_gr rfl hs ok (by decide) (Nat.le_of_ble_eq_true rfl) rfl e0 ?_
  refine Z_go (f2 := (28, [(6, .int (Zi r)), (5, .int (Zi lw)), (4, .int (Zi x9)), (0, .ref o), (1, .int (Zi i)), (2, .int (Zi r)), (3, .int (Zi dep))], [.int (Zi i), .ref tr])) (fun _ => rfl) ?_
  refine C_callVR (As := [.int (Zi i)]) (rest := []) rfl (by decide) rfl (by decide) rfl rfl (by decide +kernel) (Nat.le_of_ble_eq_true rfl) hs htr.1.1 (C_t6 _ htr (i := i) zi) (fun x q => ?_)
  obtain rfl := q
  rw [e6]
  show B_R _ _ (31, [(6, .int (Zi r)), (5, .int (Zi lw)), (4, .int (Zi x9)), (0, .ref o), (1, .int (Zi i)), (2, .int (Zi r)), (3, .int (Zi dep))], [.int (Zi hg)]) _ _ _
  refine Z_go (f2 := (32, [(6, .int (Zi r)), (5, .int (Zi lw)), (4, .int (Zi x9)), (0, .ref o), (1, .int (Zi i)), (2, .int (Zi r)), (3, .int (Zi dep))], [.int (Zi (-1)), .int (Zi hg)])) (fun _ => rfl) ?_
  refine Z_cne rfl rfl (by first | exact hs.zF _ _ | exact Zor_r _ _ | exact hs.zA _ _ | assumption | exact zA _ _ | exact zS _ | exact Zr_not (hs.zA _ _) | exact hs.1.1 _ _ | exact ⟨by omega, by omega⟩) (by first | exact hs.zF _ _ | exact Zor_r _ _ | exact hs.zA _ _ | assumption | exact zA _ _ | exact zS _ | exact Zr_not (hs.zA _ _) | exact hs.1.1 _ _ | exact ⟨by omega, by omega⟩) (fun y1 => ?_) (fun y1 => ?_)
  · refine Z_go (f2 := (88, [(6, .int (Zi r)), (5, .int (Zi lw)), (4, .int (Zi x9)), (0, .ref o), (1, .int (Zi i)), (2, .int (Zi r)), (3, .int (Zi dep))], [.ref o])) (fun _ => rfl) ?_
    refine C_gr rfl hs ok (by decide) (Nat.le_of_ble_eq_true rfl) rfl e0 ?_
    refine Z_go (f2 := (92, [(6, .int (Zi r)), (5, .int (Zi lw)), (4, .int (Zi x9)), (0, .ref o), (1, .int (Zi i)), (2, .int (Zi r)), (3, .int (Zi dep))], [.int (Zi i), .ref tr])) (fun _ => rfl) ?_
    refine C_callVR (As := [.int (Zi i)]) (rest := []) rfl (by decide) rfl (by decide) rfl rfl (by decide +kernel) (Nat.le_of_ble_eq_true rfl) hs htr.1.1 (C_t5 _ htr (i := i) zi) (fun x q => ?_)
    obtain rfl := q
    rw [e5]
    show B_R _ _ (95, [(6, .int (Zi r)), (5, .int (Zi lw)), (4, .int (Zi x9)), (0, .ref o), (1, .int (Zi i)), (2, .int (Zi r)), (3, .int (Zi dep))], [.int (Zi lw)]) _ _ _
    refine Z_go (f2 := (97, [(7, .int (Zi lw)), (6, .int (Zi r)), (5, .int (Zi lw)), (4, .int (Zi x9)), (0, .ref o), (1, .int (Zi i)), (2, .int (Zi r)), (3, .int (Zi dep))], [])) (fun _ => rfl) ?_
    refine B_loc (K := [(7, .int (Zi lw)), (6, .int (Zi r)), (4, .int (Zi x9)), (5, .int (Zi lw)), (0, .ref o), (1, .int (Zi i)), (2, .int (Zi r)), (3, .int (Zi dep))]) (N_all_sub ⟨rfl, rfl, rfl, rfl, rfl, rfl, rfl, rfl, trivial⟩) (show ([7, 6, 4, 5, 0, 1, 2, 3] : List Nat).Nodup by decide) ?_
    refine (C_brep2 (sl := 0) (E := C_F s o 5 + B) hB hx sw hn n0 n1 nk zr dep0 hdep hsz zlw c2 c1 zi e5 e6 c1 (by omega) (by omega) (hg - lw).toNat lw r s h rfl (Int.le_refl _) (by omega) hs (M_fb.refl hx.1) (by have := c5 (by omega); omega) zr (M_bl.id.same (fun W n i j => by rw [show (lw - lw).toNat = 0 by omega]; exact M_upto_0.symm))).weak (fun z ⟨s2, g1, n, g2, g3⟩ => ⟨s2, g1, ?_⟩)
    rw [Nat.zero_add] at g2
    rw [g2]
    obtain ⟨y1_, q9, y2_, y3_, y4_, y5_, y6_⟩ := g3
    refine ⟨y1_, q9, y2_, y3_, y4_, by omega, y6_.same (fun W n i j => ?_)⟩
    rw [hce]
    rw [if_neg (by omega)]
  · have hg1 : hg = -1 := by omega
    have c4 := c4 hg1
    refine Z_go (f2 := (36, [(6, .int (Zi r)), (5, .int (Zi lw)), (4, .int (Zi x9)), (0, .ref o), (1, .int (Zi i)), (2, .int (Zi r)), (3, .int (Zi dep))], [.ref o])) (fun _ => rfl) ?_
    refine Z_go (f2 := (38, [(6, .int (Zi r)), (5, .int (Zi lw)), (4, .int (Zi x9)), (0, .ref o), (1, .int (Zi i)), (2, .int (Zi r)), (3, .int (Zi dep))], [.int (Zi 7), .ref o])) (fun _ => rfl) ?_
    refine Z_go (f2 := (39, [(6, .int (Zi r)), (5, .int (Zi lw)), (4, .int (Zi x9)), (0, .ref o), (1, .int (Zi i)), (2, .int (Zi r)), (3, .int (Zi dep))], [.int (Zi (-1)), .int (Zi 7), .ref o])) (fun _ => rfl) ?_
    refine Z_go (f2 := (40, [(6, .int (Zi r)), (5, .int (Zi lw)), (4, .int (Zi x9)), (0, .ref o), (1, .int (Zi i)), (2, .int (Zi r)), (3, .int (Zi dep))], [.int (Zi r), .int (Zi (-1)), .int (Zi 7), .ref o])) (fun _ => rfl) ?_
    refine Z_go (f2 := (41, [(6, .int (Zi r)), (5, .int (Zi lw)), (4, .int (Zi x9)), (0, .ref o), (1, .int (Zi i)), (2, .int (Zi r)), (3, .int (Zi dep))], [.int (Zi (-1)), .int (Zi r), .int (Zi (-1)), .int (Zi 7), .ref o])) (fun _ => rfl) ?_
    refine C_callV (As := [.int (Zi 7), .int (Zi (-1)), .int (Zi r), .int (Zi (-1))]) (rest := []) rfl (by decide) rfl (by decide) rfl rfl (by decide +kernel) (Nat.le_of_ble_eq_true rfl) hs ok (C_nst _ hx.1 h50 (by omega) (a := 7) (b := -1) (c := r) (e := -1) ⟨by omega, by omega⟩ ⟨by omega, by omega⟩ zr ⟨by omega, by omega⟩) (fun x h v n1 hs q => ?_)
    obtain ⟨rfl, rfl, fb1, f51, nw⟩ := q
    have zs5 : Zr (C_F s o 5) := sw.1 o 5
    have hxv := fb1.cx hx sw (by omega)
    have hsv := hs
    show B_R _ _ (44, [(6, .int (Zi r)), (5, .int (Zi lw)), (4, .int (Zi x9)), (0, .ref o), (1, .int (Zi i)), (2, .int (Zi r)), (3, .int (Zi dep))], [.int (Zi (C_F s o 5))]) _ _ _
    refine Z_go (f2 := (46, [(7, .int (Zi (C_F s o 5))), (6, .int (Zi r)), (5, .int (Zi lw)), (4, .int (Zi x9)), (0, .ref o), (1, .int (Zi i)), (2, .int (Zi r)), (3, .int (Zi dep))], [])) (fun _ => rfl) ?_
    refine Z_go (f2 := (47, [(7, .int (Zi (C_F s o 5))), (6, .int (Zi r)), (5, .int (Zi lw)), (4, .int (Zi x9)), (0, .ref o), (1, .int (Zi i)), (2, .int (Zi r)), (3, .int (Zi dep))], [.ref o])) (fun _ => rfl) ?_
    refine Z_go (f2 := (49, [(7, .int (Zi (C_F s o 5))), (6, .int (Zi r)), (5, .int (Zi lw)), (4, .int (Zi x9)), (0, .ref o), (1, .int (Zi i)), (2, .int (Zi r)), (3, .int (Zi dep))], [.int (Zi x9), .ref o])) (fun _ => rfl) ?_
    refine Z_go (f2 := (51, [(7, .int (Zi (C_F s o 5))), (6, .int (Zi r)), (5, .int (Zi lw)), (4, .int (Zi x9)), (0, .ref o), (1, .int (Zi i)), (2, .int (Zi r)), (3, .int (Zi dep))], [.int (Zi (C_F s o 5)), .int (Zi x9), .ref o])) (fun _ => rfl) ?_
    refine Z_go (f2 := (52, [(7, .int (Zi (C_F s o 5))), (6, .int (Zi r)), (5, .int (Zi lw)), (4, .int (Zi x9)), (0, .ref o), (1, .int (Zi i)), (2, .int (Zi r)), (3, .int (Zi dep))], [.int (Zi dep), .int (Zi (C_F s o 5)), .int (Zi x9), .ref o])) (fun _ => rfl) ?_
    refine Z_go (f2 := (53, [(7, .int (Zi (C_F s o 5))), (6, .int (Zi r)), (5, .int (Zi lw)), (4, .int (Zi x9)), (0, .ref o), (1, .int (Zi i)), (2, .int (Zi r)), (3, .int (Zi dep))], [.int (Zi 1), .int (Zi dep), .int (Zi (C_F s o 5)), .int (Zi x9), .ref o])) (fun _ => rfl) ?_
    refine Z_iadd rfl ?_
    refine C_callV (As := [.int (Zi x9), .int (Zi (C_F s o 5)), .int (Zi (dep + 1))]) (rest := []) rfl (by decide) rfl (by decide) rfl rfl (by decide +kernel) (Nat.le_of_ble_eq_true rfl) hs fb1.2.2.1.1 (hB v p o A tr p2 A2 m2 sm τ β 0 na nb x9 tt (C_F s o 5) (dep + 1) hxv hn (by omega) (by omega) zs5 (by omega) (by omega) (by rw [if_neg (by omega), if_neg (by omega), if_neg nk]; omega) (by omega)) (fun x h w n2 hs q => ?_)
    obtain ⟨rfl, q1, zq1, rfl, fb2, f52, bl1⟩ := q
    have fb := fb1.tr fb2
    have bl10 := bl1.1
    obtain ⟨eA2, kA2, tA2⟩ := fb2.2.2.1.2.2.1 2 (by omega)
    show B_R _ _ (57, [(7, .int (Zi (C_F s o 5))), (6, .int (Zi r)), (5, .int (Zi lw)), (4, .int (Zi x9)), (0, .ref o), (1, .int (Zi i)), (2, .int (Zi r)), (3, .int (Zi dep))], [.int (Zi q1)]) _ _ _
    refine Z_go (f2 := (59, [(8, .int (Zi q1)), (7, .int (Zi (C_F s o 5))), (6, .int (Zi r)), (5, .int (Zi lw)), (4, .int (Zi x9)), (0, .ref o), (1, .int (Zi i)), (2, .int (Zi r)), (3, .int (Zi dep))], [])) (fun _ => rfl) ?_
    refine Z_go (f2 := (60, [(8, .int (Zi q1)), (7, .int (Zi (C_F s o 5))), (6, .int (Zi r)), (5, .int (Zi lw)), (4, .int (Zi x9)), (0, .ref o), (1, .int (Zi i)), (2, .int (Zi r)), (3, .int (Zi dep))], [.ref o])) (fun _ => rfl) ?_
    refine C_gr rfl hs fb2.2.2.1.1 (by decide) (Nat.le_of_ble_eq_true rfl) rfl eA2 ?_
    refine Z_go (f2 := (65, [(8, .int (Zi q1)), (7, .int (Zi (C_F s o 5))), (6, .int (Zi r)), (5, .int (Zi lw)), (4, .int (Zi x9)), (0, .ref o), (1, .int (Zi i)), (2, .int (Zi r)), (3, .int (Zi dep))], [.int (Zi (C_F s o 5)), .ref (A 2)])) (fun _ => rfl) ?_
    refine Z_go (f2 := (67, [(8, .int (Zi q1)), (7, .int (Zi (C_F s o 5))), (6, .int (Zi r)), (5, .int (Zi lw)), (4, .int (Zi x9)), (0, .ref o), (1, .int (Zi i)), (2, .int (Zi r)), (3, .int (Zi dep))], [.int (Zi q1), .int (Zi (C_F s o 5)), .ref (A 2)])) (fun _ => rfl) ?_
    refine C_callS (vs := [.ref (A 2), .int (Zi (C_F s o 5)), .int (Zi q1)]) (rest := []) rfl (by decide) rfl rfl rfl (Nat.le_of_ble_eq_true rfl) hs (C_store _ (kA2) (i := C_F s o 5) (v := q1) zs5 zq1) (fun x h x1 n3 hs q => ?_)
    obtain ⟨rfl, rfl, rfl⟩ := q
    rw [if_pos (by omega)] at hs
    have wm := fb2.2.2.1
    have fbx : M_fb p o A s (C_sA w (A 2) (C_F s o 5) q1) := ⟨fb.1.sA tA2, fb.2.1, fb.2.2.1, fb.2.2.2⟩
    have hxx := fbx.cx hx sw (by show 0 ≤ C_F w o 5; omega)
    have ex0 := hxx.2.1
    have htx := hxx.2.2.1
    have nw2 : M_nw (M_κ w A) (M_κ (C_sA w (A 2) (C_F s o 5) q1) A) (C_F s o 5) 7 q1 r (-1) := by
      have out : ∀ f, (f = 1 ∨ f = 3 ∨ f = 4) → ∀ j, C_A (C_sA w (A 2) (C_F s o 5) q1) (A f) j = C_A w (A f) j := fun f hf j => if_neg (fun e => by have := wm.2.2.2 f 2 (by omega) (by omega) e.1; omega)
      have inn : ∀ j, C_A (C_sA w (A 2) (C_F s o 5) q1) (A 2) j = if j = C_F s o 5 then q1 else C_A w (A 2) j := fun j => by
        show (if A 2 = A 2 ∧ j = C_F s o 5 then q1 else C_A w (A 2) j) = _
        by_cases d : j = C_F s o 5
        · rw [if_pos ⟨rfl, d⟩, if_pos d]
        · rw [if_neg (fun e => d e.2), if_neg d]
      have old : ∀ f, M_κ w A f (C_F s o 5) = M_κ v A f (C_F s o 5) := fun f => bl1.2.1 f _ (by omega)
      obtain ⟨z1, z2, z3, z4, z5⟩ := nw
      refine ⟨fun f y hy => ?_, ?_, ?_, ?_, ?_⟩
      · unfold M_κ
        by_cases hf : 1 ≤ f ∧ f ≤ 4
        · rw [if_pos hf, if_pos hf]
          by_cases hf2 : f = 2
          · rw [hf2, inn, if_neg hy]
          · rw [out f (by omega)]
        · rw [if_neg hf, if_neg hf]
      · have := (old 1).trans z2
        unfold M_κ at this ⊢
        rw [if_pos (by omega)] at this ⊢
        rw [out 1 (by omega)]; exact this
      · unfold M_κ
        rw [if_pos (by omega), inn, if_pos rfl]
      · have := (old 3).trans z4
        unfold M_κ at this ⊢
        rw [if_pos (by omega)] at this ⊢
        rw [out 3 (by omega)]; exact this
      · have := (old 4).trans z5
        unfold M_κ at this ⊢
        rw [if_pos (by omega)] at this ⊢
        rw [out 4 (by omega)]; exact this
    rw [f51] at bl1
    obtain ⟨bs1, bs2⟩ := M_bl.star nw bl1 nw2
    have x5 : C_F (C_sA w (A 2) (C_F s o 5) q1) o 5 = C_F w o 5 := rfl
    show B_R _ _ (70, [(8, .int (Zi q1)), (7, .int (Zi (C_F s o 5))), (6, .int (Zi r)), (5, .int (Zi lw)), (4, .int (Zi x9)), (0, .ref o), (1, .int (Zi i)), (2, .int (Zi r)), (3, .int (Zi dep))], []) _ _ _
    refine Z_go (f2 := (72, [(8, .int (Zi q1)), (7, .int (Zi (C_F s o 5))), (6, .int (Zi r)), (5, .int (Zi lw)), (4, .int (Zi x9)), (0, .ref o), (1, .int (Zi i)), (2, .int (Zi r)), (3, .int (Zi dep))], [.int (Zi lw)])) (fun _ => rfl) ?_
    refine Z_ine rfl rfl (by first | exact hs.zF _ _ | exact Zor_r _ _ | exact hs.zA _ _ | assumption | exact zA _ _ | exact zS _ | exact Zr_not (hs.zA _ _) | exact hs.1.1 _ _ | exact ⟨by omega, by omega⟩) (fun y2 => ?_) (fun y2 => ?_)
    · refine Z_go (f2 := (82, [(8, .int (Zi q1)), (7, .int (Zi (C_F s o 5))), (6, .int (Zi r)), (5, .int (Zi lw)), (4, .int (Zi x9)), (0, .ref o), (1, .int (Zi i)), (2, .int (Zi r)), (3, .int (Zi dep))], [.int (Zi q1)])) (fun _ => rfl) ?_
      refine Z_go (f2 := (84, [(6, .int (Zi q1)), (8, .int (Zi q1)), (7, .int (Zi (C_F s o 5))), (5, .int (Zi lw)), (4, .int (Zi x9)), (0, .ref o), (1, .int (Zi i)), (2, .int (Zi r)), (3, .int (Zi dep))], [])) (fun _ => rfl) ?_
      refine Z_iinc (L2 := [(5, .int (Zi (lw + (-1)))), (6, .int (Zi q1)), (8, .int (Zi q1)), (7, .int (Zi (C_F s o 5))), (4, .int (Zi x9)), (0, .ref o), (1, .int (Zi i)), (2, .int (Zi r)), (3, .int (Zi dep))]) rfl rfl (by decide) rfl ?_
      refine Z_go (f2 := (88, [(5, .int (Zi (lw + (-1)))), (6, .int (Zi q1)), (8, .int (Zi q1)), (7, .int (Zi (C_F s o 5))), (4, .int (Zi x9)), (0, .ref o), (1, .int (Zi i)), (2, .int (Zi r)), (3, .int (Zi dep))], [.ref o])) (fun _ => rfl) ?_
      refine C_gr rfl hs fbx.2.2.1.1 (by decide) (Nat.le_of_ble_eq_true rfl) rfl ex0 ?_
      refine Z_go (f2 := (92, [(5, .int (Zi (lw + (-1)))), (6, .int (Zi q1)), (8, .int (Zi q1)), (7, .int (Zi (C_F s o 5))), (4, .int (Zi x9)), (0, .ref o), (1, .int (Zi i)), (2, .int (Zi r)), (3, .int (Zi dep))], [.int (Zi i), .ref tr])) (fun _ => rfl) ?_
      refine C_callVR (As := [.int (Zi i)]) (rest := []) rfl (by decide) rfl (by decide) rfl rfl (by decide +kernel) (Nat.le_of_ble_eq_true rfl) hs htx.1.1 (C_t5 _ htx (i := i) zi) (fun x q => ?_)
      obtain rfl := q
      rw [e5]
      show B_R _ _ (95, [(5, .int (Zi (lw + (-1)))), (6, .int (Zi q1)), (8, .int (Zi q1)), (7, .int (Zi (C_F s o 5))), (4, .int (Zi x9)), (0, .ref o), (1, .int (Zi i)), (2, .int (Zi r)), (3, .int (Zi dep))], [.int (Zi lw)]) _ _ _
      refine Z_go (f2 := (97, [(7, .int (Zi lw)), (5, .int (Zi (lw + (-1)))), (6, .int (Zi q1)), (8, .int (Zi q1)), (4, .int (Zi x9)), (0, .ref o), (1, .int (Zi i)), (2, .int (Zi r)), (3, .int (Zi dep))], [])) (fun _ => rfl) ?_
      refine Z_go (f2 := (99, [(7, .int (Zi lw)), (5, .int (Zi (lw + (-1)))), (6, .int (Zi q1)), (8, .int (Zi q1)), (4, .int (Zi x9)), (0, .ref o), (1, .int (Zi i)), (2, .int (Zi r)), (3, .int (Zi dep))], [.int (Zi lw)])) (fun _ => rfl) ?_
      refine Z_go (f2 := (100, [(7, .int (Zi lw)), (5, .int (Zi (lw + (-1)))), (6, .int (Zi q1)), (8, .int (Zi q1)), (4, .int (Zi x9)), (0, .ref o), (1, .int (Zi i)), (2, .int (Zi r)), (3, .int (Zi dep))], [.ref o, .int (Zi lw)])) (fun _ => rfl) ?_
      refine C_gr rfl hs fbx.2.2.1.1 (by decide) (Nat.le_of_ble_eq_true rfl) rfl ex0 ?_
      refine Z_go (f2 := (104, [(7, .int (Zi lw)), (5, .int (Zi (lw + (-1)))), (6, .int (Zi q1)), (8, .int (Zi q1)), (4, .int (Zi x9)), (0, .ref o), (1, .int (Zi i)), (2, .int (Zi r)), (3, .int (Zi dep))], [.int (Zi i), .ref tr, .int (Zi lw)])) (fun _ => rfl) ?_
      refine C_callVR (As := [.int (Zi i)]) (rest := [.int (Zi lw)]) rfl (by decide) rfl (by decide) rfl rfl (by decide +kernel) (Nat.le_of_ble_eq_true rfl) hs htx.1.1 (C_t6 _ htx (i := i) zi) (fun x q => ?_)
      obtain rfl := q
      rw [e6]
      show B_R _ _ (107, [(7, .int (Zi lw)), (5, .int (Zi (lw + (-1)))), (6, .int (Zi q1)), (8, .int (Zi q1)), (4, .int (Zi x9)), (0, .ref o), (1, .int (Zi i)), (2, .int (Zi r)), (3, .int (Zi dep))], [.int (Zi hg), .int (Zi lw)]) _ _ _
      refine Z_cge rfl rfl (by first | exact hs.zF _ _ | exact Zor_r _ _ | exact hs.zA _ _ | assumption | exact zA _ _ | exact zS _ | exact Zr_not (hs.zA _ _) | exact hs.1.1 _ _ | exact ⟨by omega, by omega⟩) (by first | exact hs.zF _ _ | exact Zor_r _ _ | exact hs.zA _ _ | assumption | exact zA _ _ | exact zS _ | exact Zr_not (hs.zA _ _) | exact hs.1.1 _ _ | exact ⟨by omega, by omega⟩) (fun y71 => ?_) (fun y71 => ?_)
      · refine Z_go (f2 := (139, [(7, .int (Zi lw)), (5, .int (Zi (lw + (-1)))), (6, .int (Zi q1)), (8, .int (Zi q1)), (4, .int (Zi x9)), (0, .ref o), (1, .int (Zi i)), (2, .int (Zi r)), (3, .int (Zi dep))], [.int (Zi 0)])) (fun _ => rfl) ?_
        refine Z_go (f2 := (141, [(7, .int (Zi 0)), (5, .int (Zi (lw + (-1)))), (6, .int (Zi q1)), (8, .int (Zi q1)), (4, .int (Zi x9)), (0, .ref o), (1, .int (Zi i)), (2, .int (Zi r)), (3, .int (Zi dep))], [])) (fun _ => rfl) ?_
        refine B_loc (K := [(7, .int (Zi 0)), (6, .int (Zi q1)), (4, .int (Zi x9)), (5, .int (Zi (lw + (-1)))), (0, .ref o), (1, .int (Zi i)), (2, .int (Zi r)), (3, .int (Zi dep))]) (N_all_sub ⟨rfl, rfl, rfl, rfl, rfl, rfl, rfl, rfl, trivial⟩) (show ([7, 6, 4, 5, 0, 1, 2, 3] : List Nat).Nodup by decide) ?_
        refine (C_brep3 (sl := 0) (E := C_F s o 5 + B) (R := fun W n => M_seq (M_of W n tt) (M_star n (M_of W n tt))) hB hx sw hn n0 n1 nk zr dep0 hdep hsz (cp := lw + (-1)) ⟨by omega, by omega⟩ (by omega) (lw - 1).toNat 0 _ _ h (by omega) (by omega) (by omega) (.inr rfl) hs fbx (by rw [x5]; omega) zq1 (bs2.same (fun W n i j => (M_id_seq (bs2.2.2.2.2.2 W n)).symm))).weak (fun z ⟨s2, g1, n, g2, g3⟩ => ⟨s2, g1, ?_⟩)
        rw [Nat.zero_add] at g2
        rw [g2]
        obtain ⟨y1_, q9, y2_, y3_, y4_, y5_, y6_⟩ := g3
        refine ⟨y1_, q9, y2_, y3_, y4_, by omega, y6_.same (fun W n i j => ?_)⟩
        rw [hce]
        rw [if_pos (by omega), show lw.toNat = (lw + (-1)).toNat + 1 by omega]
        have hpw : ∀ i j, M_pow n (M_of W n tt) ((lw + (-1)).toNat + 1) i j ↔ M_seq (M_pow n (M_of W n tt) (lw + (-1)).toNat) (M_of W n tt) i j := fun i j => by
          rw [M_pow_add (M_of_rg htt) (lw + (-1)).toNat 1 i j]
          constructor
          · rintro ⟨m, a1, a2⟩
            exact ⟨m, a1, (M_seq_id (M_of_rg htt)).mp a2⟩
          · rintro ⟨m, a1, a2⟩
            exact ⟨m, a1, (M_seq_id (M_of_rg htt)).mpr a2⟩
        constructor
        · intro h
          obtain ⟨m, a1, a2⟩ := M_seq_as.mpr h
          exact ⟨m, (hpw _ _).mpr a1, a2⟩
        · rintro ⟨m, a1, a2⟩
          exact M_seq_as.mp ⟨m, (hpw _ _).mp a1, a2⟩
      · exfalso; omega
    · refine Z_go (f2 := (77, [(8, .int (Zi q1)), (7, .int (Zi (C_F s o 5))), (6, .int (Zi r)), (5, .int (Zi lw)), (4, .int (Zi x9)), (0, .ref o), (1, .int (Zi i)), (2, .int (Zi r)), (3, .int (Zi dep))], [.int (Zi (C_F s o 5))])) (fun _ => rfl) ?_
      refine Z_go (f2 := (82, [(8, .int (Zi q1)), (7, .int (Zi (C_F s o 5))), (6, .int (Zi r)), (5, .int (Zi lw)), (4, .int (Zi x9)), (0, .ref o), (1, .int (Zi i)), (2, .int (Zi r)), (3, .int (Zi dep))], [.int (Zi (C_F s o 5))])) (fun _ => rfl) ?_
      refine Z_go (f2 := (84, [(6, .int (Zi (C_F s o 5))), (8, .int (Zi q1)), (7, .int (Zi (C_F s o 5))), (5, .int (Zi lw)), (4, .int (Zi x9)), (0, .ref o), (1, .int (Zi i)), (2, .int (Zi r)), (3, .int (Zi dep))], [])) (fun _ => rfl) ?_
      refine Z_iinc (L2 := [(5, .int (Zi (lw + (-1)))), (6, .int (Zi (C_F s o 5))), (8, .int (Zi q1)), (7, .int (Zi (C_F s o 5))), (4, .int (Zi x9)), (0, .ref o), (1, .int (Zi i)), (2, .int (Zi r)), (3, .int (Zi dep))]) rfl rfl (by decide) rfl ?_
      refine Z_go (f2 := (88, [(5, .int (Zi (lw + (-1)))), (6, .int (Zi (C_F s o 5))), (8, .int (Zi q1)), (7, .int (Zi (C_F s o 5))), (4, .int (Zi x9)), (0, .ref o), (1, .int (Zi i)), (2, .int (Zi r)), (3, .int (Zi dep))], [.ref o])) (fun _ => rfl) ?_
      refine C_gr rfl hs fbx.2.2.1.1 (by decide) (Nat.le_of_ble_eq_true rfl) rfl ex0 ?_
      refine Z_go (f2 := (92, [(5, .int (Zi (lw + (-1)))), (6, .int (Zi (C_F s o 5))), (8, .int (Zi q1)), (7, .int (Zi (C_F s o 5))), (4, .int (Zi x9)), (0, .ref o), (1, .int (Zi i)), (2, .int (Zi r)), (3, .int (Zi dep))], [.int (Zi i), .ref tr])) (fun _ => rfl) ?_
      refine C_callVR (As := [.int (Zi i)]) (rest := []) rfl (by decide) rfl (by decide) rfl rfl (by decide +kernel) (Nat.le_of_ble_eq_true rfl) hs htx.1.1 (C_t5 _ htx (i := i) zi) (fun x q => ?_)
      obtain rfl := q
      rw [e5]
      show B_R _ _ (95, [(5, .int (Zi (lw + (-1)))), (6, .int (Zi (C_F s o 5))), (8, .int (Zi q1)), (7, .int (Zi (C_F s o 5))), (4, .int (Zi x9)), (0, .ref o), (1, .int (Zi i)), (2, .int (Zi r)), (3, .int (Zi dep))], [.int (Zi lw)]) _ _ _
      refine Z_go (f2 := (97, [(7, .int (Zi lw)), (5, .int (Zi (lw + (-1)))), (6, .int (Zi (C_F s o 5))), (8, .int (Zi q1)), (4, .int (Zi x9)), (0, .ref o), (1, .int (Zi i)), (2, .int (Zi r)), (3, .int (Zi dep))], [])) (fun _ => rfl) ?_
      refine Z_go (f2 := (99, [(7, .int (Zi lw)), (5, .int (Zi (lw + (-1)))), (6, .int (Zi (C_F s o 5))), (8, .int (Zi q1)), (4, .int (Zi x9)), (0, .ref o), (1, .int (Zi i)), (2, .int (Zi r)), (3, .int (Zi dep))], [.int (Zi lw)])) (fun _ => rfl) ?_
      refine Z_go (f2 := (100, [(7, .int (Zi lw)), (5, .int (Zi (lw + (-1)))), (6, .int (Zi (C_F s o 5))), (8, .int (Zi q1)), (4, .int (Zi x9)), (0, .ref o), (1, .int (Zi i)), (2, .int (Zi r)), (3, .int (Zi dep))], [.ref o, .int (Zi lw)])) (fun _ => rfl) ?_
      refine C_gr rfl hs fbx.2.2.1.1 (by decide) (Nat.le_of_ble_eq_true rfl) rfl ex0 ?_
      refine Z_go (f2 := (104, [(7, .int (Zi lw)), (5, .int (Zi (lw + (-1)))), (6, .int (Zi (C_F s o 5))), (8, .int (Zi q1)), (4, .int (Zi x9)), (0, .ref o), (1, .int (Zi i)), (2, .int (Zi r)), (3, .int (Zi dep))], [.int (Zi i), .ref tr, .int (Zi lw)])) (fun _ => rfl) ?_
      refine C_callVR (As := [.int (Zi i)]) (rest := [.int (Zi lw)]) rfl (by decide) rfl (by decide) rfl rfl (by decide +kernel) (Nat.le_of_ble_eq_true rfl) hs htx.1.1 (C_t6 _ htx (i := i) zi) (fun x q => ?_)
      obtain rfl := q
      rw [e6]
      show B_R _ _ (107, [(7, .int (Zi lw)), (5, .int (Zi (lw + (-1)))), (6, .int (Zi (C_F s o 5))), (8, .int (Zi q1)), (4, .int (Zi x9)), (0, .ref o), (1, .int (Zi i)), (2, .int (Zi r)), (3, .int (Zi dep))], [.int (Zi hg), .int (Zi lw)]) _ _ _
      refine Z_cge rfl rfl (by first | exact hs.zF _ _ | exact Zor_r _ _ | exact hs.zA _ _ | assumption | exact zA _ _ | exact zS _ | exact Zr_not (hs.zA _ _) | exact hs.1.1 _ _ | exact ⟨by omega, by omega⟩) (by first | exact hs.zF _ _ | exact Zor_r _ _ | exact hs.zA _ _ | assumption | exact zA _ _ | exact zS _ | exact Zr_not (hs.zA _ _) | exact hs.1.1 _ _ | exact ⟨by omega, by omega⟩) (fun y71 => ?_) (fun y71 => ?_)
      · refine Z_go (f2 := (139, [(7, .int (Zi lw)), (5, .int (Zi (lw + (-1)))), (6, .int (Zi (C_F s o 5))), (8, .int (Zi q1)), (4, .int (Zi x9)), (0, .ref o), (1, .int (Zi i)), (2, .int (Zi r)), (3, .int (Zi dep))], [.int (Zi 0)])) (fun _ => rfl) ?_
        refine Z_go (f2 := (141, [(7, .int (Zi 0)), (5, .int (Zi (lw + (-1)))), (6, .int (Zi (C_F s o 5))), (8, .int (Zi q1)), (4, .int (Zi x9)), (0, .ref o), (1, .int (Zi i)), (2, .int (Zi r)), (3, .int (Zi dep))], [])) (fun _ => rfl) ?_
        refine B_loc (K := [(7, .int (Zi 0)), (6, .int (Zi (C_F s o 5))), (4, .int (Zi x9)), (5, .int (Zi (lw + (-1)))), (0, .ref o), (1, .int (Zi i)), (2, .int (Zi r)), (3, .int (Zi dep))]) (N_all_sub ⟨rfl, rfl, rfl, rfl, rfl, rfl, rfl, rfl, trivial⟩) (show ([7, 6, 4, 5, 0, 1, 2, 3] : List Nat).Nodup by decide) ?_
        refine (C_brep3 (sl := 0) (E := C_F s o 5 + B) (R := fun W n => M_star n (M_of W n tt)) hB hx sw hn n0 n1 nk zr dep0 hdep hsz (cp := lw + (-1)) ⟨by omega, by omega⟩ (by omega) 0 0 _ _ h (by omega) (by omega) (by omega) (.inr rfl) hs fbx (by rw [x5, show ((0 : Nat) : Int) * T_sz tt = 0 from Int.zero_mul _]; omega) zs5 (bs1.same (fun W n i j => (M_id_seq (bs1.2.2.2.2.2 W n)).symm))).weak (fun z ⟨s2, g1, n, g2, g3⟩ => ⟨s2, g1, ?_⟩)
        rw [Nat.zero_add] at g2
        rw [g2]
        obtain ⟨y1_, q9, y2_, y3_, y4_, y5_, y6_⟩ := g3
        refine ⟨y1_, q9, y2_, y3_, y4_, by omega, y6_.same (fun W n i j => ?_)⟩
        rw [hce]
        rw [if_pos (by omega), show (lw + (-1)).toNat = 0 by omega, show lw.toNat = 0 by omega]
      · exfalso; omega
