/-! the reference: tells -/
theorem R_addLong (d : Nat) (s : R_S) {e : Int}  (ze : Zr e) (e0 : 0 ≤ e) (w0 : 0 ≤ s.1 43) (w1 : s.1 43 < 160) : R_ok (d + 2) 274 [.int (Zi e)] s (fun x s2 => x = none ∧ s2 = R_sF (R_sA (R_sA (R_sA s 111 (s.1 43) (e / 65536)) 112 (60 * s.1 43) (e / 256 % 256)) 112 (60 * s.1 43 + 1) (e % 256)) 43 (s.1 43 + 1)) := by
  refine R_enter (M := E_m274) rfl (Nat.le_of_ble_eq_true rfl) (fun h0 h hs => ?_)
  show B_R (d + 1) _ (0, [(0, .ref 83), (1, .int (Zi e))], []) _ _ _
  have ze9 := ze.2
  refine Z_go (f2 := (1, [(0, .ref 83), (1, .int (Zi e))], [.ref 83])) (fun _ => rfl) ?_
  refine R_gr (q := 109) rfl hs rfl ?_
  show B_R _ _ (4, [(0, .ref 83), (1, .int (Zi e))], [.ref 111]) _ _ _
  refine Z_go (f2 := (5, [(0, .ref 83), (1, .int (Zi e))], [.ref 83, .ref 111])) (fun _ => rfl) ?_
  refine R_gi rfl hs rfl ?_
  show B_R _ _ (8, [(0, .ref 83), (1, .int (Zi e))], [.int (Zi (s.1 43)), .ref 111]) _ _ _
  refine Z_go (f2 := (9, [(0, .ref 83), (1, .int (Zi e))], [.int (Zi e), .int (Zi (s.1 43)), .ref 111])) (fun _ => rfl) ?_
  refine Z_callQ (vs := [.int (Zi e)]) (rest := [.int (Zi (s.1 43)), .ref 111]) rfl (by decide) rfl rfl rfl (Nat.le_of_ble_eq_true rfl) (R_sizeOf _ (by first | assumption | exact hs.zA _ _ | exact ⟨by omega, by omega⟩) (by omega) (by omega)) (fun x q => ?_)
  obtain rfl := q
  show B_R _ _ (12, [(0, .ref 83), (1, .int (Zi e))], [.int (Zi (e / 65536)), .int (Zi (s.1 43)), .ref 111]) _ _ _
  refine R_is_ (q := 27) rfl hs rfl rfl (by omega) (by omega) (by decide) (by first | exact hs.zF _ | exact Zor_r _ _ | exact hs.zA _ _ | assumption | exact zA _ _ | exact zS _ | exact Zr_not (hs.zA _ _) | exact ⟨by omega, by omega⟩) (fun h hs => ?_)
  refine Z_go (f2 := (14, [(0, .ref 83), (1, .int (Zi e))], [.ref 83])) (fun _ => rfl) ?_
  refine R_gr (q := 110) rfl hs rfl ?_
  show B_R _ _ (17, [(0, .ref 83), (1, .int (Zi e))], [.ref 112]) _ _ _
  refine Z_go (f2 := (19, [(0, .ref 83), (1, .int (Zi e))], [.int (Zi 60), .ref 112])) (fun _ => rfl) ?_
  refine Z_go (f2 := (20, [(0, .ref 83), (1, .int (Zi e))], [.ref 83, .int (Zi 60), .ref 112])) (fun _ => rfl) ?_
  refine R_gi rfl hs rfl ?_
  show B_R _ _ (23, [(0, .ref 83), (1, .int (Zi e))], [.int (Zi (s.1 43)), .int (Zi 60), .ref 112]) _ _ _
  refine Z_imul rfl ?_
  refine Z_go (f2 := (25, [(0, .ref 83), (1, .int (Zi e))], [.int (Zi e), .int (Zi (60 * (s.1 43))), .ref 112])) (fun _ => rfl) ?_
  refine Z_callQ (vs := [.int (Zi e)]) (rest := [.int (Zi (60 * (s.1 43))), .ref 112]) rfl (by decide) rfl rfl rfl (Nat.le_of_ble_eq_true rfl) (R_firstOf _ (by first | assumption | exact hs.zA _ _ | exact ⟨by omega, by omega⟩) (by omega) (by omega)) (fun x q => ?_)
  obtain rfl := q
  show B_R _ _ (28, [(0, .ref 83), (1, .int (Zi e))], [.int (Zi (e / 256 % 256)), .int (Zi (60 * (s.1 43))), .ref 112]) _ _ _
  refine R_is_ (q := 28) rfl hs rfl rfl (by omega) (by omega) (by decide) (by first | exact hs.zF _ | exact Zor_r _ _ | exact hs.zA _ _ | assumption | exact zA _ _ | exact zS _ | exact Zr_not (hs.zA _ _) | exact ⟨by omega, by omega⟩) (fun h hs => ?_)
  refine Z_go (f2 := (30, [(0, .ref 83), (1, .int (Zi e))], [.ref 83])) (fun _ => rfl) ?_
  refine R_gr (q := 110) rfl hs rfl ?_
  show B_R _ _ (33, [(0, .ref 83), (1, .int (Zi e))], [.ref 112]) _ _ _
  refine Z_go (f2 := (35, [(0, .ref 83), (1, .int (Zi e))], [.int (Zi 60), .ref 112])) (fun _ => rfl) ?_
  refine Z_go (f2 := (36, [(0, .ref 83), (1, .int (Zi e))], [.ref 83, .int (Zi 60), .ref 112])) (fun _ => rfl) ?_
  refine R_gi rfl hs rfl ?_
  show B_R _ _ (39, [(0, .ref 83), (1, .int (Zi e))], [.int (Zi (s.1 43)), .int (Zi 60), .ref 112]) _ _ _
  refine Z_imul rfl ?_
  refine Z_go (f2 := (41, [(0, .ref 83), (1, .int (Zi e))], [.int (Zi 1), .int (Zi (60 * (s.1 43))), .ref 112])) (fun _ => rfl) ?_
  refine Z_iadd rfl ?_
  refine Z_go (f2 := (43, [(0, .ref 83), (1, .int (Zi e))], [.int (Zi e), .int (Zi (60 * (s.1 43) + 1)), .ref 112])) (fun _ => rfl) ?_
  refine Z_callQ (vs := [.int (Zi e)]) (rest := [.int (Zi (60 * (s.1 43) + 1)), .ref 112]) rfl (by decide) rfl rfl rfl (Nat.le_of_ble_eq_true rfl) (R_secondOf _ (by first | assumption | exact hs.zA _ _ | exact ⟨by omega, by omega⟩) (by omega) (by omega)) (fun x q => ?_)
  obtain rfl := q
  show B_R _ _ (46, [(0, .ref 83), (1, .int (Zi e))], [.int (Zi (e % 256)), .int (Zi (60 * (s.1 43) + 1)), .ref 112]) _ _ _
  refine R_is_ (q := 28) rfl hs rfl rfl (by omega) (by omega) (by decide) (by first | exact hs.zF _ | exact Zor_r _ _ | exact hs.zA _ _ | assumption | exact zA _ _ | exact zS _ | exact Zr_not (hs.zA _ _) | exact ⟨by omega, by omega⟩) (fun h hs => ?_)
  refine Z_go (f2 := (48, [(0, .ref 83), (1, .int (Zi e))], [.ref 83])) (fun _ => rfl) ?_
  refine Z_go (f2 := (49, [(0, .ref 83), (1, .int (Zi e))], [.ref 83, .ref 83])) (fun _ => rfl) ?_
  refine R_gi rfl hs rfl ?_
  show B_R _ _ (52, [(0, .ref 83), (1, .int (Zi e))], [.int (Zi (s.1 43)), .ref 83]) _ _ _
  refine Z_go (f2 := (53, [(0, .ref 83), (1, .int (Zi e))], [.int (Zi 1), .int (Zi (s.1 43)), .ref 83])) (fun _ => rfl) ?_
  refine Z_iadd rfl ?_
  refine R_pf rfl hs rfl (by first | exact hs.zF _ | exact Zor_r _ _ | exact hs.zA _ _ | assumption | exact zA _ _ | exact zS _ | exact Zr_not (hs.zA _ _) | exact ⟨by omega, by omega⟩) ⟨rfl, rfl, rfl⟩ (fun h hs => ?_)
  refine Z_ret rfl rfl ⟨_, hs, ?_, rfl⟩
  exact ⟨rfl, rfl⟩
/-- the texts of the slot 0 below k are gathered -/
def R_g0 (w u : R_S) (k : Int) : Prop := R_f4 [43] [111, 112] [] w u ∧ u.1 43 = k ∧ ∀ e, 0 ≤ e → e < k → u.2.1 111 e = w.2.1 98 e ∧ ∀ i, 0 ≤ i → i < w.2.1 98 e → u.2.1 112 (60 * e + i) = w.2.1 99 (60 * e + i)
/-- ends below k are gathered -/
def R_gh (q : Nat) (w u : R_S) (k : Int) : Prop := R_f4 [43] [111, 112] [] w u ∧ u.1 43 = k ∧ ∀ e, 0 ≤ e → e < k → u.2.1 111 e = w.2.1 q e / 65536 ∧ u.2.1 112 (60 * e) = w.2.1 q e / 256 % 256 ∧ u.2.1 112 (60 * e + 1) = w.2.1 q e % 256
theorem R_gh.st {q : Nat} {w u : R_S} {k : Int} (h : R_gh q w u k) (k0 : 0 ≤ k) {e : Int} (he : e = w.2.1 q k) : R_gh q w (R_sF (R_sA (R_sA (R_sA u 111 (u.1 43) (e / 65536)) 112 (60 * u.1 43) (e / 256 % 256)) 112 (60 * u.1 43 + 1) (e % 256)) 43 (u.1 43 + 1)) (k + 1) := by
  obtain ⟨h1, h2, h3⟩ := h
  refine ⟨(((h1.sA (by simp)).sA (by simp)).sA (by simp)).sF (by simp), by rw [R_sF_s, h2], fun x x0 x1 => ?_⟩
  rw [R_sF_a, R_sF_a, R_sF_a, R_sA_n _ _ _ _ (by decide), R_sA_n _ _ _ _ (by decide), R_sA_at, R_sA_at, R_sA_at, R_sA_at, R_sA_at, R_sA_n _ _ _ _ (by decide), h2]
  by_cases c : x = k
  · subst c
    rw [if_pos rfl, if_neg (by omega), if_pos rfl, if_pos rfl, he]
    exact ⟨rfl, rfl, rfl⟩
  · obtain ⟨g1, g2, g3⟩ := h3 x x0 (by omega)
    rw [if_neg c, if_neg (by omega), if_neg (by omega), if_neg (by omega), if_neg (by omega), R_sA_n _ _ _ _ (by decide)]
    exact ⟨g1, g2, g3⟩
theorem R_gh.lv {q : Nat} {w u : R_S} {m : Int} (h : R_gh q w u m) (m0 : 0 ≤ m) (m1 : m ≤ 12) (hv : ∀ j, 0 ≤ j → j < m → X_v (w.2.1 q j)) : R_lv u ∧ ∀ e, 0 ≤ e → e < m → R_lrow u e = X_dec (w.2.1 q e) := by
  obtain ⟨h1, h2, h3⟩ := h
  refine ⟨⟨by omega, by omega, fun k k0 k1 => ?_⟩, fun e e0 e1 => ?_⟩
  · rw [h2] at k1
    obtain ⟨g1, g2, g3⟩ := h3 k k0 k1
    have v := hv k k0 k1
    unfold X_v at v
    refine ⟨by omega, by omega, fun j j0 j1 => ?_⟩
    obtain rfl | rfl : j = 60 * k ∨ j = 60 * k + 1 := by omega
    · rw [g2]; omega
    · rw [g3]; omega
  · obtain ⟨g1, g2, g3⟩ := h3 e e0 e1
    have v := hv e e0 e1
    rw [← X_dec_row v]
    refine D_row_eq g1 (fun j j0 j1 => ?_)
    unfold X_v at v
    obtain rfl | rfl : j = 0 ∨ j = 1 := by omega
    · rw [if_pos rfl, Int.add_zero]; exact g2
    · rw [if_neg (by decide)]; exact g3
theorem R_td.keep {u v : R_S} {r q : Nat} {b d N : Int} {L : List (List Int)} (h : R_td u r q b d L) (d0 : 0 ≤ d) (hL : (L.length : Int) ≤ N) (hr : ∀ x ∈ L, (x.length : Int) ≤ d) (e1 : ∀ j, b ≤ j → j < b + N → v.2.1 r j = u.2.1 r j) (e2 : ∀ p x, 0 ≤ p → p < N → 0 ≤ x → x < d → v.2.1 q (d * (b + p) + x) = u.2.1 q (d * (b + p) + x)) : R_td v r q b d L := fun p hp => by
  obtain ⟨h1, h2⟩ := h p hp
  have hx := hr L[p] (List.getElem_mem hp)
  exact ⟨by rw [e1 _ (by omega) (by omega)]; exact h1, fun x hx2 => by rw [e2 p x (by omega) (by omega) (by omega) (by omega)]; exact h2 x hx2⟩
def V_X (v : P_V) : P_X := match v with
  | .inl A => A
  | .inr _ => fun _ => False
/-- the texts told of what (0, 1, 2) are those of C -/
def R_t1 (u : R_S) (wh : Int) (C : P_X) : Prop := ∃ L, X_srt L C ∧ (L.length : Int) = u.2.1 124 wh ∧ L.length ≤ 12 ∧ (∀ r ∈ L, r.length ≤ 60) ∧ R_td u 125 126 (12 * wh) 60 L
def R_tcs (u : R_S) (C : P_X) : Prop := ∃ L, X_srt L C ∧ (L.length : Int) = u.1 56 ∧ L.length ≤ 24 ∧ (∀ r ∈ L, r.length ≤ 640) ∧ R_td u 122 123 0 640 L
theorem R_t1.keep {u v : R_S} {wh : Int} {C : P_X} (h : R_t1 u wh C) (e0 : v.2.1 124 wh = u.2.1 124 wh) (e1 : ∀ j, 12 * wh ≤ j → j < 12 * wh + 12 → v.2.1 125 j = u.2.1 125 j) (e2 : ∀ j, 60 * (12 * wh) ≤ j → j < 60 * (12 * wh) + 720 → v.2.1 126 j = u.2.1 126 j) : R_t1 v wh C := by
  obtain ⟨L, h1, h2, h3, h4, h5⟩ := h
  exact ⟨L, h1, by rw [e0]; exact h2, h3, h4, h5.keep (N := 12) (by decide) (by omega) (fun x hx => by have := h4 x hx; omega) (fun j j0 j1 => e1 j j0 (by omega)) (fun p x p0 p1 x0 x1 => e2 _ (by omega) (by omega))⟩
theorem R_tcs.keep {u v : R_S} {C : P_X} (h : R_tcs u C) (e0 : v.1 56 = u.1 56) (e1 : ∀ j, v.2.1 122 j = u.2.1 122 j) (e2 : ∀ j, v.2.1 123 j = u.2.1 123 j) : R_tcs v C := by
  obtain ⟨L, h1, h2, h3, h4, h5⟩ := h
  exact ⟨L, h1, by rw [e0]; exact h2, h3, h4, fun p hp => by obtain ⟨a, b⟩ := h5 p hp; exact ⟨by rw [e1]; exact a, fun x hx => by rw [e2]; exact b x hx⟩⟩
/-- what is told of the value v -/
def R_told (u : R_S) (v : P_V) : Prop := R_tcs u (V_C v) ∧ R_t1 u 0 (V_X v) ∧ R_t1 u 1 (V_H v) ∧ R_t1 u 2 (V_T v)
theorem R_te_i {d : Nat} {h0 : E_H} {sl : Nat} {Φ : E_R → Prop} {k : Int} {u : R_S} (k0 : 0 ≤ k) (k1 : k < 8) (hn : 0 ≤ u.2.1 98 k ∧ u.2.1 98 k ≤ 60) (kont : ∀ h : E_H, R_is h0 h (R_fl (R_sA u 111 k (u.2.1 98 k)) 112 (60 * k) (60 * k + u.2.1 98 k) (fun j => u.2.1 99 j)) → B_R (d + 6) E_m275 (91, [(1, .int (Zi k)), (0, .ref 83)], []) h sl Φ) : ∀ (t : Nat) (i : Int) (h : E_H), u.2.1 98 k - i < t → R_is h0 h (R_fl (R_sA u 111 k (u.2.1 98 k)) 112 (60 * k) (60 * k + i) (fun j => u.2.1 99 j)) → 0 ≤ i → i ≤ u.2.1 98 k → B_R (d + 6) E_m275 (57, [(2, .int (Zi i)), (1, .int (Zi k)), (0, .ref 83)], []) h sl Φ := by
  intro t
  induction t with
  | zero => intro i h ht hs i0 i1; omega
  | succ t ih =>
    intro i h ht hs i0 i1
    have zn : Zr (u.2.1 98 k) := ⟨by omega, by omega⟩
    have ev : (R_fl (R_sA u 111 k (u.2.1 98 k)) 112 (60 * k) (60 * k + i) (fun j => u.2.1 99 j)).2.1 99 (60 * (8 * 0 + k) + i) = u.2.1 99 (60 * k + i) := by rw [R_fl_n (by decide), R_sA_n _ _ _ _ (by decide), show 60 * (8 * 0 + k) + i = 60 * k + i by omega]
    have zt : Zr (u.2.1 99 (60 * k + i)) := by rw [← ev]; exact hs.zA 99 _
    refine Z_go (f2 := (58, [(2, .int (Zi i)), (1, .int (Zi k)), (0, .ref 83)], [.int (Zi i)])) (fun _ => rfl) ?_
    refine Z_go (f2 := (59, [(2, .int (Zi i)), (1, .int (Zi k)), (0, .ref 83)], [.ref 83, .int (Zi i)])) (fun _ => rfl) ?_
    refine R_gr (q := 96) rfl hs rfl ?_
    show B_R _ _ (62, [(2, .int (Zi i)), (1, .int (Zi k)), (0, .ref 83)], [.ref 98, .int (Zi i)]) _ _ _
    refine Z_go (f2 := (63, [(2, .int (Zi i)), (1, .int (Zi k)), (0, .ref 83)], [.int (Zi k), .ref 98, .int (Zi i)])) (fun _ => rfl) ?_
    refine R_ia (q := 14) rfl hs rfl rfl (by omega) (by omega) (by decide) ?_
    rw [show (R_fl (R_sA u 111 k (u.2.1 98 k)) 112 (60 * k) (60 * k + i) (fun j => u.2.1 99 j)).2.1 98 k = u.2.1 98 k by first | rfl | simp [R_sA, R_sF, R_up2, R_fl, R_fL, R_sM, R_sL, R_p3, R_em]]; show B_R _ _ (64, [(2, .int (Zi i)), (1, .int (Zi k)), (0, .ref 83)], [.int (Zi (u.2.1 98 k)), .int (Zi i)]) _ _ _
    refine Z_cge rfl rfl (by first | exact zt | exact hs.zF _ | exact Zor_r _ _ | exact hs.zA _ _ | assumption | exact zA _ _ | exact zS _ | exact Zr_not (hs.zA _ _) | exact ⟨by omega, by omega⟩) (by first | exact zt | exact hs.zF _ | exact Zor_r _ _ | exact hs.zA _ _ | assumption | exact zA _ _ | exact zS _ | exact Zr_not (hs.zA _ _) | exact ⟨by omega, by omega⟩) (fun c1 => ?_) (fun c1 => ?_)
    · refine B_loc (K := [(1, .int (Zi k)), (0, .ref 83)]) (N_all_sub ⟨rfl, rfl, trivial⟩) (show ([1, 0] : List Nat).Nodup by decide) ?_
      obtain rfl : i = u.2.1 98 k := by omega
      exact kont h hs
    · refine Z_go (f2 := (68, [(2, .int (Zi i)), (1, .int (Zi k)), (0, .ref 83)], [.ref 83])) (fun _ => rfl) ?_
      refine R_gr (q := 110) rfl hs rfl ?_
      show B_R _ _ (71, [(2, .int (Zi i)), (1, .int (Zi k)), (0, .ref 83)], [.ref 112]) _ _ _
      refine Z_go (f2 := (73, [(2, .int (Zi i)), (1, .int (Zi k)), (0, .ref 83)], [.int (Zi 60), .ref 112])) (fun _ => rfl) ?_
      refine Z_go (f2 := (74, [(2, .int (Zi i)), (1, .int (Zi k)), (0, .ref 83)], [.int (Zi k), .int (Zi 60), .ref 112])) (fun _ => rfl) ?_
      refine Z_imul rfl ?_
      refine Z_go (f2 := (76, [(2, .int (Zi i)), (1, .int (Zi k)), (0, .ref 83)], [.int (Zi i), .int (Zi (60 * k)), .ref 112])) (fun _ => rfl) ?_
      refine Z_iadd rfl ?_
      refine Z_go (f2 := (78, [(2, .int (Zi i)), (1, .int (Zi k)), (0, .ref 83)], [.ref 83, .int (Zi (60 * k + i)), .ref 112])) (fun _ => rfl) ?_
      refine Z_go (f2 := (79, [(2, .int (Zi i)), (1, .int (Zi k)), (0, .ref 83)], [.int (Zi 0), .ref 83, .int (Zi (60 * k + i)), .ref 112])) (fun _ => rfl) ?_
      refine Z_go (f2 := (80, [(2, .int (Zi i)), (1, .int (Zi k)), (0, .ref 83)], [.int (Zi k), .int (Zi 0), .ref 83, .int (Zi (60 * k + i)), .ref 112])) (fun _ => rfl) ?_
      refine Z_go (f2 := (81, [(2, .int (Zi i)), (1, .int (Zi k)), (0, .ref 83)], [.int (Zi i), .int (Zi k), .int (Zi 0), .ref 83, .int (Zi (60 * k + i)), .ref 112])) (fun _ => rfl) ?_
      refine R_call (As := [.int (Zi 0), .int (Zi k), .int (Zi i)]) (rest := [.int (Zi (60 * k + i)), .ref 112]) rfl (by decide) rfl rfl rfl rfl (by decide +kernel) (Nat.le_of_ble_eq_true rfl) hs (R_textByte _ (R_fl (R_sA u 111 k (u.2.1 98 k)) 112 (60 * k) (60 * k + i) (fun j => u.2.1 99 j)) ⟨by omega, by omega⟩ ⟨by omega, by omega⟩ ⟨by omega, by omega⟩ (by omega) (by omega)) (fun x h s2 hs q => ?_)
      obtain ⟨q0, v9, rfl, hv9⟩ := q
      rw [q0] at hs
      rw [hv9, ev]
      show B_R _ _ (84, [(2, .int (Zi i)), (1, .int (Zi k)), (0, .ref 83)], [.int (Zi (u.2.1 99 (60 * k + i))), .int (Zi (60 * k + i)), .ref 112]) _ _ _
      refine R_is_ (q := 28) rfl hs rfl rfl (by omega) (by omega) (by decide) (by first | exact zt | exact hs.zF _ | exact Zor_r _ _ | exact hs.zA _ _ | assumption | exact zA _ _ | exact zS _ | exact Zr_not (hs.zA _ _) | exact ⟨by omega, by omega⟩) (fun h hs => ?_)
      refine Z_iinc (L2 := [(2, .int (Zi (i + 1))), (1, .int (Zi k)), (0, .ref 83)]) rfl rfl (by decide) rfl ?_
      refine Z_go (f2 := (57, [(2, .int (Zi (i + 1))), (1, .int (Zi k)), (0, .ref 83)], [])) (fun _ => rfl) ?_
      refine B_loc (K := [(2, .int (Zi (i + 1))), (1, .int (Zi k)), (0, .ref 83)]) (N_all_sub ⟨rfl, rfl, rfl, trivial⟩) (show ([2, 1, 0] : List Nat).Nodup by decide) ?_
      rw [R_fl_st (by omega) rfl rfl] at hs
      exact ih (i + 1) h (by omega) (by rw [← Int.add_assoc]; exact hs) (by omega) (by omega)
theorem R_fl_f4 (s : R_S) (q : Nat) (lo hi : Int) (g : Int → Int) : R_f4 [] [q] [] s (R_fl s q lo hi g) := ⟨fun _ _ => rfl, fun p hp j => R_fl_n (fun e => hp (by rw [e]; exact List.mem_singleton.mpr rfl)) j, rfl, fun _ _ _ => rfl⟩
theorem R_g0.st {w u : R_S} {k : Int} (h : R_g0 w u k) (k0 : 0 ≤ k) (hv : ∀ e, 0 ≤ e → e ≤ k → 0 ≤ w.2.1 98 e ∧ w.2.1 98 e ≤ 60) : R_g0 w (R_sF (R_fl (R_sA u 111 k (u.2.1 98 k)) 112 (60 * k) (60 * k + u.2.1 98 k) (fun j => u.2.1 99 j)) 43 (u.1 43 + 1)) (k + 1) := by
  obtain ⟨h1, h2, h3⟩ := h
  have e98 : ∀ j, u.2.1 98 j = w.2.1 98 j := fun j => h1.2.1 98 (by decide) j
  have e99 : ∀ j, u.2.1 99 j = w.2.1 99 j := fun j => h1.2.1 99 (by decide) j
  have hk := hv k k0 (Int.le_refl _)
  refine ⟨((h1.sA (q := 111) (i := k) (z := u.2.1 98 k) (by simp)).tr (R_fl_f4 _ 112 _ _ _) (by simp) (by simp) (by simp)).sF (by simp), by rw [R_sF_s, h2], fun e e0 e1 => ?_⟩
  rw [R_sF_a, R_fl_n (by decide), R_sA_at]
  by_cases c : e = k
  · subst c
    rw [if_pos rfl]
    refine ⟨e98 e, fun i i0 i1 => ?_⟩
    rw [R_sF_a, R_fl_i (by omega) (by rw [e98]; omega), e99]
  · obtain ⟨g1, g2⟩ := h3 e e0 (by omega)
    have he := hv e e0 (by omega)
    rw [if_neg c]
    refine ⟨g1, fun i i0 i1 => ?_⟩
    rw [R_sF_a, R_fl_o (by rw [e98]; omega), R_sA_n _ _ _ _ (by decide)]
    exact g2 i i0 i1
theorem R_te_o {d : Nat} {h0 : E_H} {w : R_S} {sl : Nat} {Φ : E_R → Prop} {m : Int} (m0 : 0 ≤ m) (m1 : m ≤ 8) (hm : w.2.1 97 0 = m) (hx : w.1 59 ≠ 0) (hv : ∀ e, 0 ≤ e → e < m → 0 ≤ w.2.1 98 e ∧ w.2.1 98 e ≤ 60) (kont : ∀ (u : R_S) (h : E_H), R_is h0 h u → R_g0 w u m → B_R (d + 6) E_m275 (107, [(0, .ref 83)], []) h sl Φ) : ∀ (t : Nat) (k : Int) (u : R_S) (h : E_H), m - k < t → R_is h0 h u → R_g0 w u k → 0 ≤ k → k ≤ m → B_R (d + 6) E_m275 (26, [(1, .int (Zi k)), (0, .ref 83)], []) h sl Φ := by
  intro t
  induction t with
  | zero => intro k u h ht hs hu k0 k1; omega
  | succ t ih =>
    intro k u h ht hs hu k0 k1
    have e97 : u.2.1 97 0 = m := (hu.1.2.1 97 (by decide) 0).trans hm
    have e59 : u.1 59 = w.1 59 := hu.1.1 59 (by decide)
    have e98 : u.2.1 98 k = w.2.1 98 k := hu.1.2.1 98 (by decide) k
    have e43 := hu.2.1
    refine Z_go (f2 := (27, [(1, .int (Zi k)), (0, .ref 83)], [.int (Zi k)])) (fun _ => rfl) ?_
    refine Z_go (f2 := (28, [(1, .int (Zi k)), (0, .ref 83)], [.ref 83, .int (Zi k)])) (fun _ => rfl) ?_
    refine R_gr (q := 95) rfl hs rfl ?_
    show B_R _ _ (31, [(1, .int (Zi k)), (0, .ref 83)], [.ref 97, .int (Zi k)]) _ _ _
    refine Z_go (f2 := (32, [(1, .int (Zi k)), (0, .ref 83)], [.int (Zi 0), .ref 97, .int (Zi k)])) (fun _ => rfl) ?_
    refine R_ia (q := 13) rfl hs rfl rfl (by omega) (by omega) (by decide) ?_
    refine Z_cge rfl rfl (by first | exact hs.zF _ | exact Zor_r _ _ | exact hs.zA _ _ | assumption | exact zA _ _ | exact zS _ | exact Zr_not (hs.zA _ _) | exact ⟨by omega, by omega⟩) (by first | exact hs.zF _ | exact Zor_r _ _ | exact hs.zA _ _ | assumption | exact zA _ _ | exact zS _ | exact Zr_not (hs.zA _ _) | exact ⟨by omega, by omega⟩) (fun c1 => ?_) (fun c1 => ?_)
    · refine B_loc (K := [(0, .ref 83)]) (N_all_sub ⟨rfl, trivial⟩) (show ([0] : List Nat).Nodup by decide) ?_
      obtain rfl : k = m := by omega
      exact kont u h hs hu
    · refine Z_go (f2 := (37, [(1, .int (Zi k)), (0, .ref 83)], [.ref 83])) (fun _ => rfl) ?_
      refine R_gi rfl hs rfl ?_
      show B_R _ _ (40, [(1, .int (Zi k)), (0, .ref 83)], [.int (Zi (u.1 59))]) _ _ _
      refine Z_ieq rfl rfl (by first | exact hs.zF _ | exact Zor_r _ _ | exact hs.zA _ _ | assumption | exact zA _ _ | exact zS _ | exact Zr_not (hs.zA _ _) | exact ⟨by omega, by omega⟩) (fun c2 => ?_) (fun c2 => ?_)
      · exfalso; omega
      · refine Z_go (f2 := (44, [(1, .int (Zi k)), (0, .ref 83)], [.ref 83])) (fun _ => rfl) ?_
        refine R_gr (q := 109) rfl hs rfl ?_
        show B_R _ _ (47, [(1, .int (Zi k)), (0, .ref 83)], [.ref 111]) _ _ _
        refine Z_go (f2 := (48, [(1, .int (Zi k)), (0, .ref 83)], [.int (Zi k), .ref 111])) (fun _ => rfl) ?_
        refine Z_go (f2 := (49, [(1, .int (Zi k)), (0, .ref 83)], [.ref 83, .int (Zi k), .ref 111])) (fun _ => rfl) ?_
        refine R_gr (q := 96) rfl hs rfl ?_
        show B_R _ _ (52, [(1, .int (Zi k)), (0, .ref 83)], [.ref 98, .int (Zi k), .ref 111]) _ _ _
        refine Z_go (f2 := (53, [(1, .int (Zi k)), (0, .ref 83)], [.int (Zi k), .ref 98, .int (Zi k), .ref 111])) (fun _ => rfl) ?_
        refine R_ia (q := 14) rfl hs rfl rfl (by omega) (by omega) (by decide) ?_
        refine R_is_ (q := 27) rfl hs rfl rfl (by omega) (by omega) (by decide) (by first | exact hs.zF _ | exact Zor_r _ _ | exact hs.zA _ _ | assumption | exact zA _ _ | exact zS _ | exact Zr_not (hs.zA _ _) | exact ⟨by omega, by omega⟩) (fun h hs => ?_)
        refine Z_go (f2 := (56, [(1, .int (Zi k)), (0, .ref 83)], [.int (Zi 0)])) (fun _ => rfl) ?_
        refine Z_go (f2 := (57, [(2, .int (Zi 0)), (1, .int (Zi k)), (0, .ref 83)], [])) (fun _ => rfl) ?_
        refine B_loc (K := [(2, .int (Zi 0)), (1, .int (Zi k)), (0, .ref 83)]) (N_all_sub ⟨rfl, rfl, rfl, trivial⟩) (show ([2, 1, 0] : List Nat).Nodup by decide) ?_
        refine R_te_i k0 (by omega) (by rw [e98]; exact hv k k0 (by omega)) (fun h hs => ?_) ((u.2.1 98 k).toNat + 1) 0 h (by omega) (by rw [Int.add_zero, R_fl_0]; exact hs) (by omega) (by rw [e98]; exact (hv k k0 (by omega)).1)
        refine Z_go (f2 := (92, [(1, .int (Zi k)), (0, .ref 83)], [.ref 83])) (fun _ => rfl) ?_
        refine Z_go (f2 := (93, [(1, .int (Zi k)), (0, .ref 83)], [.ref 83, .ref 83])) (fun _ => rfl) ?_
        refine R_gi rfl hs rfl ?_
        show B_R _ _ (96, [(1, .int (Zi k)), (0, .ref 83)], [.int (Zi (u.1 43)), .ref 83]) _ _ _
        refine Z_go (f2 := (97, [(1, .int (Zi k)), (0, .ref 83)], [.int (Zi 1), .int (Zi (u.1 43)), .ref 83])) (fun _ => rfl) ?_
        refine Z_iadd rfl ?_
        refine R_pf rfl hs rfl (by first | exact hs.zF _ | exact Zor_r _ _ | exact hs.zA _ _ | assumption | exact zA _ _ | exact zS _ | exact Zr_not (hs.zA _ _) | exact ⟨by omega, by omega⟩) ⟨rfl, rfl, rfl⟩ (fun h hs => ?_)
        refine Z_iinc (L2 := [(1, .int (Zi (k + 1))), (0, .ref 83)]) rfl rfl (by decide) rfl ?_
        refine Z_go (f2 := (26, [(1, .int (Zi (k + 1))), (0, .ref 83)], [])) (fun _ => rfl) ?_
        refine B_loc (K := [(1, .int (Zi (k + 1))), (0, .ref 83)]) (N_all_sub ⟨rfl, rfl, trivial⟩) (show ([1, 0] : List Nat).Nodup by decide) ?_
        exact ih (k + 1) _ h (by omega) hs (hu.st k0 (fun e e0 e1 => hv e e0 (by omega))) (by omega) (by omega)
theorem R_te_h {d : Nat} {h0 : E_H} {w : R_S} {sl : Nat} {Φ : E_R → Prop} {m : Int} (m0 : 0 ≤ m) (m1 : m ≤ 12) (hm : w.2.1 100 0 = m) (hv : ∀ j, 0 ≤ j → j < m → X_v (w.2.1 101 j)) (kont : ∀ (u : R_S) (h : E_H), R_is h0 h u → R_gh 101 w u m → B_R (d + 6) E_m275 (145, [(0, .ref 83)], []) h sl Φ) : ∀ (t : Nat) (k : Int) (u : R_S) (h : E_H), m - k < t → R_is h0 h u → R_gh 101 w u k → 0 ≤ k → k ≤ m → B_R (d + 6) E_m275 (119, [(1, .int (Zi k)), (0, .ref 83)], []) h sl Φ := by
  intro t
  induction t with
  | zero => intro k u h ht hs hu k0 k1; omega
  | succ t ih =>
    intro k u h ht hs hu k0 k1
    have eq : u.2.1 100 0 = m := (hu.1.2.1 100 (by decide) 0).trans hm
    have ek : u.2.1 101 k = w.2.1 101 k := hu.1.2.1 101 (by decide) k
    have e43 := hu.2.1
    refine Z_go (f2 := (120, [(1, .int (Zi k)), (0, .ref 83)], [.int (Zi k)])) (fun _ => rfl) ?_
    refine Z_go (f2 := (121, [(1, .int (Zi k)), (0, .ref 83)], [.ref 83, .int (Zi k)])) (fun _ => rfl) ?_
    refine R_gr (q := 98) rfl hs rfl ?_
    show B_R _ _ (124, [(1, .int (Zi k)), (0, .ref 83)], [.ref 100, .int (Zi k)]) _ _ _
    refine Z_go (f2 := (125, [(1, .int (Zi k)), (0, .ref 83)], [.int (Zi 0), .ref 100, .int (Zi k)])) (fun _ => rfl) ?_
    refine R_ia (q := 16) rfl hs rfl rfl (by omega) (by omega) (by decide) ?_
    refine Z_cge rfl rfl (by first | exact hs.zF _ | exact Zor_r _ _ | exact hs.zA _ _ | assumption | exact zA _ _ | exact zS _ | exact Zr_not (hs.zA _ _) | exact ⟨by omega, by omega⟩) (by first | exact hs.zF _ | exact Zor_r _ _ | exact hs.zA _ _ | assumption | exact zA _ _ | exact zS _ | exact Zr_not (hs.zA _ _) | exact ⟨by omega, by omega⟩) (fun c1 => ?_) (fun c1 => ?_)
    · refine B_loc (K := [(0, .ref 83)]) (N_all_sub ⟨rfl, trivial⟩) (show ([0] : List Nat).Nodup by decide) ?_
      obtain rfl : k = m := by omega
      exact kont u h hs hu
    · refine Z_go (f2 := (130, [(1, .int (Zi k)), (0, .ref 83)], [.ref 83])) (fun _ => rfl) ?_
      refine Z_go (f2 := (131, [(1, .int (Zi k)), (0, .ref 83)], [.ref 83, .ref 83])) (fun _ => rfl) ?_
      refine R_gr (q := 99) rfl hs rfl ?_
      show B_R _ _ (134, [(1, .int (Zi k)), (0, .ref 83)], [.ref 101, .ref 83]) _ _ _
      refine Z_go (f2 := (135, [(1, .int (Zi k)), (0, .ref 83)], [.int (Zi k), .ref 101, .ref 83])) (fun _ => rfl) ?_
      refine R_ia (q := 17) rfl hs rfl rfl (by omega) (by omega) (by decide) ?_
      refine R_call (As := [.int (Zi (u.2.1 101 k))]) (rest := []) rfl (by decide) rfl rfl rfl rfl (by decide +kernel) (Nat.le_of_ble_eq_true rfl) hs (R_addLong _ u (hs.zA 101 _) (by have := hv k k0 (by omega); rw [ek]; unfold X_v at this; omega) (by omega) (by omega)) (fun x h v hs q => ?_)
      obtain ⟨rfl, e9⟩ := q
      show B_R _ _ (139, [(1, .int (Zi k)), (0, .ref 83)], []) _ _ _
      refine Z_iinc (L2 := [(1, .int (Zi (k + 1))), (0, .ref 83)]) rfl rfl (by decide) rfl ?_
      refine Z_go (f2 := (119, [(1, .int (Zi (k + 1))), (0, .ref 83)], [])) (fun _ => rfl) ?_
      refine B_loc (K := [(1, .int (Zi (k + 1))), (0, .ref 83)]) (N_all_sub ⟨rfl, rfl, trivial⟩) (show ([1, 0] : List Nat).Nodup by decide) ?_
      rw [e9] at hs
      exact ih (k + 1) _ h (by omega) hs (hu.st k0 ek) (by omega) (by omega)
theorem R_te_t {d : Nat} {h0 : E_H} {w : R_S} {sl : Nat} {Φ : E_R → Prop} {m : Int} (m0 : 0 ≤ m) (m1 : m ≤ 12) (hm : w.2.1 102 0 = m) (hv : ∀ j, 0 ≤ j → j < m → X_v (w.2.1 103 j)) (kont : ∀ (u : R_S) (h : E_H), R_is h0 h u → R_gh 103 w u m → B_R (d + 6) E_m275 (183, [(0, .ref 83)], []) h sl Φ) : ∀ (t : Nat) (k : Int) (u : R_S) (h : E_H), m - k < t → R_is h0 h u → R_gh 103 w u k → 0 ≤ k → k ≤ m → B_R (d + 6) E_m275 (157, [(1, .int (Zi k)), (0, .ref 83)], []) h sl Φ := by
  intro t
  induction t with
  | zero => intro k u h ht hs hu k0 k1; omega
  | succ t ih =>
    intro k u h ht hs hu k0 k1
    have eq : u.2.1 102 0 = m := (hu.1.2.1 102 (by decide) 0).trans hm
    have ek : u.2.1 103 k = w.2.1 103 k := hu.1.2.1 103 (by decide) k
    have e43 := hu.2.1
    refine Z_go (f2 := (158, [(1, .int (Zi k)), (0, .ref 83)], [.int (Zi k)])) (fun _ => rfl) ?_
    refine Z_go (f2 := (159, [(1, .int (Zi k)), (0, .ref 83)], [.ref 83, .int (Zi k)])) (fun _ => rfl) ?_
    refine R_gr (q := 100) rfl hs rfl ?_
    show B_R _ _ (162, [(1, .int (Zi k)), (0, .ref 83)], [.ref 102, .int (Zi k)]) _ _ _
    refine Z_go (f2 := (163, [(1, .int (Zi k)), (0, .ref 83)], [.int (Zi 0), .ref 102, .int (Zi k)])) (fun _ => rfl) ?_
    refine R_ia (q := 18) rfl hs rfl rfl (by omega) (by omega) (by decide) ?_
    refine Z_cge rfl rfl (by first | exact hs.zF _ | exact Zor_r _ _ | exact hs.zA _ _ | assumption | exact zA _ _ | exact zS _ | exact Zr_not (hs.zA _ _) | exact ⟨by omega, by omega⟩) (by first | exact hs.zF _ | exact Zor_r _ _ | exact hs.zA _ _ | assumption | exact zA _ _ | exact zS _ | exact Zr_not (hs.zA _ _) | exact ⟨by omega, by omega⟩) (fun c1 => ?_) (fun c1 => ?_)
    · refine B_loc (K := [(0, .ref 83)]) (N_all_sub ⟨rfl, trivial⟩) (show ([0] : List Nat).Nodup by decide) ?_
      obtain rfl : k = m := by omega
      exact kont u h hs hu
    · refine Z_go (f2 := (168, [(1, .int (Zi k)), (0, .ref 83)], [.ref 83])) (fun _ => rfl) ?_
      refine Z_go (f2 := (169, [(1, .int (Zi k)), (0, .ref 83)], [.ref 83, .ref 83])) (fun _ => rfl) ?_
      refine R_gr (q := 101) rfl hs rfl ?_
      show B_R _ _ (172, [(1, .int (Zi k)), (0, .ref 83)], [.ref 103, .ref 83]) _ _ _
      refine Z_go (f2 := (173, [(1, .int (Zi k)), (0, .ref 83)], [.int (Zi k), .ref 103, .ref 83])) (fun _ => rfl) ?_
      refine R_ia (q := 19) rfl hs rfl rfl (by omega) (by omega) (by decide) ?_
      refine R_call (As := [.int (Zi (u.2.1 103 k))]) (rest := []) rfl (by decide) rfl rfl rfl rfl (by decide +kernel) (Nat.le_of_ble_eq_true rfl) hs (R_addLong _ u (hs.zA 103 _) (by have := hv k k0 (by omega); rw [ek]; unfold X_v at this; omega) (by omega) (by omega)) (fun x h v hs q => ?_)
      obtain ⟨rfl, e9⟩ := q
      show B_R _ _ (177, [(1, .int (Zi k)), (0, .ref 83)], []) _ _ _
      refine Z_iinc (L2 := [(1, .int (Zi (k + 1))), (0, .ref 83)]) rfl rfl (by decide) rfl ?_
      refine Z_go (f2 := (157, [(1, .int (Zi (k + 1))), (0, .ref 83)], [])) (fun _ => rfl) ?_
      refine B_loc (K := [(1, .int (Zi (k + 1))), (0, .ref 83)]) (N_all_sub ⟨rfl, rfl, trivial⟩) (show ([1, 0] : List Nat).Nodup by decide) ?_
      rw [e9] at hs
      exact ih (k + 1) _ h (by omega) hs (hu.st k0 ek) (by omega) (by omega)
theorem R_opn_f4 {s u : R_S} {v : P_V} (h : R_opn s 0 v) (ea : ∀ q j, 96 ≤ q → q ≤ 106 → u.2.1 q j = s.2.1 q j) : R_opn u 0 v := by
  obtain ⟨o1, o2, o3, o4⟩ := h
  refine ⟨?_, R_EN_at (ea _ _ (by decide) (by decide)) (fun j _ _ => ea _ _ (by decide) (by decide)) o2, R_EN_at (ea _ _ (by decide) (by decide)) (fun j _ _ => ea _ _ (by decide) (by decide)) o3, R_CC_at (ea _ _ (by decide) (by decide)) (fun j _ _ => ea _ _ (by decide) (by decide)) (fun j _ _ i _ _ => ea _ _ (by decide) (by decide)) o4⟩
  cases v with
  | inl A => exact ⟨by rw [ea _ _ (by decide) (by decide)]; exact o1.1, R_EX_at (ea _ _ (by decide) (by decide)) (fun j _ _ => ea _ _ (by decide) (by decide)) (fun j _ _ i _ _ => ea _ _ (by decide) (by decide)) o1.2⟩
  | inr q => exact ⟨by rw [ea _ _ (by decide) (by decide)]; exact o1.1, R_EN_at (ea _ _ (by decide) (by decide)) (fun j _ _ => ea _ _ (by decide) (by decide)) o1.2.1, R_EN_at (ea _ _ (by decide) (by decide)) (fun j _ _ => ea _ _ (by decide) (by decide)) o1.2.2.1, R_CC_at (ea _ _ (by decide) (by decide)) (fun j _ _ => ea _ _ (by decide) (by decide)) (fun j _ _ i _ _ => ea _ _ (by decide) (by decide)) o1.2.2.2⟩
theorem R_vk.f4 {s u : R_S} {K : Int → Prop} (h : R_vk s u K) : R_f4 [37, 41, 43] [89, 96, 97, 98, 99, 100, 101, 102, 103, 104, 105, 106, 107, 108, 109, 110, 111, 112] [] s u := h.1.f4
theorem R_tells (d : Nat) (s : R_S) {v : P_V} (hv : R_V s 0 v) : R_ok (d + 7) 275 [] s (fun x u => x = none ∧ R_f4 [37, 41, 43, 56, 59] [89, 96, 97, 98, 99, 100, 101, 102, 103, 104, 105, 106, 107, 108, 109, 110, 111, 112, 122, 123, 124, 125, 126] [] s u ∧ R_told u v) := by
  refine R_enter (M := E_m275) rfl (Nat.le_of_ble_eq_true rfl) (fun h0 h hs => ?_)
  show B_R (d + 6) _ (0, [(0, .ref 83)], []) _ _ _
  have h96 : s.2.1 96 0 = 0 ∨ s.2.1 96 0 = 1 := by
    cases v with
    | inl A => exact .inr hv.1
    | inr q => exact .inl hv.1
  refine Z_go (f2 := (1, [(0, .ref 83)], [.ref 83])) (fun _ => rfl) ?_
  refine Z_go (f2 := (2, [(0, .ref 83)], [.ref 83, .ref 83])) (fun _ => rfl) ?_
  refine R_gr (q := 94) rfl hs rfl ?_
  show B_R _ _ (5, [(0, .ref 83)], [.ref 96, .ref 83]) _ _ _
  refine Z_go (f2 := (6, [(0, .ref 83)], [.int (Zi 0), .ref 96, .ref 83])) (fun _ => rfl) ?_
  refine R_ba (q := 12) rfl hs rfl rfl (by omega) (by omega) (by decide) ?_
  refine R_pf rfl hs rfl (by first | exact hs.zF _ | exact Zor_r _ _ | exact hs.zA _ _ | assumption | exact zA _ _ | exact zS _ | exact Zr_not (hs.zA _ _) | exact ⟨by omega, by omega⟩) ⟨rfl, narrow_b01 h96, fits_b01 h96⟩ (fun h hs => ?_)
  refine Z_go (f2 := (11, [(0, .ref 83)], [.ref 83])) (fun _ => rfl) ?_
  refine Z_go (f2 := (12, [(0, .ref 83)], [.int (Zi 0), .ref 83])) (fun _ => rfl) ?_
  refine R_call (As := [.int (Zi 0)]) (rest := []) rfl (by decide) rfl rfl rfl rfl (by decide +kernel) (Nat.le_of_ble_eq_true rfl) hs (R_opens _ (R_sF s 59 (s.2.1 96 0)) ⟨by omega, by omega⟩ (by omega) (by omega) (v := v) hv) (fun x h u1 hs q => ?_)
  obtain ⟨rfl, op, k1⟩ := q
  show B_R _ _ (15, [(0, .ref 83)], []) _ _ _
  refine Z_go (f2 := (16, [(0, .ref 83)], [.ref 83])) (fun _ => rfl) ?_
  refine R_call (As := []) (rest := []) rfl (by decide) rfl rfl rfl rfl (by decide +kernel) (Nat.le_of_ble_eq_true rfl) hs (R_tellsChoices _ u1 op.2.2.2) (fun x h u2 hs q => ?_)
  obtain ⟨rfl, f2, c2⟩ := q
  have c2 : R_tcs u2 (V_C v) := c2
  show B_R _ _ (19, [(0, .ref 83)], []) _ _ _
  refine Z_go (f2 := (20, [(0, .ref 83)], [.ref 83])) (fun _ => rfl) ?_
  refine Z_go (f2 := (21, [(0, .ref 83)], [.int (Zi 0), .ref 83])) (fun _ => rfl) ?_
  refine R_pf rfl hs rfl (by first | exact hs.zF _ | exact Zor_r _ _ | exact hs.zA _ _ | assumption | exact zA _ _ | exact zS _ | exact Zr_not (hs.zA _ _) | exact ⟨by omega, by omega⟩) ⟨rfl, rfl, rfl⟩ (fun h hs => ?_)
  have fA : R_f4 [37, 41, 43, 56, 59] [89, 96, 97, 98, 99, 100, 101, 102, 103, 104, 105, 106, 107, 108, 109, 110, 111, 112, 122, 123, 124, 125, 126] [] s (R_sF u2 43 0) := ((((R_f4.rf _ _ _ s).sF (b := 59) (z := s.2.1 96 0) (by simp)).tr k1.f4 (by simp) (by simp) (by simp)).tr f2 (by simp) (by simp) (by simp)).sF (by simp)
  have cA : R_tcs (R_sF u2 43 0) (V_C v) := c2.keep (R_sF_n _ _ (by decide)) (fun _ => rfl) (fun _ => rfl)
  have x59 : (R_sF u2 43 0).1 59 = s.2.1 96 0 := by rw [R_sF_n _ _ (by decide), f2.1 59 (by decide), k1.f4.1 59 (by decide), R_sF_s]
  have hop : R_opn (R_sF u2 43 0) 0 v := R_opn_f4 op (fun q j q0 q1 => f2.2.1 q (by simp; omega) j)
  have w43 : (R_sF u2 43 0).1 43 = 0 := R_sF_s _ _ _
  generalize R_sF u2 43 0 = w at hs fA cA x59 hop w43
  have main : ∀ (u : R_S) (h : E_H), R_is h0 h u → R_f4 [37, 41, 43, 56, 59] [89, 96, 97, 98, 99, 100, 101, 102, 103, 104, 105, 106, 107, 108, 109, 110, 111, 112, 122, 123, 124, 125, 126] [] s u → R_tcs u (V_C v) → R_opn u 0 v → R_lv u → (u.1 43 ≤ 12) → (∀ i j, 0 ≤ i → i < j → j < u.1 43 → R_lrow u i ≠ R_lrow u j) → (∀ x, V_X v x ↔ ∃ e, 0 ≤ e ∧ e < u.1 43 ∧ x = R_lrow u e) → B_R (d + 6) E_m275 (107, [(0, .ref 83)], []) h 0 (fun r => ∃ s2 : R_S, R_is h0 r.2.1 s2 ∧ (fun (x : Option Value) (u : R_S) => x = none ∧ R_f4 [37, 41, 43, 56, 59] [89, 96, 97, 98, 99, 100, 101, 102, 103, 104, 105, 106, 107, 108, 109, 110, 111, 112, 122, 123, 124, 125, 126] [] s u ∧ R_told u v) r.1 s2 ∧ r.2.2 = 0) := by
    intro u h hs fu cu hop lv m1 ds hX
    refine Z_go (f2 := (108, [(0, .ref 83)], [.ref 83])) (fun _ => rfl) ?_
    refine Z_go (f2 := (109, [(0, .ref 83)], [.int (Zi 0), .ref 83])) (fun _ => rfl) ?_
    refine R_call (As := [.int (Zi 0)]) (rest := []) rfl (by decide) rfl rfl rfl rfl (by decide +kernel) (Nat.le_of_ble_eq_true rfl) hs (R_tellsTexts _ u (wh := 0) ⟨by omega, by omega⟩ (by omega) (by omega) lv m1 ds hX) (fun x h u3 hs q => ?_)
    obtain ⟨rfl, b1, b2, b3, b4, b5⟩ := q
    have T0 : R_t1 u3 0 (V_X v) := by
      obtain ⟨L, l1, l2, l3, l4⟩ := b5
      exact ⟨L, l1, by rw [b2, if_pos rfl]; exact l2, by omega, l3, l4⟩
    show B_R _ _ (112, [(0, .ref 83)], []) _ _ _
    refine Z_go (f2 := (113, [(0, .ref 83)], [.ref 83])) (fun _ => rfl) ?_
    refine Z_go (f2 := (114, [(0, .ref 83)], [.int (Zi 0), .ref 83])) (fun _ => rfl) ?_
    refine R_pf rfl hs rfl (by first | exact hs.zF _ | exact Zor_r _ _ | exact hs.zA _ _ | assumption | exact zA _ _ | exact zS _ | exact Zr_not (hs.zA _ _) | exact ⟨by omega, by omega⟩) ⟨rfl, rfl, rfl⟩ (fun h hs => ?_)
    refine Z_go (f2 := (118, [(0, .ref 83)], [.int (Zi 0)])) (fun _ => rfl) ?_
    refine Z_go (f2 := (119, [(1, .int (Zi 0)), (0, .ref 83)], [])) (fun _ => rfl) ?_
    refine B_loc (K := [(1, .int (Zi 0)), (0, .ref 83)]) (N_all_sub ⟨rfl, rfl, trivial⟩) (show ([1, 0] : List Nat).Nodup by decide) ?_
    have hopk := R_opn_f4 (u := R_sF u3 43 0) (s := u) hop (fun q j q0 q1 => b1.2.1 q (by simp; omega) j)
    obtain ⟨n0, n1, nv, nd, nm⟩ := hopk.2.1
    refine R_te_h (w := R_sF u3 43 0) n0 n1 rfl (fun j j0 j1 => by have := nv j j0 j1; rw [show 12 * 0 + j = j by omega] at this; exact this) (fun y1 h hs hy => ?_) (((R_sF u3 43 0).2.1 100 0).toNat + 1) 0 _ h (by omega) hs ⟨R_f4.rf _ _ _ _, R_sF_s _ _ _, fun e e0 e1 => by omega⟩ (by omega) n0
    obtain ⟨lv1, lr⟩ := hy.lv n0 n1 (fun j j0 j1 => by have := nv j j0 j1; rw [show 12 * 0 + j = j by omega] at this; exact this)
    have m1 : y1.1 43 ≤ 12 := by rw [hy.2.1]; exact n1
    have ds1 : ∀ i j, 0 ≤ i → i < j → j < y1.1 43 → R_lrow y1 i ≠ R_lrow y1 j := fun i j i0 ij j1 => by
      rw [hy.2.1] at j1
      rw [lr i i0 (by omega), lr j (by omega) j1]
      have d1 := nd i j i0 ij j1
      have v1 := nv i i0 (by omega)
      have v2 := nv j (by omega) j1
      rw [show 12 * 0 + i = i by omega, show 12 * 0 + j = j by omega] at d1
      rw [show 12 * 0 + i = i by omega] at v1
      rw [show 12 * 0 + j = j by omega] at v2
      exact fun e => d1 (X_dec_inj v1 v2 e)
    have hX1 : ∀ x, V_H v x ↔ ∃ e, 0 ≤ e ∧ e < y1.1 43 ∧ x = R_lrow y1 e := fun x => by
      rw [hy.2.1]
      refine (nm x).trans ⟨fun ⟨e, e0, e1, e2⟩ => ⟨e, e0, e1, by rw [lr e e0 e1, e2, show 12 * 0 + e = e by omega]⟩, fun ⟨e, e0, e1, e2⟩ => ⟨e, e0, e1, by rw [e2, lr e e0 e1, show 12 * 0 + e = e by omega]⟩⟩
    refine Z_go (f2 := (146, [(0, .ref 83)], [.ref 83])) (fun _ => rfl) ?_
    refine Z_go (f2 := (147, [(0, .ref 83)], [.int (Zi 1), .ref 83])) (fun _ => rfl) ?_
    refine R_call (As := [.int (Zi 1)]) (rest := []) rfl (by decide) rfl rfl rfl rfl (by decide +kernel) (Nat.le_of_ble_eq_true rfl) hs (R_tellsTexts _ y1 (wh := 1) ⟨by omega, by omega⟩ (by omega) (by omega) lv1 m1 ds1 hX1) (fun x h z1 hs q => ?_)
    obtain ⟨rfl, c1, c2_, c3, c4, d5⟩ := q
    have T1 : R_t1 z1 1 (V_H v) := by
      obtain ⟨L, l1, l2, l3, l4⟩ := d5
      exact ⟨L, l1, by rw [c2_, if_pos rfl]; exact l2, by omega, l3, l4⟩
    show B_R _ _ (150, [(0, .ref 83)], []) _ _ _
    refine Z_go (f2 := (151, [(0, .ref 83)], [.ref 83])) (fun _ => rfl) ?_
    refine Z_go (f2 := (152, [(0, .ref 83)], [.int (Zi 0), .ref 83])) (fun _ => rfl) ?_
    refine R_pf rfl hs rfl (by first | exact hs.zF _ | exact Zor_r _ _ | exact hs.zA _ _ | assumption | exact zA _ _ | exact zS _ | exact Zr_not (hs.zA _ _) | exact ⟨by omega, by omega⟩) ⟨rfl, rfl, rfl⟩ (fun h hs => ?_)
    refine Z_go (f2 := (156, [(0, .ref 83)], [.int (Zi 0)])) (fun _ => rfl) ?_
    refine Z_go (f2 := (157, [(1, .int (Zi 0)), (0, .ref 83)], [])) (fun _ => rfl) ?_
    have fz1 := hy.1
    refine B_loc (K := [(1, .int (Zi 0)), (0, .ref 83)]) (N_all_sub ⟨rfl, rfl, trivial⟩) (show ([1, 0] : List Nat).Nodup by decide) ?_
    have hopk := R_opn_f4 (u := R_sF z1 43 0) (s := u) hop (fun q j q0 q1 => (c1.2.1 q (by simp; omega) j).trans ((fz1.2.1 q (by simp; omega) j).trans (b1.2.1 q (by simp; omega) j)))
    obtain ⟨n0, n1, nv, nd, nm⟩ := hopk.2.2.1
    refine R_te_t (w := R_sF z1 43 0) n0 n1 rfl (fun j j0 j1 => by have := nv j j0 j1; rw [show 12 * 0 + j = j by omega] at this; exact this) (fun y2 h hs hy2 => ?_) (((R_sF z1 43 0).2.1 102 0).toNat + 1) 0 _ h (by omega) hs ⟨R_f4.rf _ _ _ _, R_sF_s _ _ _, fun e e0 e1 => by omega⟩ (by omega) n0
    obtain ⟨lv2, lr⟩ := hy2.lv n0 n1 (fun j j0 j1 => by have := nv j j0 j1; rw [show 12 * 0 + j = j by omega] at this; exact this)
    have m2 : y2.1 43 ≤ 12 := by rw [hy2.2.1]; exact n1
    have ds2 : ∀ i j, 0 ≤ i → i < j → j < y2.1 43 → R_lrow y2 i ≠ R_lrow y2 j := fun i j i0 ij j1 => by
      rw [hy2.2.1] at j1
      rw [lr i i0 (by omega), lr j (by omega) j1]
      have d1 := nd i j i0 ij j1
      have v1 := nv i i0 (by omega)
      have v2 := nv j (by omega) j1
      rw [show 12 * 0 + i = i by omega, show 12 * 0 + j = j by omega] at d1
      rw [show 12 * 0 + i = i by omega] at v1
      rw [show 12 * 0 + j = j by omega] at v2
      exact fun e => d1 (X_dec_inj v1 v2 e)
    have hX2 : ∀ x, V_T v x ↔ ∃ e, 0 ≤ e ∧ e < y2.1 43 ∧ x = R_lrow y2 e := fun x => by
      rw [hy2.2.1]
      refine (nm x).trans ⟨fun ⟨e, e0, e1, e2⟩ => ⟨e, e0, e1, by rw [lr e e0 e1, e2, show 12 * 0 + e = e by omega]⟩, fun ⟨e, e0, e1, e2⟩ => ⟨e, e0, e1, by rw [e2, lr e e0 e1, show 12 * 0 + e = e by omega]⟩⟩
    refine Z_go (f2 := (184, [(0, .ref 83)], [.ref 83])) (fun _ => rfl) ?_
    refine Z_go (f2 := (185, [(0, .ref 83)], [.int (Zi 2), .ref 83])) (fun _ => rfl) ?_
    refine R_call (As := [.int (Zi 2)]) (rest := []) rfl (by decide) rfl rfl rfl rfl (by decide +kernel) (Nat.le_of_ble_eq_true rfl) hs (R_tellsTexts _ y2 (wh := 2) ⟨by omega, by omega⟩ (by omega) (by omega) lv2 m2 ds2 hX2) (fun x h z2 hs q => ?_)
    obtain ⟨rfl, d1, d2, d3, d4, d5⟩ := q
    have T2 : R_t1 z2 2 (V_T v) := by
      obtain ⟨L, l1, l2, l3, l4⟩ := d5
      exact ⟨L, l1, by rw [d2, if_pos rfl]; exact l2, by omega, l3, l4⟩
    show B_R _ _ (188, [(0, .ref 83)], []) _ _ _
    refine Z_ret rfl rfl ⟨_, hs, ?_, rfl⟩
    refine ⟨rfl, ((((((fu.tr b1 (by simp) (by simp) (by simp)).sF (b := 43) (z := 0) (by simp)).tr fz1 (by simp) (by simp) (by simp)).tr c1 (by simp) (by simp) (by simp)).sF (b := 43) (z := 0) (by simp)).tr hy2.1 (by simp) (by simp) (by simp)).tr d1 (by simp) (by simp) (by simp), ?_, ?_, ?_, T2⟩
    · refine cu.keep ?_ (fun j => ?_) (fun j => ?_)
      · rw [d1.1 56 (by simp), hy2.1.1 56 (by simp), R_sF_n _ _ (by decide), c1.1 56 (by simp), fz1.1 56 (by simp), R_sF_n _ _ (by decide), b1.1 56 (by simp)]
      · rw [d1.2.1 122 (by simp), hy2.1.2.1 122 (by simp), R_sF_a, c1.2.1 122 (by simp), fz1.2.1 122 (by simp), R_sF_a, b1.2.1 122 (by simp)]
      · rw [d1.2.1 123 (by simp), hy2.1.2.1 123 (by simp), R_sF_a, c1.2.1 123 (by simp), fz1.2.1 123 (by simp), R_sF_a, b1.2.1 123 (by simp)]
    · refine T0.keep ?_ (fun j j0 j1 => ?_) (fun j j0 j1 => ?_)
      · rw [d2, if_neg (by decide), hy2.1.2.1 124 (by simp), R_sF_a, c2_, if_neg (by decide), fz1.2.1 124 (by simp), R_sF_a]
      · rw [d3 j (by omega), hy2.1.2.1 125 (by simp), R_sF_a, c3 j (by omega), fz1.2.1 125 (by simp), R_sF_a]
      · rw [d4 j (by omega), hy2.1.2.1 126 (by simp), R_sF_a, c4 j (by omega), fz1.2.1 126 (by simp), R_sF_a]
    · refine T1.keep ?_ (fun j j0 j1 => ?_) (fun j j0 j1 => ?_)
      · rw [d2, if_neg (by decide), hy2.1.2.1 124 (by simp), R_sF_a]
      · rw [d3 j (by omega), hy2.1.2.1 125 (by simp), R_sF_a]
      · rw [d4 j (by omega), hy2.1.2.1 126 (by simp), R_sF_a]
  have h0e : v = v := rfl
  by_cases c : s.2.1 96 0 = 0
  · refine Z_go (f2 := (25, [(0, .ref 83)], [.int (Zi 0)])) (fun _ => rfl) ?_
    refine Z_go (f2 := (26, [(1, .int (Zi 0)), (0, .ref 83)], [])) (fun _ => rfl) ?_
    refine Z_go (f2 := (27, [(1, .int (Zi 0)), (0, .ref 83)], [.int (Zi 0)])) (fun _ => rfl) ?_
    refine Z_go (f2 := (28, [(1, .int (Zi 0)), (0, .ref 83)], [.ref 83, .int (Zi 0)])) (fun _ => rfl) ?_
    refine R_gr (q := 95) rfl hs rfl ?_
    show B_R _ _ (31, [(1, .int (Zi 0)), (0, .ref 83)], [.ref 97, .int (Zi 0)]) _ _ _
    refine Z_go (f2 := (32, [(1, .int (Zi 0)), (0, .ref 83)], [.int (Zi 0), .ref 97, .int (Zi 0)])) (fun _ => rfl) ?_
    refine R_ia (q := 13) rfl hs rfl rfl (by omega) (by omega) (by decide) ?_
    refine Z_cge rfl rfl (by first | exact hs.zF _ | exact Zor_r _ _ | exact hs.zA _ _ | assumption | exact zA _ _ | exact zS _ | exact Zr_not (hs.zA _ _) | exact ⟨by omega, by omega⟩) (by first | exact hs.zF _ | exact Zor_r _ _ | exact hs.zA _ _ | assumption | exact zA _ _ | exact zS _ | exact Zr_not (hs.zA _ _) | exact ⟨by omega, by omega⟩) (fun c1 => ?_) (fun c1 => ?_)
    · refine B_loc (K := [(0, .ref 83)]) (N_all_sub ⟨rfl, trivial⟩) (show ([0] : List Nat).Nodup by decide) ?_
      cases v with
      | inl A => exact absurd hv.1 (by omega)
      | inr q =>
        exact main w h hs fA cA hop ⟨by omega, by omega, fun k k0 k1 => by omega⟩ (by omega) (fun i j i0 ij j1 => by omega) (fun x => ⟨False.elim, fun ⟨e, e0, e1, _⟩ => by omega⟩)
    · refine Z_go (f2 := (37, [(1, .int (Zi 0)), (0, .ref 83)], [.ref 83])) (fun _ => rfl) ?_
      refine R_gi rfl hs rfl ?_
      show B_R _ _ (40, [(1, .int (Zi 0)), (0, .ref 83)], [.int (Zi (w.1 59))]) _ _ _
      refine Z_ieq rfl rfl (by first | exact hs.zF _ | exact Zor_r _ _ | exact hs.zA _ _ | assumption | exact zA _ _ | exact zS _ | exact Zr_not (hs.zA _ _) | exact ⟨by omega, by omega⟩) (fun c2 => ?_) (fun c2 => ?_)
      · refine B_loc (K := [(0, .ref 83)]) (N_all_sub ⟨rfl, trivial⟩) (show ([0] : List Nat).Nodup by decide) ?_
        cases v with
        | inl A => exact absurd hv.1 (by omega)
        | inr q =>
          exact main w h hs fA cA hop ⟨by omega, by omega, fun k k0 k1 => by omega⟩ (by omega) (fun i j i0 ij j1 => by omega) (fun x => ⟨False.elim, fun ⟨e, e0, e1, _⟩ => by omega⟩)
      · exfalso; omega
  · refine Z_go (f2 := (25, [(0, .ref 83)], [.int (Zi 0)])) (fun _ => rfl) ?_
    refine Z_go (f2 := (26, [(1, .int (Zi 0)), (0, .ref 83)], [])) (fun _ => rfl) ?_
    cases v with
    | inr q => exact absurd hv.1 c
    | inl A =>
      obtain ⟨t0, t1, t2⟩ := hop.1.2
      obtain ⟨t3, t4, t5⟩ := id t0
      have hv2 : ∀ e, 0 ≤ e → e < w.2.1 97 0 → 0 ≤ w.2.1 98 e ∧ w.2.1 98 e ≤ 60 := fun e e0 e1 => by
        have := t5 e e0 e1
        rw [show 8 * 0 + e = e by omega] at this
        exact ⟨this.1, this.2.1⟩
      refine R_te_o (w := w) t3 t4 rfl (by rw [x59]; exact c) hv2 (fun u h hs hu => ?_) ((w.2.1 97 0).toNat + 1) 0 w h (by omega) hs ⟨R_f4.rf _ _ _ _, w43, fun e e0 e1 => by omega⟩ (by omega) t3
      have er : ∀ e, 0 ≤ e → e < w.2.1 97 0 → R_lrow u e = R_trow w 0 e := fun e e0 e1 => by
        obtain ⟨g1, g2⟩ := hu.2.2 e e0 e1
        exact D_row_eq (by rw [g1, show 8 * 0 + e = e by omega]) (fun j j0 j1 => by rw [g1] at j1; rw [g2 j j0 j1, show 8 * 0 + e = e by omega])
      have hlv : R_lv u := ⟨by rw [hu.2.1]; exact t3, by rw [hu.2.1]; omega, fun k k0 k1 => by
        rw [hu.2.1] at k1
        obtain ⟨g1, g2⟩ := hu.2.2 k k0 k1
        have := t5 k k0 k1
        rw [show 8 * 0 + k = k by omega] at this
        refine ⟨by omega, by omega, fun j j0 j1 => ?_⟩
        have g3 := g2 (j - 60 * k) (by omega) (by omega)
        rw [show 60 * k + (j - 60 * k) = j by omega] at g3
        have g4 := this.2.2 (j - 60 * k) (by omega) (by omega)
        rw [show 60 * k + (j - 60 * k) = j by omega] at g4
        rw [g3]
        exact g4⟩
      refine main u h hs (fA.tr hu.1 (by simp) (by simp) (by simp)) (cA.keep (hu.1.1 56 (by decide)) (fun j => hu.1.2.1 122 (by decide) j) (fun j => hu.1.2.1 123 (by decide) j)) (R_opn_f4 hop (fun q j q0 q1 => hu.1.2.1 q (by simp; omega) j)) hlv (by rw [hu.2.1]; omega) (fun i j i0 ij j1 => ?_) (fun x => ?_)
      · rw [hu.2.1] at j1
        rw [er i i0 (by omega), er j (by omega) j1]
        exact t1 i j i0 ij j1
      · rw [hu.2.1]
        refine (t2 x).trans ⟨fun ⟨e, e0, e1, e2⟩ => ⟨e, e0, e1, by rw [er e e0 e1]; exact e2⟩, fun ⟨e, e0, e1, e2⟩ => ⟨e, e0, e1, by rw [← er e e0 e1]; exact e2⟩⟩
