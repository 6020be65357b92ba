/-! the reference: heads and tails gathered -/
theorem R_ok.weak {d a : Nat} {as : List Value} {s : R_S} {P Q : Option Value → R_S → Prop} (k : R_ok d a as s P) (hi : ∀ x s2, P x s2 → Q x s2) : R_ok d a as s Q := fun h0 h hs => (k h0 h hs).weak (fun r ⟨s2, a, b, c⟩ => ⟨s2, a, hi _ _ b, c⟩)
theorem X_head_v {A : Int → Int} {n e : Int} (n0 : 0 ≤ n) (hb : ∀ i, 0 ≤ i → i < n → 0 ≤ A i ∧ A i < 256) (ve : X_v e) : X_v (X_end (if n + e / 65536 < 2 then n + e / 65536 else 2) (if 0 < n then A 0 else e / 256 % 256) (if 1 < n then A 1 else if n = 1 then e / 256 % 256 else e % 256)) := by
  have e0 : 0 ≤ e / 65536 := by unfold X_v at ve; omega
  have b0 := hb 0 (by omega)
  have b1 := hb 1 (by omega)
  refine X_end_v ?_ ?_ ?_ ?_ ?_ ?_
  · split <;> omega
  · split <;> omega
  · split <;> omega
  · split <;> omega
  · split
    · omega
    · split <;> omega
  · split
    · omega
    · split <;> omega
theorem X_tail_v {A : Int → Int} {n e : Int} (n0 : 0 ≤ n) (hb : ∀ i, 0 ≤ i → i < n → 0 ≤ A i ∧ A i < 256) (ve : X_v e) : X_v (if n + e / 65536 < 2 then X_end (n + e / 65536) (if 0 < n then A (n - 1) else if e / 65536 = 2 then e % 256 else e / 256 % 256) 0 else X_end 2 (if 1 < n then A (n - 2) else if n = 1 then (if e / 65536 = 2 then e % 256 else e / 256 % 256) else e / 256 % 256) (if 0 < n then A (n - 1) else if e / 65536 = 2 then e % 256 else e / 256 % 256)) := by
  have e0 : 0 ≤ e / 65536 := by unfold X_v at ve; omega
  have b1 := hb (n - 1)
  have b2 := hb (n - 2)
  have w : 0 ≤ (if 0 < n then A (n - 1) else if e / 65536 = 2 then e % 256 else e / 256 % 256) ∧ (if 0 < n then A (n - 1) else if e / 65536 = 2 then e % 256 else e / 256 % 256) < 256 := by
    by_cases c : 0 < n
    · rw [if_pos c]
      exact b1 (by omega) (by omega)
    · rw [if_neg c]
      by_cases c2 : e / 65536 = 2
      · rw [if_pos c2]; omega
      · rw [if_neg c2]; omega
  have w2 : 0 ≤ (if 1 < n then A (n - 2) else if n = 1 then (if e / 65536 = 2 then e % 256 else e / 256 % 256) else e / 256 % 256) ∧ (if 1 < n then A (n - 2) else if n = 1 then (if e / 65536 = 2 then e % 256 else e / 256 % 256) else e / 256 % 256) < 256 := by
    by_cases c : 1 < n
    · rw [if_pos c]
      exact b2 (by omega) (by omega)
    · rw [if_neg c]
      by_cases c1 : n = 1
      · rw [if_pos c1]
        by_cases c2 : e / 65536 = 2
        · rw [if_pos c2]; omega
        · rw [if_neg c2]; omega
      · rw [if_neg c1]; omega
  by_cases c : n + e / 65536 < 2
  · rw [if_pos c]
    exact X_end_v (by omega) (by omega) w.1 w.2 (by omega) (by omega)
  · rw [if_neg c]
    exact X_end_v (by omega) (by omega) w2.1 w2.2 w.1 w.2
theorem R_headOf2 (d : Nat) (s : R_S) {z t e : Int} (z0 : 0 ≤ z) (z1 : z < 44) (tv : R_tv s z) (t0 : 0 ≤ t) (t1 : t < s.2.1 97 z) (ze : Zr e) (ve : X_v e) : R_ok (d + 2) 223 [.int (Zi z), .int (Zi t), .int (Zi e)] s (fun x s2 => s2 = s ∧ ∃ v : Int, x = some (.int (Zi v)) ∧ X_v v ∧ X_dec v = E_hd (R_trow s z t ++ X_dec e)) := by
  have t8 := tv.2.1
  obtain ⟨n0, n1, hb⟩ := tv.2.2 t t0 t1
  exact (R_headOf d s ⟨by omega, by omega⟩ ⟨by omega, by omega⟩ ze z0 z1 t0 (by omega) n0 n1 hb ve).weak (fun x s2 q => ⟨q.1, _, q.2, X_head_v (A := fun i => s.2.1 99 (60 * (8 * z + t) + i)) n0 hb ve, X_head (A := fun i => s.2.1 99 (60 * (8 * z + t) + i)) n0 hb ve⟩)
theorem R_tailOf2 (d : Nat) (s : R_S) {z t e : Int} (z0 : 0 ≤ z) (z1 : z < 44) (tv : R_tv s z) (t0 : 0 ≤ t) (t1 : t < s.2.1 97 z) (ze : Zr e) (ve : X_v e) : R_ok (d + 2) 224 [.int (Zi z), .int (Zi t), .int (Zi e)] s (fun x s2 => s2 = s ∧ ∃ v : Int, x = some (.int (Zi v)) ∧ X_v v ∧ X_dec v = E_tl (X_dec e ++ R_trow s z t)) := by
  have t8 := tv.2.1
  obtain ⟨n0, n1, hb⟩ := tv.2.2 t t0 t1
  exact (R_tailOf d s ⟨by omega, by omega⟩ ⟨by omega, by omega⟩ ze z0 z1 t0 (by omega) n0 n1 hb ve).weak (fun x s2 q => ⟨q.1, _, q.2, X_tail_v (A := fun i => s.2.1 99 (60 * (8 * z + t) + i)) n0 hb ve, X_tail (A := fun i => s.2.1 99 (60 * (8 * z + t) + i)) n0 hb ve⟩)
theorem X_v.zr {e : Int} (h : X_v e) : Zr e := by unfold X_v at h; exact ⟨by omega, by omega⟩
/-- u is s, but N ends are gathered: H -/
def R_shp (s u : R_S) (N : Int) (H : P_X) : Prop := (∀ b, b ≠ 41 → u.1 b = s.1 b) ∧ (∀ q j, q ≠ 110 → u.2.1 q j = s.2.1 q j) ∧ u.2.2 = s.2.2 ∧ u.1 41 = N ∧ R_sv u ∧ R_SH u = H
theorem R_shp_0 (s : R_S) : R_shp s (R_sF s 41 0) 0 (fun _ => False) := by
  have e : (R_sF s 41 0).1 41 = 0 := R_sF_s _ _ _
  refine ⟨fun b hb => R_sF_n _ _ hb, fun _ _ _ => rfl, rfl, e, ⟨by rw [e]; decide, by rw [e]; decide, fun i i0 i1 => by rw [e] at i1; omega⟩, ?_⟩
  funext x
  refine propext ⟨?_, fun h => h.elim⟩
  rintro ⟨i, i0, i1, _⟩
  rw [e] at i1
  omega
theorem R_shp.add {s u : R_S} {N v : Int} {H : P_X} (h : R_shp s u N H) (n1 : N < 160) (vv : X_v v) : R_shp s (R_sF (R_sA u 110 (u.1 41) v) 41 (u.1 41 + 1)) (N + 1) (F_or H (F_one (X_dec v))) := by
  obtain ⟨h1, h2, h3, h4, h5, h6⟩ := h
  have e : (R_sF (R_sA u 110 (u.1 41) v) 41 (u.1 41 + 1)).1 41 = u.1 41 + 1 := R_sF_s _ _ _
  have ea : ∀ j, (R_sF (R_sA u 110 (u.1 41) v) 41 (u.1 41 + 1)).2.1 110 j = if j = u.1 41 then v else u.2.1 110 j := fun j => by
    rw [R_sF_a]
    by_cases c : j = u.1 41
    · rw [if_pos c, c, R_sA_s]
    · rw [if_neg c, R_sA_m _ _ _ _ c]
  have p0 := h5.1
  refine ⟨fun b hb => by rw [R_sF_n _ _ hb]; exact h1 b hb, fun q j hq => by rw [R_sF_a, R_sA_n _ _ _ _ hq]; exact h2 q j hq, h3, by rw [e, h4], ⟨by rw [e]; omega, by rw [e, h4]; omega, fun i i0 i1 => ?_⟩, ?_⟩
  · rw [e] at i1
    rw [ea]
    by_cases c : i = u.1 41
    · rw [if_pos c]; exact vv
    · rw [if_neg c]; exact h5.2.2 i i0 (by omega)
  · funext x
    refine propext ⟨?_, ?_⟩
    · rintro ⟨i, i0, i1, rfl⟩
      rw [e] at i1
      rw [ea]
      by_cases c : i = u.1 41
      · rw [if_pos c]; exact .inr rfl
      · rw [if_neg c]
        exact .inl (by rw [← h6]; exact ⟨i, i0, by omega, rfl⟩)
    · rintro (q | q)
      · rw [← h6] at q
        obtain ⟨i, i0, i1, rfl⟩ := q
        exact ⟨i, i0, by rw [e]; omega, by rw [ea, if_neg (by omega)]⟩
      · exact ⟨u.1 41, p0, by rw [e]; omega, by rw [ea, if_pos rfl]; exact q⟩
theorem R_shp.tv {s u : R_S} {N : Int} {H : P_X} (h : R_shp s u N H) {z : Int} (tv : R_tv s z) : R_tv u z := by
  obtain ⟨v0, v1, v2⟩ := tv
  have e := h.2.1
  exact ⟨by rw [e 97 _ (by decide)]; exact v0, by rw [e 97 _ (by decide)]; exact v1, fun t t0 t1 => by
    rw [e 97 _ (by decide)] at t1
    rw [e 98 _ (by decide)]
    have hv := v2 t t0 t1
    exact ⟨hv.1, hv.2.1, fun i i0 i1 => by rw [e 99 _ (by decide)]; exact hv.2.2 i i0 i1⟩⟩
theorem R_shp.trow {s u : R_S} {N : Int} {H : P_X} (h : R_shp s u N H) (z t : Int) : R_trow u z t = R_trow s z t := D_row_eq (h.2.1 98 _ (by decide)) (fun i _ _ => h.2.1 99 _ (by decide))
/-- what f makes of the texts before t -/
def R_tf (f : List Int → List Int) (s : R_S) (z t : Int) : P_X := fun x => ∃ c, 0 ≤ c ∧ c < t ∧ x = f (R_trow s z c)
theorem R_tf_0 (f : List Int → List Int) (s : R_S) (z : Int) : R_tf f s z 0 = fun _ => False := funext (fun x => propext ⟨fun ⟨c, h⟩ => by omega, fun h => h.elim⟩)
theorem R_tf_st (f : List Int → List Int) (s : R_S) (z : Int) {k : Int} (k0 : 0 ≤ k) : F_or (R_tf f s z k) (F_one (f (R_trow s z k))) = R_tf f s z (k + 1) := by
  funext x
  refine propext ⟨?_, ?_⟩
  · rintro (⟨c, a, b, h⟩ | h)
    · exact ⟨c, a, by omega, h⟩
    · exact ⟨k, k0, by omega, h⟩
  · rintro ⟨j, a, b, h⟩
    by_cases e : j = k
    · exact .inr (by rw [← e]; exact h)
    · exact .inl ⟨j, a, by omega, h⟩
theorem R_tf_all {s : R_S} {z : Int} {A : P_X} (h : R_EX s z A) (f : List Int → List Int) : R_tf f s z (s.2.1 97 z) = F_im f A := by
  funext x
  refine propext ⟨?_, ?_⟩
  · rintro ⟨c, a, b, h2⟩
    exact ⟨_, (h.2.2 _).mpr ⟨c, a, b, rfl⟩, h2⟩
  · rintro ⟨y, hy, h2⟩
    obtain ⟨c, a, b, rfl⟩ := (h.2.2 y).mp hy
    exact ⟨c, a, b, h2⟩
theorem R_op_h {d : Nat} {h0 : E_H} {s : R_S} {sl : Nat} {Φ : E_R → Prop} {z : Int} (z0 : 0 ≤ z) (z1 : z < 44) (tv : R_tv s z) (kont : ∀ (u : R_S) (h : E_H), R_is h0 h u → R_shp s u (s.2.1 97 z) (R_tf E_hd s z (s.2.1 97 z)) → B_R (d + 2) E_m235 (44, [(0, .ref 83), (1, .int (Zi z))], []) h sl Φ) : ∀ (f : Nat) (t : Int) (u : R_S) (h : E_H), s.2.1 97 z - t < f → R_is h0 h u → R_shp s u t (R_tf E_hd s z t) → 0 ≤ t → t ≤ s.2.1 97 z → B_R (d + 2) E_m235 (17, [(2, .int (Zi t)), (0, .ref 83), (1, .int (Zi z))], []) h sl Φ := by
  intro f
  induction f with
  | zero => intro t u h ht hs hu t0 t1; omega
  | succ f ih =>
    intro t u h ht hs hu t0 t1
    have e97 : u.2.1 97 z = s.2.1 97 z := hu.2.1 97 z (by decide)
    have e41 := hu.2.2.2.1
    have t8 := tv.2.1
    refine Z_go (f2 := (18, [(2, .int (Zi t)), (0, .ref 83), (1, .int (Zi z))], [.int (Zi t)])) (fun _ => rfl) ?_
    refine Z_go (f2 := (19, [(2, .int (Zi t)), (0, .ref 83), (1, .int (Zi z))], [.ref 83, .int (Zi t)])) (fun _ => rfl) ?_
    refine R_gr (q := 95) rfl hs rfl ?_
    show B_R _ _ (22, [(2, .int (Zi t)), (0, .ref 83), (1, .int (Zi z))], [.ref 97, .int (Zi t)]) _ _ _
    refine Z_go (f2 := (23, [(2, .int (Zi t)), (0, .ref 83), (1, .int (Zi z))], [.int (Zi z), .ref 97, .int (Zi t)])) (fun _ => rfl) ?_
    refine R_ia (q := 13) rfl hs rfl rfl (by omega) (by omega) (by decide) ?_
    refine Z_cge rfl rfl (by first | exact hs.zF _ | exact Zor_r _ _ | exact hs.zA _ _ | assumption | exact zA _ _ | exact zS _ | exact Zr_not (hs.zA _ _) | exact ⟨by omega, by omega⟩) (by first | exact hs.zF _ | exact Zor_r _ _ | exact hs.zA _ _ | assumption | exact zA _ _ | exact zS _ | exact Zr_not (hs.zA _ _) | exact ⟨by omega, by omega⟩) (fun c1 => ?_) (fun c1 => ?_)
    · refine B_loc (K := [(0, .ref 83), (1, .int (Zi z))]) (N_all_sub ⟨rfl, rfl, trivial⟩) (show ([0, 1] : List Nat).Nodup by decide) ?_
      obtain rfl : t = s.2.1 97 z := by omega
      exact kont u h hs hu
    · refine Z_go (f2 := (28, [(2, .int (Zi t)), (0, .ref 83), (1, .int (Zi z))], [.ref 83])) (fun _ => rfl) ?_
      refine Z_go (f2 := (29, [(2, .int (Zi t)), (0, .ref 83), (1, .int (Zi z))], [.ref 83, .ref 83])) (fun _ => rfl) ?_
      refine Z_go (f2 := (30, [(2, .int (Zi t)), (0, .ref 83), (1, .int (Zi z))], [.int (Zi z), .ref 83, .ref 83])) (fun _ => rfl) ?_
      refine Z_go (f2 := (31, [(2, .int (Zi t)), (0, .ref 83), (1, .int (Zi z))], [.int (Zi t), .int (Zi z), .ref 83, .ref 83])) (fun _ => rfl) ?_
      refine Z_go (f2 := (32, [(2, .int (Zi t)), (0, .ref 83), (1, .int (Zi z))], [.int (Zi 0), .int (Zi t), .int (Zi z), .ref 83, .ref 83])) (fun _ => rfl) ?_
      refine R_call (As := [.int (Zi z), .int (Zi t), .int (Zi 0)]) (rest := [.ref 83]) rfl (by decide) rfl rfl rfl rfl (by decide +kernel) (Nat.le_of_ble_eq_true rfl) hs (R_headOf2 _ u z0 z1 (hu.tv tv) t0 (by omega) ⟨by omega, by omega⟩ (.inl rfl)) (fun x h s2 hs q => ?_)
      obtain ⟨q0, v, rfl, vv, ve⟩ := q
      rw [q0] at hs
      rw [hu.trow, X_dec_0, List.append_nil] at ve
      show B_R _ _ (35, [(2, .int (Zi t)), (0, .ref 83), (1, .int (Zi z))], [.int (Zi v), .ref 83]) _ _ _
      refine R_call (As := [.int (Zi v)]) (rest := []) rfl (by decide) rfl rfl rfl rfl (by decide +kernel) (Nat.le_of_ble_eq_true rfl) hs (R_addShort _ u vv.zr (by omega) (by omega)) (fun x h w hs q => ?_)
      obtain ⟨rfl, q1⟩ := q
      show B_R _ _ (38, [(2, .int (Zi t)), (0, .ref 83), (1, .int (Zi z))], []) _ _ _
      refine Z_iinc (L2 := [(2, .int (Zi (t + 1))), (0, .ref 83), (1, .int (Zi z))]) rfl rfl (by decide) rfl ?_
      refine Z_go (f2 := (17, [(2, .int (Zi (t + 1))), (0, .ref 83), (1, .int (Zi z))], [])) (fun _ => rfl) ?_
      refine B_loc (K := [(2, .int (Zi (t + 1))), (0, .ref 83), (1, .int (Zi z))]) (N_all_sub ⟨rfl, rfl, rfl, trivial⟩) (show ([2, 0, 1] : List Nat).Nodup by decide) ?_
      have hw := hu.add (by omega) vv
      rw [← q1, ve, R_tf_st E_hd s z t0] at hw
      exact ih (t + 1) w h (by omega) hs hw (by omega) (by omega)
theorem R_op_t {d : Nat} {h0 : E_H} {s : R_S} {sl : Nat} {Φ : E_R → Prop} {z : Int} (z0 : 0 ≤ z) (z1 : z < 44) (tv : R_tv s z) (kont : ∀ (u : R_S) (h : E_H), R_is h0 h u → R_shp s u (s.2.1 97 z) (R_tf E_tl s z (s.2.1 97 z)) → B_R (d + 2) E_m235 (84, [(0, .ref 83), (1, .int (Zi z))], []) h sl Φ) : ∀ (f : Nat) (t : Int) (u : R_S) (h : E_H), s.2.1 97 z - t < f → R_is h0 h u → R_shp s u t (R_tf E_tl s z t) → 0 ≤ t → t ≤ s.2.1 97 z → B_R (d + 2) E_m235 (57, [(2, .int (Zi t)), (0, .ref 83), (1, .int (Zi z))], []) h sl Φ := by
  intro f
  induction f with
  | zero => intro t u h ht hs hu t0 t1; omega
  | succ f ih =>
    intro t u h ht hs hu t0 t1
    have e97 : u.2.1 97 z = s.2.1 97 z := hu.2.1 97 z (by decide)
    have e41 := hu.2.2.2.1
    have t8 := tv.2.1
    refine Z_go (f2 := (58, [(2, .int (Zi t)), (0, .ref 83), (1, .int (Zi z))], [.int (Zi t)])) (fun _ => rfl) ?_
    refine Z_go (f2 := (59, [(2, .int (Zi t)), (0, .ref 83), (1, .int (Zi z))], [.ref 83, .int (Zi t)])) (fun _ => rfl) ?_
    refine R_gr (q := 95) rfl hs rfl ?_
    show B_R _ _ (62, [(2, .int (Zi t)), (0, .ref 83), (1, .int (Zi z))], [.ref 97, .int (Zi t)]) _ _ _
    refine Z_go (f2 := (63, [(2, .int (Zi t)), (0, .ref 83), (1, .int (Zi z))], [.int (Zi z), .ref 97, .int (Zi t)])) (fun _ => rfl) ?_
    refine R_ia (q := 13) rfl hs rfl rfl (by omega) (by omega) (by decide) ?_
    refine Z_cge rfl rfl (by first | exact hs.zF _ | exact Zor_r _ _ | exact hs.zA _ _ | assumption | exact zA _ _ | exact zS _ | exact Zr_not (hs.zA _ _) | exact ⟨by omega, by omega⟩) (by first | exact hs.zF _ | exact Zor_r _ _ | exact hs.zA _ _ | assumption | exact zA _ _ | exact zS _ | exact Zr_not (hs.zA _ _) | exact ⟨by omega, by omega⟩) (fun c1 => ?_) (fun c1 => ?_)
    · refine B_loc (K := [(0, .ref 83), (1, .int (Zi z))]) (N_all_sub ⟨rfl, rfl, trivial⟩) (show ([0, 1] : List Nat).Nodup by decide) ?_
      obtain rfl : t = s.2.1 97 z := by omega
      exact kont u h hs hu
    · refine Z_go (f2 := (68, [(2, .int (Zi t)), (0, .ref 83), (1, .int (Zi z))], [.ref 83])) (fun _ => rfl) ?_
      refine Z_go (f2 := (69, [(2, .int (Zi t)), (0, .ref 83), (1, .int (Zi z))], [.ref 83, .ref 83])) (fun _ => rfl) ?_
      refine Z_go (f2 := (70, [(2, .int (Zi t)), (0, .ref 83), (1, .int (Zi z))], [.int (Zi z), .ref 83, .ref 83])) (fun _ => rfl) ?_
      refine Z_go (f2 := (71, [(2, .int (Zi t)), (0, .ref 83), (1, .int (Zi z))], [.int (Zi t), .int (Zi z), .ref 83, .ref 83])) (fun _ => rfl) ?_
      refine Z_go (f2 := (72, [(2, .int (Zi t)), (0, .ref 83), (1, .int (Zi z))], [.int (Zi 0), .int (Zi t), .int (Zi z), .ref 83, .ref 83])) (fun _ => rfl) ?_
      refine R_call (As := [.int (Zi z), .int (Zi t), .int (Zi 0)]) (rest := [.ref 83]) rfl (by decide) rfl rfl rfl rfl (by decide +kernel) (Nat.le_of_ble_eq_true rfl) hs (R_tailOf2 _ u z0 z1 (hu.tv tv) t0 (by omega) ⟨by omega, by omega⟩ (.inl rfl)) (fun x h s2 hs q => ?_)
      obtain ⟨q0, v, rfl, vv, ve⟩ := q
      rw [q0] at hs
      rw [hu.trow, X_dec_0, List.nil_append] at ve
      show B_R _ _ (75, [(2, .int (Zi t)), (0, .ref 83), (1, .int (Zi z))], [.int (Zi v), .ref 83]) _ _ _
      refine R_call (As := [.int (Zi v)]) (rest := []) rfl (by decide) rfl rfl rfl rfl (by decide +kernel) (Nat.le_of_ble_eq_true rfl) hs (R_addShort _ u vv.zr (by omega) (by omega)) (fun x h w hs q => ?_)
      obtain ⟨rfl, q1⟩ := q
      show B_R _ _ (78, [(2, .int (Zi t)), (0, .ref 83), (1, .int (Zi z))], []) _ _ _
      refine Z_iinc (L2 := [(2, .int (Zi (t + 1))), (0, .ref 83), (1, .int (Zi z))]) rfl rfl (by decide) rfl ?_
      refine Z_go (f2 := (57, [(2, .int (Zi (t + 1))), (0, .ref 83), (1, .int (Zi z))], [])) (fun _ => rfl) ?_
      refine B_loc (K := [(2, .int (Zi (t + 1))), (0, .ref 83), (1, .int (Zi z))]) (N_all_sub ⟨rfl, rfl, rfl, trivial⟩) (show ([2, 0, 1] : List Nat).Nodup by decide) ?_
      have hw := hu.add (by omega) vv
      rw [← q1, ve, R_tf_st E_tl s z t0] at hw
      exact ih (t + 1) w h (by omega) hs hw (by omega) (by omega)
