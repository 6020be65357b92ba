/-! the reference: coreOf, either, both -/
theorem R_coreOf (d : Nat) (s : R_S) {e : Int} (ze : Zr e) {C : P_X} (s0 : 0 ≤ e) (s1 : e < 44) (hC : R_CC s e C) (h1 : 1 ≤ s.2.1 104 e) : R_ok (d + 2) 231 [.int (Zi e)] s (fun x s2 => x = none ∧ R_CC s2 42 (fun x => x = F_core C) ∧ R_wk s s2 (fun k => k = 42)) := by
  refine R_enter (M := E_m231) rfl (Nat.le_of_ble_eq_true rfl) (fun h0 h hs => ?_)
  show B_R (d + 1) _ (0, [(0, .ref 83), (1, .int (Zi e))], []) _ _ _
  have m1 := hC.2.1
  refine Z_go (f2 := (1, [(0, .ref 83), (1, .int (Zi e))], [.ref 83])) (fun _ => rfl) ?_
  refine Z_go (f2 := (2, [(0, .ref 83), (1, .int (Zi e))], [.int (Zi 0), .ref 83])) (fun _ => rfl) ?_
  refine R_pf rfl hs rfl (by first | exact hs.zF _ | exact Zor_r _ _ | exact hs.zA _ _ | assumption | exact zA _ _ | exact zS _ | exact Zr_not (hs.zA _ _) | exact ⟨by omega, by omega⟩) ⟨rfl, rfl, rfl⟩ (fun h hs => ?_)
  refine Z_go (f2 := (6, [(0, .ref 83), (1, .int (Zi e))], [.int (Zi 0)])) (fun _ => rfl) ?_
  refine Z_go (f2 := (7, [(2, .int (Zi 0)), (0, .ref 83), (1, .int (Zi e))], [])) (fun _ => rfl) ?_
  refine B_loc (K := [(2, .int (Zi 0)), (0, .ref 83), (1, .int (Zi e))]) (N_all_sub ⟨rfl, rfl, rfl, trivial⟩) (show ([2, 0, 1] : List Nat).Nodup by decide) ?_
  refine R_co_lp (N0 := 0) (P0 := fun _ => False) s0 s1 hC.cv (by omega) (by omega) (fun u h hs hu => ?_) ((s.2.1 104 e).toNat + 1) 0 _ h (by omega) hs (by rw [R_cho_0, F_or_no]; exact R_pst_0 s) (by omega) (by omega)
  rw [hC.cho, F_no_or, Int.zero_add] at hu
  have e37 := hu.2.1
  refine Z_go (f2 := (30, [(2, .int (Zi (s.2.1 104 e))), (0, .ref 83), (1, .int (Zi e))], [.ref 83])) (fun _ => rfl) ?_
  refine Z_go (f2 := (32, [(2, .int (Zi (s.2.1 104 e))), (0, .ref 83), (1, .int (Zi e))], [.int (Zi 42), .ref 83])) (fun _ => rfl) ?_
  refine R_call (As := [.int (Zi 42)]) (rest := []) rfl (by decide) rfl rfl rfl rfl (by decide +kernel) (Nat.le_of_ble_eq_true rfl) hs (R_cores _ u ⟨by omega, by omega⟩ (by omega) (by omega) hu.2.2.2.2.1 (by omega)) (fun x h w hs q => ?_)
  obtain ⟨rfl, v, n, q6, q7, q8⟩ := q
  show B_R _ _ (35, [(2, .int (Zi (s.2.1 104 e))), (0, .ref 83), (1, .int (Zi e))], []) _ _ _
  refine Z_ret rfl rfl ⟨_, hs, ?_, rfl⟩
  obtain ⟨c1, c2⟩ := R_core_CC hu.2.2.2.2.1 (by omega) (by omega) q6 q7
  rw [← q8, hu.2.2.2.2.2] at c1
  rw [← q8] at c2
  exact ⟨rfl, c1, hu.wk.trans (R_wk_slf c2) (fun _ h => h.elim) (fun _ h => h)⟩
theorem R_either (d : Nat) (s : R_S) {p q to : Int} (zp : Zr p) (zq : Zr q) (zto : Zr to) {Cp Cq : P_X} (p0 : 0 ≤ p) (p1 : p < 44) (q0 : 0 ≤ q) (q1 : q < 44) (t0 : 0 ≤ to) (t1 : to < 44) (hp : R_CC s p Cp) (hq : R_CC s q Cq) : R_ok (d + 4) 233 [.int (Zi p), .int (Zi q), .int (Zi to)] s (fun x s2 => x = none ∧ R_CC s2 to (F_least (F_or Cp Cq)) ∧ R_wk s s2 (fun k => k = to)) := by
  refine R_enter (M := E_m233) rfl (Nat.le_of_ble_eq_true rfl) (fun h0 h hs => ?_)
  show B_R (d + 3) _ (0, [(0, .ref 83), (1, .int (Zi p)), (2, .int (Zi q)), (3, .int (Zi to))], []) _ _ _
  have m1 := hp.2.1
  have m0 := hp.1
  have m2 := hq.2.1
  have m3 := hq.1
  refine Z_go (f2 := (1, [(0, .ref 83), (1, .int (Zi p)), (2, .int (Zi q)), (3, .int (Zi to))], [.ref 83])) (fun _ => rfl) ?_
  refine Z_go (f2 := (2, [(0, .ref 83), (1, .int (Zi p)), (2, .int (Zi q)), (3, .int (Zi to))], [.int (Zi 0), .ref 83])) (fun _ => rfl) ?_
  refine R_pf rfl hs rfl (by first | exact hs.zF _ | exact Zor_r _ _ | exact hs.zA _ _ | assumption | exact zA _ _ | exact zS _ | exact Zr_not (hs.zA _ _) | exact ⟨by omega, by omega⟩) ⟨rfl, rfl, rfl⟩ (fun h hs => ?_)
  refine Z_go (f2 := (6, [(0, .ref 83), (1, .int (Zi p)), (2, .int (Zi q)), (3, .int (Zi to))], [.int (Zi 0)])) (fun _ => rfl) ?_
  refine Z_go (f2 := (8, [(4, .int (Zi 0)), (0, .ref 83), (1, .int (Zi p)), (2, .int (Zi q)), (3, .int (Zi to))], [])) (fun _ => rfl) ?_
  refine B_loc (K := [(4, .int (Zi 0)), (0, .ref 83), (1, .int (Zi p)), (2, .int (Zi q)), (3, .int (Zi to))]) (N_all_sub ⟨rfl, rfl, rfl, rfl, rfl, trivial⟩) (show ([4, 0, 1, 2, 3] : List Nat).Nodup by decide) ?_
  refine R_ei_lp1 (q := q) (to := to) (N0 := 0) (P0 := fun _ => False) p0 p1 hp.cv (by omega) (by omega) (fun u h hs hu => ?_) ((s.2.1 104 p).toNat + 1) 0 _ h (by omega) hs (by rw [R_cho_0, F_or_no]; exact R_pst_0 s) (by omega) (by omega)
  rw [hp.cho, F_no_or, Int.zero_add] at hu
  refine Z_go (f2 := (33, [(4, .int (Zi (s.2.1 104 p))), (0, .ref 83), (1, .int (Zi p)), (2, .int (Zi q)), (3, .int (Zi to))], [.int (Zi 0)])) (fun _ => rfl) ?_
  refine Z_go (f2 := (35, [(4, .int (Zi 0)), (0, .ref 83), (1, .int (Zi p)), (2, .int (Zi q)), (3, .int (Zi to))], [])) (fun _ => rfl) ?_
  refine B_loc (K := [(4, .int (Zi 0)), (0, .ref 83), (1, .int (Zi p)), (2, .int (Zi q)), (3, .int (Zi to))]) (N_all_sub ⟨rfl, rfl, rfl, rfl, rfl, trivial⟩) (show ([4, 0, 1, 2, 3] : List Nat).Nodup by decide) ?_
  refine R_ei_lp2 (p := p) (to := to) (N0 := s.2.1 104 p) (P0 := Cp) q0 q1 hq.cv (by omega) (by omega) (fun u h hs hu => ?_) ((s.2.1 104 q).toNat + 1) 0 u h (by omega) hs (by rw [R_cho_0, F_or_no, Int.add_zero]; exact hu) (by omega) (by omega)
  rw [hq.cho] at hu
  have e37 := hu.2.1
  refine Z_go (f2 := (60, [(4, .int (Zi (s.2.1 104 q))), (0, .ref 83), (1, .int (Zi p)), (2, .int (Zi q)), (3, .int (Zi to))], [.ref 83])) (fun _ => rfl) ?_
  refine Z_go (f2 := (61, [(4, .int (Zi (s.2.1 104 q))), (0, .ref 83), (1, .int (Zi p)), (2, .int (Zi q)), (3, .int (Zi to))], [.int (Zi to), .ref 83])) (fun _ => rfl) ?_
  refine R_call (As := [.int (Zi to)]) (rest := []) rfl (by decide) rfl rfl rfl rfl (by decide +kernel) (Nat.le_of_ble_eq_true rfl) hs (R_least _ u (by first | assumption | exact hs.zF _ | exact hs.zA _ _ | exact ⟨by omega, by omega⟩ | omega) t0 t1 hu.2.2.2.2.1) (fun x h w hs q => ?_)
  obtain ⟨rfl, c1, c2⟩ := q
  rw [hu.2.2.2.2.2] at c1
  show B_R _ _ (64, [(4, .int (Zi (s.2.1 104 q))), (0, .ref 83), (1, .int (Zi p)), (2, .int (Zi q)), (3, .int (Zi to))], []) _ _ _
  refine Z_ret rfl rfl ⟨_, hs, ?_, rfl⟩
  exact ⟨rfl, c1, hu.wk.trans (R_wk_slf c2) (fun _ h => h.elim) (fun _ h => h)⟩
def R_bo (s : R_S) (p q c k : Int) : P_X := fun x => ∃ j, 0 ≤ j ∧ j < k ∧ x = L_un (R_crow s p c) (R_crow s q j)
def R_bb (s : R_S) (p q k : Int) : P_X := fun x => ∃ c, 0 ≤ c ∧ c < k ∧ R_bo s p q c (s.2.1 104 q) x
theorem R_bo_0 (s : R_S) (p q c : Int) : R_bo s p q c 0 = fun _ => False := funext (fun x => propext ⟨fun ⟨c, a, b, _⟩ => by omega, fun h => h.elim⟩)
theorem R_bb_0 (s : R_S) (p q : Int) : R_bb s p q 0 = fun _ => False := funext (fun x => propext ⟨fun ⟨c, a, b, _⟩ => by omega, fun h => h.elim⟩)
theorem R_bo_s (s : R_S) (p q c : Int) {k : Int} (k0 : 0 ≤ k) : F_or (R_bo s p q c k) (F_one (L_un (R_crow s p c) (R_crow s q k))) = R_bo s p q c (k + 1) := by
  funext x
  refine propext ⟨?_, ?_⟩
  · rintro (⟨c, a, b, h⟩ | h)
    · exact ⟨c, a, by omega, h⟩
    · exact ⟨k, k0, by omega, h⟩
  · rintro ⟨j, a, b, h⟩
    by_cases e : j = k
    · exact .inr (by rw [← e]; exact h)
    · exact .inl ⟨j, a, by omega, h⟩
theorem R_bb_s (s : R_S) (p q : Int) {k : Int} (k0 : 0 ≤ k) : F_or (R_bb s p q k) (R_bo s p q k (s.2.1 104 q)) = R_bb s p q (k + 1) := by
  funext x
  refine propext ⟨?_, ?_⟩
  · rintro (⟨c, a, b, h⟩ | h)
    · exact ⟨c, a, by omega, h⟩
    · exact ⟨k, k0, by omega, h⟩
  · rintro ⟨j, a, b, h⟩
    by_cases e : j = k
    · exact .inr (by rw [← e]; exact h)
    · exact .inl ⟨j, a, by omega, h⟩
theorem R_bb_un {s : R_S} {p q : Int} {Cp Cq : P_X} (hp : R_CC s p Cp) (hq : R_CC s q Cq) : R_bb s p q (s.2.1 104 p) = F_un Cp Cq := by
  funext z
  refine propext ⟨?_, ?_⟩
  · rintro ⟨c, a, b, j, j0, j1, h⟩
    exact ⟨_, _, (hp.2.2.2.2 _).mpr ⟨c, a, b, rfl⟩, (hq.2.2.2.2 _).mpr ⟨j, j0, j1, rfl⟩, h⟩
  · rintro ⟨x, y, hx, hy, h⟩
    obtain ⟨c, a, b, rfl⟩ := (hp.2.2.2.2 x).mp hx
    obtain ⟨j, j0, j1, rfl⟩ := (hq.2.2.2.2 y).mp hy
    exact ⟨c, a, b, j, j0, j1, h⟩
theorem R_bo_in {d : Nat} {h0 : E_H} {s : R_S} {sl : Nat} {Φ : E_R → Prop} {N0 : Int} {P0 : P_X} {k p q to : Int} (p0 : 0 ≤ p) (p1 : p < 44) (q0 : 0 ≤ q) (q1 : q < 44) (cp : R_cv s p) (cq : R_cv s q) (hb : ∀ c j, 0 ≤ c → c < s.2.1 104 p → 0 ≤ j → j < s.2.1 104 q → (L_un (R_crow s p c) (R_crow s q j)).length ≤ 640) (k0 : 0 ≤ k) (kp : k < s.2.1 104 p) (n0 : 0 ≤ N0) (n1 : N0 + s.2.1 104 q ≤ 576) (kont : ∀ (u : R_S) (h : E_H), R_is h0 h u → R_pst s u (N0 + s.2.1 104 q) (F_or P0 (R_bo s p q k (s.2.1 104 q))) → B_R (d + 1) E_m232 (49, [(4, .int (Zi k)), (0, .ref 83), (1, .int (Zi p)), (2, .int (Zi q)), (3, .int (Zi to))], []) h sl Φ) : ∀ (t : Nat) (j : Int) (u : R_S) (h : E_H), s.2.1 104 q - j < t → R_is h0 h u → R_pst s u (N0 + j) (F_or P0 (R_bo s p q k j)) → 0 ≤ j → j ≤ s.2.1 104 q → B_R (d + 1) E_m232 (22, [(5, .int (Zi j)), (4, .int (Zi k)), (0, .ref 83), (1, .int (Zi p)), (2, .int (Zi q)), (3, .int (Zi to))], []) h sl Φ := by
  intro t
  induction t with
  | zero => intro j u h ht hs hu j0 j1; omega
  | succ t ih =>
    intro j u h ht hs hu j0 j1
    have e104p : u.2.1 104 p = s.2.1 104 p := hu.2.2.1 104 _ (by decide) (by decide)
    have e104q : u.2.1 104 q = s.2.1 104 q := hu.2.2.1 104 _ (by decide) (by decide)
    have e37 := hu.2.1
    have cp2 := cp.2.1
    have cq2 := cq.2.1
    refine Z_go (f2 := (24, [(5, .int (Zi j)), (4, .int (Zi k)), (0, .ref 83), (1, .int (Zi p)), (2, .int (Zi q)), (3, .int (Zi to))], [.int (Zi j)])) (fun _ => rfl) ?_
    refine Z_go (f2 := (25, [(5, .int (Zi j)), (4, .int (Zi k)), (0, .ref 83), (1, .int (Zi p)), (2, .int (Zi q)), (3, .int (Zi to))], [.ref 83, .int (Zi j)])) (fun _ => rfl) ?_
    refine R_gr (q := 102) rfl hs rfl ?_
    show B_R _ _ (28, [(5, .int (Zi j)), (4, .int (Zi k)), (0, .ref 83), (1, .int (Zi p)), (2, .int (Zi q)), (3, .int (Zi to))], [.ref 104, .int (Zi j)]) _ _ _
    refine Z_go (f2 := (29, [(5, .int (Zi j)), (4, .int (Zi k)), (0, .ref 83), (1, .int (Zi p)), (2, .int (Zi q)), (3, .int (Zi to))], [.int (Zi q), .ref 104, .int (Zi j)])) (fun _ => rfl) ?_
    refine R_ia (q := 20) rfl hs rfl rfl (by omega) (by omega) (by decide) ?_
    refine Z_cge rfl rfl (by first | exact hs.zF _ | exact Zor_r _ _ | exact hs.zA _ _ | assumption | exact zA _ _ | exact zS _ | exact Zr_not (hs.zA _ _) | exact ⟨by omega, by omega⟩) (by first | exact hs.zF _ | exact Zor_r _ _ | exact hs.zA _ _ | assumption | exact zA _ _ | exact zS _ | exact Zr_not (hs.zA _ _) | exact ⟨by omega, by omega⟩) (fun c1 => ?_) (fun c1 => ?_)
    · refine B_loc (K := [(4, .int (Zi k)), (0, .ref 83), (1, .int (Zi p)), (2, .int (Zi q)), (3, .int (Zi to))]) (N_all_sub ⟨rfl, rfl, rfl, rfl, rfl, trivial⟩) (show ([4, 0, 1, 2, 3] : List Nat).Nodup by decide) ?_
      have e : j = s.2.1 104 q := by omega
      rw [e] at hu
      exact kont u h hs hu
    · refine Z_go (f2 := (34, [(5, .int (Zi j)), (4, .int (Zi k)), (0, .ref 83), (1, .int (Zi p)), (2, .int (Zi q)), (3, .int (Zi to))], [.ref 83])) (fun _ => rfl) ?_
      refine Z_go (f2 := (35, [(5, .int (Zi j)), (4, .int (Zi k)), (0, .ref 83), (1, .int (Zi p)), (2, .int (Zi q)), (3, .int (Zi to))], [.int (Zi p), .ref 83])) (fun _ => rfl) ?_
      refine Z_go (f2 := (37, [(5, .int (Zi j)), (4, .int (Zi k)), (0, .ref 83), (1, .int (Zi p)), (2, .int (Zi q)), (3, .int (Zi to))], [.int (Zi k), .int (Zi p), .ref 83])) (fun _ => rfl) ?_
      refine Z_go (f2 := (38, [(5, .int (Zi j)), (4, .int (Zi k)), (0, .ref 83), (1, .int (Zi p)), (2, .int (Zi q)), (3, .int (Zi to))], [.int (Zi q), .int (Zi k), .int (Zi p), .ref 83])) (fun _ => rfl) ?_
      refine Z_go (f2 := (40, [(5, .int (Zi j)), (4, .int (Zi k)), (0, .ref 83), (1, .int (Zi p)), (2, .int (Zi q)), (3, .int (Zi to))], [.int (Zi j), .int (Zi q), .int (Zi k), .int (Zi p), .ref 83])) (fun _ => rfl) ?_
      refine R_call (As := [.int (Zi p), .int (Zi k), .int (Zi q), .int (Zi j)]) (rest := []) rfl (by decide) rfl rfl rfl rfl (by decide +kernel) (Nat.le_of_ble_eq_true rfl) hs (R_addBoth _ u (by first | assumption | exact hs.zF _ | exact hs.zA _ _ | exact ⟨by omega, by omega⟩ | omega) (by first | assumption | exact hs.zF _ | exact hs.zA _ _ | exact ⟨by omega, by omega⟩ | omega) (by first | assumption | exact hs.zF _ | exact hs.zA _ _ | exact ⟨by omega, by omega⟩ | omega) (by first | assumption | exact hs.zF _ | exact hs.zA _ _ | exact ⟨by omega, by omega⟩ | omega) (by omega) (by omega) (by omega) (by rw [e104p]; omega) (by omega) (by omega) (by omega) (by rw [e104q]; omega) (hu.cv cp) (hu.cv cq) hu.2.2.2.2.1 (by omega) (by rw [hu.crow, hu.crow]; exact hb k j k0 kp j0 (by omega))) (fun x h w hs q => ?_)
      obtain ⟨rfl, q1⟩ := q
      show B_R _ _ (43, [(5, .int (Zi j)), (4, .int (Zi k)), (0, .ref 83), (1, .int (Zi p)), (2, .int (Zi q)), (3, .int (Zi to))], []) _ _ _
      refine Z_iinc (L2 := [(5, .int (Zi (j + 1))), (4, .int (Zi k)), (0, .ref 83), (1, .int (Zi p)), (2, .int (Zi q)), (3, .int (Zi to))]) rfl rfl (by decide) rfl ?_
      refine Z_go (f2 := (22, [(5, .int (Zi (j + 1))), (4, .int (Zi k)), (0, .ref 83), (1, .int (Zi p)), (2, .int (Zi q)), (3, .int (Zi to))], [])) (fun _ => rfl) ?_
      refine B_loc (K := [(5, .int (Zi (j + 1))), (4, .int (Zi k)), (0, .ref 83), (1, .int (Zi p)), (2, .int (Zi q)), (3, .int (Zi to))]) (N_all_sub ⟨rfl, rfl, rfl, rfl, rfl, rfl, trivial⟩) (show ([5, 4, 0, 1, 2, 3] : List Nat).Nodup by decide) ?_
      refine ih (j + 1) w h (by omega) hs ?_ (by omega) (by omega)
      have := hu.add q1
      rw [hu.crow, hu.crow, F_or_assoc, R_bo_s s p q k j0, Int.add_assoc] at this
      exact this
theorem R_bb_out {d : Nat} {h0 : E_H} {s : R_S} {sl : Nat} {Φ : E_R → Prop} {p q to : Int} (p0 : 0 ≤ p) (p1 : p < 44) (q0 : 0 ≤ q) (q1 : q < 44) (cp : R_cv s p) (cq : R_cv s q) (hb : ∀ c j, 0 ≤ c → c < s.2.1 104 p → 0 ≤ j → j < s.2.1 104 q → (L_un (R_crow s p c) (R_crow s q j)).length ≤ 640) (kont : ∀ (u : R_S) (h : E_H), R_is h0 h u → R_pst s u (s.2.1 104 p * s.2.1 104 q) (R_bb s p q (s.2.1 104 p)) → B_R (d + 1) E_m232 (55, [(0, .ref 83), (1, .int (Zi p)), (2, .int (Zi q)), (3, .int (Zi to))], []) h sl Φ) : ∀ (t : Nat) (k : Int) (u : R_S) (h : E_H), s.2.1 104 p - k < t → R_is h0 h u → R_pst s u (k * s.2.1 104 q) (R_bb s p q k) → 0 ≤ k → k ≤ s.2.1 104 p → B_R (d + 1) E_m232 (8, [(4, .int (Zi k)), (0, .ref 83), (1, .int (Zi p)), (2, .int (Zi q)), (3, .int (Zi to))], []) h sl Φ := by
  intro t
  induction t with
  | zero => intro k u h ht hs hu k0 k1; omega
  | succ t ih =>
    intro k u h ht hs hu k0 k1
    have e104p : u.2.1 104 p = s.2.1 104 p := hu.2.2.1 104 _ (by decide) (by decide)
    have cp2 := cp.2.1
    have cq2 := cq.2.1
    have cq0 := cq.1
    refine Z_go (f2 := (10, [(4, .int (Zi k)), (0, .ref 83), (1, .int (Zi p)), (2, .int (Zi q)), (3, .int (Zi to))], [.int (Zi k)])) (fun _ => rfl) ?_
    refine Z_go (f2 := (11, [(4, .int (Zi k)), (0, .ref 83), (1, .int (Zi p)), (2, .int (Zi q)), (3, .int (Zi to))], [.ref 83, .int (Zi k)])) (fun _ => rfl) ?_
    refine R_gr (q := 102) rfl hs rfl ?_
    show B_R _ _ (14, [(4, .int (Zi k)), (0, .ref 83), (1, .int (Zi p)), (2, .int (Zi q)), (3, .int (Zi to))], [.ref 104, .int (Zi k)]) _ _ _
    refine Z_go (f2 := (15, [(4, .int (Zi k)), (0, .ref 83), (1, .int (Zi p)), (2, .int (Zi q)), (3, .int (Zi to))], [.int (Zi p), .ref 104, .int (Zi k)])) (fun _ => rfl) ?_
    refine R_ia (q := 20) rfl hs rfl rfl (by omega) (by omega) (by decide) ?_
    refine Z_cge rfl rfl (by first | exact hs.zF _ | exact Zor_r _ _ | exact hs.zA _ _ | assumption | exact zA _ _ | exact zS _ | exact Zr_not (hs.zA _ _) | exact ⟨by omega, by omega⟩) (by first | exact hs.zF _ | exact Zor_r _ _ | exact hs.zA _ _ | assumption | exact zA _ _ | exact zS _ | exact Zr_not (hs.zA _ _) | exact ⟨by omega, by omega⟩) (fun c1 => ?_) (fun c1 => ?_)
    · refine B_loc (K := [(0, .ref 83), (1, .int (Zi p)), (2, .int (Zi q)), (3, .int (Zi to))]) (N_all_sub ⟨rfl, rfl, rfl, rfl, trivial⟩) (show ([0, 1, 2, 3] : List Nat).Nodup by decide) ?_
      have e : k = s.2.1 104 p := by omega
      rw [e] at hu
      exact kont u h hs hu
    · refine Z_go (f2 := (20, [(4, .int (Zi k)), (0, .ref 83), (1, .int (Zi p)), (2, .int (Zi q)), (3, .int (Zi to))], [.int (Zi 0)])) (fun _ => rfl) ?_
      refine Z_go (f2 := (22, [(5, .int (Zi 0)), (4, .int (Zi k)), (0, .ref 83), (1, .int (Zi p)), (2, .int (Zi q)), (3, .int (Zi to))], [])) (fun _ => rfl) ?_
      refine B_loc (K := [(5, .int (Zi 0)), (4, .int (Zi k)), (0, .ref 83), (1, .int (Zi p)), (2, .int (Zi q)), (3, .int (Zi to))]) (N_all_sub ⟨rfl, rfl, rfl, rfl, rfl, rfl, trivial⟩) (show ([5, 4, 0, 1, 2, 3] : List Nat).Nodup by decide) ?_
      have hn : 0 ≤ k * s.2.1 104 q := Int.mul_nonneg k0 cq0
      have hn2 : k * s.2.1 104 q + s.2.1 104 q ≤ 576 := by
        have e1 : (k + 1) * s.2.1 104 q ≤ 24 * s.2.1 104 q := Int.mul_le_mul_of_nonneg_right (by omega) cq0
        have e2 : (k + 1) * s.2.1 104 q = k * s.2.1 104 q + s.2.1 104 q := by rw [Int.add_mul, Int.one_mul]
        omega
      refine R_bo_in (to := to) (N0 := k * s.2.1 104 q) (P0 := R_bb s p q k) p0 p1 q0 q1 cp cq hb k0 (by omega) hn hn2 (fun u h hs hu => ?_) ((s.2.1 104 q).toNat + 1) 0 u h (by omega) hs (by rw [R_bo_0, F_or_no, Int.add_zero]; exact hu) (by omega) (by omega)
      refine Z_iinc (L2 := [(4, .int (Zi (k + 1))), (0, .ref 83), (1, .int (Zi p)), (2, .int (Zi q)), (3, .int (Zi to))]) rfl rfl (by decide) rfl ?_
      refine Z_go (f2 := (8, [(4, .int (Zi (k + 1))), (0, .ref 83), (1, .int (Zi p)), (2, .int (Zi q)), (3, .int (Zi to))], [])) (fun _ => rfl) ?_
      refine B_loc (K := [(4, .int (Zi (k + 1))), (0, .ref 83), (1, .int (Zi p)), (2, .int (Zi q)), (3, .int (Zi to))]) (N_all_sub ⟨rfl, rfl, rfl, rfl, rfl, trivial⟩) (show ([4, 0, 1, 2, 3] : List Nat).Nodup by decide) ?_
      refine ih (k + 1) u h (by omega) hs ?_ (by omega) (by omega)
      rw [R_bb_s s p q k0] at hu
      rw [show (k + 1) * s.2.1 104 q = k * s.2.1 104 q + s.2.1 104 q by rw [Int.add_mul, Int.one_mul]]
      exact hu
