/-! the reference: the ends of what stands behind -/
noncomputable def V_bH (v w : P_V) : P_X := match v with
  | .inl A => E_hs (F_im2 (fun t h => E_hd (t ++ h)) A (V_H w))
  | .inr q => q.1
noncomputable def V_bT (v w : P_V) : P_X := match w with
  | .inl B => E_ts (F_im2 (fun t u => E_tl (u ++ t)) B (V_T v))
  | .inr q => q.2.1
theorem V_beh2_eq (v w : P_V) : V_beh2 v w = .inr (V_bH v w, V_bT v w, F_both (F_both (V_C v) (V_C w)) (F_least (F_im2 (fun t h => L_gr (t ++ h)) (V_T v) (V_H w)))) := rfl
theorem R_be_h {d : Nat} {h0 : E_H} {s : R_S} {sl : Nat} {Φ : E_R → Prop} {p q : Int} {v w : P_V} (p0 : 0 ≤ p) (p1 : p < 44) (q0 : 0 ≤ q) (q1 : q < 44) (hp : R_opn s p v) (hq : R_opn s q w) (fx : V_fix v) (kont : ∀ (u : R_S) (h : E_H), R_is h0 h u → R_EN 100 u 40 (V_bH v w) → R_vk s u (fun e => e = 40) → (∀ q j, 96 ≤ q → q ≤ 106 → q ≠ 100 → q ≠ 101 → u.2.1 q j = s.2.1 q j) → B_R (d + 5) E_m243 (163, [(0, .ref 83), (1, .int (Zi p)), (2, .int (Zi q))], []) h sl Φ) (h : E_H) (hs : R_is h0 h (R_sF s 41 0)) : B_R (d + 5) E_m243 (52, [(3, .int (Zi 0)), (0, .ref 83), (1, .int (Zi p)), (2, .int (Zi q))], []) h sl Φ := by
  match v, hp, fx, kont with
  | .inl A, hp, fx, kont =>
    refine R_bh_i (d := d + 3) (s := s) p0 p1 q0 q1 hp.1.1 hp.1.2.1 hq.2.1 (fun u h hs hu => ?_) ((s.2.1 100 q).toNat + 1) 0 _ h (by omega) hs (by rw [R_bq_0, Int.zero_mul]; exact R_shp_0 s) (by omega) hq.2.1.1
    refine Z_go (f2 := (157, [(0, .ref 83), (1, .int (Zi p)), (2, .int (Zi q))], [.ref 83])) (fun _ => rfl) ?_
    refine Z_go (f2 := (159, [(0, .ref 83), (1, .int (Zi p)), (2, .int (Zi q))], [.int (Zi 40), .ref 83])) (fun _ => rfl) ?_
    refine Z_go (f2 := (160, [(0, .ref 83), (1, .int (Zi p)), (2, .int (Zi q))], [.int (Zi 1), .int (Zi 40), .ref 83])) (fun _ => rfl) ?_
    refine R_call (As := [.int (Zi 40), .int (Zi 1)]) (rest := []) rfl (by decide) rfl rfl rfl rfl (by decide +kernel) (Nat.le_of_ble_eq_true rfl) hs (R_shortsAre _ u ⟨by omega, by omega⟩ ⟨by omega, by omega⟩ (by omega) (by omega) hu.2.2.2.2.1) (fun x h u2 hs q => ?_)
    obtain ⟨rfl, qa, qb⟩ := q
    obtain ⟨en, ek⟩ := qa (by decide)
    rw [hu.2.2.2.2.2] at en
    rw [R_bq_im hp.1.2 hq.2.1 101 rfl] at en
    show B_R _ _ (163, [(0, .ref 83), (1, .int (Zi p)), (2, .int (Zi q))], []) _ _ _
    refine kont u2 h hs ?_ ((hu.vk _).trans (ek.vk (.inl rfl)) (fun _ h => h) (fun _ h => h)) (fun q j a b c e => (ek.2.1 q j (by omega) (by omega) (by omega) (by omega)).trans (hu.2.1 q j (by omega)))
    exact en
  | .inr r, hp, fx, kont =>
    refine R_oh_i (d := d + 3) (s := s) p0 p1 q0 q1 hp.1.1 hp.2.1 (fun u h hs hu => ?_) ((s.2.1 100 p).toNat + 1) 0 _ h (by omega) hs (by rw [R_en_0]; exact R_shp_0 s) (by omega) hp.2.1.1
    refine Z_go (f2 := (157, [(0, .ref 83), (1, .int (Zi p)), (2, .int (Zi q))], [.ref 83])) (fun _ => rfl) ?_
    refine Z_go (f2 := (159, [(0, .ref 83), (1, .int (Zi p)), (2, .int (Zi q))], [.int (Zi 40), .ref 83])) (fun _ => rfl) ?_
    refine Z_go (f2 := (160, [(0, .ref 83), (1, .int (Zi p)), (2, .int (Zi q))], [.int (Zi 1), .int (Zi 40), .ref 83])) (fun _ => rfl) ?_
    refine R_call (As := [.int (Zi 40), .int (Zi 1)]) (rest := []) rfl (by decide) rfl rfl rfl rfl (by decide +kernel) (Nat.le_of_ble_eq_true rfl) hs (R_shortsAre _ u ⟨by omega, by omega⟩ ⟨by omega, by omega⟩ (by omega) (by omega) hu.2.2.2.2.1) (fun x h u2 hs q => ?_)
    obtain ⟨rfl, qa, qb⟩ := q
    obtain ⟨en, ek⟩ := qa (by decide)
    rw [hu.2.2.2.2.2] at en
    rw [hp.2.1.en 101 rfl] at en
    show B_R _ _ (163, [(0, .ref 83), (1, .int (Zi p)), (2, .int (Zi q))], []) _ _ _
    refine kont u2 h hs ?_ ((hu.vk _).trans (ek.vk (.inl rfl)) (fun _ h => h) (fun _ h => h)) (fun q j a b c e => (ek.2.1 q j (by omega) (by omega) (by omega) (by omega)).trans (hu.2.1 q j (by omega)))
    rw [V_H_fix fx] at en
    exact en
theorem R_be_t {d : Nat} {h0 : E_H} {s : R_S} {sl : Nat} {Φ : E_R → Prop} {p q : Int} {v w : P_V} (p0 : 0 ≤ p) (p1 : p < 44) (q0 : 0 ≤ q) (q1 : q < 44) (hp : R_opn s p v) (hq : R_opn s q w) (fx : V_fix w) (kont : ∀ (u : R_S) (h : E_H), R_is h0 h u → R_EN 102 u 40 (V_bT v w) → R_vk s u (fun e => e = 40) → (∀ q j, 96 ≤ q → q ≤ 106 → q ≠ 102 → q ≠ 103 → u.2.1 q j = s.2.1 q j) → B_R (d + 5) E_m243 (281, [(0, .ref 83), (1, .int (Zi p)), (2, .int (Zi q))], []) h sl Φ) (h : E_H) (hs : R_is h0 h (R_sF s 41 0)) : B_R (d + 5) E_m243 (170, [(3, .int (Zi 0)), (0, .ref 83), (1, .int (Zi p)), (2, .int (Zi q))], []) h sl Φ := by
  match w, hq, fx, kont with
  | .inl A, hq, fx, kont =>
    refine R_bt_i (d := d + 3) (s := s) p0 p1 q0 q1 hq.1.1 hq.1.2.1 hp.2.2.1 (fun u h hs hu => ?_) ((s.2.1 102 p).toNat + 1) 0 _ h (by omega) hs (by rw [R_bq_0, Int.zero_mul]; exact R_shp_0 s) (by omega) hp.2.2.1.1
    refine Z_go (f2 := (275, [(0, .ref 83), (1, .int (Zi p)), (2, .int (Zi q))], [.ref 83])) (fun _ => rfl) ?_
    refine Z_go (f2 := (277, [(0, .ref 83), (1, .int (Zi p)), (2, .int (Zi q))], [.int (Zi 40), .ref 83])) (fun _ => rfl) ?_
    refine Z_go (f2 := (278, [(0, .ref 83), (1, .int (Zi p)), (2, .int (Zi q))], [.int (Zi 0), .int (Zi 40), .ref 83])) (fun _ => rfl) ?_
    refine R_call (As := [.int (Zi 40), .int (Zi 0)]) (rest := []) rfl (by decide) rfl rfl rfl rfl (by decide +kernel) (Nat.le_of_ble_eq_true rfl) hs (R_shortsAre _ u ⟨by omega, by omega⟩ ⟨by omega, by omega⟩ (by omega) (by omega) hu.2.2.2.2.1) (fun x h u2 hs q => ?_)
    obtain ⟨rfl, qa, qb⟩ := q
    obtain ⟨en, ek⟩ := qb rfl
    rw [hu.2.2.2.2.2] at en
    rw [R_bq_im hq.1.2 hp.2.2.1 103 rfl] at en
    show B_R _ _ (281, [(0, .ref 83), (1, .int (Zi p)), (2, .int (Zi q))], []) _ _ _
    refine kont u2 h hs ?_ ((hu.vk _).trans (ek.vk (.inr rfl)) (fun _ h => h) (fun _ h => h)) (fun q j a b c e => (ek.2.1 q j (by omega) (by omega) (by omega) (by omega)).trans (hu.2.1 q j (by omega)))
    exact en
  | .inr r, hq, fx, kont =>
    refine R_ot_i (d := d + 3) (s := s) p0 p1 q0 q1 hq.1.1 hq.2.2.1 (fun u h hs hu => ?_) ((s.2.1 102 q).toNat + 1) 0 _ h (by omega) hs (by rw [R_en_0]; exact R_shp_0 s) (by omega) hq.2.2.1.1
    refine Z_go (f2 := (275, [(0, .ref 83), (1, .int (Zi p)), (2, .int (Zi q))], [.ref 83])) (fun _ => rfl) ?_
    refine Z_go (f2 := (277, [(0, .ref 83), (1, .int (Zi p)), (2, .int (Zi q))], [.int (Zi 40), .ref 83])) (fun _ => rfl) ?_
    refine Z_go (f2 := (278, [(0, .ref 83), (1, .int (Zi p)), (2, .int (Zi q))], [.int (Zi 0), .int (Zi 40), .ref 83])) (fun _ => rfl) ?_
    refine R_call (As := [.int (Zi 40), .int (Zi 0)]) (rest := []) rfl (by decide) rfl rfl rfl rfl (by decide +kernel) (Nat.le_of_ble_eq_true rfl) hs (R_shortsAre _ u ⟨by omega, by omega⟩ ⟨by omega, by omega⟩ (by omega) (by omega) hu.2.2.2.2.1) (fun x h u2 hs q => ?_)
    obtain ⟨rfl, qa, qb⟩ := q
    obtain ⟨en, ek⟩ := qb rfl
    rw [hu.2.2.2.2.2] at en
    rw [hq.2.2.1.en 103 rfl] at en
    show B_R _ _ (281, [(0, .ref 83), (1, .int (Zi p)), (2, .int (Zi q))], []) _ _ _
    refine kont u2 h hs ?_ ((hu.vk _).trans (ek.vk (.inr rfl)) (fun _ h => h) (fun _ h => h)) (fun q j a b c e => (ek.2.1 q j (by omega) (by omega) (by omega) (by omega)).trans (hu.2.1 q j (by omega)))
    rw [V_T_fix fx] at en
    exact en
