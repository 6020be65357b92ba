/-! the reference: meets, whole -/
theorem R_me_i {d : Nat} {h0 : E_H} {s : R_S} {sl : Nat} {Φ : E_R → Prop} {p q : Int} {T H : P_X} (p0 : 0 ≤ p) (p1 : p < 44) (q0 : 0 ≤ q) (q1 : q < 44) (hT : R_EN 102 s p T) (hH : R_EN 100 s q H) (kont : ∀ (u : R_S) (h : E_H), R_is h0 h u → R_lgs s u (s.2.1 102 p * s.2.1 100 q) (R_mq s p q (s.2.1 102 p)) → B_R (d + 1) E_m244 (170, [(0, .ref 83), (1, .int (Zi p)), (2, .int (Zi q))], []) h sl Φ) : ∀ (t : Nat) (i : Int) (u : R_S) (h : E_H), s.2.1 102 p - i < t → R_is h0 h u → R_lgs s u (i * s.2.1 100 q) (R_mq s p q i) → 0 ≤ i → i ≤ s.2.1 102 p → B_R (d + 1) E_m244 (7, [(3, .int (Zi i)), (0, .ref 83), (1, .int (Zi p)), (2, .int (Zi q))], []) h sl Φ := by
  intro t
  induction t with
  | zero => intro i u h ht hs hu i0 i1; omega
  | succ t ih =>
    intro i u h ht hs hu i0 i1
    have f102 : u.2.1 102 p = s.2.1 102 p := hu.2.1 102 p (by decide) (by decide)
    have t12 := hT.2.1
    have h12 := hH.2.1
    have h00 := hH.1
    refine Z_go (f2 := (8, [(3, .int (Zi i)), (0, .ref 83), (1, .int (Zi p)), (2, .int (Zi q))], [.int (Zi i)])) (fun _ => rfl) ?_
    refine Z_go (f2 := (9, [(3, .int (Zi i)), (0, .ref 83), (1, .int (Zi p)), (2, .int (Zi q))], [.ref 83, .int (Zi i)])) (fun _ => rfl) ?_
    refine R_gr (q := 100) rfl hs rfl ?_
    show B_R _ _ (12, [(3, .int (Zi i)), (0, .ref 83), (1, .int (Zi p)), (2, .int (Zi q))], [.ref 102, .int (Zi i)]) _ _ _
    refine Z_go (f2 := (13, [(3, .int (Zi i)), (0, .ref 83), (1, .int (Zi p)), (2, .int (Zi q))], [.int (Zi p), .ref 102, .int (Zi i)])) (fun _ => rfl) ?_
    refine R_ia (q := 18) rfl hs rfl rfl (by omega) (by omega) (by decide) ?_
    refine Z_cge rfl rfl (by first | exact hs.zF _ | exact Zor_r _ _ | exact hs.zA _ _ | assumption | exact zA _ _ | exact zS _ | exact Zr_not (hs.zA _ _) | exact ⟨by omega, by omega⟩) (by first | exact hs.zF _ | exact Zor_r _ _ | exact hs.zA _ _ | assumption | exact zA _ _ | exact zS _ | exact Zr_not (hs.zA _ _) | exact ⟨by omega, by omega⟩) (fun c1 => ?_) (fun c1 => ?_)
    · refine B_loc (K := [(0, .ref 83), (1, .int (Zi p)), (2, .int (Zi q))]) (N_all_sub ⟨rfl, rfl, rfl, trivial⟩) (show ([0, 1, 2] : List Nat).Nodup by decide) ?_
      obtain rfl : i = s.2.1 102 p := by omega
      exact kont u h hs hu
    · refine Z_go (f2 := (18, [(3, .int (Zi i)), (0, .ref 83), (1, .int (Zi p)), (2, .int (Zi q))], [.int (Zi 0)])) (fun _ => rfl) ?_
      refine Z_go (f2 := (20, [(4, .int (Zi 0)), (3, .int (Zi i)), (0, .ref 83), (1, .int (Zi p)), (2, .int (Zi q))], [])) (fun _ => rfl) ?_
      refine B_loc (K := [(4, .int (Zi 0)), (3, .int (Zi i)), (0, .ref 83), (1, .int (Zi p)), (2, .int (Zi q))]) (N_all_sub ⟨rfl, rfl, rfl, rfl, rfl, trivial⟩) (show ([4, 3, 0, 1, 2] : List Nat).Nodup by decide) ?_
      have hn : 0 ≤ i * s.2.1 100 q := Int.mul_nonneg i0 h00
      have hn2 : i * s.2.1 100 q + s.2.1 100 q < 160 := by
        have e1 : (i + 1) * s.2.1 100 q ≤ 12 * s.2.1 100 q := Int.mul_le_mul_of_nonneg_right (by omega) h00
        have e2 : (i + 1) * s.2.1 100 q = i * s.2.1 100 q + s.2.1 100 q := by rw [Int.add_mul, Int.one_mul]
        omega
      refine R_me_j (N0 := i * s.2.1 100 q) (P0 := R_mq s p q i) p0 p1 q0 q1 hT hH i0 (by omega) hn hn2 (fun u h hs hu => ?_) ((s.2.1 100 q).toNat + 1) 0 u h (by omega) hs (by rw [R_mp_0, F_or_no, Int.add_zero]; exact hu) (by omega) h00
      refine Z_iinc (L2 := [(3, .int (Zi (i + 1))), (0, .ref 83), (1, .int (Zi p)), (2, .int (Zi q))]) rfl rfl (by decide) rfl ?_
      refine Z_goto (p2 := 7) rfl (by decide +kernel) (by decide +kernel) ?_
      refine B_loc (K := [(3, .int (Zi (i + 1))), (0, .ref 83), (1, .int (Zi p)), (2, .int (Zi q))]) (N_all_sub ⟨rfl, rfl, rfl, rfl, trivial⟩) (show ([3, 0, 1, 2] : List Nat).Nodup by decide) ?_
      refine ih (i + 1) u h (by omega) hs ?_ (by omega) (by omega)
      rw [R_mq_s s p q i0] at hu
      rw [show (i + 1) * s.2.1 100 q = i * s.2.1 100 q + s.2.1 100 q by rw [Int.add_mul, Int.one_mul]]
      exact hu
theorem R_meets (d : Nat) (s : R_S) {p q : Int} {T H : P_X} (p0 : 0 ≤ p) (p1 : p < 44) (q0 : 0 ≤ q) (q1 : q < 44) (hT : R_EN 102 s p T) (hH : R_EN 100 s q H) (zp : Zr p) (zq : Zr q) : R_ok (d + 5) 244 [.int (Zi p), .int (Zi q)] s (fun x s2 => x = none ∧ R_CC s2 40 (F_least (F_im2 (fun t h => L_gr (t ++ h)) T H)) ∧ R_vk s s2 (fun e => e = 40) ∧ (∀ q j, 96 ≤ q → q ≤ 103 → s2.2.1 q j = s.2.1 q j)) := by
  refine R_enter (M := E_m244) rfl (Nat.le_of_ble_eq_true rfl) (fun h0 h hs => ?_)
  show B_R (d + 4) _ (0, [(0, .ref 83), (1, .int (Zi p)), (2, .int (Zi q))], []) _ _ _
  refine Z_go (f2 := (1, [(0, .ref 83), (1, .int (Zi p)), (2, .int (Zi q))], [.ref 83])) (fun _ => rfl) ?_
  refine Z_go (f2 := (2, [(0, .ref 83), (1, .int (Zi p)), (2, .int (Zi q))], [.int (Zi 0), .ref 83])) (fun _ => rfl) ?_
  refine R_pf rfl hs rfl (by first | exact hs.zF _ | exact Zor_r _ _ | exact hs.zA _ _ | assumption | exact zA _ _ | exact zS _ | exact Zr_not (hs.zA _ _) | exact ⟨by omega, by omega⟩) ⟨rfl, rfl, rfl⟩ (fun h hs => ?_)
  refine Z_go (f2 := (6, [(0, .ref 83), (1, .int (Zi p)), (2, .int (Zi q))], [.int (Zi 0)])) (fun _ => rfl) ?_
  refine Z_go (f2 := (7, [(3, .int (Zi 0)), (0, .ref 83), (1, .int (Zi p)), (2, .int (Zi q))], [])) (fun _ => rfl) ?_
  refine B_loc (K := [(3, .int (Zi 0)), (0, .ref 83), (1, .int (Zi p)), (2, .int (Zi q))]) (N_all_sub ⟨rfl, rfl, rfl, rfl, trivial⟩) (show ([3, 0, 1, 2] : List Nat).Nodup by decide) ?_
  refine R_me_i (d := d + 3) (s := s) p0 p1 q0 q1 hT hH (fun u h hs hu => ?_) ((s.2.1 102 p).toNat + 1) 0 _ h (by omega) hs (by rw [R_mq_0, Int.zero_mul]; exact R_lgs_0 s) (by omega) hT.1
  refine Z_go (f2 := (171, [(0, .ref 83), (1, .int (Zi p)), (2, .int (Zi q))], [.ref 83])) (fun _ => rfl) ?_
  refine Z_go (f2 := (173, [(0, .ref 83), (1, .int (Zi p)), (2, .int (Zi q))], [.int (Zi 40), .ref 83])) (fun _ => rfl) ?_
  refine R_call (As := [.int (Zi 40)]) (rest := []) rfl (by decide) rfl rfl rfl rfl (by decide +kernel) (Nat.le_of_ble_eq_true rfl) hs (R_ofLongs _ u ⟨by omega, by omega⟩ (by omega) (by omega) hu.2.2.2.2.1) (fun x h w hs q => ?_)
  obtain ⟨rfl, c1, c2, c3⟩ := q
  rw [R_LF_LT, hu.2.2.2.2.2, R_mq_im hT hH] at c1
  show B_R _ _ (176, [(0, .ref 83), (1, .int (Zi p)), (2, .int (Zi q))], []) _ _ _
  refine Z_ret rfl rfl ⟨_, hs, ?_, rfl⟩
  exact ⟨rfl, c1, (hu.vk (fun e => e = 40)).trans c2 (fun _ h => h) (fun _ h => h), fun q j q0 q1 => (c3 q j q0 q1).trans (hu.2.1 q j (by omega) (by omega))⟩
