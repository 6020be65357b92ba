/-! the reference: or, the texts of one side -/
theorem R_or_i {d : Nat} {h0 : E_H} {s : R_S} {sl : Nat} {Φ : E_R → Prop} {x a c r p q n : Int} (x0 : 0 ≤ x) (x1 : x < 44) (a0 : 0 ≤ a) (a1 : a < 8) (n1 : n ≤ 60) (hn : n = s.2.1 98 (8 * x + a)) (zA : ∀ q j, Zr (s.2.1 q j)) (kont : ∀ (h : E_H), R_is h0 h (R_fl s 112 0 n (fun y => s.2.1 99 (60 * (8 * x + a) + y))) → B_R (d + 1) E_m245 (108, [(7, .int (Zi n)), (6, .int (Zi a)), (5, .int (Zi x)), (4, .int (Zi c)), (3, .int (Zi r)), (0, .ref 83), (1, .int (Zi p)), (2, .int (Zi q))], []) h sl Φ) : ∀ (t : Nat) (i : Int) (h : E_H), n - i < t → R_is h0 h (R_fl s 112 0 i (fun y => s.2.1 99 (60 * (8 * x + a) + y))) → 0 ≤ i → i ≤ n → B_R (d + 1) E_m245 (67, [(7, .int (Zi i)), (6, .int (Zi a)), (5, .int (Zi x)), (4, .int (Zi c)), (3, .int (Zi r)), (0, .ref 83), (1, .int (Zi p)), (2, .int (Zi q))], []) h sl Φ := by
  intro t
  induction t with
  | zero => intro i h ht hs i0 i1; omega
  | succ t ih =>
    intro i h ht hs i0 i1
    refine Z_go (f2 := (69, [(7, .int (Zi i)), (6, .int (Zi a)), (5, .int (Zi x)), (4, .int (Zi c)), (3, .int (Zi r)), (0, .ref 83), (1, .int (Zi p)), (2, .int (Zi q))], [.int (Zi i)])) (fun _ => rfl) ?_
    refine Z_go (f2 := (70, [(7, .int (Zi i)), (6, .int (Zi a)), (5, .int (Zi x)), (4, .int (Zi c)), (3, .int (Zi r)), (0, .ref 83), (1, .int (Zi p)), (2, .int (Zi q))], [.ref 83, .int (Zi i)])) (fun _ => rfl) ?_
    refine R_gr (q := 96) rfl hs rfl ?_
    show B_R _ _ (73, [(7, .int (Zi i)), (6, .int (Zi a)), (5, .int (Zi x)), (4, .int (Zi c)), (3, .int (Zi r)), (0, .ref 83), (1, .int (Zi p)), (2, .int (Zi q))], [.ref 98, .int (Zi i)]) _ _ _
    refine Z_go (f2 := (75, [(7, .int (Zi i)), (6, .int (Zi a)), (5, .int (Zi x)), (4, .int (Zi c)), (3, .int (Zi r)), (0, .ref 83), (1, .int (Zi p)), (2, .int (Zi q))], [.int (Zi 8), .ref 98, .int (Zi i)])) (fun _ => rfl) ?_
    refine Z_go (f2 := (77, [(7, .int (Zi i)), (6, .int (Zi a)), (5, .int (Zi x)), (4, .int (Zi c)), (3, .int (Zi r)), (0, .ref 83), (1, .int (Zi p)), (2, .int (Zi q))], [.int (Zi x), .int (Zi 8), .ref 98, .int (Zi i)])) (fun _ => rfl) ?_
    refine Z_imul rfl ?_
    refine Z_go (f2 := (80, [(7, .int (Zi i)), (6, .int (Zi a)), (5, .int (Zi x)), (4, .int (Zi c)), (3, .int (Zi r)), (0, .ref 83), (1, .int (Zi p)), (2, .int (Zi q))], [.int (Zi a), .int (Zi (8 * x)), .ref 98, .int (Zi i)])) (fun _ => rfl) ?_
    refine Z_iadd rfl ?_
    refine R_ia (q := 14) rfl hs rfl rfl (by omega) (by omega) (by decide) ?_
    rw [show (R_fl s 112 0 i (fun y => s.2.1 99 (60 * (8 * x + a) + y))).2.1 98 (8 * x + a) = s.2.1 98 (8 * x + a) by first | rfl | simp [R_sA, R_sF, R_up2, R_fl, R_fL, R_sM, R_sL, R_p3, R_em]]; show B_R _ _ (82, [(7, .int (Zi i)), (6, .int (Zi a)), (5, .int (Zi x)), (4, .int (Zi c)), (3, .int (Zi r)), (0, .ref 83), (1, .int (Zi p)), (2, .int (Zi q))], [.int (Zi (s.2.1 98 (8 * x + a))), .int (Zi i)]) _ _ _
    refine Z_cge rfl rfl (by first | exact hs.zF _ | exact Zor_r _ _ | exact hs.zA _ _ | assumption | exact zA _ _ | exact zS _ | exact Zr_not (hs.zA _ _) | exact ⟨by omega, by omega⟩) (by first | exact hs.zF _ | exact Zor_r _ _ | exact hs.zA _ _ | assumption | exact zA _ _ | exact zS _ | exact Zr_not (hs.zA _ _) | exact ⟨by omega, by omega⟩) (fun c1 => ?_) (fun c1 => ?_)
    · obtain rfl : i = n := by omega
      exact kont h hs 
    · refine Z_go (f2 := (86, [(7, .int (Zi i)), (6, .int (Zi a)), (5, .int (Zi x)), (4, .int (Zi c)), (3, .int (Zi r)), (0, .ref 83), (1, .int (Zi p)), (2, .int (Zi q))], [.ref 83])) (fun _ => rfl) ?_
      refine R_gr (q := 110) rfl hs rfl ?_
      show B_R _ _ (89, [(7, .int (Zi i)), (6, .int (Zi a)), (5, .int (Zi x)), (4, .int (Zi c)), (3, .int (Zi r)), (0, .ref 83), (1, .int (Zi p)), (2, .int (Zi q))], [.ref 112]) _ _ _
      refine Z_go (f2 := (91, [(7, .int (Zi i)), (6, .int (Zi a)), (5, .int (Zi x)), (4, .int (Zi c)), (3, .int (Zi r)), (0, .ref 83), (1, .int (Zi p)), (2, .int (Zi q))], [.int (Zi i), .ref 112])) (fun _ => rfl) ?_
      refine Z_go (f2 := (92, [(7, .int (Zi i)), (6, .int (Zi a)), (5, .int (Zi x)), (4, .int (Zi c)), (3, .int (Zi r)), (0, .ref 83), (1, .int (Zi p)), (2, .int (Zi q))], [.ref 83, .int (Zi i), .ref 112])) (fun _ => rfl) ?_
      refine Z_go (f2 := (94, [(7, .int (Zi i)), (6, .int (Zi a)), (5, .int (Zi x)), (4, .int (Zi c)), (3, .int (Zi r)), (0, .ref 83), (1, .int (Zi p)), (2, .int (Zi q))], [.int (Zi x), .ref 83, .int (Zi i), .ref 112])) (fun _ => rfl) ?_
      refine Z_go (f2 := (96, [(7, .int (Zi i)), (6, .int (Zi a)), (5, .int (Zi x)), (4, .int (Zi c)), (3, .int (Zi r)), (0, .ref 83), (1, .int (Zi p)), (2, .int (Zi q))], [.int (Zi a), .int (Zi x), .ref 83, .int (Zi i), .ref 112])) (fun _ => rfl) ?_
      refine Z_go (f2 := (98, [(7, .int (Zi i)), (6, .int (Zi a)), (5, .int (Zi x)), (4, .int (Zi c)), (3, .int (Zi r)), (0, .ref 83), (1, .int (Zi p)), (2, .int (Zi q))], [.int (Zi i), .int (Zi a), .int (Zi x), .ref 83, .int (Zi i), .ref 112])) (fun _ => rfl) ?_
      refine R_call (As := [.int (Zi x), .int (Zi a), .int (Zi i)]) (rest := [.int (Zi i), .ref 112]) rfl (by decide) rfl rfl rfl rfl (by decide +kernel) (Nat.le_of_ble_eq_true rfl) hs (R_textByte _ (R_fl s 112 0 i (fun y => s.2.1 99 (60 * (8 * x + a) + y))) (by first | assumption | exact hs.zA _ _ | exact zA _ _ | exact ⟨by omega, by omega⟩) (by first | assumption | exact hs.zA _ _ | exact zA _ _ | exact ⟨by omega, by omega⟩) (by first | assumption | exact hs.zA _ _ | exact zA _ _ | exact ⟨by omega, by omega⟩) (by omega) (by omega)) (fun x h s2 hs q => ?_)
      obtain ⟨q0, v, rfl, q2⟩ := q
      rw [q0] at hs
      rw [q2, R_fl_n (by decide)]
      show B_R _ _ (101, [(7, .int (Zi i)), (6, .int (Zi a)), (5, .int (Zi x)), (4, .int (Zi c)), (3, .int (Zi r)), (0, .ref 83), (1, .int (Zi p)), (2, .int (Zi q))], [.int (Zi (s.2.1 99 (60 * (8 * x + a) + i))), .int (Zi i), .ref 112]) _ _ _
      refine R_is_ (q := 28) rfl hs rfl rfl (by omega) (by omega) (by decide) (by first | exact hs.zF _ | exact Zor_r _ _ | exact hs.zA _ _ | assumption | exact zA _ _ | exact zS _ | exact Zr_not (hs.zA _ _) | exact ⟨by omega, by omega⟩) (fun h hs => ?_)
      refine Z_iinc (L2 := [(7, .int (Zi (i + 1))), (6, .int (Zi a)), (5, .int (Zi x)), (4, .int (Zi c)), (3, .int (Zi r)), (0, .ref 83), (1, .int (Zi p)), (2, .int (Zi q))]) rfl rfl (by decide) rfl ?_
      refine Z_go (f2 := (67, [(7, .int (Zi (i + 1))), (6, .int (Zi a)), (5, .int (Zi x)), (4, .int (Zi c)), (3, .int (Zi r)), (0, .ref 83), (1, .int (Zi p)), (2, .int (Zi q))], [])) (fun _ => rfl) ?_
      refine B_loc (K := [(7, .int (Zi (i + 1))), (6, .int (Zi a)), (5, .int (Zi x)), (4, .int (Zi c)), (3, .int (Zi r)), (0, .ref 83), (1, .int (Zi p)), (2, .int (Zi q))]) (N_all_sub ⟨rfl, rfl, rfl, rfl, rfl, rfl, rfl, rfl, trivial⟩) (show ([7, 6, 5, 4, 3, 0, 1, 2] : List Nat).Nodup by decide) ?_
      rw [R_fl_st (by omega) rfl rfl] at hs
      exact ih _ _ (by omega) hs (by omega) (by omega)
theorem R_or_w {u w : R_S} {x t n : Int} (hn : n = u.2.1 98 (8 * x + t)) (tv : R_tv u x) (t0 : 0 ≤ t) (t1 : t < u.2.1 97 x) (hw : w = R_fl u 112 0 n (fun y => u.2.1 99 (60 * (8 * x + t) + y))) : R_lg w 0 n = R_trow u x t ∧ ∀ i, 0 ≤ i → i < n → 0 ≤ w.2.1 112 i ∧ w.2.1 112 i < 256 := by
  have b1 := tv.2.2 t t0 t1
  rw [← hn] at b1
  have e1 : ∀ i, 0 ≤ i → i < n → w.2.1 112 i = u.2.1 99 (60 * (8 * x + t) + i) := fun i i0 i1 => by rw [hw, R_fl_i i0 i1]
  exact ⟨D_row_eq hn (fun i i0 i1 => by rw [Int.zero_add]; exact e1 i i0 i1), fun i i0 i1 => by rw [e1 i i0 i1]; exact b1.2.2 i i0 i1⟩
/-- the texts so far, while they fit -/
def R_orr (u : R_S) (r : Int) (P Z : P_X) : Prop := r = 1 ∧ R_EX u 40 P ∨ r = 0 ∧ ¬ F_fit Z
theorem R_or_t {d : Nat} {h0 : E_H} {s : R_S} {sl : Nat} {Φ : E_R → Prop} {x c p q : Int} {P0 Z : P_X} (x0 : 0 ≤ x) (x1 : x < 44) (nx : x ≠ 40) (tv : R_tv s x) (hZ : ∀ y, F_or P0 (R_tf id s x (s.2.1 97 x)) y → Z y) (kont : ∀ (u : R_S) (r : Int) (h : E_H), R_is h0 h u → R_j40 s u → R_orr u r (F_or P0 (R_tf id s x (s.2.1 97 x))) Z → B_R (d + 3) E_m245 (144, [(5, .int (Zi x)), (4, .int (Zi c)), (3, .int (Zi r)), (0, .ref 83), (1, .int (Zi p)), (2, .int (Zi q))], []) h sl Φ) : ∀ (f : Nat) (t r : Int) (u : R_S) (h : E_H), s.2.1 97 x - t < f → R_is h0 h u → R_j40 s u → R_orr u r (F_or P0 (R_tf id s x t)) Z → 0 ≤ t → t ≤ s.2.1 97 x → B_R (d + 3) E_m245 (52, [(6, .int (Zi t)), (5, .int (Zi x)), (4, .int (Zi c)), (3, .int (Zi r)), (0, .ref 83), (1, .int (Zi p)), (2, .int (Zi q))], []) h sl Φ := by
  intro f
  induction f with
  | zero => intro t r u h ht hs hj hr t0 t1; omega
  | succ f ih =>
    intro t r u h ht hs hj hr t0 t1
    obtain ⟨vx, e97, e98, er⟩ := R_tv_j40 hj (by omega) tv
    have t8 := vx.2.1
    have zr : Zr r := by rcases hr with q | q <;> exact ⟨by omega, by omega⟩
    refine Z_go (f2 := (54, [(6, .int (Zi t)), (5, .int (Zi x)), (4, .int (Zi c)), (3, .int (Zi r)), (0, .ref 83), (1, .int (Zi p)), (2, .int (Zi q))], [.int (Zi t)])) (fun _ => rfl) ?_
    refine Z_go (f2 := (55, [(6, .int (Zi t)), (5, .int (Zi x)), (4, .int (Zi c)), (3, .int (Zi r)), (0, .ref 83), (1, .int (Zi p)), (2, .int (Zi q))], [.ref 83, .int (Zi t)])) (fun _ => rfl) ?_
    refine R_gr (q := 95) rfl hs rfl ?_
    show B_R _ _ (58, [(6, .int (Zi t)), (5, .int (Zi x)), (4, .int (Zi c)), (3, .int (Zi r)), (0, .ref 83), (1, .int (Zi p)), (2, .int (Zi q))], [.ref 97, .int (Zi t)]) _ _ _
    refine Z_go (f2 := (60, [(6, .int (Zi t)), (5, .int (Zi x)), (4, .int (Zi c)), (3, .int (Zi r)), (0, .ref 83), (1, .int (Zi p)), (2, .int (Zi q))], [.int (Zi x), .ref 97, .int (Zi t)])) (fun _ => rfl) ?_
    refine R_ia (q := 13) rfl hs rfl rfl (by omega) (by omega) (by decide) ?_
    refine Z_cge rfl rfl (by first | exact hs.zF _ | exact Zor_r _ _ | exact hs.zA _ _ | assumption | exact zA _ _ | exact zS _ | exact Zr_not (hs.zA _ _) | exact ⟨by omega, by omega⟩) (by first | exact hs.zF _ | exact Zor_r _ _ | exact hs.zA _ _ | assumption | exact zA _ _ | exact zS _ | exact Zr_not (hs.zA _ _) | exact ⟨by omega, by omega⟩) (fun c1 => ?_) (fun c1 => ?_)
    · refine B_loc (K := [(5, .int (Zi x)), (4, .int (Zi c)), (3, .int (Zi r)), (0, .ref 83), (1, .int (Zi p)), (2, .int (Zi q))]) (N_all_sub ⟨rfl, rfl, rfl, rfl, rfl, rfl, trivial⟩) (show ([5, 4, 3, 0, 1, 2] : List Nat).Nodup by decide) ?_
      obtain rfl : t = s.2.1 97 x := by omega
      exact kont u r h hs hj hr
    · refine Z_go (f2 := (65, [(6, .int (Zi t)), (5, .int (Zi x)), (4, .int (Zi c)), (3, .int (Zi r)), (0, .ref 83), (1, .int (Zi p)), (2, .int (Zi q))], [.int (Zi 0)])) (fun _ => rfl) ?_
      refine Z_go (f2 := (67, [(7, .int (Zi 0)), (6, .int (Zi t)), (5, .int (Zi x)), (4, .int (Zi c)), (3, .int (Zi r)), (0, .ref 83), (1, .int (Zi p)), (2, .int (Zi q))], [])) (fun _ => rfl) ?_
      have hb := vx.2.2 t t0 (by omega)
      refine B_loc (K := [(7, .int (Zi 0)), (6, .int (Zi t)), (5, .int (Zi x)), (4, .int (Zi c)), (3, .int (Zi r)), (0, .ref 83), (1, .int (Zi p)), (2, .int (Zi q))]) (N_all_sub ⟨rfl, rfl, rfl, rfl, rfl, rfl, rfl, rfl, trivial⟩) (show ([7, 6, 5, 4, 3, 0, 1, 2] : List Nat).Nodup by decide) ?_
      refine R_or_i (d := d + 2) (s := u) (n := u.2.1 98 (8 * x + t)) x0 (by omega) t0 (by omega) hb.2.1 rfl (fun q j => hs.zA q j) (fun h hs => ?_) ((u.2.1 98 (8 * x + t)).toNat + 1) 0 h (by omega) (by rw [R_fl_0]; exact hs) (by omega) hb.1
      have zu : Zr (u.2.1 98 (8 * x + t)) := ⟨by omega, by omega⟩
      have key : ∃ w, w = R_fl u 112 0 (u.2.1 98 (8 * x + t)) (fun y => u.2.1 99 (60 * (8 * x + t) + y)) := ⟨_, rfl⟩
      obtain ⟨w, hw⟩ := key
      rw [← hw] at hs
      obtain ⟨kr, kb⟩ := R_or_w rfl vx t0 (by omega) hw
      have hjw : R_j40 s w := by rw [hw]; exact hj.trans (R_only_112 _ _ _)
      rw [er t t0 (by omega)] at kr
      have st := R_tf_st id s x t0
      have w98 : w.2.1 98 (8 * x + t) = u.2.1 98 (8 * x + t) := by rw [hw]; exact R_fl_n (by decide) _
      refine Z_go (f2 := (109, [(7, .int (Zi (u.2.1 98 (8 * x + t)))), (6, .int (Zi t)), (5, .int (Zi x)), (4, .int (Zi c)), (3, .int (Zi r)), (0, .ref 83), (1, .int (Zi p)), (2, .int (Zi q))], [.int (Zi r)])) (fun _ => rfl) ?_
      refine Z_ieq rfl rfl (by first | exact hs.zF _ | exact Zor_r _ _ | exact hs.zA _ _ | assumption | exact zA _ _ | exact zS _ | exact Zr_not (hs.zA _ _) | exact ⟨by omega, by omega⟩) (fun c1 => ?_) (fun c1 => ?_)
      · refine Z_go (f2 := (137, [(7, .int (Zi (u.2.1 98 (8 * x + t)))), (6, .int (Zi t)), (5, .int (Zi x)), (4, .int (Zi c)), (3, .int (Zi r)), (0, .ref 83), (1, .int (Zi p)), (2, .int (Zi q))], [.int (Zi 0)])) (fun _ => rfl) ?_
        refine Z_go (f2 := (138, [(3, .int (Zi 0)), (7, .int (Zi (u.2.1 98 (8 * x + t)))), (6, .int (Zi t)), (5, .int (Zi x)), (4, .int (Zi c)), (0, .ref 83), (1, .int (Zi p)), (2, .int (Zi q))], [])) (fun _ => rfl) ?_
        refine Z_iinc (L2 := [(6, .int (Zi (t + 1))), (3, .int (Zi 0)), (7, .int (Zi (u.2.1 98 (8 * x + t)))), (5, .int (Zi x)), (4, .int (Zi c)), (0, .ref 83), (1, .int (Zi p)), (2, .int (Zi q))]) rfl rfl (by decide) rfl ?_
        refine Z_go (f2 := (52, [(6, .int (Zi (t + 1))), (3, .int (Zi 0)), (7, .int (Zi (u.2.1 98 (8 * x + t)))), (5, .int (Zi x)), (4, .int (Zi c)), (0, .ref 83), (1, .int (Zi p)), (2, .int (Zi q))], [])) (fun _ => rfl) ?_
        refine B_loc (K := [(6, .int (Zi (t + 1))), (5, .int (Zi x)), (4, .int (Zi c)), (3, .int (Zi 0)), (0, .ref 83), (1, .int (Zi p)), (2, .int (Zi q))]) (N_all_sub ⟨rfl, rfl, rfl, rfl, rfl, rfl, rfl, trivial⟩) (show ([6, 5, 4, 3, 0, 1, 2] : List Nat).Nodup by decide) ?_
        exact ih (t + 1) 0 w h (by omega) hs hjw (.inr ⟨rfl, by rcases hr with q | q; omega; exact q.2⟩) (by omega) (by omega)
      · have hew : R_EX w 40 (F_or P0 (R_tf id s x t)) := by
          rcases hr with q | q
          · rw [hw]; exact R_EX_112 q.2
          · omega
        refine Z_go (f2 := (113, [(7, .int (Zi (u.2.1 98 (8 * x + t)))), (6, .int (Zi t)), (5, .int (Zi x)), (4, .int (Zi c)), (3, .int (Zi r)), (0, .ref 83), (1, .int (Zi p)), (2, .int (Zi q))], [.ref 83])) (fun _ => rfl) ?_
        refine Z_go (f2 := (114, [(7, .int (Zi (u.2.1 98 (8 * x + t)))), (6, .int (Zi t)), (5, .int (Zi x)), (4, .int (Zi c)), (3, .int (Zi r)), (0, .ref 83), (1, .int (Zi p)), (2, .int (Zi q))], [.ref 83, .ref 83])) (fun _ => rfl) ?_
        refine R_gr (q := 96) rfl hs rfl ?_
        show B_R _ _ (117, [(7, .int (Zi (u.2.1 98 (8 * x + t)))), (6, .int (Zi t)), (5, .int (Zi x)), (4, .int (Zi c)), (3, .int (Zi r)), (0, .ref 83), (1, .int (Zi p)), (2, .int (Zi q))], [.ref 98, .ref 83]) _ _ _
        refine Z_go (f2 := (119, [(7, .int (Zi (u.2.1 98 (8 * x + t)))), (6, .int (Zi t)), (5, .int (Zi x)), (4, .int (Zi c)), (3, .int (Zi r)), (0, .ref 83), (1, .int (Zi p)), (2, .int (Zi q))], [.int (Zi 8), .ref 98, .ref 83])) (fun _ => rfl) ?_
        refine Z_go (f2 := (121, [(7, .int (Zi (u.2.1 98 (8 * x + t)))), (6, .int (Zi t)), (5, .int (Zi x)), (4, .int (Zi c)), (3, .int (Zi r)), (0, .ref 83), (1, .int (Zi p)), (2, .int (Zi q))], [.int (Zi x), .int (Zi 8), .ref 98, .ref 83])) (fun _ => rfl) ?_
        refine Z_imul rfl ?_
        refine Z_go (f2 := (124, [(7, .int (Zi (u.2.1 98 (8 * x + t)))), (6, .int (Zi t)), (5, .int (Zi x)), (4, .int (Zi c)), (3, .int (Zi r)), (0, .ref 83), (1, .int (Zi p)), (2, .int (Zi q))], [.int (Zi t), .int (Zi (8 * x)), .ref 98, .ref 83])) (fun _ => rfl) ?_
        refine Z_iadd rfl ?_
        refine R_ia (q := 14) rfl hs rfl rfl (by omega) (by omega) (by decide) ?_
        refine R_call (As := [.int (Zi (w.2.1 98 (8 * x + t)))]) (rest := []) rfl (by decide) rfl rfl rfl rfl (by decide +kernel) (Nat.le_of_ble_eq_true rfl) hs (R_makes _ w (by rw [w98]; exact zu) (by rw [w98]; exact hb.1) hew (fun _ => by rw [w98]; exact kb)) (fun x h w2 hs q => ?_)
        obtain ⟨v, rfl, hv⟩ := q
        rw [w98, kr, F_or_assoc, show F_one (R_trow s x t) = F_one (id (R_trow s x t)) from rfl, st] at hv
        have bs : Zr v := by rcases hv with q | q <;> exact ⟨by omega, by omega⟩
        show B_R _ _ (129, [(7, .int (Zi (u.2.1 98 (8 * x + t)))), (6, .int (Zi t)), (5, .int (Zi x)), (4, .int (Zi c)), (3, .int (Zi r)), (0, .ref 83), (1, .int (Zi p)), (2, .int (Zi q))], [.int (Zi v)]) _ _ _
        refine Z_ieq rfl rfl (by first | exact hs.zF _ | exact Zor_r _ _ | exact hs.zA _ _ | assumption | exact zA _ _ | exact zS _ | exact Zr_not (hs.zA _ _) | exact ⟨by omega, by omega⟩) (fun c2 => ?_) (fun c2 => ?_)
        · refine Z_go (f2 := (137, [(7, .int (Zi (u.2.1 98 (8 * x + t)))), (6, .int (Zi t)), (5, .int (Zi x)), (4, .int (Zi c)), (3, .int (Zi r)), (0, .ref 83), (1, .int (Zi p)), (2, .int (Zi q))], [.int (Zi 0)])) (fun _ => rfl) ?_
          refine Z_go (f2 := (138, [(3, .int (Zi 0)), (7, .int (Zi (u.2.1 98 (8 * x + t)))), (6, .int (Zi t)), (5, .int (Zi x)), (4, .int (Zi c)), (0, .ref 83), (1, .int (Zi p)), (2, .int (Zi q))], [])) (fun _ => rfl) ?_
          refine Z_iinc (L2 := [(6, .int (Zi (t + 1))), (3, .int (Zi 0)), (7, .int (Zi (u.2.1 98 (8 * x + t)))), (5, .int (Zi x)), (4, .int (Zi c)), (0, .ref 83), (1, .int (Zi p)), (2, .int (Zi q))]) rfl rfl (by decide) rfl ?_
          refine Z_go (f2 := (52, [(6, .int (Zi (t + 1))), (3, .int (Zi 0)), (7, .int (Zi (u.2.1 98 (8 * x + t)))), (5, .int (Zi x)), (4, .int (Zi c)), (0, .ref 83), (1, .int (Zi p)), (2, .int (Zi q))], [])) (fun _ => rfl) ?_
          refine B_loc (K := [(6, .int (Zi (t + 1))), (5, .int (Zi x)), (4, .int (Zi c)), (3, .int (Zi 0)), (0, .ref 83), (1, .int (Zi p)), (2, .int (Zi q))]) (N_all_sub ⟨rfl, rfl, rfl, rfl, rfl, rfl, rfl, trivial⟩) (show ([6, 5, 4, 3, 0, 1, 2] : List Nat).Nodup by decide) ?_
          rcases hv with ⟨q, _⟩ | ⟨_, c1, c2⟩
          · omega
          · refine ih (t + 1) 0 w2 h (by omega) hs (hjw.trans c1.j) (.inr ⟨rfl, fun hf => ?_⟩) (by omega) (by omega)
            rcases c2 with k | k
            · have := hf.2 (R_trow s x t) (hZ _ (.inr ⟨t, t0, by omega, rfl⟩))
              unfold R_trow at this
              rw [D_row_len, ← e98 t t0 (by omega)] at this
              omega
            · refine k (S_card_mono (fun y hy => hZ y ?_) hf.1)
              rcases hy with hy | ⟨a, a0, a1, hy⟩
              · exact .inl hy
              · exact .inr ⟨a, a0, by omega, hy⟩
        · refine Z_go (f2 := (133, [(7, .int (Zi (u.2.1 98 (8 * x + t)))), (6, .int (Zi t)), (5, .int (Zi x)), (4, .int (Zi c)), (3, .int (Zi r)), (0, .ref 83), (1, .int (Zi p)), (2, .int (Zi q))], [.int (Zi 1)])) (fun _ => rfl) ?_
          refine Z_go (f2 := (137, [(7, .int (Zi (u.2.1 98 (8 * x + t)))), (6, .int (Zi t)), (5, .int (Zi x)), (4, .int (Zi c)), (3, .int (Zi r)), (0, .ref 83), (1, .int (Zi p)), (2, .int (Zi q))], [.int (Zi 1)])) (fun _ => rfl) ?_
          refine Z_go (f2 := (138, [(3, .int (Zi 1)), (7, .int (Zi (u.2.1 98 (8 * x + t)))), (6, .int (Zi t)), (5, .int (Zi x)), (4, .int (Zi c)), (0, .ref 83), (1, .int (Zi p)), (2, .int (Zi q))], [])) (fun _ => rfl) ?_
          refine Z_iinc (L2 := [(6, .int (Zi (t + 1))), (3, .int (Zi 1)), (7, .int (Zi (u.2.1 98 (8 * x + t)))), (5, .int (Zi x)), (4, .int (Zi c)), (0, .ref 83), (1, .int (Zi p)), (2, .int (Zi q))]) rfl rfl (by decide) rfl ?_
          refine Z_go (f2 := (52, [(6, .int (Zi (t + 1))), (3, .int (Zi 1)), (7, .int (Zi (u.2.1 98 (8 * x + t)))), (5, .int (Zi x)), (4, .int (Zi c)), (0, .ref 83), (1, .int (Zi p)), (2, .int (Zi q))], [])) (fun _ => rfl) ?_
          refine B_loc (K := [(6, .int (Zi (t + 1))), (5, .int (Zi x)), (4, .int (Zi c)), (3, .int (Zi 1)), (0, .ref 83), (1, .int (Zi p)), (2, .int (Zi q))]) (N_all_sub ⟨rfl, rfl, rfl, rfl, rfl, rfl, rfl, trivial⟩) (show ([6, 5, 4, 3, 0, 1, 2] : List Nat).Nodup by decide) ?_
          rcases hv with ⟨_, _, c1, c2⟩ | ⟨q, _⟩
          · exact ih (t + 1) 1 w2 h (by omega) hs (hjw.trans c2.j) (.inl ⟨rfl, c1⟩) (by omega) (by omega)
          · omega
