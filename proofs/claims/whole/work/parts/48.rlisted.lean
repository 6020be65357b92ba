/-! the reference: the reading of a regex, lists -/
theorem R_ss_ext {s w u : R_S} {m : Int} {B C : Int → Prop} (h : R_ss s w m B) (g : R_ss w u m (fun y => R_has w m y ∨ C y)) : R_ss s u m (fun y => B y ∨ C y) := by
  refine (h.trans g).weak (fun y y0 y1 => ?_)
  rw [h.2.2.2.2 y y0 y1]
/-- a list, as the reference goes -/
def D_list (S : Int → Int) (fold : Prop) (a f p : Int) : Int × Int × Int × Int × (Int → Prop) :=
  let r := D_items S 82 true (if S a = 94 then a + 1 else a) f p (fun _ => False)
  if r.1 = 0 then r else (r.1, r.2.1, r.2.2.1, r.2.2.2.1, if S a = 94 then fun x => ¬ P_fold fold r.2.2.2.2 x else P_fold fold r.2.2.2.2)
theorem R_listed_lp {d : Nat} {h0 : E_H} {s : R_S} {sl : Nat} {Φ : E_R → Prop} {nt : Int} {R : Int × Int × Int × Int × (Int → Prop)} (t1 : s.1 1 ≤ 80) (tb : ∀ j, 0 ≤ s.2.1 84 j ∧ s.2.1 84 j < 256) (sn : ∀ k, s.1 1 ≤ k → D_see s k = -1) (zS : ∀ k, Zr (D_see s k)) (m1 : 1 ≤ s.1 15) (m2 : s.1 15 ≤ 90) (k0_ : ∀ (w : R_S) (h : E_H) (A F P : Int) (B : Int → Prop), R_is h0 h (R_p3 w A F P) → R_ss s w (s.1 15 - 1) B → R = (0, A, F, P, B) → Φ (some (.int (Zi 0)), h, sl)) (k1_ : ∀ (w : R_S) (h : E_H) (a f p k : Int) (B : Int → Prop), R_is h0 h (R_p3 w a f p) → R_ss s w (s.1 15 - 1) B → R = (1, a + 1, f, p, B) → 0 ≤ a → a < s.1 1 → B_R (d + 4) E_m207 (156, [(2, .int (Zi k)), (0, .ref 83), (1, .int (Zi nt))], []) h sl Φ) : ∀ (t : Nat) (k a f p : Int) (B : Int → Prop) (w : R_S) (h : E_H), s.1 1 - a < t → R_is h0 h (R_p3 w a f p) → R_ss s w (s.1 15 - 1) B → 0 ≤ a → a ≤ s.1 1 → 0 ≤ k → k ≤ a → D_items (D_see s) t (decide (k = 0)) a f p B = R → B_R (d + 4) E_m207 (39, [(2, .int (Zi k)), (0, .ref 83), (1, .int (Zi nt))], []) h sl Φ := by
  intro t
  induction t with
  | zero => intro k a f p B w h ht hs hu a0 a1 k0 k1 hR; omega
  | succ t ih =>
    intro k a f p B w h ht hs hu a0 a1 k0 k1 hR
    have es : D_see w = D_see s := R_ss_see hu
    have e15 : w.1 15 = s.1 15 := hu.f15 15
    have ew1 : w.1 1 = s.1 1 := hu.f15 1
    have tbw : ∀ j, 0 ≤ w.2.1 84 j ∧ w.2.1 84 j < 256 := fun j => by rw [hu.2.1 84 j (by decide)]; exact tb j
    have sn0 := sn a
    have sn1 := sn (a + 1)
    unfold D_items at hR
    refine Z_go (f2 := (40, [(2, .int (Zi k)), (0, .ref 83), (1, .int (Zi nt))], [.ref 83])) (fun _ => rfl) ?_
    refine Z_go (f2 := (41, [(2, .int (Zi k)), (0, .ref 83), (1, .int (Zi nt))], [.ref 83, .ref 83])) (fun _ => rfl) ?_
    refine R_gi rfl hs rfl ?_
    show B_R _ _ (44, [(2, .int (Zi k)), (0, .ref 83), (1, .int (Zi nt))], [.int (Zi a), .ref 83]) _ _ _
    refine R_call (As := [.int (Zi a)]) (rest := []) rfl (by decide) rfl rfl rfl rfl (by decide +kernel) (Nat.le_of_ble_eq_true rfl) hs (R_see2 _ _ (by first | assumption | exact hs.zF _ | exact hs.zA _ _ | exact zS _ | exact ⟨by omega, by omega⟩ | omega) (by first | assumption | exact hs.zF _ | exact hs.zA _ _ | exact zS _ | exact ⟨by omega, by omega⟩ | omega) (show w.1 1 ≤ 1000 by omega)) (fun x h s2 hs q => ?_)
    obtain ⟨q0, rfl⟩ := q
    rw [q0] at hs
    rw [R_p3_see, es]
    show B_R _ _ (47, [(2, .int (Zi k)), (0, .ref 83), (1, .int (Zi nt))], [.int (Zi (D_see s a))]) _ _ _
    refine Z_go (f2 := (49, [(2, .int (Zi k)), (0, .ref 83), (1, .int (Zi nt))], [.int (Zi 93), .int (Zi (D_see s a))])) (fun _ => rfl) ?_
    refine Z_cne rfl rfl (by first | exact hs.zF _ | exact Zor_r _ _ | exact hs.zA _ _ | assumption | exact zS _ | exact Zr_not (hs.zA _ _) | exact ⟨by omega, by omega⟩) (by first | exact hs.zF _ | exact Zor_r _ _ | exact hs.zA _ _ | assumption | exact zS _ | exact Zr_not (hs.zA _ _) | exact ⟨by omega, by omega⟩) (fun c1 => ?_) (fun c1 => ?_)
    · have hd : ¬ (decide (k = 0) = false ∧ D_see s a = 93) := fun e => by have := of_decide_eq_false e.1; omega
      rw [if_neg hd] at hR
      refine Z_go (f2 := (57, [(2, .int (Zi k)), (0, .ref 83), (1, .int (Zi nt))], [.ref 83])) (fun _ => rfl) ?_
      refine Z_go (f2 := (58, [(2, .int (Zi k)), (0, .ref 83), (1, .int (Zi nt))], [.ref 83, .ref 83])) (fun _ => rfl) ?_
      refine R_gi rfl hs rfl ?_
      show B_R _ _ (61, [(2, .int (Zi k)), (0, .ref 83), (1, .int (Zi nt))], [.int (Zi a), .ref 83]) _ _ _
      refine R_call (As := [.int (Zi a)]) (rest := []) rfl (by decide) rfl rfl rfl rfl (by decide +kernel) (Nat.le_of_ble_eq_true rfl) hs (R_see2 _ _ (by first | assumption | exact hs.zF _ | exact hs.zA _ _ | exact zS _ | exact ⟨by omega, by omega⟩ | omega) (by first | assumption | exact hs.zF _ | exact hs.zA _ _ | exact zS _ | exact ⟨by omega, by omega⟩ | omega) (show w.1 1 ≤ 1000 by omega)) (fun x h s2 hs q => ?_)
      obtain ⟨q0, rfl⟩ := q
      rw [q0] at hs
      rw [R_p3_see, es]
      show B_R _ _ (64, [(2, .int (Zi k)), (0, .ref 83), (1, .int (Zi nt))], [.int (Zi (D_see s a))]) _ _ _
      refine Z_go (f2 := (66, [(2, .int (Zi k)), (0, .ref 83), (1, .int (Zi nt))], [.int (Zi 92), .int (Zi (D_see s a))])) (fun _ => rfl) ?_
      refine Z_cne rfl rfl (by first | exact hs.zF _ | exact Zor_r _ _ | exact hs.zA _ _ | assumption | exact zS _ | exact Zr_not (hs.zA _ _) | exact ⟨by omega, by omega⟩) (by first | exact hs.zF _ | exact Zor_r _ _ | exact hs.zA _ _ | assumption | exact zS _ | exact Zr_not (hs.zA _ _) | exact ⟨by omega, by omega⟩) (fun b1 => ?_) (fun b1 => ?_)
      · refine Z_go (f2 := (142, [(2, .int (Zi k)), (0, .ref 83), (1, .int (Zi nt))], [.ref 83])) (fun _ => rfl) ?_
        refine R_call (As := []) (rest := []) rfl (by decide) rfl rfl rfl rfl (by decide +kernel) (Nat.le_of_ble_eq_true rfl) hs (R_piece2 _ w a f p (by omega) (by omega) (by omega) tbw (by omega) (by omega)) (fun x h s2 hs q => ?_)
        rw [es] at q
        have hpn := D_pc_n sn a f p a1
        have hpl := D_pc_le (D_see s) a f p
        generalize ho1 : D_pc (D_see s) a f p = o1 at q hpn hpl
        obtain ⟨rfl, w2, q1, q2⟩ := q
        rw [q1] at hs
        show B_R _ _ (145, [(2, .int (Zi k)), (0, .ref 83), (1, .int (Zi nt))], [.int (Zi (o1.1))]) _ _ _
        refine Z_ine rfl rfl (by first | exact hs.zF _ | exact Zor_r _ _ | exact hs.zA _ _ | assumption | exact zS _ | exact Zr_not (hs.zA _ _) | exact ⟨by omega, by omega⟩) (fun b2 => ?_) (fun b2 => ?_)
        · refine Z_iinc (L2 := [(2, .int (Zi (k + 1))), (0, .ref 83), (1, .int (Zi nt))]) rfl rfl (by decide) rfl ?_
          refine Z_go (f2 := (39, [(2, .int (Zi (k + 1))), (0, .ref 83), (1, .int (Zi nt))], [])) (fun _ => rfl) ?_
          refine B_loc (K := [(2, .int (Zi (k + 1))), (0, .ref 83), (1, .int (Zi nt))]) (N_all_sub ⟨rfl, rfl, rfl, trivial⟩) (show ([2, 0, 1] : List Nat).Nodup by decide) ?_
          have ei : D_item (D_see s) a f p = o1 := by
            unfold D_item
            rw [if_neg (fun e => by have := e.2; unfold P_nm at this; omega), ho1]
          rw [ei] at hR
          rw [if_neg (by omega)] at hR
          rw [e15] at q2
          refine ih _ _ _ _ _ _ _ (by omega) hs (R_ss_ext hu q2) (by omega) (by omega) (by omega) (by omega) ?_
          rw [show decide (k + 1 = 0) = false from decide_eq_false (by omega)]
          exact hR
        · refine Z_go (f2 := (149, [(2, .int (Zi k)), (0, .ref 83), (1, .int (Zi nt))], [.int (Zi 0)])) (fun _ => rfl) ?_
          refine Z_iret rfl rfl (by first | rfl | decide | exact narrow_b01 (by omega)) ?_
          have ei : D_item (D_see s) a f p = o1 := by
            unfold D_item
            rw [if_neg (fun e => by have := e.2; unfold P_nm at this; omega), ho1]
          rw [ei] at hR
          rw [if_pos (by omega)] at hR
          rw [e15] at q2
          exact k0_ _ _ _ _ _ _ hs (R_ss_ext hu q2) hR.symm
      · refine Z_go (f2 := (70, [(2, .int (Zi k)), (0, .ref 83), (1, .int (Zi nt))], [.ref 83])) (fun _ => rfl) ?_
        refine Z_go (f2 := (71, [(2, .int (Zi k)), (0, .ref 83), (1, .int (Zi nt))], [.ref 83, .ref 83])) (fun _ => rfl) ?_
        refine R_gi rfl hs rfl ?_
        show B_R _ _ (74, [(2, .int (Zi k)), (0, .ref 83), (1, .int (Zi nt))], [.int (Zi a), .ref 83]) _ _ _
        refine Z_go (f2 := (75, [(2, .int (Zi k)), (0, .ref 83), (1, .int (Zi nt))], [.int (Zi 1), .int (Zi a), .ref 83])) (fun _ => rfl) ?_
        refine Z_iadd rfl ?_
        refine R_call (As := [.int (Zi (a + 1))]) (rest := []) rfl (by decide) rfl rfl rfl rfl (by decide +kernel) (Nat.le_of_ble_eq_true rfl) hs (R_see2 _ _ (by first | assumption | exact hs.zF _ | exact hs.zA _ _ | exact zS _ | exact ⟨by omega, by omega⟩ | omega) (by first | assumption | exact hs.zF _ | exact hs.zA _ _ | exact zS _ | exact ⟨by omega, by omega⟩ | omega) (show w.1 1 ≤ 1000 by omega)) (fun x h s2 hs q => ?_)
        obtain ⟨q0, rfl⟩ := q
        rw [q0] at hs
        rw [R_p3_see, es]
        show B_R _ _ (79, [(2, .int (Zi k)), (0, .ref 83), (1, .int (Zi nt))], [.int (Zi (D_see s (a + 1)))]) _ _ _
        refine Z_go (f2 := (81, [(2, .int (Zi k)), (0, .ref 83), (1, .int (Zi nt))], [.int (Zi 100), .int (Zi (D_see s (a + 1)))])) (fun _ => rfl) ?_
        refine Z_ceq rfl rfl (by first | exact hs.zF _ | exact Zor_r _ _ | exact hs.zA _ _ | assumption | exact zS _ | exact Zr_not (hs.zA _ _) | exact ⟨by omega, by omega⟩) (by first | exact hs.zF _ | exact Zor_r _ _ | exact hs.zA _ _ | assumption | exact zS _ | exact Zr_not (hs.zA _ _) | exact ⟨by omega, by omega⟩) (fun b3 => ?_) (fun b3 => ?_)
        · refine Z_go (f2 := (115, [(2, .int (Zi k)), (0, .ref 83), (1, .int (Zi nt))], [.ref 83])) (fun _ => rfl) ?_
          refine Z_go (f2 := (116, [(2, .int (Zi k)), (0, .ref 83), (1, .int (Zi nt))], [.ref 83, .ref 83])) (fun _ => rfl) ?_
          refine Z_go (f2 := (117, [(2, .int (Zi k)), (0, .ref 83), (1, .int (Zi nt))], [.ref 83, .ref 83, .ref 83])) (fun _ => rfl) ?_
          refine R_gi rfl hs rfl ?_
          show B_R _ _ (120, [(2, .int (Zi k)), (0, .ref 83), (1, .int (Zi nt))], [.int (Zi a), .ref 83, .ref 83]) _ _ _
          refine Z_go (f2 := (121, [(2, .int (Zi k)), (0, .ref 83), (1, .int (Zi nt))], [.int (Zi 1), .int (Zi a), .ref 83, .ref 83])) (fun _ => rfl) ?_
          refine Z_iadd rfl ?_
          refine R_call (As := [.int (Zi (a + 1))]) (rest := [.ref 83]) rfl (by decide) rfl rfl rfl rfl (by decide +kernel) (Nat.le_of_ble_eq_true rfl) hs (R_see2 _ _ (by first | assumption | exact hs.zF _ | exact hs.zA _ _ | exact zS _ | exact ⟨by omega, by omega⟩ | omega) (by first | assumption | exact hs.zF _ | exact hs.zA _ _ | exact zS _ | exact ⟨by omega, by omega⟩ | omega) (show w.1 1 ≤ 1000 by omega)) (fun x h s2 hs q => ?_)
          obtain ⟨q0, rfl⟩ := q
          rw [q0] at hs
          rw [R_p3_see, es]
          show B_R _ _ (125, [(2, .int (Zi k)), (0, .ref 83), (1, .int (Zi nt))], [.int (Zi (D_see s (a + 1))), .ref 83]) _ _ _
          refine R_call (As := [.int (Zi (D_see s (a + 1)))]) (rest := []) rfl (by decide) rfl rfl rfl rfl (by decide +kernel) (Nat.le_of_ble_eq_true rfl) hs (R_putKind2 _ w a f p (by first | assumption | exact hs.zF _ | exact hs.zA _ _ | exact zS _ | exact ⟨by omega, by omega⟩ | omega) (by omega) (by omega)) (fun x h s2 hs q => ?_)
          obtain ⟨rfl, w2, q1, q2⟩ := q
          rw [q1] at hs
          show B_R _ _ (128, [(2, .int (Zi k)), (0, .ref 83), (1, .int (Zi nt))], []) _ _ _
          refine Z_go (f2 := (129, [(2, .int (Zi k)), (0, .ref 83), (1, .int (Zi nt))], [.ref 83])) (fun _ => rfl) ?_
          refine Z_go (f2 := (130, [(2, .int (Zi k)), (0, .ref 83), (1, .int (Zi nt))], [.ref 83, .ref 83])) (fun _ => rfl) ?_
          refine R_gi rfl hs rfl ?_
          show B_R _ _ (133, [(2, .int (Zi k)), (0, .ref 83), (1, .int (Zi nt))], [.int (Zi a), .ref 83]) _ _ _
          refine Z_go (f2 := (134, [(2, .int (Zi k)), (0, .ref 83), (1, .int (Zi nt))], [.int (Zi 2), .int (Zi a), .ref 83])) (fun _ => rfl) ?_
          refine Z_iadd rfl ?_
          refine R_pf rfl hs rfl (by first | exact hs.zF _ | exact Zor_r _ _ | exact hs.zA _ _ | assumption | exact zS _ | exact Zr_not (hs.zA _ _) | exact ⟨by omega, by omega⟩) ⟨rfl, rfl, rfl⟩ (fun h hs => ?_)
          rw [R_p3_16] at hs
          refine Z_go (f2 := (150, [(2, .int (Zi k)), (0, .ref 83), (1, .int (Zi nt))], [])) (fun _ => rfl) ?_
          refine Z_iinc (L2 := [(2, .int (Zi (k + 1))), (0, .ref 83), (1, .int (Zi nt))]) rfl rfl (by decide) rfl ?_
          refine Z_go (f2 := (39, [(2, .int (Zi (k + 1))), (0, .ref 83), (1, .int (Zi nt))], [])) (fun _ => rfl) ?_
          refine B_loc (K := [(2, .int (Zi (k + 1))), (0, .ref 83), (1, .int (Zi nt))]) (N_all_sub ⟨rfl, rfl, rfl, trivial⟩) (show ([2, 0, 1] : List Nat).Nodup by decide) ?_
          have ei : D_item (D_see s) a f p = (1, a + 2, f, p, D_kd (D_see s (a + 1))) := by
            unfold D_item
            rw [if_pos ⟨by omega, by unfold P_nm; omega⟩]
          rw [ei] at hR
          dsimp only at hR
          rw [if_neg (by omega)] at hR
          rw [e15] at q2
          refine ih _ _ _ _ _ _ _ (by omega) hs (R_ss_ext hu q2) (by omega) (by omega) (by omega) (by omega) ?_
          rw [show decide (k + 1 = 0) = false from decide_eq_false (by omega)]
          exact hR
        · refine Z_go (f2 := (85, [(2, .int (Zi k)), (0, .ref 83), (1, .int (Zi nt))], [.ref 83])) (fun _ => rfl) ?_
          refine Z_go (f2 := (86, [(2, .int (Zi k)), (0, .ref 83), (1, .int (Zi nt))], [.ref 83, .ref 83])) (fun _ => rfl) ?_
          refine R_gi rfl hs rfl ?_
          show B_R _ _ (89, [(2, .int (Zi k)), (0, .ref 83), (1, .int (Zi nt))], [.int (Zi a), .ref 83]) _ _ _
          refine Z_go (f2 := (90, [(2, .int (Zi k)), (0, .ref 83), (1, .int (Zi nt))], [.int (Zi 1), .int (Zi a), .ref 83])) (fun _ => rfl) ?_
          refine Z_iadd rfl ?_
          refine R_call (As := [.int (Zi (a + 1))]) (rest := []) rfl (by decide) rfl rfl rfl rfl (by decide +kernel) (Nat.le_of_ble_eq_true rfl) hs (R_see2 _ _ (by first | assumption | exact hs.zF _ | exact hs.zA _ _ | exact zS _ | exact ⟨by omega, by omega⟩ | omega) (by first | assumption | exact hs.zF _ | exact hs.zA _ _ | exact zS _ | exact ⟨by omega, by omega⟩ | omega) (show w.1 1 ≤ 1000 by omega)) (fun x h s2 hs q => ?_)
          obtain ⟨q0, rfl⟩ := q
          rw [q0] at hs
          rw [R_p3_see, es]
          show B_R _ _ (94, [(2, .int (Zi k)), (0, .ref 83), (1, .int (Zi nt))], [.int (Zi (D_see s (a + 1)))]) _ _ _
          refine Z_go (f2 := (96, [(2, .int (Zi k)), (0, .ref 83), (1, .int (Zi nt))], [.int (Zi 119), .int (Zi (D_see s (a + 1)))])) (fun _ => rfl) ?_
          refine Z_ceq rfl rfl (by first | exact hs.zF _ | exact Zor_r _ _ | exact hs.zA _ _ | assumption | exact zS _ | exact Zr_not (hs.zA _ _) | exact ⟨by omega, by omega⟩) (by first | exact hs.zF _ | exact Zor_r _ _ | exact hs.zA _ _ | assumption | exact zS _ | exact Zr_not (hs.zA _ _) | exact ⟨by omega, by omega⟩) (fun b4 => ?_) (fun b4 => ?_)
          · refine Z_go (f2 := (115, [(2, .int (Zi k)), (0, .ref 83), (1, .int (Zi nt))], [.ref 83])) (fun _ => rfl) ?_
            refine Z_go (f2 := (116, [(2, .int (Zi k)), (0, .ref 83), (1, .int (Zi nt))], [.ref 83, .ref 83])) (fun _ => rfl) ?_
            refine Z_go (f2 := (117, [(2, .int (Zi k)), (0, .ref 83), (1, .int (Zi nt))], [.ref 83, .ref 83, .ref 83])) (fun _ => rfl) ?_
            refine R_gi rfl hs rfl ?_
            show B_R _ _ (120, [(2, .int (Zi k)), (0, .ref 83), (1, .int (Zi nt))], [.int (Zi a), .ref 83, .ref 83]) _ _ _
            refine Z_go (f2 := (121, [(2, .int (Zi k)), (0, .ref 83), (1, .int (Zi nt))], [.int (Zi 1), .int (Zi a), .ref 83, .ref 83])) (fun _ => rfl) ?_
            refine Z_iadd rfl ?_
            refine R_call (As := [.int (Zi (a + 1))]) (rest := [.ref 83]) rfl (by decide) rfl rfl rfl rfl (by decide +kernel) (Nat.le_of_ble_eq_true rfl) hs (R_see2 _ _ (by first | assumption | exact hs.zF _ | exact hs.zA _ _ | exact zS _ | exact ⟨by omega, by omega⟩ | omega) (by first | assumption | exact hs.zF _ | exact hs.zA _ _ | exact zS _ | exact ⟨by omega, by omega⟩ | omega) (show w.1 1 ≤ 1000 by omega)) (fun x h s2 hs q => ?_)
            obtain ⟨q0, rfl⟩ := q
            rw [q0] at hs
            rw [R_p3_see, es]
            show B_R _ _ (125, [(2, .int (Zi k)), (0, .ref 83), (1, .int (Zi nt))], [.int (Zi (D_see s (a + 1))), .ref 83]) _ _ _
            refine R_call (As := [.int (Zi (D_see s (a + 1)))]) (rest := []) rfl (by decide) rfl rfl rfl rfl (by decide +kernel) (Nat.le_of_ble_eq_true rfl) hs (R_putKind2 _ w a f p (by first | assumption | exact hs.zF _ | exact hs.zA _ _ | exact zS _ | exact ⟨by omega, by omega⟩ | omega) (by omega) (by omega)) (fun x h s2 hs q => ?_)
            obtain ⟨rfl, w2, q1, q2⟩ := q
            rw [q1] at hs
            show B_R _ _ (128, [(2, .int (Zi k)), (0, .ref 83), (1, .int (Zi nt))], []) _ _ _
            refine Z_go (f2 := (129, [(2, .int (Zi k)), (0, .ref 83), (1, .int (Zi nt))], [.ref 83])) (fun _ => rfl) ?_
            refine Z_go (f2 := (130, [(2, .int (Zi k)), (0, .ref 83), (1, .int (Zi nt))], [.ref 83, .ref 83])) (fun _ => rfl) ?_
            refine R_gi rfl hs rfl ?_
            show B_R _ _ (133, [(2, .int (Zi k)), (0, .ref 83), (1, .int (Zi nt))], [.int (Zi a), .ref 83]) _ _ _
            refine Z_go (f2 := (134, [(2, .int (Zi k)), (0, .ref 83), (1, .int (Zi nt))], [.int (Zi 2), .int (Zi a), .ref 83])) (fun _ => rfl) ?_
            refine Z_iadd rfl ?_
            refine R_pf rfl hs rfl (by first | exact hs.zF _ | exact Zor_r _ _ | exact hs.zA _ _ | assumption | exact zS _ | exact Zr_not (hs.zA _ _) | exact ⟨by omega, by omega⟩) ⟨rfl, rfl, rfl⟩ (fun h hs => ?_)
            rw [R_p3_16] at hs
            refine Z_go (f2 := (150, [(2, .int (Zi k)), (0, .ref 83), (1, .int (Zi nt))], [])) (fun _ => rfl) ?_
            refine Z_iinc (L2 := [(2, .int (Zi (k + 1))), (0, .ref 83), (1, .int (Zi nt))]) rfl rfl (by decide) rfl ?_
            refine Z_go (f2 := (39, [(2, .int (Zi (k + 1))), (0, .ref 83), (1, .int (Zi nt))], [])) (fun _ => rfl) ?_
            refine B_loc (K := [(2, .int (Zi (k + 1))), (0, .ref 83), (1, .int (Zi nt))]) (N_all_sub ⟨rfl, rfl, rfl, trivial⟩) (show ([2, 0, 1] : List Nat).Nodup by decide) ?_
            have ei : D_item (D_see s) a f p = (1, a + 2, f, p, D_kd (D_see s (a + 1))) := by
              unfold D_item
              rw [if_pos ⟨by omega, by unfold P_nm; omega⟩]
            rw [ei] at hR
            dsimp only at hR
            rw [if_neg (by omega)] at hR
            rw [e15] at q2
            refine ih _ _ _ _ _ _ _ (by omega) hs (R_ss_ext hu q2) (by omega) (by omega) (by omega) (by omega) ?_
            rw [show decide (k + 1 = 0) = false from decide_eq_false (by omega)]
            exact hR
          · refine Z_go (f2 := (100, [(2, .int (Zi k)), (0, .ref 83), (1, .int (Zi nt))], [.ref 83])) (fun _ => rfl) ?_
            refine Z_go (f2 := (101, [(2, .int (Zi k)), (0, .ref 83), (1, .int (Zi nt))], [.ref 83, .ref 83])) (fun _ => rfl) ?_
            refine R_gi rfl hs rfl ?_
            show B_R _ _ (104, [(2, .int (Zi k)), (0, .ref 83), (1, .int (Zi nt))], [.int (Zi a), .ref 83]) _ _ _
            refine Z_go (f2 := (105, [(2, .int (Zi k)), (0, .ref 83), (1, .int (Zi nt))], [.int (Zi 1), .int (Zi a), .ref 83])) (fun _ => rfl) ?_
            refine Z_iadd rfl ?_
            refine R_call (As := [.int (Zi (a + 1))]) (rest := []) rfl (by decide) rfl rfl rfl rfl (by decide +kernel) (Nat.le_of_ble_eq_true rfl) hs (R_see2 _ _ (by first | assumption | exact hs.zF _ | exact hs.zA _ _ | exact zS _ | exact ⟨by omega, by omega⟩ | omega) (by first | assumption | exact hs.zF _ | exact hs.zA _ _ | exact zS _ | exact ⟨by omega, by omega⟩ | omega) (show w.1 1 ≤ 1000 by omega)) (fun x h s2 hs q => ?_)
            obtain ⟨q0, rfl⟩ := q
            rw [q0] at hs
            rw [R_p3_see, es]
            show B_R _ _ (109, [(2, .int (Zi k)), (0, .ref 83), (1, .int (Zi nt))], [.int (Zi (D_see s (a + 1)))]) _ _ _
            refine Z_go (f2 := (111, [(2, .int (Zi k)), (0, .ref 83), (1, .int (Zi nt))], [.int (Zi 115), .int (Zi (D_see s (a + 1)))])) (fun _ => rfl) ?_
            refine Z_cne rfl rfl (by first | exact hs.zF _ | exact Zor_r _ _ | exact hs.zA _ _ | assumption | exact zS _ | exact Zr_not (hs.zA _ _) | exact ⟨by omega, by omega⟩) (by first | exact hs.zF _ | exact Zor_r _ _ | exact hs.zA _ _ | assumption | exact zS _ | exact Zr_not (hs.zA _ _) | exact ⟨by omega, by omega⟩) (fun b5 => ?_) (fun b5 => ?_)
            · refine Z_go (f2 := (142, [(2, .int (Zi k)), (0, .ref 83), (1, .int (Zi nt))], [.ref 83])) (fun _ => rfl) ?_
              refine R_call (As := []) (rest := []) rfl (by decide) rfl rfl rfl rfl (by decide +kernel) (Nat.le_of_ble_eq_true rfl) hs (R_piece2 _ w a f p (by omega) (by omega) (by omega) tbw (by omega) (by omega)) (fun x h s2 hs q => ?_)
              rw [es] at q
              have hpn := D_pc_n sn a f p a1
              have hpl := D_pc_le (D_see s) a f p
              generalize ho1 : D_pc (D_see s) a f p = o1 at q hpn hpl
              obtain ⟨rfl, w2, q1, q2⟩ := q
              rw [q1] at hs
              show B_R _ _ (145, [(2, .int (Zi k)), (0, .ref 83), (1, .int (Zi nt))], [.int (Zi (o1.1))]) _ _ _
              refine Z_ine rfl rfl (by first | exact hs.zF _ | exact Zor_r _ _ | exact hs.zA _ _ | assumption | exact zS _ | exact Zr_not (hs.zA _ _) | exact ⟨by omega, by omega⟩) (fun b6 => ?_) (fun b6 => ?_)
              · refine Z_iinc (L2 := [(2, .int (Zi (k + 1))), (0, .ref 83), (1, .int (Zi nt))]) rfl rfl (by decide) rfl ?_
                refine Z_go (f2 := (39, [(2, .int (Zi (k + 1))), (0, .ref 83), (1, .int (Zi nt))], [])) (fun _ => rfl) ?_
                refine B_loc (K := [(2, .int (Zi (k + 1))), (0, .ref 83), (1, .int (Zi nt))]) (N_all_sub ⟨rfl, rfl, rfl, trivial⟩) (show ([2, 0, 1] : List Nat).Nodup by decide) ?_
                have ei : D_item (D_see s) a f p = o1 := by
                  unfold D_item
                  rw [if_neg (fun e => by have := e.2; unfold P_nm at this; omega), ho1]
                rw [ei] at hR
                rw [if_neg (by omega)] at hR
                rw [e15] at q2
                refine ih _ _ _ _ _ _ _ (by omega) hs (R_ss_ext hu q2) (by omega) (by omega) (by omega) (by omega) ?_
                rw [show decide (k + 1 = 0) = false from decide_eq_false (by omega)]
                exact hR
              · refine Z_go (f2 := (149, [(2, .int (Zi k)), (0, .ref 83), (1, .int (Zi nt))], [.int (Zi 0)])) (fun _ => rfl) ?_
                refine Z_iret rfl rfl (by first | rfl | decide | exact narrow_b01 (by omega)) ?_
                have ei : D_item (D_see s) a f p = o1 := by
                  unfold D_item
                  rw [if_neg (fun e => by have := e.2; unfold P_nm at this; omega), ho1]
                rw [ei] at hR
                rw [if_pos (by omega)] at hR
                rw [e15] at q2
                exact k0_ _ _ _ _ _ _ hs (R_ss_ext hu q2) hR.symm
            · refine Z_go (f2 := (115, [(2, .int (Zi k)), (0, .ref 83), (1, .int (Zi nt))], [.ref 83])) (fun _ => rfl) ?_
              refine Z_go (f2 := (116, [(2, .int (Zi k)), (0, .ref 83), (1, .int (Zi nt))], [.ref 83, .ref 83])) (fun _ => rfl) ?_
              refine Z_go (f2 := (117, [(2, .int (Zi k)), (0, .ref 83), (1, .int (Zi nt))], [.ref 83, .ref 83, .ref 83])) (fun _ => rfl) ?_
              refine R_gi rfl hs rfl ?_
              show B_R _ _ (120, [(2, .int (Zi k)), (0, .ref 83), (1, .int (Zi nt))], [.int (Zi a), .ref 83, .ref 83]) _ _ _
              refine Z_go (f2 := (121, [(2, .int (Zi k)), (0, .ref 83), (1, .int (Zi nt))], [.int (Zi 1), .int (Zi a), .ref 83, .ref 83])) (fun _ => rfl) ?_
              refine Z_iadd rfl ?_
              refine R_call (As := [.int (Zi (a + 1))]) (rest := [.ref 83]) rfl (by decide) rfl rfl rfl rfl (by decide +kernel) (Nat.le_of_ble_eq_true rfl) hs (R_see2 _ _ (by first | assumption | exact hs.zF _ | exact hs.zA _ _ | exact zS _ | exact ⟨by omega, by omega⟩ | omega) (by first | assumption | exact hs.zF _ | exact hs.zA _ _ | exact zS _ | exact ⟨by omega, by omega⟩ | omega) (show w.1 1 ≤ 1000 by omega)) (fun x h s2 hs q => ?_)
              obtain ⟨q0, rfl⟩ := q
              rw [q0] at hs
              rw [R_p3_see, es]
              show B_R _ _ (125, [(2, .int (Zi k)), (0, .ref 83), (1, .int (Zi nt))], [.int (Zi (D_see s (a + 1))), .ref 83]) _ _ _
              refine R_call (As := [.int (Zi (D_see s (a + 1)))]) (rest := []) rfl (by decide) rfl rfl rfl rfl (by decide +kernel) (Nat.le_of_ble_eq_true rfl) hs (R_putKind2 _ w a f p (by first | assumption | exact hs.zF _ | exact hs.zA _ _ | exact zS _ | exact ⟨by omega, by omega⟩ | omega) (by omega) (by omega)) (fun x h s2 hs q => ?_)
              obtain ⟨rfl, w2, q1, q2⟩ := q
              rw [q1] at hs
              show B_R _ _ (128, [(2, .int (Zi k)), (0, .ref 83), (1, .int (Zi nt))], []) _ _ _
              refine Z_go (f2 := (129, [(2, .int (Zi k)), (0, .ref 83), (1, .int (Zi nt))], [.ref 83])) (fun _ => rfl) ?_
              refine Z_go (f2 := (130, [(2, .int (Zi k)), (0, .ref 83), (1, .int (Zi nt))], [.ref 83, .ref 83])) (fun _ => rfl) ?_
              refine R_gi rfl hs rfl ?_
              show B_R _ _ (133, [(2, .int (Zi k)), (0, .ref 83), (1, .int (Zi nt))], [.int (Zi a), .ref 83]) _ _ _
              refine Z_go (f2 := (134, [(2, .int (Zi k)), (0, .ref 83), (1, .int (Zi nt))], [.int (Zi 2), .int (Zi a), .ref 83])) (fun _ => rfl) ?_
              refine Z_iadd rfl ?_
              refine R_pf rfl hs rfl (by first | exact hs.zF _ | exact Zor_r _ _ | exact hs.zA _ _ | assumption | exact zS _ | exact Zr_not (hs.zA _ _) | exact ⟨by omega, by omega⟩) ⟨rfl, rfl, rfl⟩ (fun h hs => ?_)
              rw [R_p3_16] at hs
              refine Z_go (f2 := (150, [(2, .int (Zi k)), (0, .ref 83), (1, .int (Zi nt))], [])) (fun _ => rfl) ?_
              refine Z_iinc (L2 := [(2, .int (Zi (k + 1))), (0, .ref 83), (1, .int (Zi nt))]) rfl rfl (by decide) rfl ?_
              refine Z_go (f2 := (39, [(2, .int (Zi (k + 1))), (0, .ref 83), (1, .int (Zi nt))], [])) (fun _ => rfl) ?_
              refine B_loc (K := [(2, .int (Zi (k + 1))), (0, .ref 83), (1, .int (Zi nt))]) (N_all_sub ⟨rfl, rfl, rfl, trivial⟩) (show ([2, 0, 1] : List Nat).Nodup by decide) ?_
              have ei : D_item (D_see s) a f p = (1, a + 2, f, p, D_kd (D_see s (a + 1))) := by
                unfold D_item
                rw [if_pos ⟨by omega, by unfold P_nm; omega⟩]
              rw [ei] at hR
              dsimp only at hR
              rw [if_neg (by omega)] at hR
              rw [e15] at q2
              refine ih _ _ _ _ _ _ _ (by omega) hs (R_ss_ext hu q2) (by omega) (by omega) (by omega) (by omega) ?_
              rw [show decide (k + 1 = 0) = false from decide_eq_false (by omega)]
              exact hR
    · refine Z_go (f2 := (53, [(2, .int (Zi k)), (0, .ref 83), (1, .int (Zi nt))], [.int (Zi k)])) (fun _ => rfl) ?_
      refine Z_ine rfl rfl (by first | exact hs.zF _ | exact Zor_r _ _ | exact hs.zA _ _ | assumption | exact zS _ | exact Zr_not (hs.zA _ _) | exact ⟨by omega, by omega⟩) (fun c2 => ?_) (fun c2 => ?_)
      · refine B_loc (K := [(2, .int (Zi k)), (0, .ref 83), (1, .int (Zi nt))]) (N_all_sub ⟨rfl, rfl, rfl, trivial⟩) (show ([2, 0, 1] : List Nat).Nodup by decide) ?_
        rw [if_pos ⟨decide_eq_false (by omega), by omega⟩] at hR
        exact k1_ _ _ _ _ _ _ _ hs hu hR.symm a0 (by omega)
      · have hd : ¬ (decide (k = 0) = false ∧ D_see s a = 93) := fun e => by have := of_decide_eq_false e.1; omega
        rw [if_neg hd] at hR
        refine Z_go (f2 := (57, [(2, .int (Zi k)), (0, .ref 83), (1, .int (Zi nt))], [.ref 83])) (fun _ => rfl) ?_
        refine Z_go (f2 := (58, [(2, .int (Zi k)), (0, .ref 83), (1, .int (Zi nt))], [.ref 83, .ref 83])) (fun _ => rfl) ?_
        refine R_gi rfl hs rfl ?_
        show B_R _ _ (61, [(2, .int (Zi k)), (0, .ref 83), (1, .int (Zi nt))], [.int (Zi a), .ref 83]) _ _ _
        refine R_call (As := [.int (Zi a)]) (rest := []) rfl (by decide) rfl rfl rfl rfl (by decide +kernel) (Nat.le_of_ble_eq_true rfl) hs (R_see2 _ _ (by first | assumption | exact hs.zF _ | exact hs.zA _ _ | exact zS _ | exact ⟨by omega, by omega⟩ | omega) (by first | assumption | exact hs.zF _ | exact hs.zA _ _ | exact zS _ | exact ⟨by omega, by omega⟩ | omega) (show w.1 1 ≤ 1000 by omega)) (fun x h s2 hs q => ?_)
        obtain ⟨q0, rfl⟩ := q
        rw [q0] at hs
        rw [R_p3_see, es]
        show B_R _ _ (64, [(2, .int (Zi k)), (0, .ref 83), (1, .int (Zi nt))], [.int (Zi (D_see s a))]) _ _ _
        refine Z_go (f2 := (66, [(2, .int (Zi k)), (0, .ref 83), (1, .int (Zi nt))], [.int (Zi 92), .int (Zi (D_see s a))])) (fun _ => rfl) ?_
        refine Z_cne rfl rfl (by first | exact hs.zF _ | exact Zor_r _ _ | exact hs.zA _ _ | assumption | exact zS _ | exact Zr_not (hs.zA _ _) | exact ⟨by omega, by omega⟩) (by first | exact hs.zF _ | exact Zor_r _ _ | exact hs.zA _ _ | assumption | exact zS _ | exact Zr_not (hs.zA _ _) | exact ⟨by omega, by omega⟩) (fun b1 => ?_) (fun b1 => ?_)
        · refine Z_go (f2 := (142, [(2, .int (Zi k)), (0, .ref 83), (1, .int (Zi nt))], [.ref 83])) (fun _ => rfl) ?_
          refine R_call (As := []) (rest := []) rfl (by decide) rfl rfl rfl rfl (by decide +kernel) (Nat.le_of_ble_eq_true rfl) hs (R_piece2 _ w a f p (by omega) (by omega) (by omega) tbw (by omega) (by omega)) (fun x h s2 hs q => ?_)
          rw [es] at q
          have hpn := D_pc_n sn a f p a1
          have hpl := D_pc_le (D_see s) a f p
          generalize ho1 : D_pc (D_see s) a f p = o1 at q hpn hpl
          obtain ⟨rfl, w2, q1, q2⟩ := q
          rw [q1] at hs
          show B_R _ _ (145, [(2, .int (Zi k)), (0, .ref 83), (1, .int (Zi nt))], [.int (Zi (o1.1))]) _ _ _
          refine Z_ine rfl rfl (by first | exact hs.zF _ | exact Zor_r _ _ | exact hs.zA _ _ | assumption | exact zS _ | exact Zr_not (hs.zA _ _) | exact ⟨by omega, by omega⟩) (fun b2 => ?_) (fun b2 => ?_)
          · refine Z_iinc (L2 := [(2, .int (Zi (k + 1))), (0, .ref 83), (1, .int (Zi nt))]) rfl rfl (by decide) rfl ?_
            refine Z_go (f2 := (39, [(2, .int (Zi (k + 1))), (0, .ref 83), (1, .int (Zi nt))], [])) (fun _ => rfl) ?_
            refine B_loc (K := [(2, .int (Zi (k + 1))), (0, .ref 83), (1, .int (Zi nt))]) (N_all_sub ⟨rfl, rfl, rfl, trivial⟩) (show ([2, 0, 1] : List Nat).Nodup by decide) ?_
            have ei : D_item (D_see s) a f p = o1 := by
              unfold D_item
              rw [if_neg (fun e => by have := e.2; unfold P_nm at this; omega), ho1]
            rw [ei] at hR
            rw [if_neg (by omega)] at hR
            rw [e15] at q2
            refine ih _ _ _ _ _ _ _ (by omega) hs (R_ss_ext hu q2) (by omega) (by omega) (by omega) (by omega) ?_
            rw [show decide (k + 1 = 0) = false from decide_eq_false (by omega)]
            exact hR
          · refine Z_go (f2 := (149, [(2, .int (Zi k)), (0, .ref 83), (1, .int (Zi nt))], [.int (Zi 0)])) (fun _ => rfl) ?_
            refine Z_iret rfl rfl (by first | rfl | decide | exact narrow_b01 (by omega)) ?_
            have ei : D_item (D_see s) a f p = o1 := by
              unfold D_item
              rw [if_neg (fun e => by have := e.2; unfold P_nm at this; omega), ho1]
            rw [ei] at hR
            rw [if_pos (by omega)] at hR
            rw [e15] at q2
            exact k0_ _ _ _ _ _ _ hs (R_ss_ext hu q2) hR.symm
        · refine Z_go (f2 := (70, [(2, .int (Zi k)), (0, .ref 83), (1, .int (Zi nt))], [.ref 83])) (fun _ => rfl) ?_
          refine Z_go (f2 := (71, [(2, .int (Zi k)), (0, .ref 83), (1, .int (Zi nt))], [.ref 83, .ref 83])) (fun _ => rfl) ?_
          refine R_gi rfl hs rfl ?_
          show B_R _ _ (74, [(2, .int (Zi k)), (0, .ref 83), (1, .int (Zi nt))], [.int (Zi a), .ref 83]) _ _ _
          refine Z_go (f2 := (75, [(2, .int (Zi k)), (0, .ref 83), (1, .int (Zi nt))], [.int (Zi 1), .int (Zi a), .ref 83])) (fun _ => rfl) ?_
          refine Z_iadd rfl ?_
          refine R_call (As := [.int (Zi (a + 1))]) (rest := []) rfl (by decide) rfl rfl rfl rfl (by decide +kernel) (Nat.le_of_ble_eq_true rfl) hs (R_see2 _ _ (by first | assumption | exact hs.zF _ | exact hs.zA _ _ | exact zS _ | exact ⟨by omega, by omega⟩ | omega) (by first | assumption | exact hs.zF _ | exact hs.zA _ _ | exact zS _ | exact ⟨by omega, by omega⟩ | omega) (show w.1 1 ≤ 1000 by omega)) (fun x h s2 hs q => ?_)
          obtain ⟨q0, rfl⟩ := q
          rw [q0] at hs
          rw [R_p3_see, es]
          show B_R _ _ (79, [(2, .int (Zi k)), (0, .ref 83), (1, .int (Zi nt))], [.int (Zi (D_see s (a + 1)))]) _ _ _
          refine Z_go (f2 := (81, [(2, .int (Zi k)), (0, .ref 83), (1, .int (Zi nt))], [.int (Zi 100), .int (Zi (D_see s (a + 1)))])) (fun _ => rfl) ?_
          refine Z_ceq rfl rfl (by first | exact hs.zF _ | exact Zor_r _ _ | exact hs.zA _ _ | assumption | exact zS _ | exact Zr_not (hs.zA _ _) | exact ⟨by omega, by omega⟩) (by first | exact hs.zF _ | exact Zor_r _ _ | exact hs.zA _ _ | assumption | exact zS _ | exact Zr_not (hs.zA _ _) | exact ⟨by omega, by omega⟩) (fun b3 => ?_) (fun b3 => ?_)
          · refine Z_go (f2 := (115, [(2, .int (Zi k)), (0, .ref 83), (1, .int (Zi nt))], [.ref 83])) (fun _ => rfl) ?_
            refine Z_go (f2 := (116, [(2, .int (Zi k)), (0, .ref 83), (1, .int (Zi nt))], [.ref 83, .ref 83])) (fun _ => rfl) ?_
            refine Z_go (f2 := (117, [(2, .int (Zi k)), (0, .ref 83), (1, .int (Zi nt))], [.ref 83, .ref 83, .ref 83])) (fun _ => rfl) ?_
            refine R_gi rfl hs rfl ?_
            show B_R _ _ (120, [(2, .int (Zi k)), (0, .ref 83), (1, .int (Zi nt))], [.int (Zi a), .ref 83, .ref 83]) _ _ _
            refine Z_go (f2 := (121, [(2, .int (Zi k)), (0, .ref 83), (1, .int (Zi nt))], [.int (Zi 1), .int (Zi a), .ref 83, .ref 83])) (fun _ => rfl) ?_
            refine Z_iadd rfl ?_
            refine R_call (As := [.int (Zi (a + 1))]) (rest := [.ref 83]) rfl (by decide) rfl rfl rfl rfl (by decide +kernel) (Nat.le_of_ble_eq_true rfl) hs (R_see2 _ _ (by first | assumption | exact hs.zF _ | exact hs.zA _ _ | exact zS _ | exact ⟨by omega, by omega⟩ | omega) (by first | assumption | exact hs.zF _ | exact hs.zA _ _ | exact zS _ | exact ⟨by omega, by omega⟩ | omega) (show w.1 1 ≤ 1000 by omega)) (fun x h s2 hs q => ?_)
            obtain ⟨q0, rfl⟩ := q
            rw [q0] at hs
            rw [R_p3_see, es]
            show B_R _ _ (125, [(2, .int (Zi k)), (0, .ref 83), (1, .int (Zi nt))], [.int (Zi (D_see s (a + 1))), .ref 83]) _ _ _
            refine R_call (As := [.int (Zi (D_see s (a + 1)))]) (rest := []) rfl (by decide) rfl rfl rfl rfl (by decide +kernel) (Nat.le_of_ble_eq_true rfl) hs (R_putKind2 _ w a f p (by first | assumption | exact hs.zF _ | exact hs.zA _ _ | exact zS _ | exact ⟨by omega, by omega⟩ | omega) (by omega) (by omega)) (fun x h s2 hs q => ?_)
            obtain ⟨rfl, w2, q1, q2⟩ := q
            rw [q1] at hs
            show B_R _ _ (128, [(2, .int (Zi k)), (0, .ref 83), (1, .int (Zi nt))], []) _ _ _
            refine Z_go (f2 := (129, [(2, .int (Zi k)), (0, .ref 83), (1, .int (Zi nt))], [.ref 83])) (fun _ => rfl) ?_
            refine Z_go (f2 := (130, [(2, .int (Zi k)), (0, .ref 83), (1, .int (Zi nt))], [.ref 83, .ref 83])) (fun _ => rfl) ?_
            refine R_gi rfl hs rfl ?_
            show B_R _ _ (133, [(2, .int (Zi k)), (0, .ref 83), (1, .int (Zi nt))], [.int (Zi a), .ref 83]) _ _ _
            refine Z_go (f2 := (134, [(2, .int (Zi k)), (0, .ref 83), (1, .int (Zi nt))], [.int (Zi 2), .int (Zi a), .ref 83])) (fun _ => rfl) ?_
            refine Z_iadd rfl ?_
            refine R_pf rfl hs rfl (by first | exact hs.zF _ | exact Zor_r _ _ | exact hs.zA _ _ | assumption | exact zS _ | exact Zr_not (hs.zA _ _) | exact ⟨by omega, by omega⟩) ⟨rfl, rfl, rfl⟩ (fun h hs => ?_)
            rw [R_p3_16] at hs
            refine Z_go (f2 := (150, [(2, .int (Zi k)), (0, .ref 83), (1, .int (Zi nt))], [])) (fun _ => rfl) ?_
            refine Z_iinc (L2 := [(2, .int (Zi (k + 1))), (0, .ref 83), (1, .int (Zi nt))]) rfl rfl (by decide) rfl ?_
            refine Z_go (f2 := (39, [(2, .int (Zi (k + 1))), (0, .ref 83), (1, .int (Zi nt))], [])) (fun _ => rfl) ?_
            refine B_loc (K := [(2, .int (Zi (k + 1))), (0, .ref 83), (1, .int (Zi nt))]) (N_all_sub ⟨rfl, rfl, rfl, trivial⟩) (show ([2, 0, 1] : List Nat).Nodup by decide) ?_
            have ei : D_item (D_see s) a f p = (1, a + 2, f, p, D_kd (D_see s (a + 1))) := by
              unfold D_item
              rw [if_pos ⟨by omega, by unfold P_nm; omega⟩]
            rw [ei] at hR
            dsimp only at hR
            rw [if_neg (by omega)] at hR
            rw [e15] at q2
            refine ih _ _ _ _ _ _ _ (by omega) hs (R_ss_ext hu q2) (by omega) (by omega) (by omega) (by omega) ?_
            rw [show decide (k + 1 = 0) = false from decide_eq_false (by omega)]
            exact hR
          · refine Z_go (f2 := (85, [(2, .int (Zi k)), (0, .ref 83), (1, .int (Zi nt))], [.ref 83])) (fun _ => rfl) ?_
            refine Z_go (f2 := (86, [(2, .int (Zi k)), (0, .ref 83), (1, .int (Zi nt))], [.ref 83, .ref 83])) (fun _ => rfl) ?_
            refine R_gi rfl hs rfl ?_
            show B_R _ _ (89, [(2, .int (Zi k)), (0, .ref 83), (1, .int (Zi nt))], [.int (Zi a), .ref 83]) _ _ _
            refine Z_go (f2 := (90, [(2, .int (Zi k)), (0, .ref 83), (1, .int (Zi nt))], [.int (Zi 1), .int (Zi a), .ref 83])) (fun _ => rfl) ?_
            refine Z_iadd rfl ?_
            refine R_call (As := [.int (Zi (a + 1))]) (rest := []) rfl (by decide) rfl rfl rfl rfl (by decide +kernel) (Nat.le_of_ble_eq_true rfl) hs (R_see2 _ _ (by first | assumption | exact hs.zF _ | exact hs.zA _ _ | exact zS _ | exact ⟨by omega, by omega⟩ | omega) (by first | assumption | exact hs.zF _ | exact hs.zA _ _ | exact zS _ | exact ⟨by omega, by omega⟩ | omega) (show w.1 1 ≤ 1000 by omega)) (fun x h s2 hs q => ?_)
            obtain ⟨q0, rfl⟩ := q
            rw [q0] at hs
            rw [R_p3_see, es]
            show B_R _ _ (94, [(2, .int (Zi k)), (0, .ref 83), (1, .int (Zi nt))], [.int (Zi (D_see s (a + 1)))]) _ _ _
            refine Z_go (f2 := (96, [(2, .int (Zi k)), (0, .ref 83), (1, .int (Zi nt))], [.int (Zi 119), .int (Zi (D_see s (a + 1)))])) (fun _ => rfl) ?_
            refine Z_ceq rfl rfl (by first | exact hs.zF _ | exact Zor_r _ _ | exact hs.zA _ _ | assumption | exact zS _ | exact Zr_not (hs.zA _ _) | exact ⟨by omega, by omega⟩) (by first | exact hs.zF _ | exact Zor_r _ _ | exact hs.zA _ _ | assumption | exact zS _ | exact Zr_not (hs.zA _ _) | exact ⟨by omega, by omega⟩) (fun b4 => ?_) (fun b4 => ?_)
            · refine Z_go (f2 := (115, [(2, .int (Zi k)), (0, .ref 83), (1, .int (Zi nt))], [.ref 83])) (fun _ => rfl) ?_
              refine Z_go (f2 := (116, [(2, .int (Zi k)), (0, .ref 83), (1, .int (Zi nt))], [.ref 83, .ref 83])) (fun _ => rfl) ?_
              refine Z_go (f2 := (117, [(2, .int (Zi k)), (0, .ref 83), (1, .int (Zi nt))], [.ref 83, .ref 83, .ref 83])) (fun _ => rfl) ?_
              refine R_gi rfl hs rfl ?_
              show B_R _ _ (120, [(2, .int (Zi k)), (0, .ref 83), (1, .int (Zi nt))], [.int (Zi a), .ref 83, .ref 83]) _ _ _
              refine Z_go (f2 := (121, [(2, .int (Zi k)), (0, .ref 83), (1, .int (Zi nt))], [.int (Zi 1), .int (Zi a), .ref 83, .ref 83])) (fun _ => rfl) ?_
              refine Z_iadd rfl ?_
              refine R_call (As := [.int (Zi (a + 1))]) (rest := [.ref 83]) rfl (by decide) rfl rfl rfl rfl (by decide +kernel) (Nat.le_of_ble_eq_true rfl) hs (R_see2 _ _ (by first | assumption | exact hs.zF _ | exact hs.zA _ _ | exact zS _ | exact ⟨by omega, by omega⟩ | omega) (by first | assumption | exact hs.zF _ | exact hs.zA _ _ | exact zS _ | exact ⟨by omega, by omega⟩ | omega) (show w.1 1 ≤ 1000 by omega)) (fun x h s2 hs q => ?_)
              obtain ⟨q0, rfl⟩ := q
              rw [q0] at hs
              rw [R_p3_see, es]
              show B_R _ _ (125, [(2, .int (Zi k)), (0, .ref 83), (1, .int (Zi nt))], [.int (Zi (D_see s (a + 1))), .ref 83]) _ _ _
              refine R_call (As := [.int (Zi (D_see s (a + 1)))]) (rest := []) rfl (by decide) rfl rfl rfl rfl (by decide +kernel) (Nat.le_of_ble_eq_true rfl) hs (R_putKind2 _ w a f p (by first | assumption | exact hs.zF _ | exact hs.zA _ _ | exact zS _ | exact ⟨by omega, by omega⟩ | omega) (by omega) (by omega)) (fun x h s2 hs q => ?_)
              obtain ⟨rfl, w2, q1, q2⟩ := q
              rw [q1] at hs
              show B_R _ _ (128, [(2, .int (Zi k)), (0, .ref 83), (1, .int (Zi nt))], []) _ _ _
              refine Z_go (f2 := (129, [(2, .int (Zi k)), (0, .ref 83), (1, .int (Zi nt))], [.ref 83])) (fun _ => rfl) ?_
              refine Z_go (f2 := (130, [(2, .int (Zi k)), (0, .ref 83), (1, .int (Zi nt))], [.ref 83, .ref 83])) (fun _ => rfl) ?_
              refine R_gi rfl hs rfl ?_
              show B_R _ _ (133, [(2, .int (Zi k)), (0, .ref 83), (1, .int (Zi nt))], [.int (Zi a), .ref 83]) _ _ _
              refine Z_go (f2 := (134, [(2, .int (Zi k)), (0, .ref 83), (1, .int (Zi nt))], [.int (Zi 2), .int (Zi a), .ref 83])) (fun _ => rfl) ?_
              refine Z_iadd rfl ?_
              refine R_pf rfl hs rfl (by first | exact hs.zF _ | exact Zor_r _ _ | exact hs.zA _ _ | assumption | exact zS _ | exact Zr_not (hs.zA _ _) | exact ⟨by omega, by omega⟩) ⟨rfl, rfl, rfl⟩ (fun h hs => ?_)
              rw [R_p3_16] at hs
              refine Z_go (f2 := (150, [(2, .int (Zi k)), (0, .ref 83), (1, .int (Zi nt))], [])) (fun _ => rfl) ?_
              refine Z_iinc (L2 := [(2, .int (Zi (k + 1))), (0, .ref 83), (1, .int (Zi nt))]) rfl rfl (by decide) rfl ?_
              refine Z_go (f2 := (39, [(2, .int (Zi (k + 1))), (0, .ref 83), (1, .int (Zi nt))], [])) (fun _ => rfl) ?_
              refine B_loc (K := [(2, .int (Zi (k + 1))), (0, .ref 83), (1, .int (Zi nt))]) (N_all_sub ⟨rfl, rfl, rfl, trivial⟩) (show ([2, 0, 1] : List Nat).Nodup by decide) ?_
              have ei : D_item (D_see s) a f p = (1, a + 2, f, p, D_kd (D_see s (a + 1))) := by
                unfold D_item
                rw [if_pos ⟨by omega, by unfold P_nm; omega⟩]
              rw [ei] at hR
              dsimp only at hR
              rw [if_neg (by omega)] at hR
              rw [e15] at q2
              refine ih _ _ _ _ _ _ _ (by omega) hs (R_ss_ext hu q2) (by omega) (by omega) (by omega) (by omega) ?_
              rw [show decide (k + 1 = 0) = false from decide_eq_false (by omega)]
              exact hR
            · refine Z_go (f2 := (100, [(2, .int (Zi k)), (0, .ref 83), (1, .int (Zi nt))], [.ref 83])) (fun _ => rfl) ?_
              refine Z_go (f2 := (101, [(2, .int (Zi k)), (0, .ref 83), (1, .int (Zi nt))], [.ref 83, .ref 83])) (fun _ => rfl) ?_
              refine R_gi rfl hs rfl ?_
              show B_R _ _ (104, [(2, .int (Zi k)), (0, .ref 83), (1, .int (Zi nt))], [.int (Zi a), .ref 83]) _ _ _
              refine Z_go (f2 := (105, [(2, .int (Zi k)), (0, .ref 83), (1, .int (Zi nt))], [.int (Zi 1), .int (Zi a), .ref 83])) (fun _ => rfl) ?_
              refine Z_iadd rfl ?_
              refine R_call (As := [.int (Zi (a + 1))]) (rest := []) rfl (by decide) rfl rfl rfl rfl (by decide +kernel) (Nat.le_of_ble_eq_true rfl) hs (R_see2 _ _ (by first | assumption | exact hs.zF _ | exact hs.zA _ _ | exact zS _ | exact ⟨by omega, by omega⟩ | omega) (by first | assumption | exact hs.zF _ | exact hs.zA _ _ | exact zS _ | exact ⟨by omega, by omega⟩ | omega) (show w.1 1 ≤ 1000 by omega)) (fun x h s2 hs q => ?_)
              obtain ⟨q0, rfl⟩ := q
              rw [q0] at hs
              rw [R_p3_see, es]
              show B_R _ _ (109, [(2, .int (Zi k)), (0, .ref 83), (1, .int (Zi nt))], [.int (Zi (D_see s (a + 1)))]) _ _ _
              refine Z_go (f2 := (111, [(2, .int (Zi k)), (0, .ref 83), (1, .int (Zi nt))], [.int (Zi 115), .int (Zi (D_see s (a + 1)))])) (fun _ => rfl) ?_
              refine Z_cne rfl rfl (by first | exact hs.zF _ | exact Zor_r _ _ | exact hs.zA _ _ | assumption | exact zS _ | exact Zr_not (hs.zA _ _) | exact ⟨by omega, by omega⟩) (by first | exact hs.zF _ | exact Zor_r _ _ | exact hs.zA _ _ | assumption | exact zS _ | exact Zr_not (hs.zA _ _) | exact ⟨by omega, by omega⟩) (fun b5 => ?_) (fun b5 => ?_)
              · refine Z_go (f2 := (142, [(2, .int (Zi k)), (0, .ref 83), (1, .int (Zi nt))], [.ref 83])) (fun _ => rfl) ?_
                refine R_call (As := []) (rest := []) rfl (by decide) rfl rfl rfl rfl (by decide +kernel) (Nat.le_of_ble_eq_true rfl) hs (R_piece2 _ w a f p (by omega) (by omega) (by omega) tbw (by omega) (by omega)) (fun x h s2 hs q => ?_)
                rw [es] at q
                have hpn := D_pc_n sn a f p a1
                have hpl := D_pc_le (D_see s) a f p
                generalize ho1 : D_pc (D_see s) a f p = o1 at q hpn hpl
                obtain ⟨rfl, w2, q1, q2⟩ := q
                rw [q1] at hs
                show B_R _ _ (145, [(2, .int (Zi k)), (0, .ref 83), (1, .int (Zi nt))], [.int (Zi (o1.1))]) _ _ _
                refine Z_ine rfl rfl (by first | exact hs.zF _ | exact Zor_r _ _ | exact hs.zA _ _ | assumption | exact zS _ | exact Zr_not (hs.zA _ _) | exact ⟨by omega, by omega⟩) (fun b6 => ?_) (fun b6 => ?_)
                · refine Z_iinc (L2 := [(2, .int (Zi (k + 1))), (0, .ref 83), (1, .int (Zi nt))]) rfl rfl (by decide) rfl ?_
                  refine Z_go (f2 := (39, [(2, .int (Zi (k + 1))), (0, .ref 83), (1, .int (Zi nt))], [])) (fun _ => rfl) ?_
                  refine B_loc (K := [(2, .int (Zi (k + 1))), (0, .ref 83), (1, .int (Zi nt))]) (N_all_sub ⟨rfl, rfl, rfl, trivial⟩) (show ([2, 0, 1] : List Nat).Nodup by decide) ?_
                  have ei : D_item (D_see s) a f p = o1 := by
                    unfold D_item
                    rw [if_neg (fun e => by have := e.2; unfold P_nm at this; omega), ho1]
                  rw [ei] at hR
                  rw [if_neg (by omega)] at hR
                  rw [e15] at q2
                  refine ih _ _ _ _ _ _ _ (by omega) hs (R_ss_ext hu q2) (by omega) (by omega) (by omega) (by omega) ?_
                  rw [show decide (k + 1 = 0) = false from decide_eq_false (by omega)]
                  exact hR
                · refine Z_go (f2 := (149, [(2, .int (Zi k)), (0, .ref 83), (1, .int (Zi nt))], [.int (Zi 0)])) (fun _ => rfl) ?_
                  refine Z_iret rfl rfl (by first | rfl | decide | exact narrow_b01 (by omega)) ?_
                  have ei : D_item (D_see s) a f p = o1 := by
                    unfold D_item
                    rw [if_neg (fun e => by have := e.2; unfold P_nm at this; omega), ho1]
                  rw [ei] at hR
                  rw [if_pos (by omega)] at hR
                  rw [e15] at q2
                  exact k0_ _ _ _ _ _ _ hs (R_ss_ext hu q2) hR.symm
              · refine Z_go (f2 := (115, [(2, .int (Zi k)), (0, .ref 83), (1, .int (Zi nt))], [.ref 83])) (fun _ => rfl) ?_
                refine Z_go (f2 := (116, [(2, .int (Zi k)), (0, .ref 83), (1, .int (Zi nt))], [.ref 83, .ref 83])) (fun _ => rfl) ?_
                refine Z_go (f2 := (117, [(2, .int (Zi k)), (0, .ref 83), (1, .int (Zi nt))], [.ref 83, .ref 83, .ref 83])) (fun _ => rfl) ?_
                refine R_gi rfl hs rfl ?_
                show B_R _ _ (120, [(2, .int (Zi k)), (0, .ref 83), (1, .int (Zi nt))], [.int (Zi a), .ref 83, .ref 83]) _ _ _
                refine Z_go (f2 := (121, [(2, .int (Zi k)), (0, .ref 83), (1, .int (Zi nt))], [.int (Zi 1), .int (Zi a), .ref 83, .ref 83])) (fun _ => rfl) ?_
                refine Z_iadd rfl ?_
                refine R_call (As := [.int (Zi (a + 1))]) (rest := [.ref 83]) rfl (by decide) rfl rfl rfl rfl (by decide +kernel) (Nat.le_of_ble_eq_true rfl) hs (R_see2 _ _ (by first | assumption | exact hs.zF _ | exact hs.zA _ _ | exact zS _ | exact ⟨by omega, by omega⟩ | omega) (by first | assumption | exact hs.zF _ | exact hs.zA _ _ | exact zS _ | exact ⟨by omega, by omega⟩ | omega) (show w.1 1 ≤ 1000 by omega)) (fun x h s2 hs q => ?_)
                obtain ⟨q0, rfl⟩ := q
                rw [q0] at hs
                rw [R_p3_see, es]
                show B_R _ _ (125, [(2, .int (Zi k)), (0, .ref 83), (1, .int (Zi nt))], [.int (Zi (D_see s (a + 1))), .ref 83]) _ _ _
                refine R_call (As := [.int (Zi (D_see s (a + 1)))]) (rest := []) rfl (by decide) rfl rfl rfl rfl (by decide +kernel) (Nat.le_of_ble_eq_true rfl) hs (R_putKind2 _ w a f p (by first | assumption | exact hs.zF _ | exact hs.zA _ _ | exact zS _ | exact ⟨by omega, by omega⟩ | omega) (by omega) (by omega)) (fun x h s2 hs q => ?_)
                obtain ⟨rfl, w2, q1, q2⟩ := q
                rw [q1] at hs
                show B_R _ _ (128, [(2, .int (Zi k)), (0, .ref 83), (1, .int (Zi nt))], []) _ _ _
                refine Z_go (f2 := (129, [(2, .int (Zi k)), (0, .ref 83), (1, .int (Zi nt))], [.ref 83])) (fun _ => rfl) ?_
                refine Z_go (f2 := (130, [(2, .int (Zi k)), (0, .ref 83), (1, .int (Zi nt))], [.ref 83, .ref 83])) (fun _ => rfl) ?_
                refine R_gi rfl hs rfl ?_
                show B_R _ _ (133, [(2, .int (Zi k)), (0, .ref 83), (1, .int (Zi nt))], [.int (Zi a), .ref 83]) _ _ _
                refine Z_go (f2 := (134, [(2, .int (Zi k)), (0, .ref 83), (1, .int (Zi nt))], [.int (Zi 2), .int (Zi a), .ref 83])) (fun _ => rfl) ?_
                refine Z_iadd rfl ?_
                refine R_pf rfl hs rfl (by first | exact hs.zF _ | exact Zor_r _ _ | exact hs.zA _ _ | assumption | exact zS _ | exact Zr_not (hs.zA _ _) | exact ⟨by omega, by omega⟩) ⟨rfl, rfl, rfl⟩ (fun h hs => ?_)
                rw [R_p3_16] at hs
                refine Z_go (f2 := (150, [(2, .int (Zi k)), (0, .ref 83), (1, .int (Zi nt))], [])) (fun _ => rfl) ?_
                refine Z_iinc (L2 := [(2, .int (Zi (k + 1))), (0, .ref 83), (1, .int (Zi nt))]) rfl rfl (by decide) rfl ?_
                refine Z_go (f2 := (39, [(2, .int (Zi (k + 1))), (0, .ref 83), (1, .int (Zi nt))], [])) (fun _ => rfl) ?_
                refine B_loc (K := [(2, .int (Zi (k + 1))), (0, .ref 83), (1, .int (Zi nt))]) (N_all_sub ⟨rfl, rfl, rfl, trivial⟩) (show ([2, 0, 1] : List Nat).Nodup by decide) ?_
                have ei : D_item (D_see s) a f p = (1, a + 2, f, p, D_kd (D_see s (a + 1))) := by
                  unfold D_item
                  rw [if_pos ⟨by omega, by unfold P_nm; omega⟩]
                rw [ei] at hR
                dsimp only at hR
                rw [if_neg (by omega)] at hR
                rw [e15] at q2
                refine ih _ _ _ _ _ _ _ (by omega) hs (R_ss_ext hu q2) (by omega) (by omega) (by omega) (by omega) ?_
                rw [show decide (k + 1 = 0) = false from decide_eq_false (by omega)]
                exact hR
def R_iv (w : R_S) : R_S := R_fl w 93 (8 * w.1 15 - 8) (8 * w.1 15) (fun j => -1 - w.2.1 93 j)
theorem R_ss_iv {w : R_S} : R_ss w (R_iv w) (w.1 15 - 1) (fun x => ¬ R_has w (w.1 15 - 1) x) := by
  refine ⟨rfl, fun q j hq => R_fl_n hq j, rfl, fun k b k0 k1 b0 b1 => ?_, fun b b0 b1 => ?_⟩
  · unfold R_has R_iv
    rw [R_fl_o (by omega)]
  · unfold R_has R_iv
    rw [R_fl_i (by omega) (by omega), D_bit_not (by omega) (by omega)]
theorem R_listed_iv {d : Nat} {h0 : E_H} {s : R_S} {sl : Nat} {Φ : E_R → Prop} {nt : Int} (zn : Zr nt) (nn : nt ≠ 0) (m1 : 1 ≤ s.1 15) (m2 : s.1 15 ≤ 90) (kont : ∀ (h : E_H), R_is h0 h (R_fl s 93 (8 * s.1 15 - 8) (8 * s.1 15) (fun j => -1 - s.2.1 93 j)) → B_R (d) E_m207 (216, [(3, .int (Zi (8 * s.1 15))), (0, .ref 83), (1, .int (Zi nt))], []) h sl Φ) : ∀ (t : Nat) (k : Int) (h : E_H), 8 * s.1 15 - k < t → R_is h0 h (R_fl s 93 (8 * s.1 15 - 8) k (fun j => -1 - s.2.1 93 j)) → 8 * s.1 15 - 8 ≤ k → k ≤ 8 * s.1 15 → B_R (d) E_m207 (181, [(3, .int (Zi k)), (0, .ref 83), (1, .int (Zi nt))], []) h sl Φ := by
  intro t
  induction t with
  | zero => intro k h ht hs k0 k1; omega
  | succ t ih =>
    intro k h ht hs k0 k1
    refine Z_go (f2 := (182, [(3, .int (Zi k)), (0, .ref 83), (1, .int (Zi nt))], [.int (Zi k)])) (fun _ => rfl) ?_
    refine Z_go (f2 := (184, [(3, .int (Zi k)), (0, .ref 83), (1, .int (Zi nt))], [.int (Zi 8), .int (Zi k)])) (fun _ => rfl) ?_
    refine Z_go (f2 := (185, [(3, .int (Zi k)), (0, .ref 83), (1, .int (Zi nt))], [.ref 83, .int (Zi 8), .int (Zi k)])) (fun _ => rfl) ?_
    refine R_gi rfl hs rfl ?_
    show B_R _ _ (188, [(3, .int (Zi k)), (0, .ref 83), (1, .int (Zi nt))], [.int (Zi (s.1 15)), .int (Zi 8), .int (Zi k)]) _ _ _
    refine Z_imul rfl ?_
    refine Z_cge rfl rfl (by first | exact hs.zF _ | exact Zor_r _ _ | exact hs.zA _ _ | assumption | exact zS _ | exact Zr_not (hs.zA _ _) | exact ⟨by omega, by omega⟩) (by first | exact hs.zF _ | exact Zor_r _ _ | exact hs.zA _ _ | assumption | exact zS _ | exact Zr_not (hs.zA _ _) | exact ⟨by omega, by omega⟩) (fun c1 => ?_) (fun c1 => ?_)
    · obtain rfl : k = 8 * s.1 15 := by omega
      exact kont h hs 
    · refine Z_go (f2 := (193, [(3, .int (Zi k)), (0, .ref 83), (1, .int (Zi nt))], [.int (Zi nt)])) (fun _ => rfl) ?_
      refine Z_ieq rfl rfl (by first | exact hs.zF _ | exact Zor_r _ _ | exact hs.zA _ _ | assumption | exact zS _ | exact Zr_not (hs.zA _ _) | exact ⟨by omega, by omega⟩) (fun c2 => ?_) (fun c2 => ?_)
      · exfalso; omega
      · refine Z_go (f2 := (197, [(3, .int (Zi k)), (0, .ref 83), (1, .int (Zi nt))], [.ref 83])) (fun _ => rfl) ?_
        refine R_gr (q := 91) rfl hs rfl ?_
        show B_R _ _ (200, [(3, .int (Zi k)), (0, .ref 83), (1, .int (Zi nt))], [.ref 93]) _ _ _
        refine Z_go (f2 := (201, [(3, .int (Zi k)), (0, .ref 83), (1, .int (Zi nt))], [.int (Zi k), .ref 93])) (fun _ => rfl) ?_
        refine Z_go (f2 := (202, [(3, .int (Zi k)), (0, .ref 83), (1, .int (Zi nt))], [.ref 83, .int (Zi k), .ref 93])) (fun _ => rfl) ?_
        refine R_gr (q := 91) rfl hs rfl ?_
        show B_R _ _ (205, [(3, .int (Zi k)), (0, .ref 83), (1, .int (Zi nt))], [.ref 93, .int (Zi k), .ref 93]) _ _ _
        refine Z_go (f2 := (206, [(3, .int (Zi k)), (0, .ref 83), (1, .int (Zi nt))], [.int (Zi k), .ref 93, .int (Zi k), .ref 93])) (fun _ => rfl) ?_
        refine R_ia (q := 9) rfl hs rfl rfl (by omega) (by omega) (by decide) ?_
        refine Z_go (f2 := (208, [(3, .int (Zi k)), (0, .ref 83), (1, .int (Zi nt))], [.int (Zi (-1)), .int (Zi ((R_fl s 93 (8 * s.1 15 - 8) k (fun j => -1 - s.2.1 93 j)).2.1 93 k)), .int (Zi k), .ref 93])) (fun _ => rfl) ?_
        refine Z_xorm rfl ?_
        refine R_is_ (q := 9) rfl hs rfl rfl (by omega) (by omega) (by decide) (by first | exact hs.zF _ | exact Zor_r _ _ | exact hs.zA _ _ | assumption | exact zS _ | exact Zr_not (hs.zA _ _) | exact ⟨by omega, by omega⟩) (fun h hs => ?_)
        refine Z_iinc (L2 := [(3, .int (Zi (k + 1))), (0, .ref 83), (1, .int (Zi nt))]) rfl rfl (by decide) rfl ?_
        refine Z_go (f2 := (181, [(3, .int (Zi (k + 1))), (0, .ref 83), (1, .int (Zi nt))], [])) (fun _ => rfl) ?_
        refine B_loc (K := [(3, .int (Zi (k + 1))), (0, .ref 83), (1, .int (Zi nt))]) (N_all_sub ⟨rfl, rfl, rfl, trivial⟩) (show ([3, 0, 1] : List Nat).Nodup by decide) ?_
        rw [R_fl_st (by omega) rfl (by rw [R_fl_o (by omega)])] at hs
        exact ih _ _ (by omega) hs (by omega) (by omega)
theorem R_nw_ss {s w : R_S} {H : Int → Prop} (h : R_ss (R_nw s) w ((R_nw s).1 15 - 1) H) : R_ap s w [] [H] := by
  have e : (R_nw s).1 15 = s.1 15 + 1 := R_sF_s _ _ _
  rw [e, show s.1 15 + 1 - 1 = s.1 15 by omega] at h
  exact R_ap_ss R_ap_nw h
theorem R_nw_see (s : R_S) : D_see (R_nw s) = D_see s := R_ap_nw.see
theorem P_fold_c {fold : Prop} {A B : Int → Prop} (h : ∀ y, 0 ≤ y → y < 256 → (A y ↔ B y)) {y : Int} (y0 : 0 ≤ y) (y1 : y < 256) : P_fold fold A y ↔ P_fold fold B y := by
  unfold P_fold D_fd
  rw [h y y0 y1]
  constructor
  · rintro (e | ⟨e, l, l0, l1, l2, l3, l4⟩)
    · exact .inl e
    · exact .inr ⟨e, l, l0, l1, l2, l3.elim (fun q => .inl ((h l (by omega) (by omega)).mp q)) (fun q => .inr ((h (l - 32) (by omega) (by omega)).mp q)), l4⟩
  · rintro (e | ⟨e, l, l0, l1, l2, l3, l4⟩)
    · exact .inl e
    · exact .inr ⟨e, l, l0, l1, l2, l3.elim (fun q => .inl ((h l (by omega) (by omega)).mpr q)) (fun q => .inr ((h (l - 32) (by omega) (by omega)).mpr q)), l4⟩
theorem R_listed (d : Nat) (s : R_S) (a f p : Int)   (a0 : 0 ≤ a) (a1 : a ≤ s.1 1) (t1 : s.1 1 ≤ 80) (tb : ∀ j, 0 ≤ s.2.1 84 j ∧ s.2.1 84 j < 256) (m0 : 0 ≤ s.1 15) (m1 : s.1 15 < 90) (p0 : 0 ≤ s.1 13) (p1 : s.1 13 < 400) : R_ok (d + 5) 207 [] (R_p3 s a f p) (fun x s2 => x = some (.int (Zi (D_list (D_see s) (s.1 17 ≠ 0) a f p).1)) ∧ ∃ w2, s2 = R_p3 w2 (D_list (D_see s) (s.1 17 ≠ 0) a f p).2.1 (D_list (D_see s) (s.1 17 ≠ 0) a f p).2.2.1 (D_list (D_see s) (s.1 17 ≠ 0) a f p).2.2.2.1 ∧ ((D_list (D_see s) (s.1 17 ≠ 0) a f p).1 = 0 ∧ (∃ H, R_ap s w2 [] [H]) ∨ (D_list (D_see s) (s.1 17 ≠ 0) a f p).1 = 1 ∧ R_ap s w2 [(1, s.1 15, 0)] [(D_list (D_see s) (s.1 17 ≠ 0) a f p).2.2.2.2])) := by
  refine R_enter (M := E_m207) rfl (Nat.le_of_ble_eq_true rfl) (fun h0 h hs => ?_)
  show B_R (d + 4) _ (0, [(0, .ref 83)], []) _ _ _
  have zb : ∀ k, -1 ≤ D_see s k ∧ D_see s k < 256 := fun k => by have := tb k; unfold D_see; split <;> omega
  have zb0 := zb a
  have zb1 := zb (a + 1)
  have zS : ∀ k, Zr (D_see s k) := fun k => by unfold D_see; split; exact hs.zA 84 k; exact ⟨by omega, by omega⟩
  have sn : ∀ k, s.1 1 ≤ k → D_see s k = -1 := fun k hk => by unfold D_see; rw [if_neg (by omega)]
  have sn0 := sn a
  have sn1 := sn (a + 1)
  have en15 : (R_nw s).1 15 = s.1 15 + 1 := R_sF_s _ _ _
  have en13 : (R_nw s).1 13 = s.1 13 := R_sF_n _ _ (by decide)
  have en17 : (R_nw s).1 17 = s.1 17 := R_sF_n _ _ (by decide)
  have en1 : (R_nw s).1 1 = s.1 1 := R_sF_n _ _ (by decide)
  have hnw : R_ss (R_nw s) (R_nw s) ((R_nw s).1 15 - 1) (fun _ => False) := (R_ss_0 _ _).weak (fun y y0 y1 => by have := R_ap_nw.h (s := s) 0 (by decide) y y0 y1; rw [en15]; simpa using this)
  refine Z_go (f2 := (1, [(0, .ref 83)], [.ref 83])) (fun _ => rfl) ?_
  refine Z_go (f2 := (2, [(0, .ref 83)], [.ref 83, .ref 83])) (fun _ => rfl) ?_
  refine R_gi rfl hs rfl ?_
  show B_R _ _ (5, [(0, .ref 83)], [.int (Zi a), .ref 83]) _ _ _
  refine R_call (As := [.int (Zi a)]) (rest := []) rfl (by decide) rfl rfl rfl rfl (by decide +kernel) (Nat.le_of_ble_eq_true rfl) hs (R_see2 _ _ (by first | assumption | exact hs.zF _ | exact hs.zA _ _ | exact zS _ | exact ⟨by omega, by omega⟩ | omega) (by first | assumption | exact hs.zF _ | exact hs.zA _ _ | exact zS _ | exact ⟨by omega, by omega⟩ | omega) (show s.1 1 ≤ 1000 by omega)) (fun x h s2 hs q => ?_)
  obtain ⟨q0, rfl⟩ := q
  rw [q0] at hs
  rw [R_p3_see]
  show B_R _ _ (8, [(0, .ref 83)], [.int (Zi (D_see s a))]) _ _ _
  refine Z_go (f2 := (10, [(0, .ref 83)], [.int (Zi 94), .int (Zi (D_see s a))])) (fun _ => rfl) ?_
  refine Z_cne rfl rfl (by first | exact hs.zF _ | exact Zor_r _ _ | exact hs.zA _ _ | assumption | exact zS _ | exact Zr_not (hs.zA _ _) | exact ⟨by omega, by omega⟩) (by first | exact hs.zF _ | exact Zor_r _ _ | exact hs.zA _ _ | assumption | exact zS _ | exact Zr_not (hs.zA _ _) | exact ⟨by omega, by omega⟩) (fun c1 => ?_) (fun c1 => ?_)
  · refine Z_go (f2 := (18, [(0, .ref 83)], [.int (Zi 0)])) (fun _ => rfl) ?_
    refine Z_go (f2 := (19, [(1, .int (Zi 0)), (0, .ref 83)], [])) (fun _ => rfl) ?_
    refine Z_go (f2 := (20, [(1, .int (Zi 0)), (0, .ref 83)], [.int (Zi 0)])) (fun _ => rfl) ?_
    refine Z_ieq rfl rfl (by first | exact hs.zF _ | exact Zor_r _ _ | exact hs.zA _ _ | assumption | exact zS _ | exact Zr_not (hs.zA _ _) | exact ⟨by omega, by omega⟩) (fun c2 => ?_) (fun c2 => ?_)
    · refine Z_go (f2 := (34, [(1, .int (Zi 0)), (0, .ref 83)], [.ref 83])) (fun _ => rfl) ?_
      refine R_call (As := []) (rest := []) rfl (by decide) rfl rfl rfl rfl (by decide +kernel) (Nat.le_of_ble_eq_true rfl) hs (R_newSet2 _ s a f p (by omega) (by omega)) (fun x h s2 hs q => ?_)
      obtain ⟨rfl, q1⟩ := q
      rw [q1] at hs
      show B_R _ _ (37, [(1, .int (Zi 0)), (0, .ref 83)], []) _ _ _
      refine Z_go (f2 := (38, [(1, .int (Zi 0)), (0, .ref 83)], [.int (Zi 0)])) (fun _ => rfl) ?_
      refine Z_go (f2 := (39, [(2, .int (Zi 0)), (1, .int (Zi 0)), (0, .ref 83)], [])) (fun _ => rfl) ?_
      have hL : D_list (D_see s) (s.1 17 ≠ 0) a f p = (let r := D_items (D_see s) 82 true (a) f p (fun _ => False); if r.1 = 0 then r else (r.1, r.2.1, r.2.2.1, r.2.2.2.1, P_fold (s.1 17 ≠ 0) r.2.2.2.2)) := by
        unfold D_list
        simp only [if_neg (show ¬ D_see s a = 94 by omega)]
      dsimp only at hL
      refine B_loc (K := [(2, .int (Zi 0)), (0, .ref 83), (1, .int (Zi 0))]) (N_all_sub ⟨rfl, rfl, rfl, trivial⟩) (show ([2, 0, 1] : List Nat).Nodup by decide) ?_
      refine R_listed_lp (s := R_nw s) (nt := 0) (R := D_items (D_see s) 82 true (a) f p (fun _ => False)) t1 (fun j => by rw [R_ap_nw.q 84 j (by decide) (by decide) (by decide) (by decide)]; exact tb j) (by rw [R_nw_see]; exact sn) (by rw [R_nw_see]; exact zS) (by rw [en15]; omega) (by rw [en15]; omega) (fun w h A F P B hs hu hR => ?_) (fun w h a f p k B hs hu hR a0 a1 => ?_) 82 0 _ _ _ _ _ _ (by show s.1 1 - _ < _; omega) hs hnw (by omega) (by show _ ≤ s.1 1; omega) (by omega) (by omega) (by rw [R_nw_see]; rfl)
      · rw [hR, if_pos rfl] at hL
        rw [hL]
        exact ⟨_, hs, ⟨rfl, w, rfl, .inl ⟨rfl, _, R_nw_ss hu⟩⟩, rfl⟩
      · rw [hR] at hL
        dsimp only at hL
        rw [if_neg (by omega)] at hL
        rw [hL]
        have ew15 : w.1 15 = s.1 15 + 1 := by rw [hu.f15 15, en15]
        have ew13 : w.1 13 = s.1 13 := by rw [hu.f15 13, en13]
        have ew17 : w.1 17 = s.1 17 := by rw [hu.f15 17, en17]
        have ew1 : w.1 1 = s.1 1 := by rw [hu.f15 1, en1]
        refine Z_go (f2 := (157, [(2, .int (Zi k)), (0, .ref 83), (1, .int (Zi 0))], [.ref 83])) (fun _ => rfl) ?_
        refine Z_go (f2 := (158, [(2, .int (Zi k)), (0, .ref 83), (1, .int (Zi 0))], [.ref 83, .ref 83])) (fun _ => rfl) ?_
        refine R_gi rfl hs rfl ?_
        show B_R _ _ (161, [(2, .int (Zi k)), (0, .ref 83), (1, .int (Zi 0))], [.int (Zi a), .ref 83]) _ _ _
        refine Z_go (f2 := (162, [(2, .int (Zi k)), (0, .ref 83), (1, .int (Zi 0))], [.int (Zi 1), .int (Zi a), .ref 83])) (fun _ => rfl) ?_
        refine Z_iadd rfl ?_
        refine R_pf rfl hs rfl (by first | exact hs.zF _ | exact Zor_r _ _ | exact hs.zA _ _ | assumption | exact zS _ | exact Zr_not (hs.zA _ _) | exact ⟨by omega, by omega⟩) ⟨rfl, rfl, rfl⟩ (fun h hs => ?_)
        rw [R_p3_16] at hs
        refine Z_go (f2 := (167, [(2, .int (Zi k)), (0, .ref 83), (1, .int (Zi 0))], [.ref 83])) (fun _ => rfl) ?_
        refine R_call (As := []) (rest := []) rfl (by decide) rfl rfl rfl rfl (by decide +kernel) (Nat.le_of_ble_eq_true rfl) hs (R_folds2 _ w (a + 1) f p (by omega) (by omega)) (fun x h s2 hs q => ?_)
        obtain ⟨rfl, w2, q1, q2⟩ := q
        rw [q1] at hs
        have ev15 : w2.1 15 = w.1 15 := q2.f15 15
        show B_R _ _ (170, [(2, .int (Zi k)), (0, .ref 83), (1, .int (Zi 0))], []) _ _ _
        refine Z_go (f2 := (172, [(2, .int (Zi k)), (0, .ref 83), (1, .int (Zi 0))], [.int (Zi 8)])) (fun _ => rfl) ?_
        refine Z_go (f2 := (173, [(2, .int (Zi k)), (0, .ref 83), (1, .int (Zi 0))], [.ref 83, .int (Zi 8)])) (fun _ => rfl) ?_
        refine R_gi rfl hs rfl ?_
        show B_R _ _ (176, [(2, .int (Zi k)), (0, .ref 83), (1, .int (Zi 0))], [.int (Zi (w2.1 15)), .int (Zi 8)]) _ _ _
        refine Z_imul rfl ?_
        refine Z_go (f2 := (179, [(2, .int (Zi k)), (0, .ref 83), (1, .int (Zi 0))], [.int (Zi 8), .int (Zi (8 * (w2.1 15)))])) (fun _ => rfl) ?_
        refine Z_isub rfl ?_
        refine Z_go (f2 := (181, [(3, .int (Zi (8 * (w2.1 15) - 8))), (2, .int (Zi k)), (0, .ref 83), (1, .int (Zi 0))], [])) (fun _ => rfl) ?_
        have hu2 : R_ss (R_nw s) w2 ((R_nw s).1 15 - 1) (P_fold (s.1 17 ≠ 0) B) := by
          have e : w.1 15 - 1 = (R_nw s).1 15 - 1 := by omega
          rw [e] at q2
          refine (hu.trans q2).weak (fun y y0 y1 => ?_)
          rw [ew17]
          have hb : ∀ y, 0 ≤ y → y < 256 → (R_has w ((R_nw s).1 15 - 1) y ↔ B y) := hu.2.2.2.2
          exact P_fold_c hb y0 y1
        have eap := R_nw_ss hu2
        have ew213 : w2.1 13 = w.1 13 := q2.f15 13
        refine Z_go (f2 := (182, [(3, .int (Zi (8 * w2.1 15 - 8))), (2, .int (Zi k)), (0, .ref 83), (1, .int (Zi 0))], [.int (Zi (8 * w2.1 15 - 8))])) (fun _ => rfl) ?_
        refine Z_go (f2 := (184, [(3, .int (Zi (8 * w2.1 15 - 8))), (2, .int (Zi k)), (0, .ref 83), (1, .int (Zi 0))], [.int (Zi 8), .int (Zi (8 * w2.1 15 - 8))])) (fun _ => rfl) ?_
        refine Z_go (f2 := (185, [(3, .int (Zi (8 * w2.1 15 - 8))), (2, .int (Zi k)), (0, .ref 83), (1, .int (Zi 0))], [.ref 83, .int (Zi 8), .int (Zi (8 * w2.1 15 - 8))])) (fun _ => rfl) ?_
        refine R_gi rfl hs rfl ?_
        show B_R _ _ (188, [(3, .int (Zi (8 * w2.1 15 - 8))), (2, .int (Zi k)), (0, .ref 83), (1, .int (Zi 0))], [.int (Zi (w2.1 15)), .int (Zi 8), .int (Zi (8 * w2.1 15 - 8))]) _ _ _
        refine Z_imul rfl ?_
        refine Z_cge rfl rfl (by first | exact hs.zF _ | exact Zor_r _ _ | exact hs.zA _ _ | assumption | exact zS _ | exact Zr_not (hs.zA _ _) | exact ⟨by omega, by omega⟩) (by first | exact hs.zF _ | exact Zor_r _ _ | exact hs.zA _ _ | assumption | exact zS _ | exact Zr_not (hs.zA _ _) | exact ⟨by omega, by omega⟩) (fun b1 => ?_) (fun b1 => ?_)
        · refine Z_go (f2 := (217, [(3, .int (Zi (8 * w2.1 15 - 8))), (2, .int (Zi k)), (0, .ref 83), (1, .int (Zi 0))], [.ref 83])) (fun _ => rfl) ?_
          refine Z_go (f2 := (218, [(3, .int (Zi (8 * w2.1 15 - 8))), (2, .int (Zi k)), (0, .ref 83), (1, .int (Zi 0))], [.int (Zi 1), .ref 83])) (fun _ => rfl) ?_
          refine Z_go (f2 := (219, [(3, .int (Zi (8 * w2.1 15 - 8))), (2, .int (Zi k)), (0, .ref 83), (1, .int (Zi 0))], [.ref 83, .int (Zi 1), .ref 83])) (fun _ => rfl) ?_
          refine R_gi rfl hs rfl ?_
          show B_R _ _ (222, [(3, .int (Zi (8 * w2.1 15 - 8))), (2, .int (Zi k)), (0, .ref 83), (1, .int (Zi 0))], [.int (Zi (w2.1 15)), .int (Zi 1), .ref 83]) _ _ _
          refine Z_go (f2 := (223, [(3, .int (Zi (8 * w2.1 15 - 8))), (2, .int (Zi k)), (0, .ref 83), (1, .int (Zi 0))], [.int (Zi 1), .int (Zi (w2.1 15)), .int (Zi 1), .ref 83])) (fun _ => rfl) ?_
          refine Z_isub rfl ?_
          refine Z_go (f2 := (225, [(3, .int (Zi (8 * w2.1 15 - 8))), (2, .int (Zi k)), (0, .ref 83), (1, .int (Zi 0))], [.int (Zi 0), .int (Zi (w2.1 15 - 1)), .int (Zi 1), .ref 83])) (fun _ => rfl) ?_
          refine R_call (As := [.int (Zi 1), .int (Zi (w2.1 15 - 1)), .int (Zi 0)]) (rest := []) rfl (by decide) rfl rfl rfl rfl (by decide +kernel) (Nat.le_of_ble_eq_true rfl) hs (R_emit2 _ w2 (a + 1) f p (by first | assumption | exact hs.zF _ | exact hs.zA _ _ | exact zS _ | exact ⟨by omega, by omega⟩ | omega) (by first | assumption | exact hs.zF _ | exact hs.zA _ _ | exact zS _ | exact ⟨by omega, by omega⟩ | omega) (by first | assumption | exact hs.zF _ | exact hs.zA _ _ | exact zS _ | exact ⟨by omega, by omega⟩ | omega) (by omega) (by omega)) (fun x h s2 hs q => ?_)
          obtain ⟨rfl, q1⟩ := q
          rw [q1] at hs
          show B_R _ _ (228, [(3, .int (Zi (8 * w2.1 15 - 8))), (2, .int (Zi k)), (0, .ref 83), (1, .int (Zi 0))], []) _ _ _
          refine Z_go (f2 := (229, [(3, .int (Zi (8 * w2.1 15 - 8))), (2, .int (Zi k)), (0, .ref 83), (1, .int (Zi 0))], [.int (Zi 1)])) (fun _ => rfl) ?_
          refine Z_iret rfl rfl (by first | rfl | decide | exact narrow_b01 (by omega)) ⟨_, hs, ?_, rfl⟩
          exfalso; omega
        · refine Z_go (f2 := (193, [(3, .int (Zi (8 * w2.1 15 - 8))), (2, .int (Zi k)), (0, .ref 83), (1, .int (Zi 0))], [.int (Zi 0)])) (fun _ => rfl) ?_
          refine Z_ieq rfl rfl (by first | exact hs.zF _ | exact Zor_r _ _ | exact hs.zA _ _ | assumption | exact zS _ | exact Zr_not (hs.zA _ _) | exact ⟨by omega, by omega⟩) (fun b2 => ?_) (fun b2 => ?_)
          · refine Z_go (f2 := (217, [(3, .int (Zi (8 * w2.1 15 - 8))), (2, .int (Zi k)), (0, .ref 83), (1, .int (Zi 0))], [.ref 83])) (fun _ => rfl) ?_
            refine Z_go (f2 := (218, [(3, .int (Zi (8 * w2.1 15 - 8))), (2, .int (Zi k)), (0, .ref 83), (1, .int (Zi 0))], [.int (Zi 1), .ref 83])) (fun _ => rfl) ?_
            refine Z_go (f2 := (219, [(3, .int (Zi (8 * w2.1 15 - 8))), (2, .int (Zi k)), (0, .ref 83), (1, .int (Zi 0))], [.ref 83, .int (Zi 1), .ref 83])) (fun _ => rfl) ?_
            refine R_gi rfl hs rfl ?_
            show B_R _ _ (222, [(3, .int (Zi (8 * w2.1 15 - 8))), (2, .int (Zi k)), (0, .ref 83), (1, .int (Zi 0))], [.int (Zi (w2.1 15)), .int (Zi 1), .ref 83]) _ _ _
            refine Z_go (f2 := (223, [(3, .int (Zi (8 * w2.1 15 - 8))), (2, .int (Zi k)), (0, .ref 83), (1, .int (Zi 0))], [.int (Zi 1), .int (Zi (w2.1 15)), .int (Zi 1), .ref 83])) (fun _ => rfl) ?_
            refine Z_isub rfl ?_
            refine Z_go (f2 := (225, [(3, .int (Zi (8 * w2.1 15 - 8))), (2, .int (Zi k)), (0, .ref 83), (1, .int (Zi 0))], [.int (Zi 0), .int (Zi (w2.1 15 - 1)), .int (Zi 1), .ref 83])) (fun _ => rfl) ?_
            refine R_call (As := [.int (Zi 1), .int (Zi (w2.1 15 - 1)), .int (Zi 0)]) (rest := []) rfl (by decide) rfl rfl rfl rfl (by decide +kernel) (Nat.le_of_ble_eq_true rfl) hs (R_emit2 _ w2 (a + 1) f p (by first | assumption | exact hs.zF _ | exact hs.zA _ _ | exact zS _ | exact ⟨by omega, by omega⟩ | omega) (by first | assumption | exact hs.zF _ | exact hs.zA _ _ | exact zS _ | exact ⟨by omega, by omega⟩ | omega) (by first | assumption | exact hs.zF _ | exact hs.zA _ _ | exact zS _ | exact ⟨by omega, by omega⟩ | omega) (by omega) (by omega)) (fun x h s2 hs q => ?_)
            obtain ⟨rfl, q1⟩ := q
            rw [q1] at hs
            show B_R _ _ (228, [(3, .int (Zi (8 * w2.1 15 - 8))), (2, .int (Zi k)), (0, .ref 83), (1, .int (Zi 0))], []) _ _ _
            refine Z_go (f2 := (229, [(3, .int (Zi (8 * w2.1 15 - 8))), (2, .int (Zi k)), (0, .ref 83), (1, .int (Zi 0))], [.int (Zi 1)])) (fun _ => rfl) ?_
            refine Z_iret rfl rfl (by first | rfl | decide | exact narrow_b01 (by omega)) ⟨_, hs, ?_, rfl⟩
            refine ⟨rfl, _, rfl, .inr ⟨rfl, ?_⟩⟩
            rw [show w2.1 15 - 1 = s.1 15 by omega]
            exact eap.trans (R_ap_em w2 1 (s.1 15) 0) m0
          · exfalso; omega
    · exfalso; omega
  · refine Z_go (f2 := (14, [(0, .ref 83)], [.int (Zi 1)])) (fun _ => rfl) ?_
    refine Z_go (f2 := (18, [(0, .ref 83)], [.int (Zi 1)])) (fun _ => rfl) ?_
    refine Z_go (f2 := (19, [(1, .int (Zi 1)), (0, .ref 83)], [])) (fun _ => rfl) ?_
    refine Z_go (f2 := (20, [(1, .int (Zi 1)), (0, .ref 83)], [.int (Zi 1)])) (fun _ => rfl) ?_
    refine Z_ieq rfl rfl (by first | exact hs.zF _ | exact Zor_r _ _ | exact hs.zA _ _ | assumption | exact zS _ | exact Zr_not (hs.zA _ _) | exact ⟨by omega, by omega⟩) (fun c3 => ?_) (fun c3 => ?_)
    · exfalso; omega
    · refine Z_go (f2 := (24, [(1, .int (Zi 1)), (0, .ref 83)], [.ref 83])) (fun _ => rfl) ?_
      refine Z_go (f2 := (25, [(1, .int (Zi 1)), (0, .ref 83)], [.ref 83, .ref 83])) (fun _ => rfl) ?_
      refine R_gi rfl hs rfl ?_
      show B_R _ _ (28, [(1, .int (Zi 1)), (0, .ref 83)], [.int (Zi a), .ref 83]) _ _ _
      refine Z_go (f2 := (29, [(1, .int (Zi 1)), (0, .ref 83)], [.int (Zi 1), .int (Zi a), .ref 83])) (fun _ => rfl) ?_
      refine Z_iadd rfl ?_
      refine R_pf rfl hs rfl (by first | exact hs.zF _ | exact Zor_r _ _ | exact hs.zA _ _ | assumption | exact zS _ | exact Zr_not (hs.zA _ _) | exact ⟨by omega, by omega⟩) ⟨rfl, rfl, rfl⟩ (fun h hs => ?_)
      rw [R_p3_16] at hs
      refine Z_go (f2 := (34, [(1, .int (Zi 1)), (0, .ref 83)], [.ref 83])) (fun _ => rfl) ?_
      refine R_call (As := []) (rest := []) rfl (by decide) rfl rfl rfl rfl (by decide +kernel) (Nat.le_of_ble_eq_true rfl) hs (R_newSet2 _ s (a + 1) f p (by omega) (by omega)) (fun x h s2 hs q => ?_)
      obtain ⟨rfl, q1⟩ := q
      rw [q1] at hs
      show B_R _ _ (37, [(1, .int (Zi 1)), (0, .ref 83)], []) _ _ _
      refine Z_go (f2 := (38, [(1, .int (Zi 1)), (0, .ref 83)], [.int (Zi 0)])) (fun _ => rfl) ?_
      refine Z_go (f2 := (39, [(2, .int (Zi 0)), (1, .int (Zi 1)), (0, .ref 83)], [])) (fun _ => rfl) ?_
      have hL : D_list (D_see s) (s.1 17 ≠ 0) a f p = (let r := D_items (D_see s) 82 true (a + 1) f p (fun _ => False); if r.1 = 0 then r else (r.1, r.2.1, r.2.2.1, r.2.2.2.1, fun x => ¬ P_fold (s.1 17 ≠ 0) r.2.2.2.2 x)) := by
        unfold D_list
        simp only [if_pos (show D_see s a = 94 by omega)]
      dsimp only at hL
      refine B_loc (K := [(2, .int (Zi 0)), (0, .ref 83), (1, .int (Zi 1))]) (N_all_sub ⟨rfl, rfl, rfl, trivial⟩) (show ([2, 0, 1] : List Nat).Nodup by decide) ?_
      refine R_listed_lp (s := R_nw s) (nt := 1) (R := D_items (D_see s) 82 true (a + 1) f p (fun _ => False)) t1 (fun j => by rw [R_ap_nw.q 84 j (by decide) (by decide) (by decide) (by decide)]; exact tb j) (by rw [R_nw_see]; exact sn) (by rw [R_nw_see]; exact zS) (by rw [en15]; omega) (by rw [en15]; omega) (fun w h A F P B hs hu hR => ?_) (fun w h a f p k B hs hu hR a0 a1 => ?_) 82 0 _ _ _ _ _ _ (by show s.1 1 - _ < _; omega) hs hnw (by omega) (by show _ ≤ s.1 1; omega) (by omega) (by omega) (by rw [R_nw_see]; rfl)
      · rw [hR, if_pos rfl] at hL
        rw [hL]
        exact ⟨_, hs, ⟨rfl, w, rfl, .inl ⟨rfl, _, R_nw_ss hu⟩⟩, rfl⟩
      · rw [hR] at hL
        dsimp only at hL
        rw [if_neg (by omega)] at hL
        rw [hL]
        have ew15 : w.1 15 = s.1 15 + 1 := by rw [hu.f15 15, en15]
        have ew13 : w.1 13 = s.1 13 := by rw [hu.f15 13, en13]
        have ew17 : w.1 17 = s.1 17 := by rw [hu.f15 17, en17]
        have ew1 : w.1 1 = s.1 1 := by rw [hu.f15 1, en1]
        refine Z_go (f2 := (157, [(2, .int (Zi k)), (0, .ref 83), (1, .int (Zi 1))], [.ref 83])) (fun _ => rfl) ?_
        refine Z_go (f2 := (158, [(2, .int (Zi k)), (0, .ref 83), (1, .int (Zi 1))], [.ref 83, .ref 83])) (fun _ => rfl) ?_
        refine R_gi rfl hs rfl ?_
        show B_R _ _ (161, [(2, .int (Zi k)), (0, .ref 83), (1, .int (Zi 1))], [.int (Zi a), .ref 83]) _ _ _
        refine Z_go (f2 := (162, [(2, .int (Zi k)), (0, .ref 83), (1, .int (Zi 1))], [.int (Zi 1), .int (Zi a), .ref 83])) (fun _ => rfl) ?_
        refine Z_iadd rfl ?_
        refine R_pf rfl hs rfl (by first | exact hs.zF _ | exact Zor_r _ _ | exact hs.zA _ _ | assumption | exact zS _ | exact Zr_not (hs.zA _ _) | exact ⟨by omega, by omega⟩) ⟨rfl, rfl, rfl⟩ (fun h hs => ?_)
        rw [R_p3_16] at hs
        refine Z_go (f2 := (167, [(2, .int (Zi k)), (0, .ref 83), (1, .int (Zi 1))], [.ref 83])) (fun _ => rfl) ?_
        refine R_call (As := []) (rest := []) rfl (by decide) rfl rfl rfl rfl (by decide +kernel) (Nat.le_of_ble_eq_true rfl) hs (R_folds2 _ w (a + 1) f p (by omega) (by omega)) (fun x h s2 hs q => ?_)
        obtain ⟨rfl, w2, q1, q2⟩ := q
        rw [q1] at hs
        have ev15 : w2.1 15 = w.1 15 := q2.f15 15
        show B_R _ _ (170, [(2, .int (Zi k)), (0, .ref 83), (1, .int (Zi 1))], []) _ _ _
        refine Z_go (f2 := (172, [(2, .int (Zi k)), (0, .ref 83), (1, .int (Zi 1))], [.int (Zi 8)])) (fun _ => rfl) ?_
        refine Z_go (f2 := (173, [(2, .int (Zi k)), (0, .ref 83), (1, .int (Zi 1))], [.ref 83, .int (Zi 8)])) (fun _ => rfl) ?_
        refine R_gi rfl hs rfl ?_
        show B_R _ _ (176, [(2, .int (Zi k)), (0, .ref 83), (1, .int (Zi 1))], [.int (Zi (w2.1 15)), .int (Zi 8)]) _ _ _
        refine Z_imul rfl ?_
        refine Z_go (f2 := (179, [(2, .int (Zi k)), (0, .ref 83), (1, .int (Zi 1))], [.int (Zi 8), .int (Zi (8 * (w2.1 15)))])) (fun _ => rfl) ?_
        refine Z_isub rfl ?_
        refine Z_go (f2 := (181, [(3, .int (Zi (8 * (w2.1 15) - 8))), (2, .int (Zi k)), (0, .ref 83), (1, .int (Zi 1))], [])) (fun _ => rfl) ?_
        have hu2 : R_ss (R_nw s) w2 ((R_nw s).1 15 - 1) (P_fold (s.1 17 ≠ 0) B) := by
          have e : w.1 15 - 1 = (R_nw s).1 15 - 1 := by omega
          rw [e] at q2
          refine (hu.trans q2).weak (fun y y0 y1 => ?_)
          rw [ew17]
          have hb : ∀ y, 0 ≤ y → y < 256 → (R_has w ((R_nw s).1 15 - 1) y ↔ B y) := hu.2.2.2.2
          exact P_fold_c hb y0 y1
        refine B_loc (K := [(3, .int (Zi (8 * w2.1 15 - 8))), (0, .ref 83), (1, .int (Zi 1))]) (N_all_sub ⟨rfl, rfl, rfl, trivial⟩) (show ([3, 0, 1] : List Nat).Nodup by decide) ?_
        refine R_listed_iv (s := R_p3 w2 (a + 1) f p) ⟨by omega, by omega⟩ (by omega) (show 1 ≤ w2.1 15 by omega) (show w2.1 15 ≤ 90 by omega) (fun h hs => ?_) 9 _ _ (by show 8 * w2.1 15 - _ < _; omega) (by rw [show (8 * w2.1 15 - 8 : Int) = 8 * (R_p3 w2 (a + 1) f p).1 15 - 8 from rfl, R_fl_0]; exact hs) (by show 8 * w2.1 15 - 8 ≤ _; omega) (by show _ ≤ 8 * w2.1 15; omega)
        have hs : R_is h0 h (R_p3 (R_iv w2) (a + 1) f p) := hs
        have e2 : w2.1 15 - 1 = (R_nw s).1 15 - 1 := by omega
        have hiv := R_ss_iv (w := w2)
        rw [e2] at hiv
        have eap := R_nw_ss ((hu2.trans hiv).weak (G := fun x => ¬ P_fold (s.1 17 ≠ 0) B x) (fun y y0 y1 => not_congr (hu2.2.2.2.2 y y0 y1)))
        have ei15 : (R_iv w2).1 15 = w2.1 15 := rfl
        have ei13 : (R_iv w2).1 13 = w2.1 13 := rfl
        have ew213 : w2.1 13 = w.1 13 := q2.f15 13
        refine Z_go (f2 := (217, [(3, .int (Zi (8 * w2.1 15))), (0, .ref 83), (1, .int (Zi 1))], [.ref 83])) (fun _ => rfl) ?_
        refine Z_go (f2 := (218, [(3, .int (Zi (8 * w2.1 15))), (0, .ref 83), (1, .int (Zi 1))], [.int (Zi 1), .ref 83])) (fun _ => rfl) ?_
        refine Z_go (f2 := (219, [(3, .int (Zi (8 * w2.1 15))), (0, .ref 83), (1, .int (Zi 1))], [.ref 83, .int (Zi 1), .ref 83])) (fun _ => rfl) ?_
        refine R_gi rfl hs rfl ?_
        show B_R _ _ (222, [(3, .int (Zi (8 * w2.1 15))), (0, .ref 83), (1, .int (Zi 1))], [.int (Zi ((R_iv w2).1 15)), .int (Zi 1), .ref 83]) _ _ _
        refine Z_go (f2 := (223, [(3, .int (Zi (8 * w2.1 15))), (0, .ref 83), (1, .int (Zi 1))], [.int (Zi 1), .int (Zi ((R_iv w2).1 15)), .int (Zi 1), .ref 83])) (fun _ => rfl) ?_
        refine Z_isub rfl ?_
        refine Z_go (f2 := (225, [(3, .int (Zi (8 * w2.1 15))), (0, .ref 83), (1, .int (Zi 1))], [.int (Zi 0), .int (Zi ((R_iv w2).1 15 - 1)), .int (Zi 1), .ref 83])) (fun _ => rfl) ?_
        refine R_call (As := [.int (Zi 1), .int (Zi ((R_iv w2).1 15 - 1)), .int (Zi 0)]) (rest := []) rfl (by decide) rfl rfl rfl rfl (by decide +kernel) (Nat.le_of_ble_eq_true rfl) hs (R_emit2 _ (R_iv w2) (a + 1) f p (by first | assumption | exact hs.zF _ | exact hs.zA _ _ | exact zS _ | exact ⟨by omega, by omega⟩ | omega) (by first | assumption | exact hs.zF _ | exact hs.zA _ _ | exact zS _ | exact ⟨by omega, by omega⟩ | omega) (by first | assumption | exact hs.zF _ | exact hs.zA _ _ | exact zS _ | exact ⟨by omega, by omega⟩ | omega) (by omega) (by omega)) (fun x h s2 hs q => ?_)
        obtain ⟨rfl, q1⟩ := q
        rw [q1] at hs
        show B_R _ _ (228, [(3, .int (Zi (8 * w2.1 15))), (0, .ref 83), (1, .int (Zi 1))], []) _ _ _
        refine Z_go (f2 := (229, [(3, .int (Zi (8 * w2.1 15))), (0, .ref 83), (1, .int (Zi 1))], [.int (Zi 1)])) (fun _ => rfl) ?_
        refine Z_iret rfl rfl (by first | rfl | decide | exact narrow_b01 (by omega)) ⟨_, hs, ?_, rfl⟩
        refine ⟨rfl, _, rfl, .inr ⟨rfl, ?_⟩⟩
        rw [show (R_iv w2).1 15 - 1 = s.1 15 by omega]
        exact eap.trans (R_ap_em (R_iv w2) 1 (s.1 15) 0) m0
