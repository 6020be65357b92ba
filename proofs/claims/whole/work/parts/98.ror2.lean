/-! the reference: or -/
set_option maxRecDepth 4000 in
theorem R_or (d : Nat) (s : R_S) {p q : Int} {v w : P_V} (zp : Zr p) (zq : Zr q) (p0 : 0 ≤ p) (p1 : p < 40) (q0 : 0 ≤ q) (q1 : q < 44) (nq : q ≠ 40) (ne : p ≠ q) (hp : R_V s p v) (hq : R_V s q w) : R_ok (d + 7) 245 [.int (Zi p), .int (Zi q)] s (fun x s2 => x = none ∧ R_V s2 p (V_or v w) ∧ R_vk s s2 (R_bK p q)) := by
  refine R_enter (M := E_m245) rfl (Nat.le_of_ble_eq_true rfl) (fun h0 h hs => ?_)
  show B_R (d + 6) _ (0, [(0, .ref 83), (1, .int (Zi p)), (2, .int (Zi q))], []) _ _ _
  match v, w, hp, hq with
  | .inr x, .inr y, hp, hq =>
    have f1 := hp.1
    have f2 := hq.1
    refine Z_go (f2 := (1, [(0, .ref 83), (1, .int (Zi p)), (2, .int (Zi q))], [.ref 83])) (fun _ => rfl) ?_
    refine R_gr (q := 94) rfl hs rfl ?_
    show B_R _ _ (4, [(0, .ref 83), (1, .int (Zi p)), (2, .int (Zi q))], [.ref 96]) _ _ _
    refine Z_go (f2 := (5, [(0, .ref 83), (1, .int (Zi p)), (2, .int (Zi q))], [.int (Zi p), .ref 96])) (fun _ => rfl) ?_
    refine R_ba (q := 12) rfl hs rfl rfl (by omega) (by omega) (by decide) ?_
    refine Z_ieq rfl rfl (by first | exact hs.zF _ | exact Zor_r _ _ | exact hs.zA _ _ | assumption | exact zA _ _ | exact zS _ | exact Zr_not (hs.zA _ _) | exact ⟨by omega, by omega⟩) (fun c1 => ?_) (fun c1 => ?_)
    · exact R_or_170 p0 p1 q0 q1 nq ne hp hq (fun u h hs hv hk => ⟨_, hs, ⟨rfl, hv, hk⟩, rfl⟩) h hs
    · refine Z_go (f2 := (10, [(0, .ref 83), (1, .int (Zi p)), (2, .int (Zi q))], [.ref 83])) (fun _ => rfl) ?_
      refine R_gr (q := 94) rfl hs rfl ?_
      show B_R _ _ (13, [(0, .ref 83), (1, .int (Zi p)), (2, .int (Zi q))], [.ref 96]) _ _ _
      refine Z_go (f2 := (14, [(0, .ref 83), (1, .int (Zi p)), (2, .int (Zi q))], [.int (Zi q), .ref 96])) (fun _ => rfl) ?_
      refine R_ba (q := 12) rfl hs rfl rfl (by omega) (by omega) (by decide) ?_
      refine Z_ieq rfl rfl (by first | exact hs.zF _ | exact Zor_r _ _ | exact hs.zA _ _ | assumption | exact zA _ _ | exact zS _ | exact Zr_not (hs.zA _ _) | exact ⟨by omega, by omega⟩) (fun c2 => ?_) (fun c2 => ?_)
      · exact R_or_170 p0 p1 q0 q1 nq ne hp hq (fun u h hs hv hk => ⟨_, hs, ⟨rfl, hv, hk⟩, rfl⟩) h hs
      · exfalso; omega
  | .inr x, .inl B, hp, hq =>
    have f1 := hp.1
    have f2 := hq.1
    refine Z_go (f2 := (1, [(0, .ref 83), (1, .int (Zi p)), (2, .int (Zi q))], [.ref 83])) (fun _ => rfl) ?_
    refine R_gr (q := 94) rfl hs rfl ?_
    show B_R _ _ (4, [(0, .ref 83), (1, .int (Zi p)), (2, .int (Zi q))], [.ref 96]) _ _ _
    refine Z_go (f2 := (5, [(0, .ref 83), (1, .int (Zi p)), (2, .int (Zi q))], [.int (Zi p), .ref 96])) (fun _ => rfl) ?_
    refine R_ba (q := 12) rfl hs rfl rfl (by omega) (by omega) (by decide) ?_
    refine Z_ieq rfl rfl (by first | exact hs.zF _ | exact Zor_r _ _ | exact hs.zA _ _ | assumption | exact zA _ _ | exact zS _ | exact Zr_not (hs.zA _ _) | exact ⟨by omega, by omega⟩) (fun c1 => ?_) (fun c1 => ?_)
    · exact R_or_170 p0 p1 q0 q1 nq ne hp hq (fun u h hs hv hk => ⟨_, hs, ⟨rfl, hv, hk⟩, rfl⟩) h hs
    · refine Z_go (f2 := (10, [(0, .ref 83), (1, .int (Zi p)), (2, .int (Zi q))], [.ref 83])) (fun _ => rfl) ?_
      refine R_gr (q := 94) rfl hs rfl ?_
      show B_R _ _ (13, [(0, .ref 83), (1, .int (Zi p)), (2, .int (Zi q))], [.ref 96]) _ _ _
      refine Z_go (f2 := (14, [(0, .ref 83), (1, .int (Zi p)), (2, .int (Zi q))], [.int (Zi q), .ref 96])) (fun _ => rfl) ?_
      refine R_ba (q := 12) rfl hs rfl rfl (by omega) (by omega) (by decide) ?_
      refine Z_ieq rfl rfl (by first | exact hs.zF _ | exact Zor_r _ _ | exact hs.zA _ _ | assumption | exact zA _ _ | exact zS _ | exact Zr_not (hs.zA _ _) | exact ⟨by omega, by omega⟩) (fun c2 => ?_) (fun c2 => ?_)
      · exact R_or_170 p0 p1 q0 q1 nq ne hp hq (fun u h hs hv hk => ⟨_, hs, ⟨rfl, hv, hk⟩, rfl⟩) h hs
      · exfalso; omega
  | .inl A, .inr y, hp, hq =>
    have f1 := hp.1
    have f2 := hq.1
    refine Z_go (f2 := (1, [(0, .ref 83), (1, .int (Zi p)), (2, .int (Zi q))], [.ref 83])) (fun _ => rfl) ?_
    refine R_gr (q := 94) rfl hs rfl ?_
    show B_R _ _ (4, [(0, .ref 83), (1, .int (Zi p)), (2, .int (Zi q))], [.ref 96]) _ _ _
    refine Z_go (f2 := (5, [(0, .ref 83), (1, .int (Zi p)), (2, .int (Zi q))], [.int (Zi p), .ref 96])) (fun _ => rfl) ?_
    refine R_ba (q := 12) rfl hs rfl rfl (by omega) (by omega) (by decide) ?_
    refine Z_ieq rfl rfl (by first | exact hs.zF _ | exact Zor_r _ _ | exact hs.zA _ _ | assumption | exact zA _ _ | exact zS _ | exact Zr_not (hs.zA _ _) | exact ⟨by omega, by omega⟩) (fun c1 => ?_) (fun c1 => ?_)
    · exfalso; omega
    · refine Z_go (f2 := (10, [(0, .ref 83), (1, .int (Zi p)), (2, .int (Zi q))], [.ref 83])) (fun _ => rfl) ?_
      refine R_gr (q := 94) rfl hs rfl ?_
      show B_R _ _ (13, [(0, .ref 83), (1, .int (Zi p)), (2, .int (Zi q))], [.ref 96]) _ _ _
      refine Z_go (f2 := (14, [(0, .ref 83), (1, .int (Zi p)), (2, .int (Zi q))], [.int (Zi q), .ref 96])) (fun _ => rfl) ?_
      refine R_ba (q := 12) rfl hs rfl rfl (by omega) (by omega) (by decide) ?_
      refine Z_ieq rfl rfl (by first | exact hs.zF _ | exact Zor_r _ _ | exact hs.zA _ _ | assumption | exact zA _ _ | exact zS _ | exact Zr_not (hs.zA _ _) | exact ⟨by omega, by omega⟩) (fun c2 => ?_) (fun c2 => ?_)
      · exact R_or_170 p0 p1 q0 q1 nq ne hp hq (fun u h hs hv hk => ⟨_, hs, ⟨rfl, hv, hk⟩, rfl⟩) h hs
      · exfalso; omega
  | .inl A, .inl B, hp, hq =>
    have f1 := hp.1
    have f2 := hq.1
    refine Z_go (f2 := (1, [(0, .ref 83), (1, .int (Zi p)), (2, .int (Zi q))], [.ref 83])) (fun _ => rfl) ?_
    refine R_gr (q := 94) rfl hs rfl ?_
    show B_R _ _ (4, [(0, .ref 83), (1, .int (Zi p)), (2, .int (Zi q))], [.ref 96]) _ _ _
    refine Z_go (f2 := (5, [(0, .ref 83), (1, .int (Zi p)), (2, .int (Zi q))], [.int (Zi p), .ref 96])) (fun _ => rfl) ?_
    refine R_ba (q := 12) rfl hs rfl rfl (by omega) (by omega) (by decide) ?_
    refine Z_ieq rfl rfl (by first | exact hs.zF _ | exact Zor_r _ _ | exact hs.zA _ _ | assumption | exact zA _ _ | exact zS _ | exact Zr_not (hs.zA _ _) | exact ⟨by omega, by omega⟩) (fun c1 => ?_) (fun c1 => ?_)
    · exfalso; omega
    · refine Z_go (f2 := (10, [(0, .ref 83), (1, .int (Zi p)), (2, .int (Zi q))], [.ref 83])) (fun _ => rfl) ?_
      refine R_gr (q := 94) rfl hs rfl ?_
      show B_R _ _ (13, [(0, .ref 83), (1, .int (Zi p)), (2, .int (Zi q))], [.ref 96]) _ _ _
      refine Z_go (f2 := (14, [(0, .ref 83), (1, .int (Zi p)), (2, .int (Zi q))], [.int (Zi q), .ref 96])) (fun _ => rfl) ?_
      refine R_ba (q := 12) rfl hs rfl rfl (by omega) (by omega) (by decide) ?_
      refine Z_ieq rfl rfl (by first | exact hs.zF _ | exact Zor_r _ _ | exact hs.zA _ _ | assumption | exact zA _ _ | exact zS _ | exact Zr_not (hs.zA _ _) | exact ⟨by omega, by omega⟩) (fun c2 => ?_) (fun c2 => ?_)
      · exfalso; omega
      · refine Z_go (f2 := (19, [(0, .ref 83), (1, .int (Zi p)), (2, .int (Zi q))], [.ref 83])) (fun _ => rfl) ?_
        refine R_gr (q := 95) rfl hs rfl ?_
        show B_R _ _ (22, [(0, .ref 83), (1, .int (Zi p)), (2, .int (Zi q))], [.ref 97]) _ _ _
        refine Z_go (f2 := (24, [(0, .ref 83), (1, .int (Zi p)), (2, .int (Zi q))], [.int (Zi 40), .ref 97])) (fun _ => rfl) ?_
        refine Z_go (f2 := (25, [(0, .ref 83), (1, .int (Zi p)), (2, .int (Zi q))], [.int (Zi 0), .int (Zi 40), .ref 97])) (fun _ => rfl) ?_
        refine R_is_ (q := 13) rfl hs rfl rfl (by omega) (by omega) (by decide) (by first | exact hs.zF _ | exact Zor_r _ _ | exact hs.zA _ _ | assumption | exact zA _ _ | exact zS _ | exact Zr_not (hs.zA _ _) | exact ⟨by omega, by omega⟩) (fun h hs => ?_)
        refine Z_go (f2 := (27, [(0, .ref 83), (1, .int (Zi p)), (2, .int (Zi q))], [.int (Zi 1)])) (fun _ => rfl) ?_
        refine Z_go (f2 := (28, [(3, .int (Zi 1)), (0, .ref 83), (1, .int (Zi p)), (2, .int (Zi q))], [])) (fun _ => rfl) ?_
        refine Z_go (f2 := (29, [(3, .int (Zi 1)), (0, .ref 83), (1, .int (Zi p)), (2, .int (Zi q))], [.int (Zi 0)])) (fun _ => rfl) ?_
        refine Z_go (f2 := (31, [(4, .int (Zi 0)), (3, .int (Zi 1)), (0, .ref 83), (1, .int (Zi p)), (2, .int (Zi q))], [])) (fun _ => rfl) ?_
        refine Z_go (f2 := (33, [(4, .int (Zi 0)), (3, .int (Zi 1)), (0, .ref 83), (1, .int (Zi p)), (2, .int (Zi q))], [.int (Zi 0)])) (fun _ => rfl) ?_
        refine Z_go (f2 := (34, [(4, .int (Zi 0)), (3, .int (Zi 1)), (0, .ref 83), (1, .int (Zi p)), (2, .int (Zi q))], [.int (Zi 2), .int (Zi 0)])) (fun _ => rfl) ?_
        refine Z_cge rfl rfl (by first | exact hs.zF _ | exact Zor_r _ _ | exact hs.zA _ _ | assumption | exact zA _ _ | exact zS _ | exact Zr_not (hs.zA _ _) | exact ⟨by omega, by omega⟩) (by first | exact hs.zF _ | exact Zor_r _ _ | exact hs.zA _ _ | assumption | exact zA _ _ | exact zS _ | exact Zr_not (hs.zA _ _) | exact ⟨by omega, by omega⟩) (fun c3 => ?_) (fun c3 => ?_)
        · exfalso; omega
        · refine Z_go (f2 := (39, [(4, .int (Zi 0)), (3, .int (Zi 1)), (0, .ref 83), (1, .int (Zi p)), (2, .int (Zi q))], [.int (Zi 0)])) (fun _ => rfl) ?_
          refine Z_ine rfl rfl (by first | exact hs.zF _ | exact Zor_r _ _ | exact hs.zA _ _ | assumption | exact zA _ _ | exact zS _ | exact Zr_not (hs.zA _ _) | exact ⟨by omega, by omega⟩) (fun c4 => ?_) (fun c4 => ?_)
          · exfalso; omega
          · refine Z_go (f2 := (43, [(4, .int (Zi 0)), (3, .int (Zi 1)), (0, .ref 83), (1, .int (Zi p)), (2, .int (Zi q))], [.int (Zi p)])) (fun _ => rfl) ?_
            refine Z_go (f2 := (47, [(4, .int (Zi 0)), (3, .int (Zi 1)), (0, .ref 83), (1, .int (Zi p)), (2, .int (Zi q))], [.int (Zi p)])) (fun _ => rfl) ?_
            refine Z_go (f2 := (49, [(5, .int (Zi p)), (4, .int (Zi 0)), (3, .int (Zi 1)), (0, .ref 83), (1, .int (Zi p)), (2, .int (Zi q))], [])) (fun _ => rfl) ?_
            refine Z_go (f2 := (50, [(5, .int (Zi p)), (4, .int (Zi 0)), (3, .int (Zi 1)), (0, .ref 83), (1, .int (Zi p)), (2, .int (Zi q))], [.int (Zi 0)])) (fun _ => rfl) ?_
            refine Z_go (f2 := (52, [(6, .int (Zi 0)), (5, .int (Zi p)), (4, .int (Zi 0)), (3, .int (Zi 1)), (0, .ref 83), (1, .int (Zi p)), (2, .int (Zi q))], [])) (fun _ => rfl) ?_
            refine B_loc (K := [(6, .int (Zi 0)), (5, .int (Zi p)), (4, .int (Zi 0)), (3, .int (Zi 1)), (0, .ref 83), (1, .int (Zi p)), (2, .int (Zi q))]) (N_all_sub ⟨rfl, rfl, rfl, rfl, rfl, rfl, rfl, trivial⟩) (show ([6, 5, 4, 3, 0, 1, 2] : List Nat).Nodup by decide) ?_
            have eA : F_or (fun _ => False) (R_tf id s p (s.2.1 97 p)) = A := by rw [R_tf_all hp.2, F_im_id, F_no_or]
            refine R_or_t (d := d + 3) (s := s) (x := p) (c := 0) (P0 := fun _ => False) (Z := F_or A B) p0 (by omega) (by omega) hp.2.1 (fun y hy => by rw [eA] at hy; exact .inl hy) (fun u r h hs hj hr => ?_) ((s.2.1 97 p).toNat + 1) 0 1 _ h (by omega) hs (R_j40_97 s 0) (.inl ⟨rfl, by rw [R_tf_0, F_or_no]; exact R_EX_no s 40⟩) (by omega) hp.2.1.1
            rw [eA] at hr
            refine Z_iinc (L2 := [(4, .int (Zi (0 + 1))), (5, .int (Zi p)), (3, .int (Zi r)), (0, .ref 83), (1, .int (Zi p)), (2, .int (Zi q))]) rfl rfl (by decide) rfl ?_
            refine Z_go (f2 := (31, [(4, .int (Zi (0 + 1))), (5, .int (Zi p)), (3, .int (Zi r)), (0, .ref 83), (1, .int (Zi p)), (2, .int (Zi q))], [])) (fun _ => rfl) ?_
            refine B_loc (K := [(4, .int (Zi 1)), (3, .int (Zi r)), (0, .ref 83), (1, .int (Zi p)), (2, .int (Zi q))]) (N_all_sub ⟨rfl, rfl, rfl, rfl, rfl, trivial⟩) (show ([4, 3, 0, 1, 2] : List Nat).Nodup by decide) ?_
            refine Z_go (f2 := (33, [(4, .int (Zi 1)), (3, .int (Zi r)), (0, .ref 83), (1, .int (Zi p)), (2, .int (Zi q))], [.int (Zi 1)])) (fun _ => rfl) ?_
            refine Z_go (f2 := (34, [(4, .int (Zi 1)), (3, .int (Zi r)), (0, .ref 83), (1, .int (Zi p)), (2, .int (Zi q))], [.int (Zi 2), .int (Zi 1)])) (fun _ => rfl) ?_
            refine Z_cge rfl rfl (by first | exact hs.zF _ | exact Zor_r _ _ | exact hs.zA _ _ | assumption | exact zA _ _ | exact zS _ | exact Zr_not (hs.zA _ _) | exact ⟨by omega, by omega⟩) (by first | exact hs.zF _ | exact Zor_r _ _ | exact hs.zA _ _ | assumption | exact zA _ _ | exact zS _ | exact Zr_not (hs.zA _ _) | exact ⟨by omega, by omega⟩) (fun c1 => ?_) (fun c1 => ?_)
            · exfalso; omega
            · refine Z_go (f2 := (39, [(4, .int (Zi 1)), (3, .int (Zi r)), (0, .ref 83), (1, .int (Zi p)), (2, .int (Zi q))], [.int (Zi 1)])) (fun _ => rfl) ?_
              refine Z_ine rfl rfl (by first | exact hs.zF _ | exact Zor_r _ _ | exact hs.zA _ _ | assumption | exact zA _ _ | exact zS _ | exact Zr_not (hs.zA _ _) | exact ⟨by omega, by omega⟩) (fun c2 => ?_) (fun c2 => ?_)
              · refine Z_go (f2 := (47, [(4, .int (Zi 1)), (3, .int (Zi r)), (0, .ref 83), (1, .int (Zi p)), (2, .int (Zi q))], [.int (Zi q)])) (fun _ => rfl) ?_
                refine Z_go (f2 := (49, [(5, .int (Zi q)), (4, .int (Zi 1)), (3, .int (Zi r)), (0, .ref 83), (1, .int (Zi p)), (2, .int (Zi q))], [])) (fun _ => rfl) ?_
                refine Z_go (f2 := (50, [(5, .int (Zi q)), (4, .int (Zi 1)), (3, .int (Zi r)), (0, .ref 83), (1, .int (Zi p)), (2, .int (Zi q))], [.int (Zi 0)])) (fun _ => rfl) ?_
                refine Z_go (f2 := (52, [(6, .int (Zi 0)), (5, .int (Zi q)), (4, .int (Zi 1)), (3, .int (Zi r)), (0, .ref 83), (1, .int (Zi p)), (2, .int (Zi q))], [])) (fun _ => rfl) ?_
                refine B_loc (K := [(6, .int (Zi 0)), (5, .int (Zi q)), (4, .int (Zi 1)), (3, .int (Zi r)), (0, .ref 83), (1, .int (Zi p)), (2, .int (Zi q))]) (N_all_sub ⟨rfl, rfl, rfl, rfl, rfl, rfl, rfl, trivial⟩) (show ([6, 5, 4, 3, 0, 1, 2] : List Nat).Nodup by decide) ?_
                obtain ⟨vq, e97, e98, er⟩ := R_tv_j40 hj (by omega) hq.2.1
                have hqu : R_V u q (.inl B) := R_V_vk hj.vk (by omega) hq
                have eB : R_tf id u q (u.2.1 97 q) = B := by rw [R_tf_all hqu.2, F_im_id]
                refine R_or_t (d := d + 3) (s := u) (x := q) (c := 1) (P0 := A) (Z := F_or A B) q0 q1 nq vq (fun y hy => by rw [eB] at hy; exact hy) (fun u2 r h hs hj2 hr => ?_) ((u.2.1 97 q).toNat + 1) 0 r _ h (by omega) hs (R_j40_0 u) (by rw [R_tf_0, F_or_no]; exact hr) (by omega) vq.1
                rw [eB] at hr
                have zr : Zr r := by rcases hr with q | q <;> exact ⟨by omega, by omega⟩
                have hjj := hj.trans hj2
                refine Z_iinc (L2 := [(4, .int (Zi (1 + 1))), (5, .int (Zi q)), (3, .int (Zi r)), (0, .ref 83), (1, .int (Zi p)), (2, .int (Zi q))]) rfl rfl (by decide) rfl ?_
                refine Z_go (f2 := (31, [(4, .int (Zi (1 + 1))), (5, .int (Zi q)), (3, .int (Zi r)), (0, .ref 83), (1, .int (Zi p)), (2, .int (Zi q))], [])) (fun _ => rfl) ?_
                refine B_loc (K := [(4, .int (Zi 2)), (3, .int (Zi r)), (0, .ref 83), (1, .int (Zi p)), (2, .int (Zi q))]) (N_all_sub ⟨rfl, rfl, rfl, rfl, rfl, trivial⟩) (show ([4, 3, 0, 1, 2] : List Nat).Nodup by decide) ?_
                refine Z_go (f2 := (33, [(4, .int (Zi 2)), (3, .int (Zi r)), (0, .ref 83), (1, .int (Zi p)), (2, .int (Zi q))], [.int (Zi 2)])) (fun _ => rfl) ?_
                refine Z_go (f2 := (34, [(4, .int (Zi 2)), (3, .int (Zi r)), (0, .ref 83), (1, .int (Zi p)), (2, .int (Zi q))], [.int (Zi 2), .int (Zi 2)])) (fun _ => rfl) ?_
                refine Z_cge rfl rfl (by first | exact hs.zF _ | exact Zor_r _ _ | exact hs.zA _ _ | assumption | exact zA _ _ | exact zS _ | exact Zr_not (hs.zA _ _) | exact ⟨by omega, by omega⟩) (by first | exact hs.zF _ | exact Zor_r _ _ | exact hs.zA _ _ | assumption | exact zA _ _ | exact zS _ | exact Zr_not (hs.zA _ _) | exact ⟨by omega, by omega⟩) (fun c1 => ?_) (fun c1 => ?_)
                · refine Z_go (f2 := (151, [(4, .int (Zi 2)), (3, .int (Zi r)), (0, .ref 83), (1, .int (Zi p)), (2, .int (Zi q))], [.ref 83])) (fun _ => rfl) ?_
                  refine R_gr (q := 94) rfl hs rfl ?_
                  show B_R _ _ (154, [(4, .int (Zi 2)), (3, .int (Zi r)), (0, .ref 83), (1, .int (Zi p)), (2, .int (Zi q))], [.ref 96]) _ _ _
                  refine Z_go (f2 := (156, [(4, .int (Zi 2)), (3, .int (Zi r)), (0, .ref 83), (1, .int (Zi p)), (2, .int (Zi q))], [.int (Zi 40), .ref 96])) (fun _ => rfl) ?_
                  refine Z_go (f2 := (157, [(4, .int (Zi 2)), (3, .int (Zi r)), (0, .ref 83), (1, .int (Zi p)), (2, .int (Zi q))], [.int (Zi 1), .int (Zi 40), .ref 96])) (fun _ => rfl) ?_
                  refine R_bs (q := 12) rfl hs rfl rfl (by omega) (by omega) (by decide) (by first | exact .inl rfl | exact .inr rfl | assumption) (fun h hs => ?_)
                  refine Z_go (f2 := (159, [(4, .int (Zi 2)), (3, .int (Zi r)), (0, .ref 83), (1, .int (Zi p)), (2, .int (Zi q))], [.int (Zi r)])) (fun _ => rfl) ?_
                  refine Z_ieq rfl rfl (by first | exact hs.zF _ | exact Zor_r _ _ | exact hs.zA _ _ | assumption | exact zA _ _ | exact zS _ | exact Zr_not (hs.zA _ _) | exact ⟨by omega, by omega⟩) (fun c2 => ?_) (fun c2 => ?_)
                  · refine B_loc (K := [(0, .ref 83), (1, .int (Zi p)), (2, .int (Zi q))]) (N_all_sub ⟨rfl, rfl, rfl, trivial⟩) (show ([0, 1, 2] : List Nat).Nodup by decide) ?_
                    have k1 := (hjj.trans (R_j40_96 u2 1)).vk
                    have nf : ¬ F_fit (F_or A B) := by rcases hr with k | k; omega; exact k.2
                    refine R_or_170 p0 p1 q0 q1 nq ne (R_V_vk k1 (by omega) hp) (R_V_vk k1 (by omega) hq) (fun u h hs hv hk => ⟨_, hs, ⟨rfl, ?_, k1.trans hk (fun e h => .inr (.inr (.inl h))) (fun _ h => h)⟩, rfl⟩) h hs
                    show R_V u p (c_if _ _ _)
                    rw [c_neg nf]
                    exact hv
                  · have hx : R_EX (R_sA u2 96 40 1) 40 (F_or A B) := by
                      rcases hr with k | k
                      · exact R_EX_up (R_sA_n _ _ _ _ (by decide)) (fun j => R_sA_n _ _ _ _ (by decide)) (fun j => R_sA_n _ _ _ _ (by decide)) k.2
                      · omega
                    refine Z_go (f2 := (163, [(4, .int (Zi 2)), (3, .int (Zi r)), (0, .ref 83), (1, .int (Zi p)), (2, .int (Zi q))], [.ref 83])) (fun _ => rfl) ?_
                    refine Z_go (f2 := (165, [(4, .int (Zi 2)), (3, .int (Zi r)), (0, .ref 83), (1, .int (Zi p)), (2, .int (Zi q))], [.int (Zi 40), .ref 83])) (fun _ => rfl) ?_
                    refine Z_go (f2 := (166, [(4, .int (Zi 2)), (3, .int (Zi r)), (0, .ref 83), (1, .int (Zi p)), (2, .int (Zi q))], [.int (Zi p), .int (Zi 40), .ref 83])) (fun _ => rfl) ?_
                    refine R_call (As := [.int (Zi 40), .int (Zi p)]) (rest := []) rfl (by decide) rfl rfl rfl rfl (by decide +kernel) (Nat.le_of_ble_eq_true rfl) hs (R_copies _ (R_sA u2 96 40 1) (e := 40) (k := p) (v := .inl (F_or A B)) ⟨by omega, by omega⟩ zp (by omega) (by omega) p0 (by omega) (by omega) ⟨R_sA_s _ _ _ _, hx⟩) (fun x h s2 hs q => ?_)
                    obtain ⟨rfl, e1, e2⟩ := q
                    show B_R _ _ (169, [(4, .int (Zi 2)), (3, .int (Zi r)), (0, .ref 83), (1, .int (Zi p)), (2, .int (Zi q))], []) _ _ _
                    refine Z_ret rfl rfl ⟨_, hs, ?_, rfl⟩
                    have hfit : F_fit (F_or A B) := ⟨(hx.card 8).mpr (by have := hx.1.2.1; omega), fun y hy => by
                      obtain ⟨c, c0, c1, rfl⟩ := (hx.2.2 _).mp hy
                      have := (hx.1.2.2 c c0 c1).2.1
                      unfold R_trow
                      rw [D_row_len]
                      omega⟩
                    refine ⟨rfl, ?_, (hjj.trans (R_j40_96 u2 1)).vk.trans e2 (fun e h => .inr (.inr (.inl h))) (fun e h => .inl h)⟩
                    show R_V s2 p (c_if _ _ _)
                    rw [c_pos hfit]
                    exact e1
                · exfalso; omega
              · exfalso; omega
