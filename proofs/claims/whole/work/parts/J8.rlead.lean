/-! the reference: leads, step by step -/
theorem R_ld_h {d : Nat} {h0 : E_H} {s : R_S} {sl : Nat} {Φ : E_R → Prop} {op pc top bk a : Int} (t0 : 0 ≤ top) (t1 : top < 260) (p0 : 0 ≤ pc) (p1 : pc < 3000) (ha : s.2.1 114 pc = a) (a0 : 0 ≤ a) (a1 : a < 5) (kont : ∀ (h : E_H), R_is h0 h (R_fL s 119 (16 * top) (16 * top + 16) (fun j => s.2.2.2 119 j &&& s.2.2.2 121 (16 * a + (j - 16 * top)))) → B_R (d + 1) E_m266 (95, [(4, .int (Zi op)), (3, .int (Zi pc)), (2, .int (Zi top)), (0, .ref 83), (1, .int (Zi bk))], []) h sl Φ) : ∀ (t : Nat) (w : Int) (h : E_H), 16 - w < t → R_is h0 h (R_fL s 119 (16 * top) (16 * top + w) (fun j => s.2.2.2 119 j &&& s.2.2.2 121 (16 * a + (j - 16 * top)))) → 0 ≤ w → w ≤ 16 → B_R (d + 1) E_m266 (50, [(5, .int (Zi w)), (4, .int (Zi op)), (3, .int (Zi pc)), (2, .int (Zi top)), (0, .ref 83), (1, .int (Zi bk))], []) h sl Φ := by
  intro t
  induction t with
  | zero => intro w h ht hs w0 w1; omega
  | succ t ih =>
    intro w h ht hs w0 w1
    refine Z_go (f2 := (52, [(5, .int (Zi w)), (4, .int (Zi op)), (3, .int (Zi pc)), (2, .int (Zi top)), (0, .ref 83), (1, .int (Zi bk))], [.int (Zi w)])) (fun _ => rfl) ?_
    refine Z_go (f2 := (54, [(5, .int (Zi w)), (4, .int (Zi op)), (3, .int (Zi pc)), (2, .int (Zi top)), (0, .ref 83), (1, .int (Zi bk))], [.int (Zi 16), .int (Zi w)])) (fun _ => rfl) ?_
    refine Z_cge rfl rfl (by first | exact hs.zF _ | exact Zor_r _ _ | exact hs.zA _ _ | assumption | exact zA _ _ | exact zS _ | exact Zr_not (hs.zA _ _) | exact ⟨by omega, by omega⟩) (by first | exact hs.zF _ | exact Zor_r _ _ | exact hs.zA _ _ | assumption | exact zA _ _ | exact zS _ | exact Zr_not (hs.zA _ _) | exact ⟨by omega, by omega⟩) (fun c1 => ?_) (fun c1 => ?_)
    · refine B_loc (K := [(4, .int (Zi op)), (3, .int (Zi pc)), (2, .int (Zi top)), (0, .ref 83), (1, .int (Zi bk))]) (N_all_sub ⟨rfl, rfl, rfl, rfl, rfl, trivial⟩) (show ([4, 3, 2, 0, 1] : List Nat).Nodup by decide) ?_
      obtain rfl : w = 16 := by omega
      exact kont h hs
    · refine Z_go (f2 := (58, [(5, .int (Zi w)), (4, .int (Zi op)), (3, .int (Zi pc)), (2, .int (Zi top)), (0, .ref 83), (1, .int (Zi bk))], [.ref 83])) (fun _ => rfl) ?_
      refine R_gr (q := 117) rfl hs rfl ?_
      show B_R _ _ (61, [(5, .int (Zi w)), (4, .int (Zi op)), (3, .int (Zi pc)), (2, .int (Zi top)), (0, .ref 83), (1, .int (Zi bk))], [.ref 119]) _ _ _
      refine Z_go (f2 := (63, [(5, .int (Zi w)), (4, .int (Zi op)), (3, .int (Zi pc)), (2, .int (Zi top)), (0, .ref 83), (1, .int (Zi bk))], [.int (Zi 16), .ref 119])) (fun _ => rfl) ?_
      refine Z_go (f2 := (64, [(5, .int (Zi w)), (4, .int (Zi op)), (3, .int (Zi pc)), (2, .int (Zi top)), (0, .ref 83), (1, .int (Zi bk))], [.int (Zi top), .int (Zi 16), .ref 119])) (fun _ => rfl) ?_
      refine Z_imul rfl ?_
      refine Z_go (f2 := (67, [(5, .int (Zi w)), (4, .int (Zi op)), (3, .int (Zi pc)), (2, .int (Zi top)), (0, .ref 83), (1, .int (Zi bk))], [.int (Zi w), .int (Zi (16 * top)), .ref 119])) (fun _ => rfl) ?_
      refine Z_iadd rfl ?_
      refine Z_go (f2 := (69, [(5, .int (Zi w)), (4, .int (Zi op)), (3, .int (Zi pc)), (2, .int (Zi top)), (0, .ref 83), (1, .int (Zi bk))], [.int (Zi (16 * top + w)), .ref 119, .int (Zi (16 * top + w)), .ref 119])) (fun _ => rfl) ?_
      refine R_la (q := 35) rfl hs rfl rfl (by omega) (by omega) (by decide) ?_
      refine Z_go (f2 := (71, [(5, .int (Zi w)), (4, .int (Zi op)), (3, .int (Zi pc)), (2, .int (Zi top)), (0, .ref 83), (1, .int (Zi bk))], [.ref 83, .long ((R_fL s 119 (16 * top) (16 * top + w) (fun j => s.2.2.2 119 j &&& s.2.2.2 121 (16 * a + (j - 16 * top)))).2.2.2 119 (16 * top + w)), .int (Zi (16 * top + w)), .ref 119])) (fun _ => rfl) ?_
      refine R_gr (q := 119) rfl hs rfl ?_
      show B_R _ _ (74, [(5, .int (Zi w)), (4, .int (Zi op)), (3, .int (Zi pc)), (2, .int (Zi top)), (0, .ref 83), (1, .int (Zi bk))], [.ref 121, .long ((R_fL s 119 (16 * top) (16 * top + w) (fun j => s.2.2.2 119 j &&& s.2.2.2 121 (16 * a + (j - 16 * top)))).2.2.2 119 (16 * top + w)), .int (Zi (16 * top + w)), .ref 119]) _ _ _
      refine Z_go (f2 := (76, [(5, .int (Zi w)), (4, .int (Zi op)), (3, .int (Zi pc)), (2, .int (Zi top)), (0, .ref 83), (1, .int (Zi bk))], [.int (Zi 16), .ref 121, .long ((R_fL s 119 (16 * top) (16 * top + w) (fun j => s.2.2.2 119 j &&& s.2.2.2 121 (16 * a + (j - 16 * top)))).2.2.2 119 (16 * top + w)), .int (Zi (16 * top + w)), .ref 119])) (fun _ => rfl) ?_
      refine Z_go (f2 := (77, [(5, .int (Zi w)), (4, .int (Zi op)), (3, .int (Zi pc)), (2, .int (Zi top)), (0, .ref 83), (1, .int (Zi bk))], [.ref 83, .int (Zi 16), .ref 121, .long ((R_fL s 119 (16 * top) (16 * top + w) (fun j => s.2.2.2 119 j &&& s.2.2.2 121 (16 * a + (j - 16 * top)))).2.2.2 119 (16 * top + w)), .int (Zi (16 * top + w)), .ref 119])) (fun _ => rfl) ?_
      refine R_gr (q := 112) rfl hs rfl ?_
      show B_R _ _ (80, [(5, .int (Zi w)), (4, .int (Zi op)), (3, .int (Zi pc)), (2, .int (Zi top)), (0, .ref 83), (1, .int (Zi bk))], [.ref 114, .int (Zi 16), .ref 121, .long ((R_fL s 119 (16 * top) (16 * top + w) (fun j => s.2.2.2 119 j &&& s.2.2.2 121 (16 * a + (j - 16 * top)))).2.2.2 119 (16 * top + w)), .int (Zi (16 * top + w)), .ref 119]) _ _ _
      refine Z_go (f2 := (81, [(5, .int (Zi w)), (4, .int (Zi op)), (3, .int (Zi pc)), (2, .int (Zi top)), (0, .ref 83), (1, .int (Zi bk))], [.int (Zi pc), .ref 114, .int (Zi 16), .ref 121, .long ((R_fL s 119 (16 * top) (16 * top + w) (fun j => s.2.2.2 119 j &&& s.2.2.2 121 (16 * a + (j - 16 * top)))).2.2.2 119 (16 * top + w)), .int (Zi (16 * top + w)), .ref 119])) (fun _ => rfl) ?_
      refine R_ia (q := 30) rfl hs rfl rfl (by omega) (by omega) (by decide) ?_
      rw [show (R_fL s 119 (16 * top) (16 * top + w) (fun j => s.2.2.2 119 j &&& s.2.2.2 121 (16 * a + (j - 16 * top)))).2.1 114 pc = s.2.1 114 pc by first | rfl | simp [R_sA, R_sF, R_up2, R_fl, R_fL, R_sM, R_sL, R_p3, R_em]]; show B_R _ _ (82, [(5, .int (Zi w)), (4, .int (Zi op)), (3, .int (Zi pc)), (2, .int (Zi top)), (0, .ref 83), (1, .int (Zi bk))], [.int (Zi (s.2.1 114 pc)), .int (Zi 16), .ref 121, .long ((R_fL s 119 (16 * top) (16 * top + w) (fun j => s.2.2.2 119 j &&& s.2.2.2 121 (16 * a + (j - 16 * top)))).2.2.2 119 (16 * top + w)), .int (Zi (16 * top + w)), .ref 119]) _ _ _
      refine Z_imul rfl ?_
      refine Z_go (f2 := (85, [(5, .int (Zi w)), (4, .int (Zi op)), (3, .int (Zi pc)), (2, .int (Zi top)), (0, .ref 83), (1, .int (Zi bk))], [.int (Zi w), .int (Zi (16 * (s.2.1 114 pc))), .ref 121, .long ((R_fL s 119 (16 * top) (16 * top + w) (fun j => s.2.2.2 119 j &&& s.2.2.2 121 (16 * a + (j - 16 * top)))).2.2.2 119 (16 * top + w)), .int (Zi (16 * top + w)), .ref 119])) (fun _ => rfl) ?_
      refine Z_iadd rfl ?_
      refine R_la (q := 37) rfl hs rfl rfl (by rw [ha]; omega) (by rw [ha]; omega) (by decide) ?_
      rw [show (R_fL s 119 (16 * top) (16 * top + w) (fun j => s.2.2.2 119 j &&& s.2.2.2 121 (16 * a + (j - 16 * top)))).2.2.2 121 (16 * (s.2.1 114 pc) + w) = s.2.2.2 121 (16 * (s.2.1 114 pc) + w) by simp [R_sA, R_sF, R_sL, R_sM, R_upL2, R_fl, R_fL]]; show B_R _ _ (87, [(5, .int (Zi w)), (4, .int (Zi op)), (3, .int (Zi pc)), (2, .int (Zi top)), (0, .ref 83), (1, .int (Zi bk))], [.long (s.2.2.2 121 (16 * (s.2.1 114 pc) + w)), .long ((R_fL s 119 (16 * top) (16 * top + w) (fun j => s.2.2.2 119 j &&& s.2.2.2 121 (16 * a + (j - 16 * top)))).2.2.2 119 (16 * top + w)), .int (Zi (16 * top + w)), .ref 119]) _ _ _
      refine Z_go (f2 := (88, [(5, .int (Zi w)), (4, .int (Zi op)), (3, .int (Zi pc)), (2, .int (Zi top)), (0, .ref 83), (1, .int (Zi bk))], [.long (((R_fL s 119 (16 * top) (16 * top + w) (fun j => s.2.2.2 119 j &&& s.2.2.2 121 (16 * a + (j - 16 * top)))).2.2.2 119 (16 * top + w)) &&& (s.2.2.2 121 (16 * (s.2.1 114 pc) + w))), .int (Zi (16 * top + w)), .ref 119])) (fun _ => rfl) ?_
      refine R_ls (q := 35) rfl hs rfl rfl (by omega) (by omega) (by decide) (fun h hs => ?_)
      refine Z_iinc (L2 := [(5, .int (Zi (w + 1))), (4, .int (Zi op)), (3, .int (Zi pc)), (2, .int (Zi top)), (0, .ref 83), (1, .int (Zi bk))]) rfl rfl (by decide) rfl ?_
      refine Z_go (f2 := (50, [(5, .int (Zi (w + 1))), (4, .int (Zi op)), (3, .int (Zi pc)), (2, .int (Zi top)), (0, .ref 83), (1, .int (Zi bk))], [])) (fun _ => rfl) ?_
      refine B_loc (K := [(5, .int (Zi (w + 1))), (4, .int (Zi op)), (3, .int (Zi pc)), (2, .int (Zi top)), (0, .ref 83), (1, .int (Zi bk))]) (N_all_sub ⟨rfl, rfl, rfl, rfl, rfl, rfl, trivial⟩) (show ([5, 4, 3, 2, 0, 1] : List Nat).Nodup by decide) ?_
      rw [R_fL_st (by omega) rfl (by
        rw [R_fL_o (by omega), ha]
        show _ = s.2.2.2 119 (16 * top + w) &&& s.2.2.2 121 (16 * a + (16 * top + w - 16 * top))
        rw [show 16 * top + w - 16 * top = w by omega])] at hs
      exact ih (w + 1) h (by omega) (by rw [← Int.add_assoc]; exact hs) (by omega) (by omega)
theorem R_ld_j {d : Nat} {h0 : E_H} {s : R_S} {sl : Nat} {Φ : E_R → Prop} {op pc top bk a : Int} (t0 : 1 ≤ top) (t1 : top < 260) (kont : ∀ (h : E_H), R_is h0 h (R_fL s 119 (16 * (top - 1)) (16 * (top - 1) + 16) (fun j => s.2.2.2 119 j ||| s.2.2.2 119 (j + 16))) → B_R (d + 1) E_m266 (273, [(4, .int (Zi op)), (3, .int (Zi pc)), (2, .int (Zi top)), (0, .ref 83), (1, .int (Zi bk))], []) h sl Φ) : ∀ (t : Nat) (w : Int) (h : E_H), 16 - w < t → R_is h0 h (R_fL s 119 (16 * (top - 1)) (16 * (top - 1) + w) (fun j => s.2.2.2 119 j ||| s.2.2.2 119 (j + 16))) → 0 ≤ w → w ≤ 16 → B_R (d + 1) E_m266 (231, [(5, .int (Zi w)), (4, .int (Zi op)), (3, .int (Zi pc)), (2, .int (Zi top)), (0, .ref 83), (1, .int (Zi bk))], []) h sl Φ := by
  intro t
  induction t with
  | zero => intro w h ht hs w0 w1; omega
  | succ t ih =>
    intro w h ht hs w0 w1
    refine Z_go (f2 := (233, [(5, .int (Zi w)), (4, .int (Zi op)), (3, .int (Zi pc)), (2, .int (Zi top)), (0, .ref 83), (1, .int (Zi bk))], [.int (Zi w)])) (fun _ => rfl) ?_
    refine Z_go (f2 := (235, [(5, .int (Zi w)), (4, .int (Zi op)), (3, .int (Zi pc)), (2, .int (Zi top)), (0, .ref 83), (1, .int (Zi bk))], [.int (Zi 16), .int (Zi w)])) (fun _ => rfl) ?_
    refine Z_cge rfl rfl (by first | exact hs.zF _ | exact Zor_r _ _ | exact hs.zA _ _ | assumption | exact zA _ _ | exact zS _ | exact Zr_not (hs.zA _ _) | exact ⟨by omega, by omega⟩) (by first | exact hs.zF _ | exact Zor_r _ _ | exact hs.zA _ _ | assumption | exact zA _ _ | exact zS _ | exact Zr_not (hs.zA _ _) | exact ⟨by omega, by omega⟩) (fun c1 => ?_) (fun c1 => ?_)
    · refine B_loc (K := [(4, .int (Zi op)), (3, .int (Zi pc)), (2, .int (Zi top)), (0, .ref 83), (1, .int (Zi bk))]) (N_all_sub ⟨rfl, rfl, rfl, rfl, rfl, trivial⟩) (show ([4, 3, 2, 0, 1] : List Nat).Nodup by decide) ?_
      obtain rfl : w = 16 := by omega
      exact kont h hs
    · refine Z_go (f2 := (239, [(5, .int (Zi w)), (4, .int (Zi op)), (3, .int (Zi pc)), (2, .int (Zi top)), (0, .ref 83), (1, .int (Zi bk))], [.ref 83])) (fun _ => rfl) ?_
      refine R_gr (q := 117) rfl hs rfl ?_
      show B_R _ _ (242, [(5, .int (Zi w)), (4, .int (Zi op)), (3, .int (Zi pc)), (2, .int (Zi top)), (0, .ref 83), (1, .int (Zi bk))], [.ref 119]) _ _ _
      refine Z_go (f2 := (244, [(5, .int (Zi w)), (4, .int (Zi op)), (3, .int (Zi pc)), (2, .int (Zi top)), (0, .ref 83), (1, .int (Zi bk))], [.int (Zi 16), .ref 119])) (fun _ => rfl) ?_
      refine Z_go (f2 := (245, [(5, .int (Zi w)), (4, .int (Zi op)), (3, .int (Zi pc)), (2, .int (Zi top)), (0, .ref 83), (1, .int (Zi bk))], [.int (Zi top), .int (Zi 16), .ref 119])) (fun _ => rfl) ?_
      refine Z_go (f2 := (246, [(5, .int (Zi w)), (4, .int (Zi op)), (3, .int (Zi pc)), (2, .int (Zi top)), (0, .ref 83), (1, .int (Zi bk))], [.int (Zi 1), .int (Zi top), .int (Zi 16), .ref 119])) (fun _ => rfl) ?_
      refine Z_isub rfl ?_
      refine Z_imul rfl ?_
      refine Z_go (f2 := (250, [(5, .int (Zi w)), (4, .int (Zi op)), (3, .int (Zi pc)), (2, .int (Zi top)), (0, .ref 83), (1, .int (Zi bk))], [.int (Zi w), .int (Zi (16 * (top - 1))), .ref 119])) (fun _ => rfl) ?_
      refine Z_iadd rfl ?_
      refine Z_go (f2 := (252, [(5, .int (Zi w)), (4, .int (Zi op)), (3, .int (Zi pc)), (2, .int (Zi top)), (0, .ref 83), (1, .int (Zi bk))], [.int (Zi (16 * (top - 1) + w)), .ref 119, .int (Zi (16 * (top - 1) + w)), .ref 119])) (fun _ => rfl) ?_
      refine R_la (q := 35) rfl hs rfl rfl (by omega) (by omega) (by decide) ?_
      refine Z_go (f2 := (254, [(5, .int (Zi w)), (4, .int (Zi op)), (3, .int (Zi pc)), (2, .int (Zi top)), (0, .ref 83), (1, .int (Zi bk))], [.ref 83, .long ((R_fL s 119 (16 * (top - 1)) (16 * (top - 1) + w) (fun j => s.2.2.2 119 j ||| s.2.2.2 119 (j + 16))).2.2.2 119 (16 * (top - 1) + w)), .int (Zi (16 * (top - 1) + w)), .ref 119])) (fun _ => rfl) ?_
      refine R_gr (q := 117) rfl hs rfl ?_
      show B_R _ _ (257, [(5, .int (Zi w)), (4, .int (Zi op)), (3, .int (Zi pc)), (2, .int (Zi top)), (0, .ref 83), (1, .int (Zi bk))], [.ref 119, .long ((R_fL s 119 (16 * (top - 1)) (16 * (top - 1) + w) (fun j => s.2.2.2 119 j ||| s.2.2.2 119 (j + 16))).2.2.2 119 (16 * (top - 1) + w)), .int (Zi (16 * (top - 1) + w)), .ref 119]) _ _ _
      refine Z_go (f2 := (259, [(5, .int (Zi w)), (4, .int (Zi op)), (3, .int (Zi pc)), (2, .int (Zi top)), (0, .ref 83), (1, .int (Zi bk))], [.int (Zi 16), .ref 119, .long ((R_fL s 119 (16 * (top - 1)) (16 * (top - 1) + w) (fun j => s.2.2.2 119 j ||| s.2.2.2 119 (j + 16))).2.2.2 119 (16 * (top - 1) + w)), .int (Zi (16 * (top - 1) + w)), .ref 119])) (fun _ => rfl) ?_
      refine Z_go (f2 := (260, [(5, .int (Zi w)), (4, .int (Zi op)), (3, .int (Zi pc)), (2, .int (Zi top)), (0, .ref 83), (1, .int (Zi bk))], [.int (Zi top), .int (Zi 16), .ref 119, .long ((R_fL s 119 (16 * (top - 1)) (16 * (top - 1) + w) (fun j => s.2.2.2 119 j ||| s.2.2.2 119 (j + 16))).2.2.2 119 (16 * (top - 1) + w)), .int (Zi (16 * (top - 1) + w)), .ref 119])) (fun _ => rfl) ?_
      refine Z_imul rfl ?_
      refine Z_go (f2 := (263, [(5, .int (Zi w)), (4, .int (Zi op)), (3, .int (Zi pc)), (2, .int (Zi top)), (0, .ref 83), (1, .int (Zi bk))], [.int (Zi w), .int (Zi (16 * top)), .ref 119, .long ((R_fL s 119 (16 * (top - 1)) (16 * (top - 1) + w) (fun j => s.2.2.2 119 j ||| s.2.2.2 119 (j + 16))).2.2.2 119 (16 * (top - 1) + w)), .int (Zi (16 * (top - 1) + w)), .ref 119])) (fun _ => rfl) ?_
      refine Z_iadd rfl ?_
      refine R_la (q := 35) rfl hs rfl rfl (by omega) (by omega) (by decide) ?_
      refine Z_go (f2 := (266, [(5, .int (Zi w)), (4, .int (Zi op)), (3, .int (Zi pc)), (2, .int (Zi top)), (0, .ref 83), (1, .int (Zi bk))], [.long (((R_fL s 119 (16 * (top - 1)) (16 * (top - 1) + w) (fun j => s.2.2.2 119 j ||| s.2.2.2 119 (j + 16))).2.2.2 119 (16 * (top - 1) + w)) ||| ((R_fL s 119 (16 * (top - 1)) (16 * (top - 1) + w) (fun j => s.2.2.2 119 j ||| s.2.2.2 119 (j + 16))).2.2.2 119 (16 * top + w))), .int (Zi (16 * (top - 1) + w)), .ref 119])) (fun _ => rfl) ?_
      refine R_ls (q := 35) rfl hs rfl rfl (by omega) (by omega) (by decide) (fun h hs => ?_)
      refine Z_iinc (L2 := [(5, .int (Zi (w + 1))), (4, .int (Zi op)), (3, .int (Zi pc)), (2, .int (Zi top)), (0, .ref 83), (1, .int (Zi bk))]) rfl rfl (by decide) rfl ?_
      refine Z_go (f2 := (231, [(5, .int (Zi (w + 1))), (4, .int (Zi op)), (3, .int (Zi pc)), (2, .int (Zi top)), (0, .ref 83), (1, .int (Zi bk))], [])) (fun _ => rfl) ?_
      refine B_loc (K := [(5, .int (Zi (w + 1))), (4, .int (Zi op)), (3, .int (Zi pc)), (2, .int (Zi top)), (0, .ref 83), (1, .int (Zi bk))]) (N_all_sub ⟨rfl, rfl, rfl, rfl, rfl, rfl, trivial⟩) (show ([5, 4, 3, 2, 0, 1] : List Nat).Nodup by decide) ?_
      rw [R_fL_st (by omega) rfl (by
        rw [R_fL_o (by omega), R_fL_o (by omega)]
        show _ = s.2.2.2 119 (16 * (top - 1) + w) ||| s.2.2.2 119 (16 * (top - 1) + w + 16)
        rw [show 16 * (top - 1) + w + 16 = 16 * top + w by omega])] at hs
      exact ih (w + 1) h (by omega) (by rw [← Int.add_assoc]; exact hs) (by omega) (by omega)
def R_sw (s u : R_S) (top w : Int) : Prop := R_lq 119 s u ∧ ∀ j, u.2.2.2 119 j = if 16 * top ≤ j ∧ j < 16 * top + w then s.2.2.2 119 (j - 16) else if 16 * (top - 1) ≤ j ∧ j < 16 * (top - 1) + w then s.2.2.2 119 (j + 16) else s.2.2.2 119 j
theorem R_sw_0 (s : R_S) (top : Int) : R_sw s s top 0 := ⟨R_lq.rf _ _, fun j => by rw [if_neg (by omega), if_neg (by omega)]⟩
theorem R_sw.st {s u : R_S} {top w x y : Int} {v f : Int64} (h : R_sw s u top w) (w0 : 0 ≤ w) (w1 : w < 16) (hx : x = 16 * top + w) (hv : v = u.2.2.2 119 (16 * (top - 1) + w)) (hf : f = u.2.2.2 119 (16 * top + w)) (hy : y = 16 * (top - 1) + w) : R_sw s (R_sM (R_sM u 119 x v) 119 y f) top (w + 1) := by
  have e1 : u.2.2.2 119 (16 * (top - 1) + w) = s.2.2.2 119 (16 * (top - 1) + w) := by rw [h.2, if_neg (by omega), if_neg (by omega)]
  have e2 : u.2.2.2 119 (16 * top + w) = s.2.2.2 119 (16 * top + w) := by rw [h.2, if_neg (by omega), if_neg (by omega)]
  refine ⟨(h.1.tr (R_lq.st _ _ _ _)).tr (R_lq.st _ _ _ _), fun j => ?_⟩
  rw [R_sM_at, R_sM_at]
  by_cases c0 : j = y
  · rw [if_pos c0, if_neg (by omega), if_pos (by omega), hf, e2, show j + 16 = 16 * top + w by omega]
  · rw [if_neg c0]
    by_cases c : j = x
    · rw [if_pos c, if_pos (by omega), hv, e1, show j - 16 = 16 * (top - 1) + w by omega]
    · rw [if_neg c, h.2]
      by_cases c2 : 16 * top ≤ j ∧ j < 16 * top + w
      · rw [if_pos c2, if_pos (by omega)]
      · rw [if_neg c2, if_neg (show ¬ (16 * top ≤ j ∧ j < 16 * top + (w + 1)) by omega)]
        by_cases c3 : 16 * (top - 1) ≤ j ∧ j < 16 * (top - 1) + w
        · rw [if_pos c3, if_pos (by omega)]
        · rw [if_neg c3, if_neg (by omega)]
theorem R_ld_s {d : Nat} {h0 : E_H} {s : R_S} {sl : Nat} {Φ : E_R → Prop} {op pc top bk : Int} (t0 : 1 ≤ top) (t1 : top < 260) (kont : ∀ (u : R_S) (h : E_H), R_is h0 h u → R_sw s u top 16 → B_R (d + 1) E_m266 (219, [(4, .int (Zi op)), (3, .int (Zi pc)), (2, .int (Zi top)), (0, .ref 83), (1, .int (Zi bk))], []) h sl Φ) : ∀ (t : Nat) (w : Int) (u : R_S) (h : E_H), 16 - w < t → R_is h0 h u → R_sw s u top w → 0 ≤ w → w ≤ 16 → B_R (d + 1) E_m266 (150, [(5, .int (Zi w)), (4, .int (Zi op)), (3, .int (Zi pc)), (2, .int (Zi top)), (0, .ref 83), (1, .int (Zi bk))], []) h sl Φ := by
  intro t
  induction t with
  | zero => intro w u h ht hs hu w0 w1; omega
  | succ t ih =>
    intro w u h ht hs hu w0 w1
    refine Z_go (f2 := (152, [(5, .int (Zi w)), (4, .int (Zi op)), (3, .int (Zi pc)), (2, .int (Zi top)), (0, .ref 83), (1, .int (Zi bk))], [.int (Zi w)])) (fun _ => rfl) ?_
    refine Z_go (f2 := (154, [(5, .int (Zi w)), (4, .int (Zi op)), (3, .int (Zi pc)), (2, .int (Zi top)), (0, .ref 83), (1, .int (Zi bk))], [.int (Zi 16), .int (Zi w)])) (fun _ => rfl) ?_
    refine Z_cge rfl rfl (by first | exact hs.zF _ | exact Zor_r _ _ | exact hs.zA _ _ | assumption | exact zA _ _ | exact zS _ | exact Zr_not (hs.zA _ _) | exact ⟨by omega, by omega⟩) (by first | exact hs.zF _ | exact Zor_r _ _ | exact hs.zA _ _ | assumption | exact zA _ _ | exact zS _ | exact Zr_not (hs.zA _ _) | exact ⟨by omega, by omega⟩) (fun c1 => ?_) (fun c1 => ?_)
    · refine B_loc (K := [(4, .int (Zi op)), (3, .int (Zi pc)), (2, .int (Zi top)), (0, .ref 83), (1, .int (Zi bk))]) (N_all_sub ⟨rfl, rfl, rfl, rfl, rfl, trivial⟩) (show ([4, 3, 2, 0, 1] : List Nat).Nodup by decide) ?_
      obtain rfl : w = 16 := by omega
      exact kont u h hs hu
    · refine Z_go (f2 := (158, [(5, .int (Zi w)), (4, .int (Zi op)), (3, .int (Zi pc)), (2, .int (Zi top)), (0, .ref 83), (1, .int (Zi bk))], [.ref 83])) (fun _ => rfl) ?_
      refine R_gr (q := 117) rfl hs rfl ?_
      show B_R _ _ (161, [(5, .int (Zi w)), (4, .int (Zi op)), (3, .int (Zi pc)), (2, .int (Zi top)), (0, .ref 83), (1, .int (Zi bk))], [.ref 119]) _ _ _
      refine Z_go (f2 := (163, [(5, .int (Zi w)), (4, .int (Zi op)), (3, .int (Zi pc)), (2, .int (Zi top)), (0, .ref 83), (1, .int (Zi bk))], [.int (Zi 16), .ref 119])) (fun _ => rfl) ?_
      refine Z_go (f2 := (164, [(5, .int (Zi w)), (4, .int (Zi op)), (3, .int (Zi pc)), (2, .int (Zi top)), (0, .ref 83), (1, .int (Zi bk))], [.int (Zi top), .int (Zi 16), .ref 119])) (fun _ => rfl) ?_
      refine Z_imul rfl ?_
      refine Z_go (f2 := (167, [(5, .int (Zi w)), (4, .int (Zi op)), (3, .int (Zi pc)), (2, .int (Zi top)), (0, .ref 83), (1, .int (Zi bk))], [.int (Zi w), .int (Zi (16 * top)), .ref 119])) (fun _ => rfl) ?_
      refine Z_iadd rfl ?_
      refine R_la (q := 35) rfl hs rfl rfl (by omega) (by omega) (by decide) ?_
      refine Z_go (f2 := (171, [(6, .long (u.2.2.2 119 (16 * top + w))), (5, .int (Zi w)), (4, .int (Zi op)), (3, .int (Zi pc)), (2, .int (Zi top)), (0, .ref 83), (1, .int (Zi bk))], [])) (fun _ => rfl) ?_
      refine Z_go (f2 := (172, [(6, .long (u.2.2.2 119 (16 * top + w))), (5, .int (Zi w)), (4, .int (Zi op)), (3, .int (Zi pc)), (2, .int (Zi top)), (0, .ref 83), (1, .int (Zi bk))], [.ref 83])) (fun _ => rfl) ?_
      refine R_gr (q := 117) rfl hs rfl ?_
      show B_R _ _ (175, [(6, .long (u.2.2.2 119 (16 * top + w))), (5, .int (Zi w)), (4, .int (Zi op)), (3, .int (Zi pc)), (2, .int (Zi top)), (0, .ref 83), (1, .int (Zi bk))], [.ref 119]) _ _ _
      refine Z_go (f2 := (177, [(6, .long (u.2.2.2 119 (16 * top + w))), (5, .int (Zi w)), (4, .int (Zi op)), (3, .int (Zi pc)), (2, .int (Zi top)), (0, .ref 83), (1, .int (Zi bk))], [.int (Zi 16), .ref 119])) (fun _ => rfl) ?_
      refine Z_go (f2 := (178, [(6, .long (u.2.2.2 119 (16 * top + w))), (5, .int (Zi w)), (4, .int (Zi op)), (3, .int (Zi pc)), (2, .int (Zi top)), (0, .ref 83), (1, .int (Zi bk))], [.int (Zi top), .int (Zi 16), .ref 119])) (fun _ => rfl) ?_
      refine Z_imul rfl ?_
      refine Z_go (f2 := (181, [(6, .long (u.2.2.2 119 (16 * top + w))), (5, .int (Zi w)), (4, .int (Zi op)), (3, .int (Zi pc)), (2, .int (Zi top)), (0, .ref 83), (1, .int (Zi bk))], [.int (Zi w), .int (Zi (16 * top)), .ref 119])) (fun _ => rfl) ?_
      refine Z_iadd rfl ?_
      refine Z_go (f2 := (183, [(6, .long (u.2.2.2 119 (16 * top + w))), (5, .int (Zi w)), (4, .int (Zi op)), (3, .int (Zi pc)), (2, .int (Zi top)), (0, .ref 83), (1, .int (Zi bk))], [.ref 83, .int (Zi (16 * top + w)), .ref 119])) (fun _ => rfl) ?_
      refine R_gr (q := 117) rfl hs rfl ?_
      show B_R _ _ (186, [(6, .long (u.2.2.2 119 (16 * top + w))), (5, .int (Zi w)), (4, .int (Zi op)), (3, .int (Zi pc)), (2, .int (Zi top)), (0, .ref 83), (1, .int (Zi bk))], [.ref 119, .int (Zi (16 * top + w)), .ref 119]) _ _ _
      refine Z_go (f2 := (188, [(6, .long (u.2.2.2 119 (16 * top + w))), (5, .int (Zi w)), (4, .int (Zi op)), (3, .int (Zi pc)), (2, .int (Zi top)), (0, .ref 83), (1, .int (Zi bk))], [.int (Zi 16), .ref 119, .int (Zi (16 * top + w)), .ref 119])) (fun _ => rfl) ?_
      refine Z_go (f2 := (189, [(6, .long (u.2.2.2 119 (16 * top + w))), (5, .int (Zi w)), (4, .int (Zi op)), (3, .int (Zi pc)), (2, .int (Zi top)), (0, .ref 83), (1, .int (Zi bk))], [.int (Zi top), .int (Zi 16), .ref 119, .int (Zi (16 * top + w)), .ref 119])) (fun _ => rfl) ?_
      refine Z_go (f2 := (190, [(6, .long (u.2.2.2 119 (16 * top + w))), (5, .int (Zi w)), (4, .int (Zi op)), (3, .int (Zi pc)), (2, .int (Zi top)), (0, .ref 83), (1, .int (Zi bk))], [.int (Zi 1), .int (Zi top), .int (Zi 16), .ref 119, .int (Zi (16 * top + w)), .ref 119])) (fun _ => rfl) ?_
      refine Z_isub rfl ?_
      refine Z_imul rfl ?_
      refine Z_go (f2 := (194, [(6, .long (u.2.2.2 119 (16 * top + w))), (5, .int (Zi w)), (4, .int (Zi op)), (3, .int (Zi pc)), (2, .int (Zi top)), (0, .ref 83), (1, .int (Zi bk))], [.int (Zi w), .int (Zi (16 * (top - 1))), .ref 119, .int (Zi (16 * top + w)), .ref 119])) (fun _ => rfl) ?_
      refine Z_iadd rfl ?_
      refine R_la (q := 35) rfl hs rfl rfl (by omega) (by omega) (by decide) ?_
      refine R_ls (q := 35) rfl hs rfl rfl (by omega) (by omega) (by decide) (fun h hs => ?_)
      refine Z_go (f2 := (198, [(6, .long (u.2.2.2 119 (16 * top + w))), (5, .int (Zi w)), (4, .int (Zi op)), (3, .int (Zi pc)), (2, .int (Zi top)), (0, .ref 83), (1, .int (Zi bk))], [.ref 83])) (fun _ => rfl) ?_
      refine R_gr (q := 117) rfl hs rfl ?_
      show B_R _ _ (201, [(6, .long (u.2.2.2 119 (16 * top + w))), (5, .int (Zi w)), (4, .int (Zi op)), (3, .int (Zi pc)), (2, .int (Zi top)), (0, .ref 83), (1, .int (Zi bk))], [.ref 119]) _ _ _
      refine Z_go (f2 := (203, [(6, .long (u.2.2.2 119 (16 * top + w))), (5, .int (Zi w)), (4, .int (Zi op)), (3, .int (Zi pc)), (2, .int (Zi top)), (0, .ref 83), (1, .int (Zi bk))], [.int (Zi 16), .ref 119])) (fun _ => rfl) ?_
      refine Z_go (f2 := (204, [(6, .long (u.2.2.2 119 (16 * top + w))), (5, .int (Zi w)), (4, .int (Zi op)), (3, .int (Zi pc)), (2, .int (Zi top)), (0, .ref 83), (1, .int (Zi bk))], [.int (Zi top), .int (Zi 16), .ref 119])) (fun _ => rfl) ?_
      refine Z_go (f2 := (205, [(6, .long (u.2.2.2 119 (16 * top + w))), (5, .int (Zi w)), (4, .int (Zi op)), (3, .int (Zi pc)), (2, .int (Zi top)), (0, .ref 83), (1, .int (Zi bk))], [.int (Zi 1), .int (Zi top), .int (Zi 16), .ref 119])) (fun _ => rfl) ?_
      refine Z_isub rfl ?_
      refine Z_imul rfl ?_
      refine Z_go (f2 := (209, [(6, .long (u.2.2.2 119 (16 * top + w))), (5, .int (Zi w)), (4, .int (Zi op)), (3, .int (Zi pc)), (2, .int (Zi top)), (0, .ref 83), (1, .int (Zi bk))], [.int (Zi w), .int (Zi (16 * (top - 1))), .ref 119])) (fun _ => rfl) ?_
      refine Z_iadd rfl ?_
      refine Z_go (f2 := (212, [(6, .long (u.2.2.2 119 (16 * top + w))), (5, .int (Zi w)), (4, .int (Zi op)), (3, .int (Zi pc)), (2, .int (Zi top)), (0, .ref 83), (1, .int (Zi bk))], [.long (u.2.2.2 119 (16 * top + w)), .int (Zi (16 * (top - 1) + w)), .ref 119])) (fun _ => rfl) ?_
      refine R_ls (q := 35) rfl hs rfl rfl (by omega) (by omega) (by decide) (fun h hs => ?_)
      refine Z_iinc (L2 := [(5, .int (Zi (w + 1))), (6, .long (u.2.2.2 119 (16 * top + w))), (4, .int (Zi op)), (3, .int (Zi pc)), (2, .int (Zi top)), (0, .ref 83), (1, .int (Zi bk))]) rfl rfl (by decide) rfl ?_
      refine Z_go (f2 := (150, [(5, .int (Zi (w + 1))), (6, .long (u.2.2.2 119 (16 * top + w))), (4, .int (Zi op)), (3, .int (Zi pc)), (2, .int (Zi top)), (0, .ref 83), (1, .int (Zi bk))], [])) (fun _ => rfl) ?_
      refine B_loc (K := [(5, .int (Zi (w + 1))), (4, .int (Zi op)), (3, .int (Zi pc)), (2, .int (Zi top)), (0, .ref 83), (1, .int (Zi bk))]) (N_all_sub ⟨rfl, rfl, rfl, rfl, rfl, rfl, trivial⟩) (show ([5, 4, 3, 2, 0, 1] : List Nat).Nodup by decide) ?_
      exact ih (w + 1) _ h (by omega) hs (hu.st w0 (by omega) rfl (by first | rfl | exact R_sM_m _ _ _ (by omega)) rfl rfl) (by omega) (by omega)
set_option maxRecDepth 8000 in
theorem R_ld_1 {d : Nat} {h0 h : E_H} {u : R_S} {sl : Nat} {Φ : E_R → Prop} {pc top bk : Int} (hs : R_is h0 h u) (zb : Zr bk) (p0 : 0 ≤ pc) (p1 : pc < u.1 48) (p2 : u.1 48 ≤ 3000) (t0 : 0 ≤ top) (t1 : top < 260) (opr : 1 ≤ u.2.1 113 pc ∧ u.2.1 113 pc ≤ 8)
    (gs : u.2.1 113 pc = 1 → 0 ≤ u.2.1 114 pc ∧ u.2.1 114 pc < 90 ∧ ∃ X S, R_bs_ u 119 (16 * (top)) X ∧ R_bs_ u 120 (16 * u.2.1 114 pc) S ∧ (∀ (u2 : R_S) (h : E_H), R_is h0 h u2 → R_lq 119 u u2 → (∀ j, j < 16 * (top) → u2.2.2.2 119 j = u.2.2.2 119 j) → R_bs_ u2 119 (16 * (top)) (X_mv bk S X) → B_R (d + 1) E_m266 (4, [(3, .int (Zi (pc + 1))), (2, .int (Zi (top))), (0, .ref 83), (1, .int (Zi bk))], []) h sl Φ))
    (gh : u.2.1 113 pc = 2 → 0 ≤ u.2.1 114 pc ∧ u.2.1 114 pc < 5 ∧ ∃ X S, R_bs_ u 119 (16 * (top)) X ∧ R_bs_ u 121 (16 * u.2.1 114 pc) S ∧ (∀ (u2 : R_S) (h : E_H), R_is h0 h u2 → R_lq 119 u u2 → (∀ j, j < 16 * (top) → u2.2.2.2 119 j = u.2.2.2 119 j) → R_bs_ u2 119 (16 * (top)) (fun i => X i ∧ S i) → B_R (d + 1) E_m266 (4, [(3, .int (Zi (pc + 1))), (2, .int (Zi (top))), (0, .ref 83), (1, .int (Zi bk))], []) h sl Φ))
    (gc : u.2.1 113 pc = 3 ∨ u.2.1 113 pc = 6 ∨ u.2.1 113 pc = 7 → top < 259 ∧ ∃ X, R_bs_ u 119 (16 * (top)) X ∧ (∀ (u2 : R_S) (h : E_H), R_is h0 h u2 → R_lq 119 u u2 → (∀ j, j < 16 * (top) → u2.2.2.2 119 j = u.2.2.2 119 j) → R_bs_ u2 119 (16 * (top + 1)) X → R_bs_ u2 119 (16 * (top)) (fun i => u.2.1 113 pc ≠ 7 ∧ X i) → B_R (d + 1) E_m266 (4, [(3, .int (Zi (pc + 1))), (2, .int (Zi (top + 1))), (0, .ref 83), (1, .int (Zi bk))], []) h sl Φ))
    (gw : u.2.1 113 pc = 4 → 1 ≤ top ∧ ∃ X Y, R_bs_ u 119 (16 * (top)) X ∧ R_bs_ u 119 (16 * (top - 1)) Y ∧ (∀ (u2 : R_S) (h : E_H), R_is h0 h u2 → R_lq 119 u u2 → (∀ j, j < 16 * (top - 1) → u2.2.2.2 119 j = u.2.2.2 119 j) → R_bs_ u2 119 (16 * (top)) Y → R_bs_ u2 119 (16 * (top - 1)) X → B_R (d + 1) E_m266 (4, [(3, .int (Zi (pc + 1))), (2, .int (Zi (top))), (0, .ref 83), (1, .int (Zi bk))], []) h sl Φ))
    (gj : u.2.1 113 pc = 5 → 1 ≤ top ∧ ∃ X Y, R_bs_ u 119 (16 * (top)) X ∧ R_bs_ u 119 (16 * (top - 1)) Y ∧ (∀ (u2 : R_S) (h : E_H), R_is h0 h u2 → R_lq 119 u u2 → (∀ j, j < 16 * (top - 1) → u2.2.2.2 119 j = u.2.2.2 119 j) → R_bs_ u2 119 (16 * (top - 1)) (fun i => Y i ∨ X i) → B_R (d + 1) E_m266 (4, [(3, .int (Zi (pc + 1))), (2, .int (Zi (top - 1))), (0, .ref 83), (1, .int (Zi bk))], []) h sl Φ))
    (ga : u.2.1 113 pc = 8 → 1 ≤ top ∧ ∃ X Y, R_bs_ u 119 (16 * (top)) X ∧ R_bs_ u 119 (16 * (top - 1)) Y ∧ ∀ (u2 : R_S), R_lq 119 u u2 → (∀ j, j < 16 * (top - 1) → u2.2.2.2 119 j = u.2.2.2 119 j) → R_bs_ u2 119 (16 * (top)) (fun i => X i ∧ ¬ Y i) → R_bs_ u2 119 (16 * (top - 1)) (fun i => Y i ∨ X i) → ((∃ i, 0 ≤ i ∧ i < 1024 ∧ X i ∧ ¬ Y i) → ∀ h : E_H, R_is h0 h u2 → B_R (d + 1) E_m266 (4, [(3, .int (Zi (pc - u.2.1 114 pc))), (2, .int (Zi top)), (0, .ref 83), (1, .int (Zi bk))], []) h sl Φ) ∧ (¬ (∃ i, 0 ≤ i ∧ i < 1024 ∧ X i ∧ ¬ Y i) → ∀ h : E_H, R_is h0 h u2 → B_R (d + 1) E_m266 (4, [(3, .int (Zi (pc + 1))), (2, .int (Zi (top - 1))), (0, .ref 83), (1, .int (Zi bk))], []) h sl Φ)) : B_R (d + 1) E_m266 (4, [(3, .int (Zi pc)), (2, .int (Zi top)), (0, .ref 83), (1, .int (Zi bk))], []) h sl Φ := by
  have zp : Zr pc := ⟨by omega, by omega⟩
  have zt : Zr top := ⟨by omega, by omega⟩
  refine Z_go (f2 := (5, [(3, .int (Zi pc)), (2, .int (Zi top)), (0, .ref 83), (1, .int (Zi bk))], [.int (Zi pc)])) (fun _ => rfl) ?_
  refine Z_go (f2 := (6, [(3, .int (Zi pc)), (2, .int (Zi top)), (0, .ref 83), (1, .int (Zi bk))], [.ref 83, .int (Zi pc)])) (fun _ => rfl) ?_
  refine R_gi rfl hs rfl ?_
  show B_R _ _ (9, [(3, .int (Zi pc)), (2, .int (Zi top)), (0, .ref 83), (1, .int (Zi bk))], [.int (Zi (u.1 48)), .int (Zi pc)]) _ _ _
  refine Z_cge rfl rfl (by first | exact hs.zF _ | exact Zor_r _ _ | exact hs.zA _ _ | assumption | exact zA _ _ | exact zS _ | exact Zr_not (hs.zA _ _) | exact ⟨by omega, by omega⟩) (by first | exact hs.zF _ | exact Zor_r _ _ | exact hs.zA _ _ | assumption | exact zA _ _ | exact zS _ | exact Zr_not (hs.zA _ _) | exact ⟨by omega, by omega⟩) (fun c1 => ?_) (fun c1 => ?_)
  · exfalso; omega
  · refine Z_go (f2 := (13, [(3, .int (Zi pc)), (2, .int (Zi top)), (0, .ref 83), (1, .int (Zi bk))], [.ref 83])) (fun _ => rfl) ?_
    refine R_gr (q := 111) rfl hs rfl ?_
    show B_R _ _ (16, [(3, .int (Zi pc)), (2, .int (Zi top)), (0, .ref 83), (1, .int (Zi bk))], [.ref 113]) _ _ _
    refine Z_go (f2 := (17, [(3, .int (Zi pc)), (2, .int (Zi top)), (0, .ref 83), (1, .int (Zi bk))], [.int (Zi pc), .ref 113])) (fun _ => rfl) ?_
    refine R_ia (q := 29) rfl hs rfl rfl (by omega) (by omega) (by decide) ?_
    refine Z_go (f2 := (20, [(4, .int (Zi (u.2.1 113 pc))), (3, .int (Zi pc)), (2, .int (Zi top)), (0, .ref 83), (1, .int (Zi bk))], [])) (fun _ => rfl) ?_
    refine Z_go (f2 := (22, [(4, .int (Zi (u.2.1 113 pc))), (3, .int (Zi pc)), (2, .int (Zi top)), (0, .ref 83), (1, .int (Zi bk))], [.int (Zi (u.2.1 113 pc))])) (fun _ => rfl) ?_
    refine Z_go (f2 := (23, [(4, .int (Zi (u.2.1 113 pc))), (3, .int (Zi pc)), (2, .int (Zi top)), (0, .ref 83), (1, .int (Zi bk))], [.int (Zi 1), .int (Zi (u.2.1 113 pc))])) (fun _ => rfl) ?_
    refine Z_cne rfl rfl (by first | exact hs.zF _ | exact Zor_r _ _ | exact hs.zA _ _ | assumption | exact zA _ _ | exact zS _ | exact Zr_not (hs.zA _ _) | exact ⟨by omega, by omega⟩) (by first | exact hs.zF _ | exact Zor_r _ _ | exact hs.zA _ _ | assumption | exact zA _ _ | exact zS _ | exact Zr_not (hs.zA _ _) | exact ⟨by omega, by omega⟩) (fun c2 => ?_) (fun c2 => ?_)
    · refine Z_go (f2 := (43, [(4, .int (Zi (u.2.1 113 pc))), (3, .int (Zi pc)), (2, .int (Zi top)), (0, .ref 83), (1, .int (Zi bk))], [.int (Zi (u.2.1 113 pc))])) (fun _ => rfl) ?_
      refine Z_go (f2 := (44, [(4, .int (Zi (u.2.1 113 pc))), (3, .int (Zi pc)), (2, .int (Zi top)), (0, .ref 83), (1, .int (Zi bk))], [.int (Zi 2), .int (Zi (u.2.1 113 pc))])) (fun _ => rfl) ?_
      refine Z_cne rfl rfl (by first | exact hs.zF _ | exact Zor_r _ _ | exact hs.zA _ _ | assumption | exact zA _ _ | exact zS _ | exact Zr_not (hs.zA _ _) | exact ⟨by omega, by omega⟩) (by first | exact hs.zF _ | exact Zor_r _ _ | exact hs.zA _ _ | assumption | exact zA _ _ | exact zS _ | exact Zr_not (hs.zA _ _) | exact ⟨by omega, by omega⟩) (fun c3 => ?_) (fun c3 => ?_)
      · refine Z_go (f2 := (100, [(4, .int (Zi (u.2.1 113 pc))), (3, .int (Zi pc)), (2, .int (Zi top)), (0, .ref 83), (1, .int (Zi bk))], [.int (Zi (u.2.1 113 pc))])) (fun _ => rfl) ?_
        refine Z_go (f2 := (101, [(4, .int (Zi (u.2.1 113 pc))), (3, .int (Zi pc)), (2, .int (Zi top)), (0, .ref 83), (1, .int (Zi bk))], [.int (Zi 3), .int (Zi (u.2.1 113 pc))])) (fun _ => rfl) ?_
        refine Z_ceq rfl rfl (by first | exact hs.zF _ | exact Zor_r _ _ | exact hs.zA _ _ | assumption | exact zA _ _ | exact zS _ | exact Zr_not (hs.zA _ _) | exact ⟨by omega, by omega⟩) (by first | exact hs.zF _ | exact Zor_r _ _ | exact hs.zA _ _ | assumption | exact zA _ _ | exact zS _ | exact Zr_not (hs.zA _ _) | exact ⟨by omega, by omega⟩) (fun c4 => ?_) (fun c4 => ?_)
        · obtain ⟨q1, X, q2, q5⟩ := gc (by omega)
          refine Z_go (f2 := (119, [(4, .int (Zi (u.2.1 113 pc))), (3, .int (Zi pc)), (2, .int (Zi top)), (0, .ref 83), (1, .int (Zi bk))], [.ref 83])) (fun _ => rfl) ?_
          refine Z_go (f2 := (120, [(4, .int (Zi (u.2.1 113 pc))), (3, .int (Zi pc)), (2, .int (Zi top)), (0, .ref 83), (1, .int (Zi bk))], [.int (Zi top), .ref 83])) (fun _ => rfl) ?_
          refine Z_go (f2 := (122, [(4, .int (Zi (u.2.1 113 pc))), (3, .int (Zi pc)), (2, .int (Zi top)), (0, .ref 83), (1, .int (Zi bk))], [.int (Zi (u.2.1 113 pc)), .int (Zi top), .ref 83])) (fun _ => rfl) ?_
          refine Z_go (f2 := (124, [(4, .int (Zi (u.2.1 113 pc))), (3, .int (Zi pc)), (2, .int (Zi top)), (0, .ref 83), (1, .int (Zi bk))], [.int (Zi 7), .int (Zi (u.2.1 113 pc)), .int (Zi top), .ref 83])) (fun _ => rfl) ?_
          refine Z_ceq rfl rfl (by first | exact hs.zF _ | exact Zor_r _ _ | exact hs.zA _ _ | assumption | exact zA _ _ | exact zS _ | exact Zr_not (hs.zA _ _) | exact ⟨by omega, by omega⟩) (by first | exact hs.zF _ | exact Zor_r _ _ | exact hs.zA _ _ | assumption | exact zA _ _ | exact zS _ | exact Zr_not (hs.zA _ _) | exact ⟨by omega, by omega⟩) (fun c5 => ?_) (fun c5 => ?_)
          · refine Z_go (f2 := (132, [(4, .int (Zi (u.2.1 113 pc))), (3, .int (Zi pc)), (2, .int (Zi top)), (0, .ref 83), (1, .int (Zi bk))], [.int (Zi 0), .int (Zi top), .ref 83])) (fun _ => rfl) ?_
            refine R_call (As := [.int (Zi top), .int (Zi 0)]) (rest := []) rfl (by decide) rfl rfl rfl rfl (by decide +kernel) (Nat.le_of_ble_eq_true rfl) hs (R_doubles _ u ⟨by omega, by omega⟩ ⟨by omega, by omega⟩ t0 q1 q2) (fun x h u2 hs q => ?_)
            obtain ⟨rfl, e1, e2, e3, e4⟩ := q
            show B_R _ _ (135, [(4, .int (Zi (u.2.1 113 pc))), (3, .int (Zi pc)), (2, .int (Zi top)), (0, .ref 83), (1, .int (Zi bk))], []) _ _ _
            refine Z_iinc (L2 := [(2, .int (Zi (top + 1))), (4, .int (Zi (u.2.1 113 pc))), (3, .int (Zi pc)), (0, .ref 83), (1, .int (Zi bk))]) rfl rfl (by decide) rfl ?_
            refine Z_go (f2 := (304, [(2, .int (Zi (top + 1))), (4, .int (Zi (u.2.1 113 pc))), (3, .int (Zi pc)), (0, .ref 83), (1, .int (Zi bk))], [])) (fun _ => rfl) ?_
            refine Z_iinc (L2 := [(3, .int (Zi (pc + 1))), (2, .int (Zi (top + 1))), (4, .int (Zi (u.2.1 113 pc))), (0, .ref 83), (1, .int (Zi bk))]) rfl rfl (by decide) rfl ?_
            refine Z_goto (p2 := 4) rfl (by decide +kernel) (by decide +kernel) ?_
            refine B_loc (K := [(3, .int (Zi (pc + 1))), (2, .int (Zi (top + 1))), (0, .ref 83), (1, .int (Zi bk))]) (N_all_sub ⟨rfl, rfl, rfl, rfl, trivial⟩) (show ([3, 2, 0, 1] : List Nat).Nodup by decide) ?_
            exact q5 u2 h hs e1 e2 e3 (e4.weak (fun i _ _ => and_congr ⟨fun q => by omega, fun q => by omega⟩ Iff.rfl))
          · refine Z_go (f2 := (128, [(4, .int (Zi (u.2.1 113 pc))), (3, .int (Zi pc)), (2, .int (Zi top)), (0, .ref 83), (1, .int (Zi bk))], [.int (Zi 1), .int (Zi top), .ref 83])) (fun _ => rfl) ?_
            refine Z_go (f2 := (132, [(4, .int (Zi (u.2.1 113 pc))), (3, .int (Zi pc)), (2, .int (Zi top)), (0, .ref 83), (1, .int (Zi bk))], [.int (Zi 1), .int (Zi top), .ref 83])) (fun _ => rfl) ?_
            refine R_call (As := [.int (Zi top), .int (Zi 1)]) (rest := []) rfl (by decide) rfl rfl rfl rfl (by decide +kernel) (Nat.le_of_ble_eq_true rfl) hs (R_doubles _ u ⟨by omega, by omega⟩ ⟨by omega, by omega⟩ t0 q1 q2) (fun x h u2 hs q => ?_)
            obtain ⟨rfl, e1, e2, e3, e4⟩ := q
            show B_R _ _ (135, [(4, .int (Zi (u.2.1 113 pc))), (3, .int (Zi pc)), (2, .int (Zi top)), (0, .ref 83), (1, .int (Zi bk))], []) _ _ _
            refine Z_iinc (L2 := [(2, .int (Zi (top + 1))), (4, .int (Zi (u.2.1 113 pc))), (3, .int (Zi pc)), (0, .ref 83), (1, .int (Zi bk))]) rfl rfl (by decide) rfl ?_
            refine Z_go (f2 := (304, [(2, .int (Zi (top + 1))), (4, .int (Zi (u.2.1 113 pc))), (3, .int (Zi pc)), (0, .ref 83), (1, .int (Zi bk))], [])) (fun _ => rfl) ?_
            refine Z_iinc (L2 := [(3, .int (Zi (pc + 1))), (2, .int (Zi (top + 1))), (4, .int (Zi (u.2.1 113 pc))), (0, .ref 83), (1, .int (Zi bk))]) rfl rfl (by decide) rfl ?_
            refine Z_goto (p2 := 4) rfl (by decide +kernel) (by decide +kernel) ?_
            refine B_loc (K := [(3, .int (Zi (pc + 1))), (2, .int (Zi (top + 1))), (0, .ref 83), (1, .int (Zi bk))]) (N_all_sub ⟨rfl, rfl, rfl, rfl, trivial⟩) (show ([3, 2, 0, 1] : List Nat).Nodup by decide) ?_
            exact q5 u2 h hs e1 e2 e3 (e4.weak (fun i _ _ => and_congr ⟨fun q => by omega, fun q => by omega⟩ Iff.rfl))
        · refine Z_go (f2 := (106, [(4, .int (Zi (u.2.1 113 pc))), (3, .int (Zi pc)), (2, .int (Zi top)), (0, .ref 83), (1, .int (Zi bk))], [.int (Zi (u.2.1 113 pc))])) (fun _ => rfl) ?_
          refine Z_go (f2 := (108, [(4, .int (Zi (u.2.1 113 pc))), (3, .int (Zi pc)), (2, .int (Zi top)), (0, .ref 83), (1, .int (Zi bk))], [.int (Zi 6), .int (Zi (u.2.1 113 pc))])) (fun _ => rfl) ?_
          refine Z_ceq rfl rfl (by first | exact hs.zF _ | exact Zor_r _ _ | exact hs.zA _ _ | assumption | exact zA _ _ | exact zS _ | exact Zr_not (hs.zA _ _) | exact ⟨by omega, by omega⟩) (by first | exact hs.zF _ | exact Zor_r _ _ | exact hs.zA _ _ | assumption | exact zA _ _ | exact zS _ | exact Zr_not (hs.zA _ _) | exact ⟨by omega, by omega⟩) (fun c6 => ?_) (fun c6 => ?_)
          · obtain ⟨q1, X, q2, q5⟩ := gc (by omega)
            refine Z_go (f2 := (119, [(4, .int (Zi (u.2.1 113 pc))), (3, .int (Zi pc)), (2, .int (Zi top)), (0, .ref 83), (1, .int (Zi bk))], [.ref 83])) (fun _ => rfl) ?_
            refine Z_go (f2 := (120, [(4, .int (Zi (u.2.1 113 pc))), (3, .int (Zi pc)), (2, .int (Zi top)), (0, .ref 83), (1, .int (Zi bk))], [.int (Zi top), .ref 83])) (fun _ => rfl) ?_
            refine Z_go (f2 := (122, [(4, .int (Zi (u.2.1 113 pc))), (3, .int (Zi pc)), (2, .int (Zi top)), (0, .ref 83), (1, .int (Zi bk))], [.int (Zi (u.2.1 113 pc)), .int (Zi top), .ref 83])) (fun _ => rfl) ?_
            refine Z_go (f2 := (124, [(4, .int (Zi (u.2.1 113 pc))), (3, .int (Zi pc)), (2, .int (Zi top)), (0, .ref 83), (1, .int (Zi bk))], [.int (Zi 7), .int (Zi (u.2.1 113 pc)), .int (Zi top), .ref 83])) (fun _ => rfl) ?_
            refine Z_ceq rfl rfl (by first | exact hs.zF _ | exact Zor_r _ _ | exact hs.zA _ _ | assumption | exact zA _ _ | exact zS _ | exact Zr_not (hs.zA _ _) | exact ⟨by omega, by omega⟩) (by first | exact hs.zF _ | exact Zor_r _ _ | exact hs.zA _ _ | assumption | exact zA _ _ | exact zS _ | exact Zr_not (hs.zA _ _) | exact ⟨by omega, by omega⟩) (fun c7 => ?_) (fun c7 => ?_)
            · refine Z_go (f2 := (132, [(4, .int (Zi (u.2.1 113 pc))), (3, .int (Zi pc)), (2, .int (Zi top)), (0, .ref 83), (1, .int (Zi bk))], [.int (Zi 0), .int (Zi top), .ref 83])) (fun _ => rfl) ?_
              refine R_call (As := [.int (Zi top), .int (Zi 0)]) (rest := []) rfl (by decide) rfl rfl rfl rfl (by decide +kernel) (Nat.le_of_ble_eq_true rfl) hs (R_doubles _ u ⟨by omega, by omega⟩ ⟨by omega, by omega⟩ t0 q1 q2) (fun x h u2 hs q => ?_)
              obtain ⟨rfl, e1, e2, e3, e4⟩ := q
              show B_R _ _ (135, [(4, .int (Zi (u.2.1 113 pc))), (3, .int (Zi pc)), (2, .int (Zi top)), (0, .ref 83), (1, .int (Zi bk))], []) _ _ _
              refine Z_iinc (L2 := [(2, .int (Zi (top + 1))), (4, .int (Zi (u.2.1 113 pc))), (3, .int (Zi pc)), (0, .ref 83), (1, .int (Zi bk))]) rfl rfl (by decide) rfl ?_
              refine Z_go (f2 := (304, [(2, .int (Zi (top + 1))), (4, .int (Zi (u.2.1 113 pc))), (3, .int (Zi pc)), (0, .ref 83), (1, .int (Zi bk))], [])) (fun _ => rfl) ?_
              refine Z_iinc (L2 := [(3, .int (Zi (pc + 1))), (2, .int (Zi (top + 1))), (4, .int (Zi (u.2.1 113 pc))), (0, .ref 83), (1, .int (Zi bk))]) rfl rfl (by decide) rfl ?_
              refine Z_goto (p2 := 4) rfl (by decide +kernel) (by decide +kernel) ?_
              refine B_loc (K := [(3, .int (Zi (pc + 1))), (2, .int (Zi (top + 1))), (0, .ref 83), (1, .int (Zi bk))]) (N_all_sub ⟨rfl, rfl, rfl, rfl, trivial⟩) (show ([3, 2, 0, 1] : List Nat).Nodup by decide) ?_
              exact q5 u2 h hs e1 e2 e3 (e4.weak (fun i _ _ => and_congr ⟨fun q => by omega, fun q => by omega⟩ Iff.rfl))
            · refine Z_go (f2 := (128, [(4, .int (Zi (u.2.1 113 pc))), (3, .int (Zi pc)), (2, .int (Zi top)), (0, .ref 83), (1, .int (Zi bk))], [.int (Zi 1), .int (Zi top), .ref 83])) (fun _ => rfl) ?_
              refine Z_go (f2 := (132, [(4, .int (Zi (u.2.1 113 pc))), (3, .int (Zi pc)), (2, .int (Zi top)), (0, .ref 83), (1, .int (Zi bk))], [.int (Zi 1), .int (Zi top), .ref 83])) (fun _ => rfl) ?_
              refine R_call (As := [.int (Zi top), .int (Zi 1)]) (rest := []) rfl (by decide) rfl rfl rfl rfl (by decide +kernel) (Nat.le_of_ble_eq_true rfl) hs (R_doubles _ u ⟨by omega, by omega⟩ ⟨by omega, by omega⟩ t0 q1 q2) (fun x h u2 hs q => ?_)
              obtain ⟨rfl, e1, e2, e3, e4⟩ := q
              show B_R _ _ (135, [(4, .int (Zi (u.2.1 113 pc))), (3, .int (Zi pc)), (2, .int (Zi top)), (0, .ref 83), (1, .int (Zi bk))], []) _ _ _
              refine Z_iinc (L2 := [(2, .int (Zi (top + 1))), (4, .int (Zi (u.2.1 113 pc))), (3, .int (Zi pc)), (0, .ref 83), (1, .int (Zi bk))]) rfl rfl (by decide) rfl ?_
              refine Z_go (f2 := (304, [(2, .int (Zi (top + 1))), (4, .int (Zi (u.2.1 113 pc))), (3, .int (Zi pc)), (0, .ref 83), (1, .int (Zi bk))], [])) (fun _ => rfl) ?_
              refine Z_iinc (L2 := [(3, .int (Zi (pc + 1))), (2, .int (Zi (top + 1))), (4, .int (Zi (u.2.1 113 pc))), (0, .ref 83), (1, .int (Zi bk))]) rfl rfl (by decide) rfl ?_
              refine Z_goto (p2 := 4) rfl (by decide +kernel) (by decide +kernel) ?_
              refine B_loc (K := [(3, .int (Zi (pc + 1))), (2, .int (Zi (top + 1))), (0, .ref 83), (1, .int (Zi bk))]) (N_all_sub ⟨rfl, rfl, rfl, rfl, trivial⟩) (show ([3, 2, 0, 1] : List Nat).Nodup by decide) ?_
              exact q5 u2 h hs e1 e2 e3 (e4.weak (fun i _ _ => and_congr ⟨fun q => by omega, fun q => by omega⟩ Iff.rfl))
          · refine Z_go (f2 := (113, [(4, .int (Zi (u.2.1 113 pc))), (3, .int (Zi pc)), (2, .int (Zi top)), (0, .ref 83), (1, .int (Zi bk))], [.int (Zi (u.2.1 113 pc))])) (fun _ => rfl) ?_
            refine Z_go (f2 := (115, [(4, .int (Zi (u.2.1 113 pc))), (3, .int (Zi pc)), (2, .int (Zi top)), (0, .ref 83), (1, .int (Zi bk))], [.int (Zi 7), .int (Zi (u.2.1 113 pc))])) (fun _ => rfl) ?_
            refine Z_cne rfl rfl (by first | exact hs.zF _ | exact Zor_r _ _ | exact hs.zA _ _ | assumption | exact zA _ _ | exact zS _ | exact Zr_not (hs.zA _ _) | exact ⟨by omega, by omega⟩) (by first | exact hs.zF _ | exact Zor_r _ _ | exact hs.zA _ _ | assumption | exact zA _ _ | exact zS _ | exact Zr_not (hs.zA _ _) | exact ⟨by omega, by omega⟩) (fun c8 => ?_) (fun c8 => ?_)
            · refine Z_go (f2 := (143, [(4, .int (Zi (u.2.1 113 pc))), (3, .int (Zi pc)), (2, .int (Zi top)), (0, .ref 83), (1, .int (Zi bk))], [.int (Zi (u.2.1 113 pc))])) (fun _ => rfl) ?_
              refine Z_go (f2 := (144, [(4, .int (Zi (u.2.1 113 pc))), (3, .int (Zi pc)), (2, .int (Zi top)), (0, .ref 83), (1, .int (Zi bk))], [.int (Zi 4), .int (Zi (u.2.1 113 pc))])) (fun _ => rfl) ?_
              refine Z_cne rfl rfl (by first | exact hs.zF _ | exact Zor_r _ _ | exact hs.zA _ _ | assumption | exact zA _ _ | exact zS _ | exact Zr_not (hs.zA _ _) | exact ⟨by omega, by omega⟩) (by first | exact hs.zF _ | exact Zor_r _ _ | exact hs.zA _ _ | assumption | exact zA _ _ | exact zS _ | exact Zr_not (hs.zA _ _) | exact ⟨by omega, by omega⟩) (fun c9 => ?_) (fun c9 => ?_)
              · refine Z_go (f2 := (224, [(4, .int (Zi (u.2.1 113 pc))), (3, .int (Zi pc)), (2, .int (Zi top)), (0, .ref 83), (1, .int (Zi bk))], [.int (Zi (u.2.1 113 pc))])) (fun _ => rfl) ?_
                refine Z_go (f2 := (225, [(4, .int (Zi (u.2.1 113 pc))), (3, .int (Zi pc)), (2, .int (Zi top)), (0, .ref 83), (1, .int (Zi bk))], [.int (Zi 5), .int (Zi (u.2.1 113 pc))])) (fun _ => rfl) ?_
                refine Z_cne rfl rfl (by first | exact hs.zF _ | exact Zor_r _ _ | exact hs.zA _ _ | assumption | exact zA _ _ | exact zS _ | exact Zr_not (hs.zA _ _) | exact ⟨by omega, by omega⟩) (by first | exact hs.zF _ | exact Zor_r _ _ | exact hs.zA _ _ | assumption | exact zA _ _ | exact zS _ | exact Zr_not (hs.zA _ _) | exact ⟨by omega, by omega⟩) (fun c10 => ?_) (fun c10 => ?_)
                · obtain ⟨q1, X, Y, q2, q3, q5⟩ := ga (by omega)
                  refine Z_go (f2 := (280, [(4, .int (Zi (u.2.1 113 pc))), (3, .int (Zi pc)), (2, .int (Zi top)), (0, .ref 83), (1, .int (Zi bk))], [.ref 83])) (fun _ => rfl) ?_
                  refine Z_go (f2 := (281, [(4, .int (Zi (u.2.1 113 pc))), (3, .int (Zi pc)), (2, .int (Zi top)), (0, .ref 83), (1, .int (Zi bk))], [.int (Zi top), .ref 83])) (fun _ => rfl) ?_
                  refine R_call (As := [.int (Zi top)]) (rest := []) rfl (by decide) rfl rfl rfl rfl (by decide +kernel) (Nat.le_of_ble_eq_true rfl) hs (R_news _ u ⟨by omega, by omega⟩ q1 t1 q2 q3) (fun x h u2 hs q => ?_)
                  obtain ⟨e1, e2, e3, e4, a, rfl, ea, eb⟩ := q
                  show B_R _ _ (284, [(4, .int (Zi (u.2.1 113 pc))), (3, .int (Zi pc)), (2, .int (Zi top)), (0, .ref 83), (1, .int (Zi bk))], [.int (Zi a)]) _ _ _
                  refine Z_ieq rfl rfl (by first | exact hs.zF _ | exact Zor_r _ _ | exact hs.zA _ _ | assumption | exact zA _ _ | exact zS _ | exact Zr_not (hs.zA _ _) | exact ⟨by omega, by omega⟩) (fun c11 => ?_) (fun c11 => ?_)
                  · refine Z_iinc (L2 := [(2, .int (Zi (top + (-1)))), (4, .int (Zi (u.2.1 113 pc))), (3, .int (Zi pc)), (0, .ref 83), (1, .int (Zi bk))]) rfl rfl (by decide) rfl ?_
                    refine Z_iinc (L2 := [(3, .int (Zi (pc + 1))), (2, .int (Zi (top + (-1)))), (4, .int (Zi (u.2.1 113 pc))), (0, .ref 83), (1, .int (Zi bk))]) rfl rfl (by decide) rfl ?_
                    refine Z_goto (p2 := 4) rfl (by decide +kernel) (by decide +kernel) ?_
                    refine B_loc (K := [(3, .int (Zi (pc + 1))), (2, .int (Zi (top + (-1)))), (0, .ref 83), (1, .int (Zi bk))]) (N_all_sub ⟨rfl, rfl, rfl, rfl, trivial⟩) (show ([3, 2, 0, 1] : List Nat).Nodup by decide) ?_
                    rw [show top + (-1) = top - 1 by omega]
                    exact (q5 u2 e1 e2 e3 e4).2 (fun q => by have := eb.mpr q; omega) h hs
                  · refine Z_go (f2 := (288, [(4, .int (Zi (u.2.1 113 pc))), (3, .int (Zi pc)), (2, .int (Zi top)), (0, .ref 83), (1, .int (Zi bk))], [.int (Zi pc)])) (fun _ => rfl) ?_
                    refine Z_go (f2 := (289, [(4, .int (Zi (u.2.1 113 pc))), (3, .int (Zi pc)), (2, .int (Zi top)), (0, .ref 83), (1, .int (Zi bk))], [.ref 83, .int (Zi pc)])) (fun _ => rfl) ?_
                    refine R_gr (q := 112) rfl hs rfl ?_
                    show B_R _ _ (292, [(4, .int (Zi (u.2.1 113 pc))), (3, .int (Zi pc)), (2, .int (Zi top)), (0, .ref 83), (1, .int (Zi bk))], [.ref 114, .int (Zi pc)]) _ _ _
                    refine Z_go (f2 := (293, [(4, .int (Zi (u.2.1 113 pc))), (3, .int (Zi pc)), (2, .int (Zi top)), (0, .ref 83), (1, .int (Zi bk))], [.int (Zi pc), .ref 114, .int (Zi pc)])) (fun _ => rfl) ?_
                    refine R_ia (q := 30) rfl hs rfl rfl (by omega) (by omega) (by decide) ?_
                    refine Z_go (f2 := (295, [(4, .int (Zi (u.2.1 113 pc))), (3, .int (Zi pc)), (2, .int (Zi top)), (0, .ref 83), (1, .int (Zi bk))], [.int (Zi 1), .int (Zi (u2.2.1 114 pc)), .int (Zi pc)])) (fun _ => rfl) ?_
                    refine Z_iadd rfl ?_
                    refine Z_isub rfl ?_
                    refine Z_go (f2 := (298, [(3, .int (Zi (pc - (u2.2.1 114 pc + 1)))), (4, .int (Zi (u.2.1 113 pc))), (2, .int (Zi top)), (0, .ref 83), (1, .int (Zi bk))], [])) (fun _ => rfl) ?_
                    refine Z_go (f2 := (304, [(3, .int (Zi (pc - (u2.2.1 114 pc + 1)))), (4, .int (Zi (u.2.1 113 pc))), (2, .int (Zi top)), (0, .ref 83), (1, .int (Zi bk))], [])) (fun _ => rfl) ?_
                    refine Z_iinc (L2 := [(3, .int (Zi (pc - (u2.2.1 114 pc + 1) + 1))), (4, .int (Zi (u.2.1 113 pc))), (2, .int (Zi top)), (0, .ref 83), (1, .int (Zi bk))]) rfl rfl (by decide) rfl ?_
                    refine Z_goto (p2 := 4) rfl (by decide +kernel) (by decide +kernel) ?_
                    refine B_loc (K := [(3, .int (Zi (pc - (u2.2.1 114 pc + 1) + 1))), (2, .int (Zi top)), (0, .ref 83), (1, .int (Zi bk))]) (N_all_sub ⟨rfl, rfl, rfl, rfl, trivial⟩) (show ([3, 2, 0, 1] : List Nat).Nodup by decide) ?_
                    have ex : u2.2.1 114 pc = u.2.1 114 pc := by rw [e1.2.1]
                    rw [show pc - (u2.2.1 114 pc + 1) + 1 = pc - u.2.1 114 pc by omega]
                    exact (q5 u2 e1 e2 e3 e4).1 (eb.mp (by assumption)) h hs
                · obtain ⟨q1, X, Y, q2, q3, q5⟩ := gj (by omega)
                  refine Z_go (f2 := (229, [(4, .int (Zi (u.2.1 113 pc))), (3, .int (Zi pc)), (2, .int (Zi top)), (0, .ref 83), (1, .int (Zi bk))], [.int (Zi 0)])) (fun _ => rfl) ?_
                  refine Z_go (f2 := (231, [(5, .int (Zi 0)), (4, .int (Zi (u.2.1 113 pc))), (3, .int (Zi pc)), (2, .int (Zi top)), (0, .ref 83), (1, .int (Zi bk))], [])) (fun _ => rfl) ?_
                  refine B_loc (K := [(5, .int (Zi 0)), (4, .int (Zi (u.2.1 113 pc))), (3, .int (Zi pc)), (2, .int (Zi top)), (0, .ref 83), (1, .int (Zi bk))]) (N_all_sub ⟨rfl, rfl, rfl, rfl, rfl, rfl, trivial⟩) (show ([5, 4, 3, 2, 0, 1] : List Nat).Nodup by decide) ?_
                  refine R_ld_j (s := u) (a := 0) q1 t1 (fun h hs => ?_) 17 0 h (by omega) (by rw [Int.add_zero, R_fL_0]; exact hs) (by omega) (by omega)
                  refine Z_iinc (L2 := [(2, .int (Zi (top + (-1)))), (4, .int (Zi (u.2.1 113 pc))), (3, .int (Zi pc)), (0, .ref 83), (1, .int (Zi bk))]) rfl rfl (by decide) rfl ?_
                  refine Z_go (f2 := (304, [(2, .int (Zi (top + (-1)))), (4, .int (Zi (u.2.1 113 pc))), (3, .int (Zi pc)), (0, .ref 83), (1, .int (Zi bk))], [])) (fun _ => rfl) ?_
                  refine Z_iinc (L2 := [(3, .int (Zi (pc + 1))), (2, .int (Zi (top + (-1)))), (4, .int (Zi (u.2.1 113 pc))), (0, .ref 83), (1, .int (Zi bk))]) rfl rfl (by decide) rfl ?_
                  refine Z_goto (p2 := 4) rfl (by decide +kernel) (by decide +kernel) ?_
                  refine B_loc (K := [(3, .int (Zi (pc + 1))), (2, .int (Zi (top + (-1)))), (0, .ref 83), (1, .int (Zi bk))]) (N_all_sub ⟨rfl, rfl, rfl, rfl, trivial⟩) (show ([3, 2, 0, 1] : List Nat).Nodup by decide) ?_
                  rw [show top + (-1) = top - 1 by omega]
                  refine q5 _ h hs (R_lq.fl _ _ _ _ _) (fun j hj => R_fL_o (by omega)) (R_bs_.mk (fun w b w0 w1 hb => ?_))
                  rw [R_fL_i (by omega) (by omega), T_bit_lor, show 16 * (top - 1) + w + 16 = 16 * top + w by omega, q2.bit w0 w1 hb, q3.bit w0 w1 hb]
              · obtain ⟨q1, X, Y, q2, q3, q5⟩ := gw (by omega)
                refine Z_go (f2 := (148, [(4, .int (Zi (u.2.1 113 pc))), (3, .int (Zi pc)), (2, .int (Zi top)), (0, .ref 83), (1, .int (Zi bk))], [.int (Zi 0)])) (fun _ => rfl) ?_
                refine Z_go (f2 := (150, [(5, .int (Zi 0)), (4, .int (Zi (u.2.1 113 pc))), (3, .int (Zi pc)), (2, .int (Zi top)), (0, .ref 83), (1, .int (Zi bk))], [])) (fun _ => rfl) ?_
                refine B_loc (K := [(5, .int (Zi 0)), (4, .int (Zi (u.2.1 113 pc))), (3, .int (Zi pc)), (2, .int (Zi top)), (0, .ref 83), (1, .int (Zi bk))]) (N_all_sub ⟨rfl, rfl, rfl, rfl, rfl, rfl, trivial⟩) (show ([5, 4, 3, 2, 0, 1] : List Nat).Nodup by decide) ?_
                refine R_ld_s (s := u) q1 t1 (fun v h hs hv => ?_) 17 0 u h (by omega) hs (R_sw_0 u _) (by omega) (by omega)
                refine Z_go (f2 := (304, [(4, .int (Zi (u.2.1 113 pc))), (3, .int (Zi pc)), (2, .int (Zi top)), (0, .ref 83), (1, .int (Zi bk))], [])) (fun _ => rfl) ?_
                refine Z_iinc (L2 := [(3, .int (Zi (pc + 1))), (4, .int (Zi (u.2.1 113 pc))), (2, .int (Zi top)), (0, .ref 83), (1, .int (Zi bk))]) rfl rfl (by decide) rfl ?_
                refine Z_goto (p2 := 4) rfl (by decide +kernel) (by decide +kernel) ?_
                refine B_loc (K := [(3, .int (Zi (pc + 1))), (2, .int (Zi top)), (0, .ref 83), (1, .int (Zi bk))]) (N_all_sub ⟨rfl, rfl, rfl, rfl, trivial⟩) (show ([3, 2, 0, 1] : List Nat).Nodup by decide) ?_
                refine q5 v h hs hv.1 (fun j hj => by rw [hv.2, if_neg (by omega), if_neg (by omega)]) (R_bs_.mk (fun w b w0 w1 hb => ?_)) (R_bs_.mk (fun w b w0 w1 hb => ?_))
                · rw [hv.2, if_pos (by omega), show 16 * top + w - 16 = 16 * (top - 1) + w by omega, q3.bit w0 w1 hb]
                · rw [hv.2, if_neg (by omega), if_pos (by omega), show 16 * (top - 1) + w + 16 = 16 * top + w by omega, q2.bit w0 w1 hb]
            · obtain ⟨q1, X, q2, q5⟩ := gc (by omega)
              refine Z_go (f2 := (119, [(4, .int (Zi (u.2.1 113 pc))), (3, .int (Zi pc)), (2, .int (Zi top)), (0, .ref 83), (1, .int (Zi bk))], [.ref 83])) (fun _ => rfl) ?_
              refine Z_go (f2 := (120, [(4, .int (Zi (u.2.1 113 pc))), (3, .int (Zi pc)), (2, .int (Zi top)), (0, .ref 83), (1, .int (Zi bk))], [.int (Zi top), .ref 83])) (fun _ => rfl) ?_
              refine Z_go (f2 := (122, [(4, .int (Zi (u.2.1 113 pc))), (3, .int (Zi pc)), (2, .int (Zi top)), (0, .ref 83), (1, .int (Zi bk))], [.int (Zi (u.2.1 113 pc)), .int (Zi top), .ref 83])) (fun _ => rfl) ?_
              refine Z_go (f2 := (124, [(4, .int (Zi (u.2.1 113 pc))), (3, .int (Zi pc)), (2, .int (Zi top)), (0, .ref 83), (1, .int (Zi bk))], [.int (Zi 7), .int (Zi (u.2.1 113 pc)), .int (Zi top), .ref 83])) (fun _ => rfl) ?_
              refine Z_ceq rfl rfl (by first | exact hs.zF _ | exact Zor_r _ _ | exact hs.zA _ _ | assumption | exact zA _ _ | exact zS _ | exact Zr_not (hs.zA _ _) | exact ⟨by omega, by omega⟩) (by first | exact hs.zF _ | exact Zor_r _ _ | exact hs.zA _ _ | assumption | exact zA _ _ | exact zS _ | exact Zr_not (hs.zA _ _) | exact ⟨by omega, by omega⟩) (fun c12 => ?_) (fun c12 => ?_)
              · refine Z_go (f2 := (132, [(4, .int (Zi (u.2.1 113 pc))), (3, .int (Zi pc)), (2, .int (Zi top)), (0, .ref 83), (1, .int (Zi bk))], [.int (Zi 0), .int (Zi top), .ref 83])) (fun _ => rfl) ?_
                refine R_call (As := [.int (Zi top), .int (Zi 0)]) (rest := []) rfl (by decide) rfl rfl rfl rfl (by decide +kernel) (Nat.le_of_ble_eq_true rfl) hs (R_doubles _ u ⟨by omega, by omega⟩ ⟨by omega, by omega⟩ t0 q1 q2) (fun x h u2 hs q => ?_)
                obtain ⟨rfl, e1, e2, e3, e4⟩ := q
                show B_R _ _ (135, [(4, .int (Zi (u.2.1 113 pc))), (3, .int (Zi pc)), (2, .int (Zi top)), (0, .ref 83), (1, .int (Zi bk))], []) _ _ _
                refine Z_iinc (L2 := [(2, .int (Zi (top + 1))), (4, .int (Zi (u.2.1 113 pc))), (3, .int (Zi pc)), (0, .ref 83), (1, .int (Zi bk))]) rfl rfl (by decide) rfl ?_
                refine Z_go (f2 := (304, [(2, .int (Zi (top + 1))), (4, .int (Zi (u.2.1 113 pc))), (3, .int (Zi pc)), (0, .ref 83), (1, .int (Zi bk))], [])) (fun _ => rfl) ?_
                refine Z_iinc (L2 := [(3, .int (Zi (pc + 1))), (2, .int (Zi (top + 1))), (4, .int (Zi (u.2.1 113 pc))), (0, .ref 83), (1, .int (Zi bk))]) rfl rfl (by decide) rfl ?_
                refine Z_goto (p2 := 4) rfl (by decide +kernel) (by decide +kernel) ?_
                refine B_loc (K := [(3, .int (Zi (pc + 1))), (2, .int (Zi (top + 1))), (0, .ref 83), (1, .int (Zi bk))]) (N_all_sub ⟨rfl, rfl, rfl, rfl, trivial⟩) (show ([3, 2, 0, 1] : List Nat).Nodup by decide) ?_
                exact q5 u2 h hs e1 e2 e3 (e4.weak (fun i _ _ => and_congr ⟨fun q => by omega, fun q => by omega⟩ Iff.rfl))
              · refine Z_go (f2 := (128, [(4, .int (Zi (u.2.1 113 pc))), (3, .int (Zi pc)), (2, .int (Zi top)), (0, .ref 83), (1, .int (Zi bk))], [.int (Zi 1), .int (Zi top), .ref 83])) (fun _ => rfl) ?_
                refine Z_go (f2 := (132, [(4, .int (Zi (u.2.1 113 pc))), (3, .int (Zi pc)), (2, .int (Zi top)), (0, .ref 83), (1, .int (Zi bk))], [.int (Zi 1), .int (Zi top), .ref 83])) (fun _ => rfl) ?_
                refine R_call (As := [.int (Zi top), .int (Zi 1)]) (rest := []) rfl (by decide) rfl rfl rfl rfl (by decide +kernel) (Nat.le_of_ble_eq_true rfl) hs (R_doubles _ u ⟨by omega, by omega⟩ ⟨by omega, by omega⟩ t0 q1 q2) (fun x h u2 hs q => ?_)
                obtain ⟨rfl, e1, e2, e3, e4⟩ := q
                show B_R _ _ (135, [(4, .int (Zi (u.2.1 113 pc))), (3, .int (Zi pc)), (2, .int (Zi top)), (0, .ref 83), (1, .int (Zi bk))], []) _ _ _
                refine Z_iinc (L2 := [(2, .int (Zi (top + 1))), (4, .int (Zi (u.2.1 113 pc))), (3, .int (Zi pc)), (0, .ref 83), (1, .int (Zi bk))]) rfl rfl (by decide) rfl ?_
                refine Z_go (f2 := (304, [(2, .int (Zi (top + 1))), (4, .int (Zi (u.2.1 113 pc))), (3, .int (Zi pc)), (0, .ref 83), (1, .int (Zi bk))], [])) (fun _ => rfl) ?_
                refine Z_iinc (L2 := [(3, .int (Zi (pc + 1))), (2, .int (Zi (top + 1))), (4, .int (Zi (u.2.1 113 pc))), (0, .ref 83), (1, .int (Zi bk))]) rfl rfl (by decide) rfl ?_
                refine Z_goto (p2 := 4) rfl (by decide +kernel) (by decide +kernel) ?_
                refine B_loc (K := [(3, .int (Zi (pc + 1))), (2, .int (Zi (top + 1))), (0, .ref 83), (1, .int (Zi bk))]) (N_all_sub ⟨rfl, rfl, rfl, rfl, trivial⟩) (show ([3, 2, 0, 1] : List Nat).Nodup by decide) ?_
                exact q5 u2 h hs e1 e2 e3 (e4.weak (fun i _ _ => and_congr ⟨fun q => by omega, fun q => by omega⟩ Iff.rfl))
      · obtain ⟨q1, q2, X, S, q3, q4, q5⟩ := gh (by omega)
        refine Z_go (f2 := (48, [(4, .int (Zi (u.2.1 113 pc))), (3, .int (Zi pc)), (2, .int (Zi top)), (0, .ref 83), (1, .int (Zi bk))], [.int (Zi 0)])) (fun _ => rfl) ?_
        refine Z_go (f2 := (50, [(5, .int (Zi 0)), (4, .int (Zi (u.2.1 113 pc))), (3, .int (Zi pc)), (2, .int (Zi top)), (0, .ref 83), (1, .int (Zi bk))], [])) (fun _ => rfl) ?_
        refine B_loc (K := [(5, .int (Zi 0)), (4, .int (Zi (u.2.1 113 pc))), (3, .int (Zi pc)), (2, .int (Zi top)), (0, .ref 83), (1, .int (Zi bk))]) (N_all_sub ⟨rfl, rfl, rfl, rfl, rfl, rfl, trivial⟩) (show ([5, 4, 3, 2, 0, 1] : List Nat).Nodup by decide) ?_
        refine R_ld_h (s := u) (a := u.2.1 114 pc) t0 t1 p0 (by omega) rfl q1 q2 (fun h hs => ?_) 17 0 h (by omega) (by rw [Int.add_zero, R_fL_0]; exact hs) (by omega) (by omega)
        refine Z_go (f2 := (304, [(4, .int (Zi (u.2.1 113 pc))), (3, .int (Zi pc)), (2, .int (Zi top)), (0, .ref 83), (1, .int (Zi bk))], [])) (fun _ => rfl) ?_
        refine Z_iinc (L2 := [(3, .int (Zi (pc + 1))), (4, .int (Zi (u.2.1 113 pc))), (2, .int (Zi top)), (0, .ref 83), (1, .int (Zi bk))]) rfl rfl (by decide) rfl ?_
        refine Z_goto (p2 := 4) rfl (by decide +kernel) (by decide +kernel) ?_
        refine B_loc (K := [(3, .int (Zi (pc + 1))), (2, .int (Zi top)), (0, .ref 83), (1, .int (Zi bk))]) (N_all_sub ⟨rfl, rfl, rfl, rfl, trivial⟩) (show ([3, 2, 0, 1] : List Nat).Nodup by decide) ?_
        refine q5 _ h hs (R_lq.fl _ _ _ _ _) (fun j hj => R_fL_o (by omega)) (R_bs_.mk (fun w b w0 w1 hb => ?_))
        rw [R_fL_i (by omega) (by omega), T_bit_land, show 16 * top + w - 16 * top = w by omega, q3.bit w0 w1 hb, q4.bit w0 w1 hb]
    · obtain ⟨q1, q2, X, S, q3, q4, q5⟩ := gs (by omega)
      refine Z_go (f2 := (27, [(4, .int (Zi (u.2.1 113 pc))), (3, .int (Zi pc)), (2, .int (Zi top)), (0, .ref 83), (1, .int (Zi bk))], [.ref 83])) (fun _ => rfl) ?_
      refine Z_go (f2 := (28, [(4, .int (Zi (u.2.1 113 pc))), (3, .int (Zi pc)), (2, .int (Zi top)), (0, .ref 83), (1, .int (Zi bk))], [.int (Zi top), .ref 83])) (fun _ => rfl) ?_
      refine Z_go (f2 := (29, [(4, .int (Zi (u.2.1 113 pc))), (3, .int (Zi pc)), (2, .int (Zi top)), (0, .ref 83), (1, .int (Zi bk))], [.ref 83, .int (Zi top), .ref 83])) (fun _ => rfl) ?_
      refine R_gr (q := 112) rfl hs rfl ?_
      show B_R _ _ (32, [(4, .int (Zi (u.2.1 113 pc))), (3, .int (Zi pc)), (2, .int (Zi top)), (0, .ref 83), (1, .int (Zi bk))], [.ref 114, .int (Zi top), .ref 83]) _ _ _
      refine Z_go (f2 := (33, [(4, .int (Zi (u.2.1 113 pc))), (3, .int (Zi pc)), (2, .int (Zi top)), (0, .ref 83), (1, .int (Zi bk))], [.int (Zi pc), .ref 114, .int (Zi top), .ref 83])) (fun _ => rfl) ?_
      refine R_ia (q := 30) rfl hs rfl rfl (by omega) (by omega) (by decide) ?_
      refine Z_go (f2 := (35, [(4, .int (Zi (u.2.1 113 pc))), (3, .int (Zi pc)), (2, .int (Zi top)), (0, .ref 83), (1, .int (Zi bk))], [.int (Zi bk), .int (Zi (u.2.1 114 pc)), .int (Zi top), .ref 83])) (fun _ => rfl) ?_
      refine R_call (As := [.int (Zi top), .int (Zi (u.2.1 114 pc)), .int (Zi bk)]) (rest := []) rfl (by decide) rfl rfl rfl rfl (by decide +kernel) (Nat.le_of_ble_eq_true rfl) hs (R_moves _ u ⟨by omega, by omega⟩ (hs.zA 114 _) zb t0 t1 q1 q2 q3 q4) (fun x h u2 hs q => ?_)
      obtain ⟨rfl, e1, e2, e3⟩ := q
      show B_R _ _ (38, [(4, .int (Zi (u.2.1 113 pc))), (3, .int (Zi pc)), (2, .int (Zi top)), (0, .ref 83), (1, .int (Zi bk))], []) _ _ _
      refine Z_go (f2 := (304, [(4, .int (Zi (u.2.1 113 pc))), (3, .int (Zi pc)), (2, .int (Zi top)), (0, .ref 83), (1, .int (Zi bk))], [])) (fun _ => rfl) ?_
      refine Z_iinc (L2 := [(3, .int (Zi (pc + 1))), (4, .int (Zi (u.2.1 113 pc))), (2, .int (Zi top)), (0, .ref 83), (1, .int (Zi bk))]) rfl rfl (by decide) rfl ?_
      refine Z_goto (p2 := 4) rfl (by decide +kernel) (by decide +kernel) ?_
      refine B_loc (K := [(3, .int (Zi (pc + 1))), (2, .int (Zi top)), (0, .ref 83), (1, .int (Zi bk))]) (N_all_sub ⟨rfl, rfl, rfl, rfl, trivial⟩) (show ([3, 2, 0, 1] : List Nat).Nodup by decide) ?_
      exact q5 u2 h hs e1 (fun j hj => e2 j (by omega)) e3
