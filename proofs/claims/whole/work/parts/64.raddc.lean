/-! the reference: choices among the pairs -/
/-- u is s with a pair more -/
def R_pad (s u : R_S) (x : List Int) : Prop := (∀ b, b ≠ 37 → u.1 b = s.1 b) ∧ u.1 37 = s.1 37 + 1 ∧ (∀ q j, q ≠ 107 → q ≠ 108 → u.2.1 q j = s.2.1 q j) ∧ u.2.2 = s.2.2 ∧ R_pv u ∧ (∀ i, 0 ≤ i → i < s.1 37 → R_prow u i = R_prow s i) ∧ R_prow u (s.1 37) = x
theorem R_pad_mk {s u : R_S} {n : Int} {g : Int → Int} (pv : R_pv s) (h37 : s.1 37 < 580) (f : ∀ b, b ≠ 37 → u.1 b = s.1 b) (f37 : u.1 37 = s.1 37 + 1) (q : ∀ q j, q ≠ 107 → q ≠ 108 → u.2.1 q j = s.2.1 q j) (l : u.2.2 = s.2.2) (a107 : ∀ i, i < s.1 37 → u.2.1 107 i = s.2.1 107 i) (b107 : u.2.1 107 (s.1 37) = n) (a108 : ∀ j, j < 640 * s.1 37 → u.2.1 108 j = s.2.1 108 j) (b108 : ∀ j, 0 ≤ j → j < n → u.2.1 108 (640 * s.1 37 + j) = g j) (n0 : 0 ≤ n) (n1 : n ≤ 640) (sg : D_srt g n) : R_pad s u (D_row g n) := by
  refine ⟨f, f37, q, l, ⟨by rw [f37]; have := pv.1; omega, by rw [f37]; omega, fun i i0 i1 => ?_⟩, fun i i0 i1 => ?_, D_row_eq b107 (fun j j0 j1 => by rw [b107] at j1; exact b108 j j0 j1)⟩
  · rw [f37] at i1
    by_cases c : i = s.1 37
    · rw [c, b107]
      refine ⟨n0, n1, fun a b a0 ab bn => ?_⟩
      show u.2.1 108 _ < u.2.1 108 _
      rw [b108 a a0 (by omega), b108 b (by omega) bn]
      exact sg a b a0 ab bn
    · have hp := pv.2.2 i i0 (by omega)
      rw [a107 i (by omega)]
      refine ⟨hp.1, hp.2.1, fun a b a0 ab bn => ?_⟩
      show u.2.1 108 _ < u.2.1 108 _
      rw [a108 _ (by have := hp.2.1; omega), a108 _ (by have := hp.2.1; omega)]
      exact hp.2.2 a b a0 ab bn
  · have hp := pv.2.2 i i0 i1
    exact D_row_eq (a107 i i1) (fun j j0 j1 => a108 _ (by rw [a107 i i1] at j1; have := hp.2.1; omega))
theorem R_pad_PF {s u : R_S} {x : List Int} (h : R_pad s u x) (p0 : 0 ≤ s.1 37) : R_PF u = F_or (R_PF s) (F_one x) := by
  obtain ⟨h1, h2, h3, h4, h5, h6, h7⟩ := h
  funext y
  refine propext ⟨?_, ?_⟩
  · rintro ⟨i, i0, i1, rfl⟩
    rw [h2] at i1
    by_cases c : i = s.1 37
    · exact .inr (by rw [c, h7]; rfl)
    · exact .inl ⟨i, i0, by omega, h6 i i0 (by omega)⟩
  · rintro (⟨i, i0, i1, rfl⟩ | h)
    · exact ⟨i, i0, by omega, (h6 i i0 i1).symm⟩
    · exact ⟨s.1 37, p0, by omega, by rw [h7]; exact h⟩
/-- a slot in which choices stand -/
def R_cv (s : R_S) (k : Int) : Prop := 0 ≤ s.2.1 104 k ∧ s.2.1 104 k ≤ 24 ∧ (∀ c, 0 ≤ c → c < s.2.1 104 k → 0 ≤ s.2.1 105 (24 * k + c) ∧ s.2.1 105 (24 * k + c) ≤ 640 ∧ D_srt (fun x => s.2.1 106 (640 * (24 * k + c) + x)) (s.2.1 105 (24 * k + c)))
theorem R_CC.cv {s : R_S} {k : Int} {C : P_X} (h : R_CC s k C) : R_cv s k := ⟨h.1, h.2.1, h.2.2.1⟩
theorem R_ac_i {d : Nat} {h0 : E_H} {s : R_S} {sl : Nat} {Φ : E_R → Prop} {n c sl_ : Int} (s0 : 0 ≤ sl_) (s1 : sl_ < 44) (c0 : 0 ≤ c) (c1 : c < 24) (p0 : 0 ≤ s.1 37) (p1 : s.1 37 < 580) (n1 : n ≤ 640) (zA : ∀ q j, Zr (s.2.1 q j)) (kont : ∀ (h : E_H), R_is h0 h (R_fl s 108 (640 * s.1 37) (640 * s.1 37 + n) (fun j => s.2.1 106 (640 * (24 * sl_ + c) + (j - 640 * s.1 37)))) → B_R (d) E_m229 (61, [(4, .int (Zi n)), (3, .int (Zi n)), (0, .ref 83), (1, .int (Zi sl_)), (2, .int (Zi c))], []) h sl Φ) : ∀ (t : Nat) (i : Int) (h : E_H), n - i < t → R_is h0 h (R_fl s 108 (640 * s.1 37) (640 * s.1 37 + i) (fun j => s.2.1 106 (640 * (24 * sl_ + c) + (j - 640 * s.1 37)))) → 0 ≤ i → i ≤ n → B_R (d) E_m229 (15, [(4, .int (Zi i)), (3, .int (Zi n)), (0, .ref 83), (1, .int (Zi sl_)), (2, .int (Zi c))], []) h sl Φ := by
  intro t
  induction t with
  | zero => intro i h ht hs i0 i1; omega
  | succ t ih =>
    intro i h ht hs i0 i1
    refine Z_go (f2 := (17, [(4, .int (Zi i)), (3, .int (Zi n)), (0, .ref 83), (1, .int (Zi sl_)), (2, .int (Zi c))], [.int (Zi i)])) (fun _ => rfl) ?_
    refine Z_go (f2 := (18, [(4, .int (Zi i)), (3, .int (Zi n)), (0, .ref 83), (1, .int (Zi sl_)), (2, .int (Zi c))], [.int (Zi n), .int (Zi i)])) (fun _ => rfl) ?_
    refine Z_cge rfl rfl (by first | exact hs.zF _ | exact Zor_r _ _ | exact hs.zA _ _ | assumption | exact zA _ _ | exact zS _ | exact Zr_not (hs.zA _ _) | exact ⟨by omega, by omega⟩) (by first | exact hs.zF _ | exact Zor_r _ _ | exact hs.zA _ _ | assumption | exact zA _ _ | exact zS _ | exact Zr_not (hs.zA _ _) | exact ⟨by omega, by omega⟩) (fun c1 => ?_) (fun c1 => ?_)
    · obtain rfl : i = n := by omega
      exact kont h hs 
    · refine Z_go (f2 := (22, [(4, .int (Zi i)), (3, .int (Zi n)), (0, .ref 83), (1, .int (Zi sl_)), (2, .int (Zi c))], [.ref 83])) (fun _ => rfl) ?_
      refine R_gr (q := 106) rfl hs rfl ?_
      show B_R _ _ (25, [(4, .int (Zi i)), (3, .int (Zi n)), (0, .ref 83), (1, .int (Zi sl_)), (2, .int (Zi c))], [.ref 108]) _ _ _
      refine Z_go (f2 := (28, [(4, .int (Zi i)), (3, .int (Zi n)), (0, .ref 83), (1, .int (Zi sl_)), (2, .int (Zi c))], [.int (Zi 640), .ref 108])) (fun _ => rfl) ?_
      refine Z_go (f2 := (29, [(4, .int (Zi i)), (3, .int (Zi n)), (0, .ref 83), (1, .int (Zi sl_)), (2, .int (Zi c))], [.ref 83, .int (Zi 640), .ref 108])) (fun _ => rfl) ?_
      refine R_gi rfl hs rfl ?_
      show B_R _ _ (32, [(4, .int (Zi i)), (3, .int (Zi n)), (0, .ref 83), (1, .int (Zi sl_)), (2, .int (Zi c))], [.int (Zi (s.1 37)), .int (Zi 640), .ref 108]) _ _ _
      refine Z_imul rfl ?_
      refine Z_go (f2 := (35, [(4, .int (Zi i)), (3, .int (Zi n)), (0, .ref 83), (1, .int (Zi sl_)), (2, .int (Zi c))], [.int (Zi i), .int (Zi (640 * (s.1 37))), .ref 108])) (fun _ => rfl) ?_
      refine Z_iadd rfl ?_
      refine Z_go (f2 := (37, [(4, .int (Zi i)), (3, .int (Zi n)), (0, .ref 83), (1, .int (Zi sl_)), (2, .int (Zi c))], [.ref 83, .int (Zi (640 * (s.1 37) + i)), .ref 108])) (fun _ => rfl) ?_
      refine R_gr (q := 104) rfl hs rfl ?_
      show B_R _ _ (40, [(4, .int (Zi i)), (3, .int (Zi n)), (0, .ref 83), (1, .int (Zi sl_)), (2, .int (Zi c))], [.ref 106, .int (Zi (640 * (s.1 37) + i)), .ref 108]) _ _ _
      refine Z_go (f2 := (43, [(4, .int (Zi i)), (3, .int (Zi n)), (0, .ref 83), (1, .int (Zi sl_)), (2, .int (Zi c))], [.int (Zi 640), .ref 106, .int (Zi (640 * (s.1 37) + i)), .ref 108])) (fun _ => rfl) ?_
      refine Z_go (f2 := (45, [(4, .int (Zi i)), (3, .int (Zi n)), (0, .ref 83), (1, .int (Zi sl_)), (2, .int (Zi c))], [.int (Zi 24), .int (Zi 640), .ref 106, .int (Zi (640 * (s.1 37) + i)), .ref 108])) (fun _ => rfl) ?_
      refine Z_go (f2 := (46, [(4, .int (Zi i)), (3, .int (Zi n)), (0, .ref 83), (1, .int (Zi sl_)), (2, .int (Zi c))], [.int (Zi sl_), .int (Zi 24), .int (Zi 640), .ref 106, .int (Zi (640 * (s.1 37) + i)), .ref 108])) (fun _ => rfl) ?_
      refine Z_imul rfl ?_
      refine Z_go (f2 := (48, [(4, .int (Zi i)), (3, .int (Zi n)), (0, .ref 83), (1, .int (Zi sl_)), (2, .int (Zi c))], [.int (Zi c), .int (Zi (24 * sl_)), .int (Zi 640), .ref 106, .int (Zi (640 * (s.1 37) + i)), .ref 108])) (fun _ => rfl) ?_
      refine Z_iadd rfl ?_
      refine Z_imul rfl ?_
      refine Z_go (f2 := (52, [(4, .int (Zi i)), (3, .int (Zi n)), (0, .ref 83), (1, .int (Zi sl_)), (2, .int (Zi c))], [.int (Zi i), .int (Zi (640 * (24 * sl_ + c))), .ref 106, .int (Zi (640 * (s.1 37) + i)), .ref 108])) (fun _ => rfl) ?_
      refine Z_iadd rfl ?_
      refine R_ia (q := 22) rfl hs rfl rfl (by omega) (by omega) (by decide) ?_
      rw [show (R_fl s 108 (640 * s.1 37) (640 * s.1 37 + i) (fun j => s.2.1 106 (640 * (24 * sl_ + c) + (j - 640 * s.1 37)))).2.1 106 (640 * (24 * sl_ + c) + i) = s.2.1 106 (640 * (24 * sl_ + c) + i) by first | rfl | simp [R_sA, R_sF, R_up2, R_fl, R_fL, R_sM, R_sL, R_p3, R_em]]; show B_R _ _ (54, [(4, .int (Zi i)), (3, .int (Zi n)), (0, .ref 83), (1, .int (Zi sl_)), (2, .int (Zi c))], [.int (Zi (s.2.1 106 (640 * (24 * sl_ + c) + i))), .int (Zi (640 * (s.1 37) + i)), .ref 108]) _ _ _
      refine R_is_ (q := 24) rfl hs rfl rfl (by omega) (by omega) (by decide) (by first | exact hs.zF _ | exact Zor_r _ _ | exact hs.zA _ _ | assumption | exact zA _ _ | exact zS _ | exact Zr_not (hs.zA _ _) | exact ⟨by omega, by omega⟩) (fun h hs => ?_)
      refine Z_iinc (L2 := [(4, .int (Zi (i + 1))), (3, .int (Zi n)), (0, .ref 83), (1, .int (Zi sl_)), (2, .int (Zi c))]) rfl rfl (by decide) rfl ?_
      refine Z_go (f2 := (15, [(4, .int (Zi (i + 1))), (3, .int (Zi n)), (0, .ref 83), (1, .int (Zi sl_)), (2, .int (Zi c))], [])) (fun _ => rfl) ?_
      refine B_loc (K := [(4, .int (Zi (i + 1))), (3, .int (Zi n)), (0, .ref 83), (1, .int (Zi sl_)), (2, .int (Zi c))]) (N_all_sub ⟨rfl, rfl, rfl, rfl, rfl, trivial⟩) (show ([4, 3, 0, 1, 2] : List Nat).Nodup by decide) ?_
      rw [R_fl_st (by omega) rfl (by rw [show 640 * s.1 37 + i - 640 * s.1 37 = i by omega])] at hs
      exact ih _ _ (by omega) (by rw [← Int.add_assoc]; exact hs) (by omega) (by omega)
theorem R_addChoice (d : Nat) (s : R_S) {sl_ c : Int} (zs : Zr sl_) (zc : Zr c) (s0 : 0 ≤ sl_) (s1 : sl_ < 44) (c0 : 0 ≤ c) (c1 : c < s.2.1 104 sl_) (cv : R_cv s sl_) (pv : R_pv s) (p1 : s.1 37 < 580) : R_ok (d + 1) 229 [.int (Zi sl_), .int (Zi c)] s (fun x s2 => x = none ∧ R_pad s s2 (R_crow s sl_ c)) := by
  refine R_enter (M := E_m229) rfl (Nat.le_of_ble_eq_true rfl) (fun h0 h hs => ?_)
  show B_R d _ (0, [(0, .ref 83), (1, .int (Zi sl_)), (2, .int (Zi c))], []) _ _ _
  obtain ⟨v1, v2, v3⟩ := id cv
  have vc := v3 c c0 c1
  have pp := pv.1
  refine Z_go (f2 := (1, [(0, .ref 83), (1, .int (Zi sl_)), (2, .int (Zi c))], [.ref 83])) (fun _ => rfl) ?_
  refine R_gr (q := 103) rfl hs rfl ?_
  show B_R _ _ (4, [(0, .ref 83), (1, .int (Zi sl_)), (2, .int (Zi c))], [.ref 105]) _ _ _
  refine Z_go (f2 := (6, [(0, .ref 83), (1, .int (Zi sl_)), (2, .int (Zi c))], [.int (Zi 24), .ref 105])) (fun _ => rfl) ?_
  refine Z_go (f2 := (7, [(0, .ref 83), (1, .int (Zi sl_)), (2, .int (Zi c))], [.int (Zi sl_), .int (Zi 24), .ref 105])) (fun _ => rfl) ?_
  refine Z_imul rfl ?_
  refine Z_go (f2 := (9, [(0, .ref 83), (1, .int (Zi sl_)), (2, .int (Zi c))], [.int (Zi c), .int (Zi (24 * sl_)), .ref 105])) (fun _ => rfl) ?_
  refine Z_iadd rfl ?_
  refine R_ia (q := 21) rfl hs rfl rfl (by omega) (by omega) (by decide) ?_
  refine Z_go (f2 := (12, [(3, .int (Zi (s.2.1 105 (24 * sl_ + c)))), (0, .ref 83), (1, .int (Zi sl_)), (2, .int (Zi c))], [])) (fun _ => rfl) ?_
  refine Z_go (f2 := (13, [(3, .int (Zi (s.2.1 105 (24 * sl_ + c)))), (0, .ref 83), (1, .int (Zi sl_)), (2, .int (Zi c))], [.int (Zi 0)])) (fun _ => rfl) ?_
  refine Z_go (f2 := (15, [(4, .int (Zi 0)), (3, .int (Zi (s.2.1 105 (24 * sl_ + c)))), (0, .ref 83), (1, .int (Zi sl_)), (2, .int (Zi c))], [])) (fun _ => rfl) ?_
  refine B_loc (K := [(4, .int (Zi 0)), (3, .int (Zi (s.2.1 105 (24 * sl_ + c)))), (0, .ref 83), (1, .int (Zi sl_)), (2, .int (Zi c))]) (N_all_sub ⟨rfl, rfl, rfl, rfl, rfl, trivial⟩) (show ([4, 3, 0, 1, 2] : List Nat).Nodup by decide) ?_
  refine R_ac_i (n := s.2.1 105 (24 * sl_ + c)) s0 s1 c0 (by omega) pp p1 vc.2.1 (fun q j => hs.zA q j) (fun h hs => ?_) ((s.2.1 105 (24 * sl_ + c)).toNat + 1) 0 h (by omega) (by rw [Int.add_zero, R_fl_0]; exact hs) (by omega) vc.1
  refine Z_go (f2 := (62, [(4, .int (Zi (s.2.1 105 (24 * sl_ + c)))), (3, .int (Zi (s.2.1 105 (24 * sl_ + c)))), (0, .ref 83), (1, .int (Zi sl_)), (2, .int (Zi c))], [.ref 83])) (fun _ => rfl) ?_
  refine R_gr (q := 105) rfl hs rfl ?_
  show B_R _ _ (65, [(4, .int (Zi (s.2.1 105 (24 * sl_ + c)))), (3, .int (Zi (s.2.1 105 (24 * sl_ + c)))), (0, .ref 83), (1, .int (Zi sl_)), (2, .int (Zi c))], [.ref 107]) _ _ _
  refine Z_go (f2 := (66, [(4, .int (Zi (s.2.1 105 (24 * sl_ + c)))), (3, .int (Zi (s.2.1 105 (24 * sl_ + c)))), (0, .ref 83), (1, .int (Zi sl_)), (2, .int (Zi c))], [.ref 83, .ref 107])) (fun _ => rfl) ?_
  refine R_gi rfl hs rfl ?_
  show B_R _ _ (69, [(4, .int (Zi (s.2.1 105 (24 * sl_ + c)))), (3, .int (Zi (s.2.1 105 (24 * sl_ + c)))), (0, .ref 83), (1, .int (Zi sl_)), (2, .int (Zi c))], [.int (Zi (s.1 37)), .ref 107]) _ _ _
  refine Z_go (f2 := (70, [(4, .int (Zi (s.2.1 105 (24 * sl_ + c)))), (3, .int (Zi (s.2.1 105 (24 * sl_ + c)))), (0, .ref 83), (1, .int (Zi sl_)), (2, .int (Zi c))], [.int (Zi (s.2.1 105 (24 * sl_ + c))), .int (Zi (s.1 37)), .ref 107])) (fun _ => rfl) ?_
  refine R_is_ (q := 23) rfl hs rfl rfl (by omega) (by omega) (by decide) (by first | exact hs.zF _ | exact Zor_r _ _ | exact hs.zA _ _ | assumption | exact zA _ _ | exact zS _ | exact Zr_not (hs.zA _ _) | exact ⟨by omega, by omega⟩) (fun h hs => ?_)
  refine Z_go (f2 := (72, [(4, .int (Zi (s.2.1 105 (24 * sl_ + c)))), (3, .int (Zi (s.2.1 105 (24 * sl_ + c)))), (0, .ref 83), (1, .int (Zi sl_)), (2, .int (Zi c))], [.ref 83])) (fun _ => rfl) ?_
  refine Z_go (f2 := (73, [(4, .int (Zi (s.2.1 105 (24 * sl_ + c)))), (3, .int (Zi (s.2.1 105 (24 * sl_ + c)))), (0, .ref 83), (1, .int (Zi sl_)), (2, .int (Zi c))], [.ref 83, .ref 83])) (fun _ => rfl) ?_
  refine R_gi rfl hs rfl ?_
  show B_R _ _ (76, [(4, .int (Zi (s.2.1 105 (24 * sl_ + c)))), (3, .int (Zi (s.2.1 105 (24 * sl_ + c)))), (0, .ref 83), (1, .int (Zi sl_)), (2, .int (Zi c))], [.int (Zi (s.1 37)), .ref 83]) _ _ _
  refine Z_go (f2 := (77, [(4, .int (Zi (s.2.1 105 (24 * sl_ + c)))), (3, .int (Zi (s.2.1 105 (24 * sl_ + c)))), (0, .ref 83), (1, .int (Zi sl_)), (2, .int (Zi c))], [.int (Zi 1), .int (Zi (s.1 37)), .ref 83])) (fun _ => rfl) ?_
  refine Z_iadd rfl ?_
  refine R_pf rfl hs rfl (by first | exact hs.zF _ | exact Zor_r _ _ | exact hs.zA _ _ | assumption | exact zA _ _ | exact zS _ | exact Zr_not (hs.zA _ _) | exact ⟨by omega, by omega⟩) ⟨rfl, rfl, rfl⟩ (fun h hs => ?_)
  refine Z_ret rfl rfl ⟨_, hs, ?_, rfl⟩
  refine ⟨rfl, R_pad_mk pv p1 (fun b hb => R_sF_n _ _ hb) (R_sF_s _ _ _) (fun q j h7 h8 => ?_) rfl (fun i hi => ?_) ?_ (fun j hj => ?_) (fun j j0 j1 => ?_) vc.1 vc.2.1 vc.2.2⟩
  · rw [R_sF_a, R_sA_n _ _ _ _ h7, R_fl_n h8]
  · rw [R_sF_a, R_sA_m _ _ _ _ (by show i ≠ s.1 37; omega), R_fl_n (by decide)]
  · rw [R_sF_a]
    exact R_sA_s _ _ _ _
  · rw [R_sF_a, R_sA_n _ _ _ _ (by decide), R_fl_o (by omega)]
  · rw [R_sF_a, R_sA_n _ _ _ _ (by decide), R_fl_i (by omega) (by omega)]
    exact congrArg (s.2.1 106) (by omega)
