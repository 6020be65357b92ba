/-! the class: Machine: what is built: an ALT -/
def M_oo (W : Int → Int) (n : Int) : List (Int × P_T) → M_R
  | [] => fun _ _ => False
  | q :: L => M_or (M_of W n q.2) (M_oo W n L)
theorem N_or_M {W : Int → Int} {n : Int} : ∀ (L : List (Int × P_T)) (c : P_T), T_is c → (∀ q ∈ L, T_is q.2) → ∀ i j, M_of W n (L.foldl (fun c q => T_or c q.2) c) i j ↔ M_or (M_of W n c) (M_oo W n L) i j
  | [], c, hc, _, i, j => ⟨fun h => .inl h, fun h => h.elim (fun h => h) (fun h => False.elim h)⟩
  | q :: L, c, hc, h, i, j => by
    have hq := h q (List.mem_cons_self ..)
    rw [List.foldl_cons, N_or_M L _ (hc.or hq) (fun r hr => h r (List.mem_cons_of_mem _ hr)) i j, M_of_or hc hq]
    exact or_assoc
theorem N_or_sz : ∀ (L : List (Int × P_T)) (c : P_T), T_is c → (∀ q ∈ L, T_is q.2) → T_sz (L.foldl (fun c q => T_or c q.2) c) = T_sz c + T_szs L + L.length
  | [], c, _, _ => by show _ = _ + 0 + 0; rw [List.foldl_nil]; omega
  | q :: L, c, hc, h => by
    have hq := h q (List.mem_cons_self ..)
    rw [List.foldl_cons, N_or_sz L _ (hc.or hq) (fun r hr => h r (List.mem_cons_of_mem _ hr)), T_sz_or hc hq, List.length_cons]
    show _ = _ + (T_sz q.2 + T_szs L) + _
    omega
theorem C_balt_lp {d dd : Nat} {h0 : E_H} {s : C_S} {sl : Nat} {p : List Nat} {o : Nat} {A : Nat → Nat} {tr : Nat} {p2 : List Nat} {A2 : Nat → Nat} {m2 sm : Int} {τ : Nat → Int → Int} {β : Int → Int64} {L : List (Int × P_T)} {lo hi i r dep : Int} (hB : M_BN (d + 2) dd) (hx : M_cx s p o A tr p2 A2 m2 sm τ β) (sw : C_wf s) (hq : N_seq (fun a b x t => N_is τ (T_has β) sm dd 1 a b x t) (lo + 1) hi L) (hlk : N_lk τ (-1) L) (l0 : 0 ≤ lo) (h1 : hi ≤ 168) (zr : Zr r) (hsz : C_F s o 5 + T_szs L + (L.length - 1) ≤ 202) (dep0 : 0 ≤ dep) (hdep : 4 * dep + 3 * (dd : Int) ≤ 141) : ∀ (c : Nat) (L1 L2 : List (Int × P_T)) (tn st : Int) (u : C_S) (h : E_H), L1.length = c → L = L1 ++ L2 → L2 ≠ [] → tn = L2.length - 1 → C_is h0 h u → M_fb p o A s u → C_F u o 5 ≤ C_F s o 5 + T_szs L2 + (L2.length - 1) → Zr st → M_bl (M_κ s A) (M_κ u A) (T_has β) sm (C_F s o 5) (C_F u o 5) r st (fun W n => M_oo W n L2) → B_R (d + 2) E_m19 (36, [(6, .int (Zi tn)), (4, .int (Zi (N_la (-1) L1))), (5, .int (Zi st)), (0, .ref o), (1, .int (Zi i)), (2, .int (Zi r)), (3, .int (Zi dep))], []) h sl (fun x => ∃ s2 : C_S, C_is h0 x.2.1 s2 ∧ ∃ n, x.2.2 = sl + n ∧ M_ps p o A (T_has β) sm s r (fun W n => M_oo W n L) (T_szs L + (L.length - 1)) x.1 s2 n) := by
  intro c
  induction c with
  | zero =>
    intro L1 L2 tn st u h hc hL hne htn hs fb h5 zst bl
    obtain rfl : L1 = [] := List.eq_nil_of_length_eq_zero hc
    rw [List.nil_append] at hL
    subst hL
    have hlen := N_seq_len (fun a b x t h => N_is.r h) _ hq
    have ztn : Zr tn := ⟨by have : 0 < L.length := List.length_pos_iff.mpr hne; omega, by omega⟩
    show B_R _ _ (36, [(6, .int (Zi tn)), (4, .int (Zi (-1))), (5, .int (Zi st)), (0, .ref o), (1, .int (Zi i)), (2, .int (Zi r)), (3, .int (Zi dep))], []) _ _ _
    refine Z_go (f2 := (38, [(6, .int (Zi tn)), (4, .int (Zi (-1))), (5, .int (Zi st)), (0, .ref o), (1, .int (Zi i)), (2, .int (Zi r)), (3, .int (Zi dep))], [.int (Zi tn)])) (fun _ => rfl) ?_
    refine Z_go (f2 := (41, [(6, .int (Zi tn)), (4, .int (Zi (-1))), (5, .int (Zi st)), (0, .ref o), (1, .int (Zi i)), (2, .int (Zi r)), (3, .int (Zi dep))], [.int (Zi 168), .int (Zi tn)])) (fun _ => rfl) ?_
    refine Z_cge rfl rfl (by first | exact hs.zF _ _ | exact Zor_r _ _ | exact hs.zA _ _ | assumption | exact zA _ _ | exact zS _ | exact Zr_not (hs.zA _ _) | exact hs.1.1 _ _ | exact ⟨by omega, by omega⟩) (by first | exact hs.zF _ _ | exact Zor_r _ _ | exact hs.zA _ _ | assumption | exact zA _ _ | exact zS _ | exact Zr_not (hs.zA _ _) | exact hs.1.1 _ _ | exact ⟨by omega, by omega⟩) (fun y1 => ?_) (fun y1 => ?_)
    · refine Z_go (f2 := (90, [(6, .int (Zi tn)), (4, .int (Zi (-1))), (5, .int (Zi st)), (0, .ref o), (1, .int (Zi i)), (2, .int (Zi r)), (3, .int (Zi dep))], [.int (Zi st)])) (fun _ => rfl) ?_
      refine Z_iret rfl rfl (by first | rfl | decide | exact narrow_b01 (by omega)) ?_
      try dsimp only
      exact ⟨_, hs, 0, rfl, rfl, st, zst, rfl, fb, by omega, bl⟩
    · refine Z_go (f2 := (46, [(6, .int (Zi tn)), (4, .int (Zi (-1))), (5, .int (Zi st)), (0, .ref o), (1, .int (Zi i)), (2, .int (Zi r)), (3, .int (Zi dep))], [.int (Zi (-1))])) (fun _ => rfl) ?_
      refine Z_go (f2 := (47, [(6, .int (Zi tn)), (4, .int (Zi (-1))), (5, .int (Zi st)), (0, .ref o), (1, .int (Zi i)), (2, .int (Zi r)), (3, .int (Zi dep))], [.int (Zi (-1)), .int (Zi (-1))])) (fun _ => rfl) ?_
      refine Z_ceq rfl rfl (by first | exact hs.zF _ _ | exact Zor_r _ _ | exact hs.zA _ _ | assumption | exact zA _ _ | exact zS _ | exact Zr_not (hs.zA _ _) | exact hs.1.1 _ _ | exact ⟨by omega, by omega⟩) (by first | exact hs.zF _ _ | exact Zor_r _ _ | exact hs.zA _ _ | assumption | exact zA _ _ | exact zS _ | exact Zr_not (hs.zA _ _) | exact hs.1.1 _ _ | exact ⟨by omega, by omega⟩) (fun y2 => ?_) (fun y2 => ?_)
      · refine Z_go (f2 := (90, [(6, .int (Zi tn)), (4, .int (Zi (-1))), (5, .int (Zi st)), (0, .ref o), (1, .int (Zi i)), (2, .int (Zi r)), (3, .int (Zi dep))], [.int (Zi st)])) (fun _ => rfl) ?_
        refine Z_iret rfl rfl (by first | rfl | decide | exact narrow_b01 (by omega)) ?_
        try dsimp only
        exact ⟨_, hs, 0, rfl, rfl, st, zst, rfl, fb, by omega, bl⟩
      · exfalso; omega
  | succ c ih =>
    intro L1 L2 tn st u h hc hL hne htn hs fb h5 zst bl
    rcases N_snoc L1 with rfl | ⟨L1, qq, rfl⟩
    · rw [List.length_nil] at hc; omega
    rw [List.length_append, List.length_cons, List.length_nil] at hc
    rw [N_la_app]
    rw [List.append_assoc] at hL
    have hL : L = L1 ++ qq :: L2 := hL
    have hln : 0 < L2.length := List.length_pos_iff.mpr hne
    have hlen := N_seq_len (fun a b x t h => N_is.r h) _ hq
    have hlen2 : L.length = L1.length + (L2.length + 1) := by rw [hL, List.length_append, List.length_cons]
    have hall := N_seq.all (Z := T_is) (fun a b x t h => N_is.is _ _ _ _ _ _ h) hq
    have hall2 : ∀ q ∈ L1, T_is q.2 := fun q h => hall q (by rw [hL]; exact List.mem_append_left _ h)
    have hall3 : ∀ q ∈ L2, T_is q.2 := fun q h => hall q (by rw [hL]; exact List.mem_append_right _ (List.mem_cons_of_mem _ h))
    have hallq : T_is qq.2 := hall qq (by rw [hL]; exact List.mem_append_right _ (List.mem_cons_self ..))
    have sz : T_szs L = T_szs L1 + (T_sz qq.2 + T_szs L2) := by rw [hL, T_szs_app]; rfl
    have szp := T_szs_pos L1 hall2
    have szq := T_sz_pos hallq
    have szp3 := T_szs_pos L2 hall3
    obtain ⟨na, nb, n1, n2, n3⟩ := N_seq_at (fun a b x t h => N_is.r h) L1 (by rw [← hL]; exact hq)
    have nr := N_is.r n3
    have n4 := N_lk_at L1 (-1) (by rw [← hL]; exact hlk)
    have ztn : Zr tn := ⟨by omega, by omega⟩
    have zq : Zr qq.1 := ⟨by omega, by omega⟩
    have zdep : Zr dep := ⟨by omega, by omega⟩
    have hg4 : T_g τ 4 qq.1 = N_la (-1) L1 := by unfold T_g; rw [if_pos (by omega), n4]
    have ok := fb.2.2.1.1
    have bl0 := bl.1
    have hxu := fb.cx hx sw (by have := hx.2.2.2.2; omega)
    have eu0 := hxu.2.1
    have htu := hxu.2.2.1
    refine Z_go (f2 := (38, [(6, .int (Zi tn)), (4, .int (Zi (qq.1))), (5, .int (Zi st)), (0, .ref o), (1, .int (Zi i)), (2, .int (Zi r)), (3, .int (Zi dep))], [.int (Zi tn)])) (fun _ => rfl) ?_
    refine Z_go (f2 := (41, [(6, .int (Zi tn)), (4, .int (Zi (qq.1))), (5, .int (Zi st)), (0, .ref o), (1, .int (Zi i)), (2, .int (Zi r)), (3, .int (Zi dep))], [.int (Zi 168), .int (Zi tn)])) (fun _ => rfl) ?_
    refine Z_cge rfl rfl (by first | exact hs.zF _ _ | exact Zor_r _ _ | exact hs.zA _ _ | assumption | exact zA _ _ | exact zS _ | exact Zr_not (hs.zA _ _) | exact hs.1.1 _ _ | exact ⟨by omega, by omega⟩) (by first | exact hs.zF _ _ | exact Zor_r _ _ | exact hs.zA _ _ | assumption | exact zA _ _ | exact zS _ | exact Zr_not (hs.zA _ _) | exact hs.1.1 _ _ | exact ⟨by omega, by omega⟩) (fun y1 => ?_) (fun y1 => ?_)
    · refine Z_go (f2 := (90, [(6, .int (Zi tn)), (4, .int (Zi (qq.1))), (5, .int (Zi st)), (0, .ref o), (1, .int (Zi i)), (2, .int (Zi r)), (3, .int (Zi dep))], [.int (Zi st)])) (fun _ => rfl) ?_
      refine Z_iret rfl rfl (by first | rfl | decide | exact narrow_b01 (by omega)) ?_
      try dsimp only
      exfalso; omega
    · refine Z_go (f2 := (46, [(6, .int (Zi tn)), (4, .int (Zi (qq.1))), (5, .int (Zi st)), (0, .ref o), (1, .int (Zi i)), (2, .int (Zi r)), (3, .int (Zi dep))], [.int (Zi (qq.1))])) (fun _ => rfl) ?_
      refine Z_go (f2 := (47, [(6, .int (Zi tn)), (4, .int (Zi (qq.1))), (5, .int (Zi st)), (0, .ref o), (1, .int (Zi i)), (2, .int (Zi r)), (3, .int (Zi dep))], [.int (Zi (-1)), .int (Zi (qq.1))])) (fun _ => rfl) ?_
      refine Z_ceq rfl rfl (by first | exact hs.zF _ _ | exact Zor_r _ _ | exact hs.zA _ _ | assumption | exact zA _ _ | exact zS _ | exact Zr_not (hs.zA _ _) | exact hs.1.1 _ _ | exact ⟨by omega, by omega⟩) (by first | exact hs.zF _ _ | exact Zor_r _ _ | exact hs.zA _ _ | assumption | exact zA _ _ | exact zS _ | exact Zr_not (hs.zA _ _) | exact hs.1.1 _ _ | exact ⟨by omega, by omega⟩) (fun y2 => ?_) (fun y2 => ?_)
      · refine Z_go (f2 := (90, [(6, .int (Zi tn)), (4, .int (Zi (qq.1))), (5, .int (Zi st)), (0, .ref o), (1, .int (Zi i)), (2, .int (Zi r)), (3, .int (Zi dep))], [.int (Zi st)])) (fun _ => rfl) ?_
        refine Z_iret rfl rfl (by first | rfl | decide | exact narrow_b01 (by omega)) ?_
        try dsimp only
        exfalso; omega
      · have hsu := hs
        refine Z_go (f2 := (51, [(6, .int (Zi tn)), (4, .int (Zi (qq.1))), (5, .int (Zi st)), (0, .ref o), (1, .int (Zi i)), (2, .int (Zi r)), (3, .int (Zi dep))], [.ref o])) (fun _ => rfl) ?_
        refine Z_go (f2 := (53, [(6, .int (Zi tn)), (4, .int (Zi (qq.1))), (5, .int (Zi st)), (0, .ref o), (1, .int (Zi i)), (2, .int (Zi r)), (3, .int (Zi dep))], [.int (Zi 7), .ref o])) (fun _ => rfl) ?_
        refine Z_go (f2 := (54, [(6, .int (Zi tn)), (4, .int (Zi (qq.1))), (5, .int (Zi st)), (0, .ref o), (1, .int (Zi i)), (2, .int (Zi r)), (3, .int (Zi dep))], [.ref o, .int (Zi 7), .ref o])) (fun _ => rfl) ?_
        refine Z_go (f2 := (56, [(6, .int (Zi tn)), (4, .int (Zi (qq.1))), (5, .int (Zi st)), (0, .ref o), (1, .int (Zi i)), (2, .int (Zi r)), (3, .int (Zi dep))], [.int (Zi (qq.1)), .ref o, .int (Zi 7), .ref o])) (fun _ => rfl) ?_
        refine Z_go (f2 := (57, [(6, .int (Zi tn)), (4, .int (Zi (qq.1))), (5, .int (Zi st)), (0, .ref o), (1, .int (Zi i)), (2, .int (Zi r)), (3, .int (Zi dep))], [.int (Zi r), .int (Zi (qq.1)), .ref o, .int (Zi 7), .ref o])) (fun _ => rfl) ?_
        refine Z_go (f2 := (58, [(6, .int (Zi tn)), (4, .int (Zi (qq.1))), (5, .int (Zi st)), (0, .ref o), (1, .int (Zi i)), (2, .int (Zi r)), (3, .int (Zi dep))], [.int (Zi dep), .int (Zi r), .int (Zi (qq.1)), .ref o, .int (Zi 7), .ref o])) (fun _ => rfl) ?_
        refine Z_go (f2 := (59, [(6, .int (Zi tn)), (4, .int (Zi (qq.1))), (5, .int (Zi st)), (0, .ref o), (1, .int (Zi i)), (2, .int (Zi r)), (3, .int (Zi dep))], [.int (Zi 1), .int (Zi dep), .int (Zi r), .int (Zi (qq.1)), .ref o, .int (Zi 7), .ref o])) (fun _ => rfl) ?_
        refine Z_iadd rfl ?_
        refine C_callV (As := [.int (Zi (qq.1)), .int (Zi r), .int (Zi (dep + 1))]) (rest := [.int (Zi 7), .ref o]) rfl (by decide) rfl (by decide) rfl rfl (by decide +kernel) (Nat.le_of_ble_eq_true rfl) hs ok (hB u p o A tr p2 A2 m2 sm τ β 1 na nb qq.1 qq.2 r (dep + 1) hxu n3 (by omega) (by omega) zr (by omega) (by omega) (by rw [if_neg (by omega), if_pos rfl]; omega) (by omega)) (fun x h v n1 hs q => ?_)
        obtain ⟨rfl, q1, zq1, rfl, fb1, f51, bl1⟩ := q
        have fb := fb.tr fb1
        have bl10 := bl1.1
        have hxv := fb1.cx hxu hsu.1 (by have := hxu.2.2.2.2; omega)
        have hsv := hs
        show B_R _ _ (63, [(6, .int (Zi tn)), (4, .int (Zi (qq.1))), (5, .int (Zi st)), (0, .ref o), (1, .int (Zi i)), (2, .int (Zi r)), (3, .int (Zi dep))], [.int (Zi q1), .int (Zi 7), .ref o]) _ _ _
        refine Z_go (f2 := (65, [(6, .int (Zi tn)), (4, .int (Zi (qq.1))), (5, .int (Zi st)), (0, .ref o), (1, .int (Zi i)), (2, .int (Zi r)), (3, .int (Zi dep))], [.int (Zi st), .int (Zi q1), .int (Zi 7), .ref o])) (fun _ => rfl) ?_
        refine Z_go (f2 := (66, [(6, .int (Zi tn)), (4, .int (Zi (qq.1))), (5, .int (Zi st)), (0, .ref o), (1, .int (Zi i)), (2, .int (Zi r)), (3, .int (Zi dep))], [.int (Zi (-1)), .int (Zi st), .int (Zi q1), .int (Zi 7), .ref o])) (fun _ => rfl) ?_
        refine C_callV (As := [.int (Zi 7), .int (Zi q1), .int (Zi st), .int (Zi (-1))]) (rest := []) rfl (by decide) rfl (by decide) rfl rfl (by decide +kernel) (Nat.le_of_ble_eq_true rfl) hs fb.2.2.1.1 (C_nst _ hxv.1 hxv.2.2.2.2 (by omega) (a := 7) (b := q1) (c := st) (e := -1) ⟨by omega, by omega⟩ zq1 zst ⟨by omega, by omega⟩) (fun x h w n2 hs q => ?_)
        obtain ⟨rfl, rfl, fb2, f52, nw⟩ := q
        have fb := fb.tr fb2
        have zv5 : Zr (C_F v o 5) := hsv.1.1 o 5
        have hxw := fb2.cx hxv hsv.1 (by have := hxv.2.2.2.2; omega)
        have ev0 := hxw.2.1
        have htr := hxw.2.2.1
        show B_R _ _ (69, [(6, .int (Zi tn)), (4, .int (Zi (qq.1))), (5, .int (Zi st)), (0, .ref o), (1, .int (Zi i)), (2, .int (Zi r)), (3, .int (Zi dep))], [.int (Zi (C_F v o 5))]) _ _ _
        refine Z_go (f2 := (71, [(5, .int (Zi (C_F v o 5))), (6, .int (Zi tn)), (4, .int (Zi (qq.1))), (0, .ref o), (1, .int (Zi i)), (2, .int (Zi r)), (3, .int (Zi dep))], [])) (fun _ => rfl) ?_
        refine Z_go (f2 := (72, [(5, .int (Zi (C_F v o 5))), (6, .int (Zi tn)), (4, .int (Zi (qq.1))), (0, .ref o), (1, .int (Zi i)), (2, .int (Zi r)), (3, .int (Zi dep))], [.ref o])) (fun _ => rfl) ?_
        refine C_gr rfl hs fb.2.2.1.1 (by decide) (Nat.le_of_ble_eq_true rfl) rfl ev0 ?_
        refine Z_go (f2 := (77, [(5, .int (Zi (C_F v o 5))), (6, .int (Zi tn)), (4, .int (Zi (qq.1))), (0, .ref o), (1, .int (Zi i)), (2, .int (Zi r)), (3, .int (Zi dep))], [.int (Zi (qq.1)), .ref tr])) (fun _ => rfl) ?_
        refine C_callVR (As := [.int (Zi (qq.1))]) (rest := []) rfl (by decide) rfl (by decide) rfl rfl (by decide +kernel) (Nat.le_of_ble_eq_true rfl) hs htr.1.1 (C_t4 _ htr (i := qq.1) (by first | exact hs.zF _ _ | exact Zor_r _ _ | exact hs.zA _ _ | assumption | exact zA _ _ | exact zS _ | exact Zr_not (hs.zA _ _) | exact hs.1.1 _ _ | exact ⟨by omega, by omega⟩)) (fun x q => ?_)
        obtain rfl := q
        show B_R _ _ (80, [(5, .int (Zi (C_F v o 5))), (6, .int (Zi tn)), (4, .int (Zi (qq.1))), (0, .ref o), (1, .int (Zi i)), (2, .int (Zi r)), (3, .int (Zi dep))], [.int (Zi (T_g τ 4 qq.1))]) _ _ _
        refine Z_go (f2 := (82, [(4, .int (Zi (T_g τ 4 qq.1))), (5, .int (Zi (C_F v o 5))), (6, .int (Zi tn)), (0, .ref o), (1, .int (Zi i)), (2, .int (Zi r)), (3, .int (Zi dep))], [])) (fun _ => rfl) ?_
        refine Z_iinc (L2 := [(6, .int (Zi (tn + 1))), (4, .int (Zi (T_g τ 4 qq.1))), (5, .int (Zi (C_F v o 5))), (0, .ref o), (1, .int (Zi i)), (2, .int (Zi r)), (3, .int (Zi dep))]) rfl rfl (by decide) rfl ?_
        refine Z_go (f2 := (36, [(6, .int (Zi (tn + 1))), (4, .int (Zi (T_g τ 4 qq.1))), (5, .int (Zi (C_F v o 5))), (0, .ref o), (1, .int (Zi i)), (2, .int (Zi r)), (3, .int (Zi dep))], [])) (fun _ => rfl) ?_
        refine B_loc (K := [(6, .int (Zi (tn + 1))), (4, .int (Zi (T_g τ 4 qq.1))), (5, .int (Zi (C_F v o 5))), (0, .ref o), (1, .int (Zi i)), (2, .int (Zi r)), (3, .int (Zi dep))]) (N_all_sub ⟨rfl, rfl, rfl, rfl, rfl, rfl, rfl, trivial⟩) (show ([6, 4, 5, 0, 1, 2, 3] : List Nat).Nodup by decide) ?_
        rw [hg4]
        have bl2 := bl.alt bl1 nw
        rw [← f52] at bl2
        exact ih L1 (qq :: L2) _ _ w h (by omega) hL (List.cons_ne_nil _ _) (by rw [List.length_cons]; omega) hs fb (by rw [List.length_cons]; show _ ≤ _ + (T_sz qq.2 + T_szs L2) + _; omega) zv5 bl2
theorem C_balt (d : Nat) {s : C_S} {p : List Nat} {o : Nat} {A : Nat → Nat} {tr : Nat} {p2 : List Nat} {A2 : Nat → Nat} {m2 sm : Int} {τ : Nat → Int → Int} {β : Int → Int64} {L : List (Int × P_T)} {lo hi i r dep : Int} {dd : Nat} (hB : M_BN (d + 2) dd) (hx : M_cx s p o A tr p2 A2 m2 sm τ β) (hi2 : T_g τ 2 i = N_la (-1) L) (hne : L ≠ []) (zi : Zr i) (hq : N_seq (fun a b x t => N_is τ (T_has β) sm dd 1 a b x t) (lo + 1) hi L) (hlk : N_lk τ (-1) L) (l0 : 0 ≤ lo) (h1 : hi ≤ 168) (zr : Zr r) (hsz : C_F s o 5 + T_szs L + (L.length - 1) ≤ 202) (dep0 : 0 ≤ dep) (hdep : 4 * dep + 3 * (dd : Int) ≤ 141) : C_ok (d + 3) 19 [.ref o, .int (Zi i), .int (Zi r), .int (Zi dep)] s (fun x s2 n => M_ps p o A (T_has β) sm s r (fun W n => M_oo W n L) (T_szs L + (L.length - 1)) x s2 n) := by
  refine C_enter (M := E_m19) rfl (Nat.le_of_ble_eq_true rfl) (fun h0 h hs => ?_)
  show B_R (d + 2) _ (0, [(0, .ref o), (1, .int (Zi i)), (2, .int (Zi r)), (3, .int (Zi dep))], []) _ _ _
  have sw := hs.1
  have ok := hx.1.1
  have e0 := hx.2.1
  have htr := hx.2.2.1
  have h50 := hx.2.2.2.2
  have zdep : Zr dep := ⟨by omega, by omega⟩
  rcases N_snoc L with e | ⟨L1, qq, hL⟩
  · exact absurd e hne
  have hlen := N_seq_len (fun a b x t h => N_is.r h) _ hq
  have hlen2 : L.length = L1.length + 1 := by rw [hL, List.length_append]; rfl
  have hall := N_seq.all (Z := T_is) (fun a b x t h => N_is.is _ _ _ _ _ _ h) hq
  have hall2 : ∀ q ∈ L1, T_is q.2 := fun q h => hall q (by rw [hL]; exact List.mem_append_left _ h)
  have hallq : T_is qq.2 := hall qq (by rw [hL]; exact List.mem_append_right _ (List.mem_cons_self ..))
  have sz : T_szs L = T_szs L1 + (T_sz qq.2 + 0) := by rw [hL, T_szs_app]; rfl
  have szp := T_szs_pos L1 hall2
  have szq := T_sz_pos hallq
  obtain ⟨na, nb, n1, n2, n3⟩ := N_seq_at (fun a b x t h => N_is.r h) L1 (by rw [← hL]; exact hq)
  have nr := N_is.r n3
  have n4 := N_lk_at L1 (-1) (by rw [← hL]; exact hlk)
  have zq : Zr qq.1 := ⟨by omega, by omega⟩
  have hg4 : T_g τ 4 qq.1 = N_la (-1) L1 := by unfold T_g; rw [if_pos (by omega), n4]
  have hi2 : T_g τ 2 i = qq.1 := by rw [hi2, hL, N_la_app]
  refine Z_go (f2 := (1, [(0, .ref o), (1, .int (Zi i)), (2, .int (Zi r)), (3, .int (Zi dep))], [.ref o])) (fun _ => rfl) ?_
  refine C_gr rfl hs ok (by decide) (Nat.le_of_ble_eq_true rfl) rfl e0 ?_
  refine Z_go (f2 := (5, [(0, .ref o), (1, .int (Zi i)), (2, .int (Zi r)), (3, .int (Zi dep))], [.int (Zi i), .ref tr])) (fun _ => rfl) ?_
  refine C_callVR (As := [.int (Zi i)]) (rest := []) rfl (by decide) rfl (by decide) rfl rfl (by decide +kernel) (Nat.le_of_ble_eq_true rfl) hs htr.1.1 (C_t2 _ htr (i := i) zi) (fun x q => ?_)
  obtain rfl := q
  rw [hi2]
  show B_R _ _ (8, [(0, .ref o), (1, .int (Zi i)), (2, .int (Zi r)), (3, .int (Zi dep))], [.int (Zi (qq.1))]) _ _ _
  refine Z_go (f2 := (10, [(4, .int (Zi (qq.1))), (0, .ref o), (1, .int (Zi i)), (2, .int (Zi r)), (3, .int (Zi dep))], [])) (fun _ => rfl) ?_
  refine Z_go (f2 := (11, [(4, .int (Zi (qq.1))), (0, .ref o), (1, .int (Zi i)), (2, .int (Zi r)), (3, .int (Zi dep))], [.ref o])) (fun _ => rfl) ?_
  refine Z_go (f2 := (13, [(4, .int (Zi (qq.1))), (0, .ref o), (1, .int (Zi i)), (2, .int (Zi r)), (3, .int (Zi dep))], [.int (Zi (qq.1)), .ref o])) (fun _ => rfl) ?_
  refine Z_go (f2 := (14, [(4, .int (Zi (qq.1))), (0, .ref o), (1, .int (Zi i)), (2, .int (Zi r)), (3, .int (Zi dep))], [.int (Zi r), .int (Zi (qq.1)), .ref o])) (fun _ => rfl) ?_
  refine Z_go (f2 := (15, [(4, .int (Zi (qq.1))), (0, .ref o), (1, .int (Zi i)), (2, .int (Zi r)), (3, .int (Zi dep))], [.int (Zi dep), .int (Zi r), .int (Zi (qq.1)), .ref o])) (fun _ => rfl) ?_
  refine Z_go (f2 := (16, [(4, .int (Zi (qq.1))), (0, .ref o), (1, .int (Zi i)), (2, .int (Zi r)), (3, .int (Zi dep))], [.int (Zi 1), .int (Zi dep), .int (Zi r), .int (Zi (qq.1)), .ref o])) (fun _ => rfl) ?_
  refine Z_iadd rfl ?_
  refine C_callV (As := [.int (Zi (qq.1)), .int (Zi r), .int (Zi (dep + 1))]) (rest := []) rfl (by decide) rfl (by decide) rfl rfl (by decide +kernel) (Nat.le_of_ble_eq_true rfl) hs ok (hB s p o A tr p2 A2 m2 sm τ β 1 na nb qq.1 qq.2 r (dep + 1) hx n3 (by omega) (by omega) zr (by omega) (by omega) (by rw [if_neg (by omega), if_pos rfl]; omega) (by omega)) (fun x h v n1 hs q => ?_)
  obtain ⟨rfl, q1, zq1, rfl, fb1, f51, bl1⟩ := q
  have bl10 := bl1.1
  have hxv := fb1.cx hx sw (by omega)
  have ev0 := hxv.2.1
  have htv := hxv.2.2.1
  show B_R _ _ (20, [(4, .int (Zi (qq.1))), (0, .ref o), (1, .int (Zi i)), (2, .int (Zi r)), (3, .int (Zi dep))], [.int (Zi q1)]) _ _ _
  refine Z_go (f2 := (22, [(5, .int (Zi q1)), (4, .int (Zi (qq.1))), (0, .ref o), (1, .int (Zi i)), (2, .int (Zi r)), (3, .int (Zi dep))], [])) (fun _ => rfl) ?_
  refine Z_go (f2 := (23, [(5, .int (Zi q1)), (4, .int (Zi (qq.1))), (0, .ref o), (1, .int (Zi i)), (2, .int (Zi r)), (3, .int (Zi dep))], [.ref o])) (fun _ => rfl) ?_
  refine C_gr rfl hs fb1.2.2.1.1 (by decide) (Nat.le_of_ble_eq_true rfl) rfl ev0 ?_
  refine Z_go (f2 := (28, [(5, .int (Zi q1)), (4, .int (Zi (qq.1))), (0, .ref o), (1, .int (Zi i)), (2, .int (Zi r)), (3, .int (Zi dep))], [.int (Zi (qq.1)), .ref tr])) (fun _ => rfl) ?_
  refine C_callVR (As := [.int (Zi (qq.1))]) (rest := []) rfl (by decide) rfl (by decide) rfl rfl (by decide +kernel) (Nat.le_of_ble_eq_true rfl) hs htv.1.1 (C_t4 _ htv (i := qq.1) zq) (fun x q => ?_)
  obtain rfl := q
  rw [hg4]
  show B_R _ _ (31, [(5, .int (Zi q1)), (4, .int (Zi (qq.1))), (0, .ref o), (1, .int (Zi i)), (2, .int (Zi r)), (3, .int (Zi dep))], [.int (Zi (N_la (-1) L1))]) _ _ _
  refine Z_go (f2 := (33, [(4, .int (Zi (N_la (-1) L1))), (5, .int (Zi q1)), (0, .ref o), (1, .int (Zi i)), (2, .int (Zi r)), (3, .int (Zi dep))], [])) (fun _ => rfl) ?_
  refine Z_go (f2 := (34, [(4, .int (Zi (N_la (-1) L1))), (5, .int (Zi q1)), (0, .ref o), (1, .int (Zi i)), (2, .int (Zi r)), (3, .int (Zi dep))], [.int (Zi 0)])) (fun _ => rfl) ?_
  refine Z_go (f2 := (36, [(6, .int (Zi 0)), (4, .int (Zi (N_la (-1) L1))), (5, .int (Zi q1)), (0, .ref o), (1, .int (Zi i)), (2, .int (Zi r)), (3, .int (Zi dep))], [])) (fun _ => rfl) ?_
  refine B_loc (K := [(6, .int (Zi 0)), (4, .int (Zi (N_la (-1) L1))), (5, .int (Zi q1)), (0, .ref o), (1, .int (Zi i)), (2, .int (Zi r)), (3, .int (Zi dep))]) (N_all_sub ⟨rfl, rfl, rfl, rfl, rfl, rfl, rfl, trivial⟩) (show ([6, 4, 5, 0, 1, 2, 3] : List Nat).Nodup by decide) ?_
  have bl2 := bl1.same (Q := fun W n => M_oo W n [qq]) (fun W n i j => ⟨fun h => .inl h, fun h => h.elim (fun h => h) (fun h => False.elim h)⟩)
  refine (C_balt_lp (sl := 0) hB hx sw hq hlk l0 h1 zr hsz dep0 hdep L1.length L1 [qq] 0 q1 v h rfl hL (List.cons_ne_nil _ _) (by rfl) hs fb1 (by show _ ≤ _ + (T_sz qq.2 + 0) + ((1 : Nat) - 1 : Int); omega) zq1 bl2).weak (fun x ⟨s2, g1, n, g2, g3⟩ => ⟨s2, g1, ?_⟩)
  rw [Nat.zero_add] at g2
  rw [g2]; exact g3
