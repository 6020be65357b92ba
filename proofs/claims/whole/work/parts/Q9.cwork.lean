/-! the class: Planner: work: a CAT, an ALT -/
def W_ps (pp : List Nat) (pl tr B : Nat) (s : C_S) (P : G_p) (G : G_t) (ω : Nat → Nat) (lv : Nat) (v : P_V) (x : Option Value) (s2 : C_S) (n : Nat) : Prop := x = none ∧ ∃ P2 G2 ω2, D_Pl s2 pp pl tr B G2 P2 ω2 ∧ D_cs pp s s2 ω ω2 n ∧ Pl_le P P2 ∧ P2.2.2.2.2.1 lv = true ∧ D_pv B G2 lv v ∧ D_pv B G2 38 V_nil ∧ ∀ j, j < lv → P.2.2.2.2.1 j = true → G_oth j G G2
/-- what work does, for nodes of so many levels -/
def W_BN (D dd : Nat) : Prop := ∀ (s : C_S) (pp : List Nat) (pl tr B : Nat) (G : G_t) (P : G_p) (ω : Nat → Nat) (p2 : List Nat) (A2 : Nat → Nat) (m2 sm : Int) (τ : Nat → Int → Int) (β : Int → Int64) (k : Nat) (lo hi i : Int) (t : P_T) (lv : Nat) (li : Int), D_Pl s pp pl tr B G P ω → 1280 ≤ B → B ≤ 20000 → D_Tr s p2 tr A2 m2 sm τ β → ¬ pp <+: p2 → D_pv B G 38 V_nil → N_is τ (T_has β) sm dd k lo hi i t → 0 ≤ lo → hi ≤ 168 → T_by t ≤ 80 → 4 * (lv : Int) + 3 * (dd : Int) ≤ (if k = 2 then 144 else if k = 1 then 145 else if τ 0 i = 2 then 146 else 147) → k ≤ 2 → li = (lv : Int) → C_ok D 60 [.ref pl, .int (Zi i), .int (Zi li)] s (W_ps pp pl tr B s P G ω lv (P_plan t))
theorem N_lk_nx {τ : Nat → Int → Int} {q : Int × P_T} {L2 : List (Int × P_T)} : ∀ (L1 : List (Int × P_T)) (prev : Int), N_lk τ prev (L1 ++ q :: L2) → τ 3 q.1 = N_hd L2
  | [], _, h => h.2.1
  | a :: L1, _, h => N_lk_nx L1 a.1 h.2.2
theorem N_beh_bya : ∀ (L : List (Int × P_T)) (c : P_T), T_is c → (∀ q ∈ L, T_is q.2) → T_by c ≤ T_by (L.foldl (fun c q => T_beh c q.2) c)
  | [], c, _, _ => Int.le_refl _
  | q :: L, c, hc, h => by
    have hq := h q (List.mem_cons_self ..)
    have := N_beh_bya L _ (hc.beh hq) (fun r hr => h r (List.mem_cons_of_mem _ hr))
    rw [T_by_beh hc hq] at this
    have := T_by_pos hq
    rw [List.foldl_cons]
    omega
theorem N_or_bya : ∀ (L : List (Int × P_T)) (c : P_T), T_is c → (∀ q ∈ L, T_is q.2) → T_by c ≤ T_by (L.foldl (fun c q => T_or c q.2) c)
  | [], c, _, _ => Int.le_refl _
  | q :: L, c, hc, h => by
    have hq := h q (List.mem_cons_self ..)
    have := N_or_bya L _ (hc.or hq) (fun r hr => h r (List.mem_cons_of_mem _ hr))
    rw [T_by_or hc hq] at this
    have := T_by_pos hq
    rw [List.foldl_cons]
    omega
theorem P_plan_ok {t : P_T} (h : T_is t) (hb : T_by t ≤ 80) : V_ok (P_plan t) (T_by t) := (P_hb_ok h hb).1
theorem C_wcat_lp {d : Nat} {h0 : E_H} {s : C_S} {pp : List Nat} {pl tr B : Nat} {G : G_t} {P : G_p} {ω : Nat → Nat} {p2 : List Nat} {A2 : Nat → Nat} {m2 sm : Int} {τ : Nat → Int → Int} {β : Int → Int64} {L : List (Int × P_T)} {lo hi i li : Int} {lv dd : Nat} (hB : W_BN (d + 9) dd) (B0 : 1280 ≤ B) (B1 : B ≤ 20000) (htr : D_Tr s p2 tr A2 m2 sm τ β) (np : ¬ pp <+: p2) (hn0 : D_pv B G 38 V_nil) (hq : N_seq (fun a b x t => N_is τ (T_has β) sm dd 0 a b x t) (lo + 1) hi L) (hlk : N_lk τ (-1) L) (l0 : 0 ≤ lo) (h1 : hi ≤ 168) (hby : T_by (N_beh L) ≤ 80) (hdep : 4 * (lv : Int) + 3 * (dd : Int) ≤ 142) (el : li = (lv : Int)) (sw : C_wf s) : ∀ (c : Nat) (L2 L1 : List (Int × P_T)) (tn : Int) (u : C_S) (h : E_H) (sl : Nat) (P1 : G_p) (G1 : G_t) (ω1 : Nat → Nat), L2.length = c → L = L1 ++ L2 → tn = L1.length → C_is h0 h u → D_Pl u pp pl tr B G1 P1 ω1 → D_cs pp s u ω ω1 sl → Pl_le P P1 → P1.2.2.2.2.1 lv = true → D_pv B G1 lv (P_plan (N_beh L1)) → D_pv B G1 38 V_nil → (∀ j, j < lv → P.2.2.2.2.1 j = true → G_oth j G G1) → B_R (d + 9) E_m62 (21, [(4, .int (Zi tn)), (3, .int (Zi ((N_hd L2)))), (0, .ref pl), (1, .int (Zi i)), (2, .int (Zi li))], []) h sl (fun x => ∃ s2 : C_S, C_is h0 x.2.1 s2 ∧ W_ps pp pl tr B s P G ω lv (P_plan (N_beh L)) x.1 s2 x.2.2) := by
  intro c
  have hlen := N_seq_len (fun a b x t h => N_is.r h) _ hq
  have hall := N_seq.all (Z := T_is) (fun a b x t h => N_is.is _ _ _ _ _ _ h) hq
  have hlv : lv ≤ 36 := by omega
  induction c with
  | zero =>
    intro L2 L1 tn u h sl P1 G1 ω1 hc hL htn hs hp cs le th hv hn ot
    obtain rfl : L2 = [] := List.eq_nil_of_length_eq_zero hc
    rw [List.append_nil] at hL
    subst hL
    have ztn : Zr tn := ⟨by omega, by omega⟩
    show B_R _ _ (21, [(4, .int (Zi tn)), (3, .int (Zi (-1))), (0, .ref pl), (1, .int (Zi i)), (2, .int (Zi li))], []) _ _ _
    refine Z_go (f2 := (23, [(4, .int (Zi tn)), (3, .int (Zi (-1))), (0, .ref pl), (1, .int (Zi i)), (2, .int (Zi li))], [.int (Zi tn)])) (fun _ => rfl) ?_
    refine Z_go (f2 := (26, [(4, .int (Zi tn)), (3, .int (Zi (-1))), (0, .ref pl), (1, .int (Zi i)), (2, .int (Zi li))], [.int (Zi 168), .int (Zi tn)])) (fun _ => rfl) ?_
    refine Z_cge rfl rfl (by first | exact hs.zF _ _ | exact Zor_r _ _ | exact hs.zA _ _ | assumption | exact zA _ _ | exact zS _ | exact Zr_not (hs.zA _ _) | exact hs.1.1 _ _ | exact ⟨by omega, by omega⟩) (by first | exact hs.zF _ _ | exact Zor_r _ _ | exact hs.zA _ _ | assumption | exact zA _ _ | exact zS _ | exact Zr_not (hs.zA _ _) | exact hs.1.1 _ _ | exact ⟨by omega, by omega⟩) (fun y1 => ?_) (fun y1 => ?_)
    · refine Z_ret rfl rfl ?_
      try dsimp only
      exact ⟨_, hs, rfl, P1, G1, ω1, hp, cs, le, th, hv, hn, ot⟩
    · refine Z_go (f2 := (30, [(4, .int (Zi tn)), (3, .int (Zi (-1))), (0, .ref pl), (1, .int (Zi i)), (2, .int (Zi li))], [.int (Zi (-1))])) (fun _ => rfl) ?_
      refine Z_go (f2 := (31, [(4, .int (Zi tn)), (3, .int (Zi (-1))), (0, .ref pl), (1, .int (Zi i)), (2, .int (Zi li))], [.int (Zi (-1)), .int (Zi (-1))])) (fun _ => rfl) ?_
      refine Z_ceq rfl rfl (by first | exact hs.zF _ _ | exact Zor_r _ _ | exact hs.zA _ _ | assumption | exact zA _ _ | exact zS _ | exact Zr_not (hs.zA _ _) | exact hs.1.1 _ _ | exact ⟨by omega, by omega⟩) (by first | exact hs.zF _ _ | exact Zor_r _ _ | exact hs.zA _ _ | assumption | exact zA _ _ | exact zS _ | exact Zr_not (hs.zA _ _) | exact hs.1.1 _ _ | exact ⟨by omega, by omega⟩) (fun y2 => ?_) (fun y2 => ?_)
      · refine Z_ret rfl rfl ?_
        try dsimp only
        exact ⟨_, hs, rfl, P1, G1, ω1, hp, cs, le, th, hv, hn, ot⟩
      · exfalso; omega
  | succ c ih =>
    intro L2 L1 tn u h sl P1 G1 ω1 hc hL htn hs hp cs le th hv hn ot
    match L2, hc with
    | qq :: L2, hc =>
    rw [List.length_cons] at hc
    show B_R _ _ (21, [(4, .int (Zi tn)), (3, .int (Zi (qq.1))), (0, .ref pl), (1, .int (Zi i)), (2, .int (Zi li))], []) _ _ _
    have hlen2 : L.length = L1.length + (L2.length + 1) := by rw [hL, List.length_append, List.length_cons]
    have hallq : T_is qq.2 := hall qq (by rw [hL]; exact List.mem_append_right _ (List.mem_cons_self ..))
    have hall1 : ∀ q ∈ L1, T_is q.2 := fun q h => hall q (by rw [hL]; exact List.mem_append_left _ h)
    have hall2 : ∀ q ∈ L2, T_is q.2 := fun q h => hall q (by rw [hL]; exact List.mem_append_right _ (List.mem_cons_of_mem _ h))
    have his1 : T_is (N_beh L1) := N_beh_is L1 _ T_is.emp hall1
    obtain ⟨na, nb, n1, n2, n3⟩ := N_seq_at (fun a b x t h => N_is.r h) L1 (by rw [hL] at hq; exact hq)
    have nr := N_is.r n3
    have n4 := N_lk_nx L1 (-1) (by rw [hL] at hlk; exact hlk)
    have hstep : N_beh (L1 ++ [qq]) = T_beh (N_beh L1) qq.2 := N_beh_app L1 qq
    have hbl : T_by (T_beh (N_beh L1) qq.2) ≤ 80 := by
      have e : N_beh L = L2.foldl (fun c q => T_beh c q.2) (T_beh (N_beh L1) qq.2) := by rw [hL]; exact List.foldl_append
      have := N_beh_bya L2 (T_beh (N_beh L1) qq.2) (his1.beh hallq) hall2
      rw [← e] at this
      omega
    rw [T_by_beh his1 hallq] at hbl
    have b1 := T_by_pos his1
    have b2 := T_by_pos hallq
    have ztn : Zr tn := ⟨by omega, by omega⟩
    have zq : Zr qq.1 := ⟨by omega, by omega⟩
    have zli : Zr li := ⟨by omega, by omega⟩
    have hg3 : T_g τ 3 qq.1 = N_hd L2 := by unfold T_g; rw [if_pos (by omega), n4]
    have htu := htr.fr sw cs.2.2 np
    refine Z_go (f2 := (23, [(4, .int (Zi tn)), (3, .int (Zi (qq.1))), (0, .ref pl), (1, .int (Zi i)), (2, .int (Zi li))], [.int (Zi tn)])) (fun _ => rfl) ?_
    refine Z_go (f2 := (26, [(4, .int (Zi tn)), (3, .int (Zi (qq.1))), (0, .ref pl), (1, .int (Zi i)), (2, .int (Zi li))], [.int (Zi 168), .int (Zi tn)])) (fun _ => rfl) ?_
    refine Z_cge rfl rfl (by first | exact hs.zF _ _ | exact Zor_r _ _ | exact hs.zA _ _ | assumption | exact zA _ _ | exact zS _ | exact Zr_not (hs.zA _ _) | exact hs.1.1 _ _ | exact ⟨by omega, by omega⟩) (by first | exact hs.zF _ _ | exact Zor_r _ _ | exact hs.zA _ _ | assumption | exact zA _ _ | exact zS _ | exact Zr_not (hs.zA _ _) | exact hs.1.1 _ _ | exact ⟨by omega, by omega⟩) (fun y1 => ?_) (fun y1 => ?_)
    · refine Z_ret rfl rfl ?_
      try dsimp only
      exfalso; omega
    · refine Z_go (f2 := (30, [(4, .int (Zi tn)), (3, .int (Zi (qq.1))), (0, .ref pl), (1, .int (Zi i)), (2, .int (Zi li))], [.int (Zi (qq.1))])) (fun _ => rfl) ?_
      refine Z_go (f2 := (31, [(4, .int (Zi tn)), (3, .int (Zi (qq.1))), (0, .ref pl), (1, .int (Zi i)), (2, .int (Zi li))], [.int (Zi (-1)), .int (Zi (qq.1))])) (fun _ => rfl) ?_
      refine Z_ceq rfl rfl (by first | exact hs.zF _ _ | exact Zor_r _ _ | exact hs.zA _ _ | assumption | exact zA _ _ | exact zS _ | exact Zr_not (hs.zA _ _) | exact hs.1.1 _ _ | exact ⟨by omega, by omega⟩) (by first | exact hs.zF _ _ | exact Zor_r _ _ | exact hs.zA _ _ | assumption | exact zA _ _ | exact zS _ | exact Zr_not (hs.zA _ _) | exact hs.1.1 _ _ | exact ⟨by omega, by omega⟩) (fun y2 => ?_) (fun y2 => ?_)
      · refine Z_ret rfl rfl ?_
        try dsimp only
        exfalso; omega
      · refine Z_go (f2 := (35, [(4, .int (Zi tn)), (3, .int (Zi (qq.1))), (0, .ref pl), (1, .int (Zi i)), (2, .int (Zi li))], [.ref pl])) (fun _ => rfl) ?_
        refine Z_go (f2 := (36, [(4, .int (Zi tn)), (3, .int (Zi (qq.1))), (0, .ref pl), (1, .int (Zi i)), (2, .int (Zi li))], [.int (Zi (qq.1)), .ref pl])) (fun _ => rfl) ?_
        refine Z_go (f2 := (37, [(4, .int (Zi tn)), (3, .int (Zi (qq.1))), (0, .ref pl), (1, .int (Zi i)), (2, .int (Zi li))], [.int (Zi li), .int (Zi (qq.1)), .ref pl])) (fun _ => rfl) ?_
        refine Z_go (f2 := (38, [(4, .int (Zi tn)), (3, .int (Zi (qq.1))), (0, .ref pl), (1, .int (Zi i)), (2, .int (Zi li))], [.int (Zi 1), .int (Zi li), .int (Zi (qq.1)), .ref pl])) (fun _ => rfl) ?_
        refine Z_iadd rfl ?_
        refine C_callV (As := [.int (Zi (qq.1)), .int (Zi (li + 1))]) (rest := []) rfl (by decide) rfl (by decide) rfl rfl (by decide +kernel) (Nat.le_of_ble_eq_true rfl) hs hp.1.1.1 (hB u pp pl tr B G1 P1 ω1 p2 A2 m2 sm τ β 0 na nb qq.1 qq.2 (lv + 1) (li + 1) hp B0 B1 htu np hn n3 (by omega) (by omega) (by omega) (by rw [if_neg (by omega), if_neg (by omega)]; split <;> omega) (by omega) (by omega)) (fun x h v1 n1 hs q => ?_)
        obtain ⟨rfl, P2, G2, ω2, hp, cq, le2, th2, hw, hn, ot2⟩ := q
        have cs := cs.tr cq
        have hv := hv.congr (ot2 lv (by omega) th)
        have thv := (le2.2.2.2.1 lv (by omega) th).1
        show B_R _ _ (42, [(4, .int (Zi tn)), (3, .int (Zi (qq.1))), (0, .ref pl), (1, .int (Zi i)), (2, .int (Zi li))], []) _ _ _
        refine Z_go (f2 := (43, [(4, .int (Zi tn)), (3, .int (Zi (qq.1))), (0, .ref pl), (1, .int (Zi i)), (2, .int (Zi li))], [.ref pl])) (fun _ => rfl) ?_
        refine Z_go (f2 := (44, [(4, .int (Zi tn)), (3, .int (Zi (qq.1))), (0, .ref pl), (1, .int (Zi i)), (2, .int (Zi li))], [.ref pl, .ref pl])) (fun _ => rfl) ?_
        refine Z_go (f2 := (45, [(4, .int (Zi tn)), (3, .int (Zi (qq.1))), (0, .ref pl), (1, .int (Zi i)), (2, .int (Zi li))], [.int (Zi li), .ref pl, .ref pl])) (fun _ => rfl) ?_
        refine C_callV (As := [.int (Zi li)]) (rest := [.ref pl]) rfl (by decide) rfl (by decide) rfl rfl (by decide +kernel) (Nat.le_of_ble_eq_true rfl) hs hp.1.1.1 (C_prt _ hp B0 B1 (l := lv) (by omega) el) (fun x h v2 n2 hs q => ?_)
        have th38a : P2.2.2.2.2.1 38 = true := hp.1.2.2.2.2
        obtain ⟨P3, G3, ω3, rfl, hp, cq, le3, th3, ot3⟩ := q
        have cs := cs.tr cq
        show B_R _ _ (48, [(4, .int (Zi tn)), (3, .int (Zi (qq.1))), (0, .ref pl), (1, .int (Zi i)), (2, .int (Zi li))], [.ref (P3.2.2.2.1 lv), .ref pl]) _ _ _
        refine Z_go (f2 := (49, [(4, .int (Zi tn)), (3, .int (Zi (qq.1))), (0, .ref pl), (1, .int (Zi i)), (2, .int (Zi li))], [.ref pl, .ref (P3.2.2.2.1 lv), .ref pl])) (fun _ => rfl) ?_
        refine Z_go (f2 := (50, [(4, .int (Zi tn)), (3, .int (Zi (qq.1))), (0, .ref pl), (1, .int (Zi i)), (2, .int (Zi li))], [.int (Zi li), .ref pl, .ref (P3.2.2.2.1 lv), .ref pl])) (fun _ => rfl) ?_
        refine Z_go (f2 := (51, [(4, .int (Zi tn)), (3, .int (Zi (qq.1))), (0, .ref pl), (1, .int (Zi i)), (2, .int (Zi li))], [.int (Zi 1), .int (Zi li), .ref pl, .ref (P3.2.2.2.1 lv), .ref pl])) (fun _ => rfl) ?_
        refine Z_iadd rfl ?_
        refine C_callV (As := [.int (Zi (li + 1))]) (rest := [.ref (P3.2.2.2.1 lv), .ref pl]) rfl (by decide) rfl (by decide) rfl rfl (by decide +kernel) (Nat.le_of_ble_eq_true rfl) hs hp.1.1.1 (C_prt _ hp B0 B1 (l := lv + 1) (lv := li + 1) (by omega) (by omega)) (fun x h v3 n3 hs q => ?_)
        obtain ⟨P4, G4, ω4, rfl, hp, cq, le4, th4, ot4⟩ := q
        have cs := cs.tr cq
        have thw3 := (le3.2.2.2.1 (lv + 1) (by omega) th2).1
        have hpe := (le4.2.2.2.1 lv (by omega) th3)
        have hv := (hv.congr (ot3 lv thv)).congr (ot4 lv th3)
        have hw := (hw.congr (ot3 (lv + 1) th2)).congr (ot4 (lv + 1) thw3)
        have hn := (hn.congr (ot3 38 th38a)).congr (ot4 38 (le3.2.2.2.1 38 (by omega) th38a).1)
        show B_R _ _ (55, [(4, .int (Zi tn)), (3, .int (Zi (qq.1))), (0, .ref pl), (1, .int (Zi i)), (2, .int (Zi li))], [.ref (P4.2.2.2.1 (lv + 1)), .ref (P3.2.2.2.1 lv), .ref pl]) _ _ _
        rw [← hpe.2]
        have jk := J_ok (B := B) (P_plan_ok his1 (by omega)) (P_plan_ok hallq (by omega)) (by omega) (by omega) B0
        show B_R _ _ (55, [(4, .int (Zi tn)), (3, .int (Zi (qq.1))), (0, .ref pl), (1, .int (Zi i)), (2, .int (Zi li))], [.ref (P4.2.2.2.1 (lv + 1)), .ref (P4.2.2.2.1 lv), .ref pl]) _ _ _
        refine C_callV (As := [.ref (P4.2.2.2.1 lv), .ref (P4.2.2.2.1 (lv + 1))]) (rest := []) rfl (by decide) rfl (by decide) rfl rfl (by decide +kernel) (Nat.le_of_ble_eq_true rfl) hs hp.1.1.1 (C_join _ hp B0 B1 (j := lv) (k := lv + 1) (by omega) hpe.1 (by omega) th4 (by omega) hv hw jk.1 jk.2.1 jk.2.2.1 jk.2.2.2) (fun x h v4 n4 hs q => ?_)
        obtain ⟨rfl, G5, ⟨ω5, hp, cq⟩, hv, hw, ot5⟩ := q
        have cs := cs.tr cq
        have hn := hn.congr (ot5 38 (by omega) (by omega))
        have htv := htr.fr sw cs.2.2 np
        show B_R _ _ (58, [(4, .int (Zi tn)), (3, .int (Zi (qq.1))), (0, .ref pl), (1, .int (Zi i)), (2, .int (Zi li))], []) _ _ _
        refine Z_go (f2 := (59, [(4, .int (Zi tn)), (3, .int (Zi (qq.1))), (0, .ref pl), (1, .int (Zi i)), (2, .int (Zi li))], [.ref pl])) (fun _ => rfl) ?_
        refine C_gr rfl hs hp.1.1.1 (by decide) (Nat.le_of_ble_eq_true rfl) rfl hp.1.1.2.2.1 ?_
        refine Z_go (f2 := (63, [(4, .int (Zi tn)), (3, .int (Zi (qq.1))), (0, .ref pl), (1, .int (Zi i)), (2, .int (Zi li))], [.int (Zi (qq.1)), .ref tr])) (fun _ => rfl) ?_
        refine C_callVR (As := [.int (Zi (qq.1))]) (rest := []) rfl (by decide) rfl (by decide) rfl rfl (by decide +kernel) (Nat.le_of_ble_eq_true rfl) hs htv.1.1 (C_t3 _ htv (i := qq.1) (by assumption)) (fun x q => ?_)
        obtain rfl := q
        show B_R _ _ (66, [(4, .int (Zi tn)), (3, .int (Zi (qq.1))), (0, .ref pl), (1, .int (Zi i)), (2, .int (Zi li))], [.int (Zi (T_g τ 3 qq.1))]) _ _ _
        refine Z_go (f2 := (67, [(3, .int (Zi (T_g τ 3 qq.1))), (4, .int (Zi tn)), (0, .ref pl), (1, .int (Zi i)), (2, .int (Zi li))], [])) (fun _ => rfl) ?_
        refine Z_iinc (L2 := [(4, .int (Zi (tn + 1))), (3, .int (Zi (T_g τ 3 qq.1))), (0, .ref pl), (1, .int (Zi i)), (2, .int (Zi li))]) rfl rfl (by decide) rfl ?_
        refine Z_go (f2 := (21, [(4, .int (Zi (tn + 1))), (3, .int (Zi (T_g τ 3 qq.1))), (0, .ref pl), (1, .int (Zi i)), (2, .int (Zi li))], [])) (fun _ => rfl) ?_
        refine B_loc (K := [(4, .int (Zi (tn + 1))), (3, .int (Zi (T_g τ 3 qq.1))), (0, .ref pl), (1, .int (Zi i)), (2, .int (Zi li))]) (N_all_sub ⟨rfl, rfl, rfl, rfl, rfl, trivial⟩) (show ([4, 3, 0, 1, 2] : List Nat).Nodup by decide) ?_
        rw [hg3]
        refine ih L2 (L1 ++ [qq]) _ v4 h _ P4 G5 _ (by omega) (by rw [hL, List.append_assoc]; rfl) (by rw [List.length_append]; show tn + 1 = ((L1.length + 1 : Nat) : Int); omega) hs hp cs (((le.tr le2).tr le3).tr le4) hpe.1 ?_ hn (fun j hj hTj => ?_)
        · rw [hstep, P_plan_beh his1 hallq]; exact hv
        · have a1 := (le.2.2.2.1 j (by omega) hTj).1
          have a2 := (le2.2.2.2.1 j (by omega) a1).1
          have a3 := (le3.2.2.2.1 j (by omega) a2).1
          exact (((((ot j hj hTj).tr (ot2 j (by omega) a1)).tr (ot3 j a2)).tr (ot4 j a3))).tr (ot5 j (by omega) (by omega))
theorem C_wcat (d : Nat) {s : C_S} {pp : List Nat} {pl tr B : Nat} {G : G_t} {P : G_p} {ω : Nat → Nat} {p2 : List Nat} {A2 : Nat → Nat} {m2 sm : Int} {τ : Nat → Int → Int} {β : Int → Int64} {L : List (Int × P_T)} {lo hi i li : Int} {lv dd : Nat} (hp : D_Pl s pp pl tr B G P ω) (hB : W_BN (d + 9) dd) (B0 : 1280 ≤ B) (B1 : B ≤ 20000) (htr : D_Tr s p2 tr A2 m2 sm τ β) (np : ¬ pp <+: p2) (hn0 : D_pv B G 38 V_nil) (hq : N_seq (fun a b x t => N_is τ (T_has β) sm dd 0 a b x t) (lo + 1) hi L) (hlk : N_lk τ (-1) L) (l0 : 0 ≤ lo) (h1 : hi ≤ 168) (hby : T_by (N_beh L) ≤ 80) (hdep : 4 * (lv : Int) + 3 * (dd : Int) ≤ 142) (el : li = (lv : Int)) (zi : Zr i) (hi1 : T_g τ 1 i = N_hd L) : C_ok (d + 10) 62 [.ref pl, .int (Zi i), .int (Zi li)] s (fun x s2 n => W_ps pp pl tr B s P G ω lv (P_plan (N_beh L)) x s2 n) := by
  refine C_enter (M := E_m62) rfl (Nat.le_of_ble_eq_true rfl) (fun h0 h hs => ?_)
  show B_R (d + 9) _ (0, [(0, .ref pl), (1, .int (Zi i)), (2, .int (Zi li))], []) _ _ _
  have cs := D_cs.refl pp s ω
  have sw := hs.1
  have zli : Zr li := ⟨by omega, by omega⟩
  have hp38 := hp.1.2.2.2.2
  refine Z_go (f2 := (1, [(0, .ref pl), (1, .int (Zi i)), (2, .int (Zi li))], [.ref pl])) (fun _ => rfl) ?_
  refine Z_go (f2 := (2, [(0, .ref pl), (1, .int (Zi i)), (2, .int (Zi li))], [.ref pl, .ref pl])) (fun _ => rfl) ?_
  refine Z_go (f2 := (3, [(0, .ref pl), (1, .int (Zi i)), (2, .int (Zi li))], [.int (Zi li), .ref pl, .ref pl])) (fun _ => rfl) ?_
  refine C_callV (As := [.int (Zi li)]) (rest := [.ref pl]) rfl (by decide) rfl (by decide) rfl rfl (by decide +kernel) (Nat.le_of_ble_eq_true rfl) hs hp.1.1.1 (C_prt _ hp B0 B1 (l := lv) (by omega) el) (fun x h v1 n1 hs q => ?_)
  obtain ⟨P1, G1, ω1, rfl, hp, cq, le1, th1, ot1⟩ := q
  have cs := cs.tr cq
  have hn := hn0.congr (ot1 38 hp38)
  show B_R _ _ (6, [(0, .ref pl), (1, .int (Zi i)), (2, .int (Zi li))], [.ref (P1.2.2.2.1 lv), .ref pl]) _ _ _
  refine C_callV (As := [.ref (P1.2.2.2.1 lv)]) (rest := []) rfl (by decide) rfl (by decide) rfl rfl (by decide +kernel) (Nat.le_of_ble_eq_true rfl) hs hp.1.1.1 (C_nil _ hp B0 B1 (j := lv) (by omega) th1) (fun x h v2 n2 hs q => ?_)
  obtain ⟨rfl, G2, ⟨ω2, hp, cq⟩, hv, ot2⟩ := q
  have cs := cs.tr cq
  have hn := hn.congr (ot2 38 (by omega))
  have htv := htr.fr sw cs.2.2 np
  show B_R _ _ (9, [(0, .ref pl), (1, .int (Zi i)), (2, .int (Zi li))], []) _ _ _
  refine Z_go (f2 := (10, [(0, .ref pl), (1, .int (Zi i)), (2, .int (Zi li))], [.ref pl])) (fun _ => rfl) ?_
  refine C_gr rfl hs hp.1.1.1 (by decide) (Nat.le_of_ble_eq_true rfl) rfl hp.1.1.2.2.1 ?_
  refine Z_go (f2 := (14, [(0, .ref pl), (1, .int (Zi i)), (2, .int (Zi li))], [.int (Zi i), .ref tr])) (fun _ => rfl) ?_
  refine C_callVR (As := [.int (Zi i)]) (rest := []) rfl (by decide) rfl (by decide) rfl rfl (by decide +kernel) (Nat.le_of_ble_eq_true rfl) hs htv.1.1 (C_t1 _ htv (i := i) (by assumption)) (fun x q => ?_)
  obtain rfl := q
  show B_R _ _ (17, [(0, .ref pl), (1, .int (Zi i)), (2, .int (Zi li))], [.int (Zi (T_g τ 1 i))]) _ _ _
  refine Z_go (f2 := (18, [(3, .int (Zi (T_g τ 1 i))), (0, .ref pl), (1, .int (Zi i)), (2, .int (Zi li))], [])) (fun _ => rfl) ?_
  refine Z_go (f2 := (19, [(3, .int (Zi (T_g τ 1 i))), (0, .ref pl), (1, .int (Zi i)), (2, .int (Zi li))], [.int (Zi 0)])) (fun _ => rfl) ?_
  refine Z_go (f2 := (21, [(4, .int (Zi 0)), (3, .int (Zi (T_g τ 1 i))), (0, .ref pl), (1, .int (Zi i)), (2, .int (Zi li))], [])) (fun _ => rfl) ?_
  refine B_loc (K := [(4, .int (Zi 0)), (3, .int (Zi (T_g τ 1 i))), (0, .ref pl), (1, .int (Zi i)), (2, .int (Zi li))]) (N_all_sub ⟨rfl, rfl, rfl, rfl, rfl, trivial⟩) (show ([4, 3, 0, 1, 2] : List Nat).Nodup by decide) ?_
  rw [hi1]
  exact C_wcat_lp hB B0 B1 htr np hn0 hq hlk l0 h1 hby hdep el sw L.length L [] 0 v2 h _ P1 G2 _ rfl rfl rfl hs hp cs le1 th1 hv hn (fun j hj hTj => (ot1 j hTj).tr (ot2 j (by omega)))
theorem C_walt_lp {d : Nat} {h0 : E_H} {s : C_S} {pp : List Nat} {pl tr B : Nat} {G : G_t} {P : G_p} {ω : Nat → Nat} {p2 : List Nat} {A2 : Nat → Nat} {m2 sm : Int} {τ : Nat → Int → Int} {β : Int → Int64} {L : List (Int × P_T)} {lo hi i li : Int} {lv dd : Nat} {q0 : Int × P_T} (hB : W_BN (d + 9) dd) (B0 : 1280 ≤ B) (B1 : B ≤ 20000) (htr : D_Tr s p2 tr A2 m2 sm τ β) (np : ¬ pp <+: p2) (hn0 : D_pv B G 38 V_nil) (hq : N_seq (fun a b x t => N_is τ (T_has β) sm dd 1 a b x t) (lo + 1) hi (q0 :: L)) (hlk : N_lk τ (-1) (q0 :: L)) (l0 : 0 ≤ lo) (h1 : hi ≤ 168) (hby : T_by (N_or q0.2 L) ≤ 80) (hdep : 4 * (lv : Int) + 3 * (dd : Int) ≤ 141) (el : li = (lv : Int)) (sw : C_wf s) : ∀ (c : Nat) (L2 L1 : List (Int × P_T)) (tn : Int) (u : C_S) (h : E_H) (sl : Nat) (P1 : G_p) (G1 : G_t) (ω1 : Nat → Nat), L2.length = c → L = L1 ++ L2 → tn = L1.length → C_is h0 h u → D_Pl u pp pl tr B G1 P1 ω1 → D_cs pp s u ω ω1 sl → Pl_le P P1 → P1.2.2.2.2.1 lv = true → D_pv B G1 lv (P_plan (N_or q0.2 L1)) → D_pv B G1 38 V_nil → (∀ j, j < lv → P.2.2.2.2.1 j = true → G_oth j G G1) → B_R (d + 9) E_m61 (27, [(4, .int (Zi tn)), (3, .int (Zi ((N_hd L2)))), (0, .ref pl), (1, .int (Zi i)), (2, .int (Zi li))], []) h sl (fun x => ∃ s2 : C_S, C_is h0 x.2.1 s2 ∧ W_ps pp pl tr B s P G ω lv (P_plan (N_or q0.2 L)) x.1 s2 x.2.2) := by
  intro c
  have hlen := N_seq_len (fun a b x t h => N_is.r h) _ hq
  have hall := N_seq.all (Z := T_is) (fun a b x t h => N_is.is _ _ _ _ _ _ h) hq
  rw [List.length_cons] at hlen
  have hall0 := hall q0 (List.mem_cons_self ..)
  have hall := fun (q : Int × P_T) (h : q ∈ L) => hall q (List.mem_cons_of_mem _ h)
  have hlv : lv ≤ 36 := by omega
  induction c with
  | zero =>
    intro L2 L1 tn u h sl P1 G1 ω1 hc hL htn hs hp cs le th hv hn ot
    obtain rfl : L2 = [] := List.eq_nil_of_length_eq_zero hc
    rw [List.append_nil] at hL
    subst hL
    have ztn : Zr tn := ⟨by omega, by omega⟩
    show B_R _ _ (27, [(4, .int (Zi tn)), (3, .int (Zi (-1))), (0, .ref pl), (1, .int (Zi i)), (2, .int (Zi li))], []) _ _ _
    refine Z_go (f2 := (29, [(4, .int (Zi tn)), (3, .int (Zi (-1))), (0, .ref pl), (1, .int (Zi i)), (2, .int (Zi li))], [.int (Zi tn)])) (fun _ => rfl) ?_
    refine Z_go (f2 := (32, [(4, .int (Zi tn)), (3, .int (Zi (-1))), (0, .ref pl), (1, .int (Zi i)), (2, .int (Zi li))], [.int (Zi 168), .int (Zi tn)])) (fun _ => rfl) ?_
    refine Z_cge rfl rfl (by first | exact hs.zF _ _ | exact Zor_r _ _ | exact hs.zA _ _ | assumption | exact zA _ _ | exact zS _ | exact Zr_not (hs.zA _ _) | exact hs.1.1 _ _ | exact ⟨by omega, by omega⟩) (by first | exact hs.zF _ _ | exact Zor_r _ _ | exact hs.zA _ _ | assumption | exact zA _ _ | exact zS _ | exact Zr_not (hs.zA _ _) | exact hs.1.1 _ _ | exact ⟨by omega, by omega⟩) (fun y1 => ?_) (fun y1 => ?_)
    · refine Z_ret rfl rfl ?_
      try dsimp only
      exact ⟨_, hs, rfl, P1, G1, ω1, hp, cs, le, th, hv, hn, ot⟩
    · refine Z_go (f2 := (36, [(4, .int (Zi tn)), (3, .int (Zi (-1))), (0, .ref pl), (1, .int (Zi i)), (2, .int (Zi li))], [.int (Zi (-1))])) (fun _ => rfl) ?_
      refine Z_go (f2 := (37, [(4, .int (Zi tn)), (3, .int (Zi (-1))), (0, .ref pl), (1, .int (Zi i)), (2, .int (Zi li))], [.int (Zi (-1)), .int (Zi (-1))])) (fun _ => rfl) ?_
      refine Z_ceq rfl rfl (by first | exact hs.zF _ _ | exact Zor_r _ _ | exact hs.zA _ _ | assumption | exact zA _ _ | exact zS _ | exact Zr_not (hs.zA _ _) | exact hs.1.1 _ _ | exact ⟨by omega, by omega⟩) (by first | exact hs.zF _ _ | exact Zor_r _ _ | exact hs.zA _ _ | assumption | exact zA _ _ | exact zS _ | exact Zr_not (hs.zA _ _) | exact hs.1.1 _ _ | exact ⟨by omega, by omega⟩) (fun y2 => ?_) (fun y2 => ?_)
      · refine Z_ret rfl rfl ?_
        try dsimp only
        exact ⟨_, hs, rfl, P1, G1, ω1, hp, cs, le, th, hv, hn, ot⟩
      · exfalso; omega
  | succ c ih =>
    intro L2 L1 tn u h sl P1 G1 ω1 hc hL htn hs hp cs le th hv hn ot
    match L2, hc with
    | qq :: L2, hc =>
    rw [List.length_cons] at hc
    show B_R _ _ (27, [(4, .int (Zi tn)), (3, .int (Zi (qq.1))), (0, .ref pl), (1, .int (Zi i)), (2, .int (Zi li))], []) _ _ _
    have hlen2 : L.length = L1.length + (L2.length + 1) := by rw [hL, List.length_append, List.length_cons]
    have hallq : T_is qq.2 := hall qq (by rw [hL]; exact List.mem_append_right _ (List.mem_cons_self ..))
    have hall1 : ∀ q ∈ L1, T_is q.2 := fun q h => hall q (by rw [hL]; exact List.mem_append_left _ h)
    have hall2 : ∀ q ∈ L2, T_is q.2 := fun q h => hall q (by rw [hL]; exact List.mem_append_right _ (List.mem_cons_of_mem _ h))
    have his1 : T_is (N_or q0.2 L1) := N_or_is L1 _ hall0 hall1
    obtain ⟨na, nb, n1, n2, n3⟩ := N_seq_at (fun a b x t h => N_is.r h) (q0 :: L1) (by rw [hL] at hq; exact hq)
    have nr := N_is.r n3
    have n4 := N_lk_nx (q0 :: L1) (-1) (by rw [hL] at hlk; exact hlk)
    have hstep : N_or q0.2 (L1 ++ [qq]) = T_or (N_or q0.2 L1) qq.2 := N_or_app q0.2 L1 qq
    have hbl : T_by (T_or (N_or q0.2 L1) qq.2) ≤ 80 := by
      have e : N_or q0.2 L = L2.foldl (fun c q => T_or c q.2) (T_or (N_or q0.2 L1) qq.2) := by rw [hL]; exact List.foldl_append
      have := N_or_bya L2 (T_or (N_or q0.2 L1) qq.2) (his1.or hallq) hall2
      rw [← e] at this
      omega
    rw [T_by_or his1 hallq] at hbl
    have b1 := T_by_pos his1
    have b2 := T_by_pos hallq
    have ztn : Zr tn := ⟨by omega, by omega⟩
    have zq : Zr qq.1 := ⟨by omega, by omega⟩
    have zli : Zr li := ⟨by omega, by omega⟩
    have hg3 : T_g τ 3 qq.1 = N_hd L2 := by unfold T_g; rw [if_pos (by omega), n4]
    have htu := htr.fr sw cs.2.2 np
    refine Z_go (f2 := (29, [(4, .int (Zi tn)), (3, .int (Zi (qq.1))), (0, .ref pl), (1, .int (Zi i)), (2, .int (Zi li))], [.int (Zi tn)])) (fun _ => rfl) ?_
    refine Z_go (f2 := (32, [(4, .int (Zi tn)), (3, .int (Zi (qq.1))), (0, .ref pl), (1, .int (Zi i)), (2, .int (Zi li))], [.int (Zi 168), .int (Zi tn)])) (fun _ => rfl) ?_
    refine Z_cge rfl rfl (by first | exact hs.zF _ _ | exact Zor_r _ _ | exact hs.zA _ _ | assumption | exact zA _ _ | exact zS _ | exact Zr_not (hs.zA _ _) | exact hs.1.1 _ _ | exact ⟨by omega, by omega⟩) (by first | exact hs.zF _ _ | exact Zor_r _ _ | exact hs.zA _ _ | assumption | exact zA _ _ | exact zS _ | exact Zr_not (hs.zA _ _) | exact hs.1.1 _ _ | exact ⟨by omega, by omega⟩) (fun y1 => ?_) (fun y1 => ?_)
    · refine Z_ret rfl rfl ?_
      try dsimp only
      exfalso; omega
    · refine Z_go (f2 := (36, [(4, .int (Zi tn)), (3, .int (Zi (qq.1))), (0, .ref pl), (1, .int (Zi i)), (2, .int (Zi li))], [.int (Zi (qq.1))])) (fun _ => rfl) ?_
      refine Z_go (f2 := (37, [(4, .int (Zi tn)), (3, .int (Zi (qq.1))), (0, .ref pl), (1, .int (Zi i)), (2, .int (Zi li))], [.int (Zi (-1)), .int (Zi (qq.1))])) (fun _ => rfl) ?_
      refine Z_ceq rfl rfl (by first | exact hs.zF _ _ | exact Zor_r _ _ | exact hs.zA _ _ | assumption | exact zA _ _ | exact zS _ | exact Zr_not (hs.zA _ _) | exact hs.1.1 _ _ | exact ⟨by omega, by omega⟩) (by first | exact hs.zF _ _ | exact Zor_r _ _ | exact hs.zA _ _ | assumption | exact zA _ _ | exact zS _ | exact Zr_not (hs.zA _ _) | exact hs.1.1 _ _ | exact ⟨by omega, by omega⟩) (fun y2 => ?_) (fun y2 => ?_)
      · refine Z_ret rfl rfl ?_
        try dsimp only
        exfalso; omega
      · refine Z_go (f2 := (41, [(4, .int (Zi tn)), (3, .int (Zi (qq.1))), (0, .ref pl), (1, .int (Zi i)), (2, .int (Zi li))], [.ref pl])) (fun _ => rfl) ?_
        refine Z_go (f2 := (42, [(4, .int (Zi tn)), (3, .int (Zi (qq.1))), (0, .ref pl), (1, .int (Zi i)), (2, .int (Zi li))], [.int (Zi (qq.1)), .ref pl])) (fun _ => rfl) ?_
        refine Z_go (f2 := (43, [(4, .int (Zi tn)), (3, .int (Zi (qq.1))), (0, .ref pl), (1, .int (Zi i)), (2, .int (Zi li))], [.int (Zi li), .int (Zi (qq.1)), .ref pl])) (fun _ => rfl) ?_
        refine Z_go (f2 := (44, [(4, .int (Zi tn)), (3, .int (Zi (qq.1))), (0, .ref pl), (1, .int (Zi i)), (2, .int (Zi li))], [.int (Zi 1), .int (Zi li), .int (Zi (qq.1)), .ref pl])) (fun _ => rfl) ?_
        refine Z_iadd rfl ?_
        refine C_callV (As := [.int (Zi (qq.1)), .int (Zi (li + 1))]) (rest := []) rfl (by decide) rfl (by decide) rfl rfl (by decide +kernel) (Nat.le_of_ble_eq_true rfl) hs hp.1.1.1 (hB u pp pl tr B G1 P1 ω1 p2 A2 m2 sm τ β 1 na nb qq.1 qq.2 (lv + 1) (li + 1) hp B0 B1 htu np hn n3 (by omega) (by omega) (by omega) (by rw [if_neg (by omega), if_pos rfl]; omega) (by omega) (by omega)) (fun x h v1 n1 hs q => ?_)
        obtain ⟨rfl, P2, G2, ω2, hp, cq, le2, th2, hw, hn, ot2⟩ := q
        have cs := cs.tr cq
        have hv := hv.congr (ot2 lv (by omega) th)
        have thv := (le2.2.2.2.1 lv (by omega) th).1
        show B_R _ _ (48, [(4, .int (Zi tn)), (3, .int (Zi (qq.1))), (0, .ref pl), (1, .int (Zi i)), (2, .int (Zi li))], []) _ _ _
        refine Z_go (f2 := (49, [(4, .int (Zi tn)), (3, .int (Zi (qq.1))), (0, .ref pl), (1, .int (Zi i)), (2, .int (Zi li))], [.ref pl])) (fun _ => rfl) ?_
        refine Z_go (f2 := (50, [(4, .int (Zi tn)), (3, .int (Zi (qq.1))), (0, .ref pl), (1, .int (Zi i)), (2, .int (Zi li))], [.ref pl, .ref pl])) (fun _ => rfl) ?_
        refine Z_go (f2 := (51, [(4, .int (Zi tn)), (3, .int (Zi (qq.1))), (0, .ref pl), (1, .int (Zi i)), (2, .int (Zi li))], [.int (Zi li), .ref pl, .ref pl])) (fun _ => rfl) ?_
        refine C_callV (As := [.int (Zi li)]) (rest := [.ref pl]) rfl (by decide) rfl (by decide) rfl rfl (by decide +kernel) (Nat.le_of_ble_eq_true rfl) hs hp.1.1.1 (C_prt _ hp B0 B1 (l := lv) (by omega) el) (fun x h v2 n2 hs q => ?_)
        have th38a : P2.2.2.2.2.1 38 = true := hp.1.2.2.2.2
        obtain ⟨P3, G3, ω3, rfl, hp, cq, le3, th3, ot3⟩ := q
        have cs := cs.tr cq
        show B_R _ _ (54, [(4, .int (Zi tn)), (3, .int (Zi (qq.1))), (0, .ref pl), (1, .int (Zi i)), (2, .int (Zi li))], [.ref (P3.2.2.2.1 lv), .ref pl]) _ _ _
        refine Z_go (f2 := (55, [(4, .int (Zi tn)), (3, .int (Zi (qq.1))), (0, .ref pl), (1, .int (Zi i)), (2, .int (Zi li))], [.ref pl, .ref (P3.2.2.2.1 lv), .ref pl])) (fun _ => rfl) ?_
        refine Z_go (f2 := (56, [(4, .int (Zi tn)), (3, .int (Zi (qq.1))), (0, .ref pl), (1, .int (Zi i)), (2, .int (Zi li))], [.int (Zi li), .ref pl, .ref (P3.2.2.2.1 lv), .ref pl])) (fun _ => rfl) ?_
        refine Z_go (f2 := (57, [(4, .int (Zi tn)), (3, .int (Zi (qq.1))), (0, .ref pl), (1, .int (Zi i)), (2, .int (Zi li))], [.int (Zi 1), .int (Zi li), .ref pl, .ref (P3.2.2.2.1 lv), .ref pl])) (fun _ => rfl) ?_
        refine Z_iadd rfl ?_
        refine C_callV (As := [.int (Zi (li + 1))]) (rest := [.ref (P3.2.2.2.1 lv), .ref pl]) rfl (by decide) rfl (by decide) rfl rfl (by decide +kernel) (Nat.le_of_ble_eq_true rfl) hs hp.1.1.1 (C_prt _ hp B0 B1 (l := lv + 1) (lv := li + 1) (by omega) (by omega)) (fun x h v3 n3 hs q => ?_)
        obtain ⟨P4, G4, ω4, rfl, hp, cq, le4, th4, ot4⟩ := q
        have cs := cs.tr cq
        have thw3 := (le3.2.2.2.1 (lv + 1) (by omega) th2).1
        have hpe := (le4.2.2.2.1 lv (by omega) th3)
        have hv := (hv.congr (ot3 lv thv)).congr (ot4 lv th3)
        have hw := (hw.congr (ot3 (lv + 1) th2)).congr (ot4 (lv + 1) thw3)
        have hn := (hn.congr (ot3 38 th38a)).congr (ot4 38 (le3.2.2.2.1 38 (by omega) th38a).1)
        show B_R _ _ (61, [(4, .int (Zi tn)), (3, .int (Zi (qq.1))), (0, .ref pl), (1, .int (Zi i)), (2, .int (Zi li))], [.ref (P4.2.2.2.1 (lv + 1)), .ref (P3.2.2.2.1 lv), .ref pl]) _ _ _
        rw [← hpe.2]
        show B_R _ _ (61, [(4, .int (Zi tn)), (3, .int (Zi (qq.1))), (0, .ref pl), (1, .int (Zi i)), (2, .int (Zi li))], [.ref (P4.2.2.2.1 (lv + 1)), .ref (P4.2.2.2.1 lv), .ref pl]) _ _ _
        refine C_callV (As := [.ref (P4.2.2.2.1 lv), .ref (P4.2.2.2.1 (lv + 1))]) (rest := []) rfl (by decide) rfl (by decide) rfl rfl (by decide +kernel) (Nat.le_of_ble_eq_true rfl) hs hp.1.1.1 (C_altr _ hp B0 B1 (j := lv) (k := lv + 1) (by omega) hpe.1 (by omega) th4 (by omega) hv hw) (fun x h v4 n4 hs q => ?_)
        obtain ⟨rfl, G5, ⟨ω5, hp, cq⟩, hv, hw, ot5⟩ := q
        have cs := cs.tr cq
        have hn := hn.congr (ot5 38 (by omega) (by omega))
        have htv := htr.fr sw cs.2.2 np
        show B_R _ _ (64, [(4, .int (Zi tn)), (3, .int (Zi (qq.1))), (0, .ref pl), (1, .int (Zi i)), (2, .int (Zi li))], []) _ _ _
        refine Z_go (f2 := (65, [(4, .int (Zi tn)), (3, .int (Zi (qq.1))), (0, .ref pl), (1, .int (Zi i)), (2, .int (Zi li))], [.ref pl])) (fun _ => rfl) ?_
        refine C_gr rfl hs hp.1.1.1 (by decide) (Nat.le_of_ble_eq_true rfl) rfl hp.1.1.2.2.1 ?_
        refine Z_go (f2 := (69, [(4, .int (Zi tn)), (3, .int (Zi (qq.1))), (0, .ref pl), (1, .int (Zi i)), (2, .int (Zi li))], [.int (Zi (qq.1)), .ref tr])) (fun _ => rfl) ?_
        refine C_callVR (As := [.int (Zi (qq.1))]) (rest := []) rfl (by decide) rfl (by decide) rfl rfl (by decide +kernel) (Nat.le_of_ble_eq_true rfl) hs htv.1.1 (C_t3 _ htv (i := qq.1) (by assumption)) (fun x q => ?_)
        obtain rfl := q
        show B_R _ _ (72, [(4, .int (Zi tn)), (3, .int (Zi (qq.1))), (0, .ref pl), (1, .int (Zi i)), (2, .int (Zi li))], [.int (Zi (T_g τ 3 qq.1))]) _ _ _
        refine Z_go (f2 := (73, [(3, .int (Zi (T_g τ 3 qq.1))), (4, .int (Zi tn)), (0, .ref pl), (1, .int (Zi i)), (2, .int (Zi li))], [])) (fun _ => rfl) ?_
        refine Z_iinc (L2 := [(4, .int (Zi (tn + 1))), (3, .int (Zi (T_g τ 3 qq.1))), (0, .ref pl), (1, .int (Zi i)), (2, .int (Zi li))]) rfl rfl (by decide) rfl ?_
        refine Z_go (f2 := (27, [(4, .int (Zi (tn + 1))), (3, .int (Zi (T_g τ 3 qq.1))), (0, .ref pl), (1, .int (Zi i)), (2, .int (Zi li))], [])) (fun _ => rfl) ?_
        refine B_loc (K := [(4, .int (Zi (tn + 1))), (3, .int (Zi (T_g τ 3 qq.1))), (0, .ref pl), (1, .int (Zi i)), (2, .int (Zi li))]) (N_all_sub ⟨rfl, rfl, rfl, rfl, rfl, trivial⟩) (show ([4, 3, 0, 1, 2] : List Nat).Nodup by decide) ?_
        rw [hg3]
        refine ih L2 (L1 ++ [qq]) _ v4 h _ P4 G5 _ (by omega) (by rw [hL, List.append_assoc]; rfl) (by rw [List.length_append]; show tn + 1 = ((L1.length + 1 : Nat) : Int); omega) hs hp cs (((le.tr le2).tr le3).tr le4) hpe.1 ?_ hn (fun j hj hTj => ?_)
        · rw [hstep, P_plan_or his1 hallq]; exact hv
        · have a1 := (le.2.2.2.1 j (by omega) hTj).1
          have a2 := (le2.2.2.2.1 j (by omega) a1).1
          have a3 := (le3.2.2.2.1 j (by omega) a2).1
          exact (((((ot j hj hTj).tr (ot2 j (by omega) a1)).tr (ot3 j a2)).tr (ot4 j a3))).tr (ot5 j (by omega) (by omega))
theorem C_walt (d : Nat) {s : C_S} {pp : List Nat} {pl tr B : Nat} {G : G_t} {P : G_p} {ω : Nat → Nat} {p2 : List Nat} {A2 : Nat → Nat} {m2 sm : Int} {τ : Nat → Int → Int} {β : Int → Int64} {L : List (Int × P_T)} {lo hi i li : Int} {lv dd : Nat} {q0 : Int × P_T} (hp : D_Pl s pp pl tr B G P ω) (hB : W_BN (d + 9) dd) (B0 : 1280 ≤ B) (B1 : B ≤ 20000) (htr : D_Tr s p2 tr A2 m2 sm τ β) (np : ¬ pp <+: p2) (hn0 : D_pv B G 38 V_nil) (hq : N_seq (fun a b x t => N_is τ (T_has β) sm dd 1 a b x t) (lo + 1) hi (q0 :: L)) (hlk : N_lk τ (-1) (q0 :: L)) (l0 : 0 ≤ lo) (h1 : hi ≤ 168) (hby : T_by (N_or q0.2 L) ≤ 80) (hdep : 4 * (lv : Int) + 3 * (dd : Int) ≤ 141) (el : li = (lv : Int)) (zi : Zr i) (hi1 : T_g τ 1 i = q0.1) : C_ok (d + 10) 61 [.ref pl, .int (Zi i), .int (Zi li)] s (fun x s2 n => W_ps pp pl tr B s P G ω lv (P_plan (N_or q0.2 L)) x s2 n) := by
  refine C_enter (M := E_m61) rfl (Nat.le_of_ble_eq_true rfl) (fun h0 h hs => ?_)
  show B_R (d + 9) _ (0, [(0, .ref pl), (1, .int (Zi i)), (2, .int (Zi li))], []) _ _ _
  have cs := D_cs.refl pp s ω
  have sw := hs.1
  have zli : Zr li := ⟨by omega, by omega⟩
  have hq2 := hq
  obtain ⟨mid, n3, n5⟩ := hq2
  have nr := N_is.r n3
  have hle := N_seq.le (fun a b x t h => N_is.r h) n5
  have zq : Zr q0.1 := ⟨by omega, by omega⟩
  have hall := N_seq.all (Z := T_is) (fun a b x t h => N_is.is _ _ _ _ _ _ h) hq
  have his := hall q0 (List.mem_cons_self ..)
  have hb0 := N_or_bya L q0.2 his (fun q h => hall q (List.mem_cons_of_mem _ h))
  have hb1 : T_by q0.2 ≤ T_by (N_or q0.2 L) := hb0
  have hg3 : T_g τ 3 q0.1 = N_hd L := by unfold T_g; rw [if_pos (by omega)]; exact hlk.2.1
  refine Z_go (f2 := (1, [(0, .ref pl), (1, .int (Zi i)), (2, .int (Zi li))], [.ref pl])) (fun _ => rfl) ?_
  refine C_gr rfl hs hp.1.1.1 (by decide) (Nat.le_of_ble_eq_true rfl) rfl hp.1.1.2.2.1 ?_
  refine Z_go (f2 := (5, [(0, .ref pl), (1, .int (Zi i)), (2, .int (Zi li))], [.int (Zi i), .ref tr])) (fun _ => rfl) ?_
  refine C_callVR (As := [.int (Zi i)]) (rest := []) rfl (by decide) rfl (by decide) rfl rfl (by decide +kernel) (Nat.le_of_ble_eq_true rfl) hs htr.1.1 (C_t1 _ htr (i := i) zi) (fun x q => ?_)
  obtain rfl := q
  rw [hi1]
  show B_R _ _ (8, [(0, .ref pl), (1, .int (Zi i)), (2, .int (Zi li))], [.int (Zi (q0.1))]) _ _ _
  refine Z_go (f2 := (9, [(3, .int (Zi (q0.1))), (0, .ref pl), (1, .int (Zi i)), (2, .int (Zi li))], [])) (fun _ => rfl) ?_
  refine Z_go (f2 := (10, [(3, .int (Zi (q0.1))), (0, .ref pl), (1, .int (Zi i)), (2, .int (Zi li))], [.ref pl])) (fun _ => rfl) ?_
  refine Z_go (f2 := (11, [(3, .int (Zi (q0.1))), (0, .ref pl), (1, .int (Zi i)), (2, .int (Zi li))], [.int (Zi (q0.1)), .ref pl])) (fun _ => rfl) ?_
  refine Z_go (f2 := (12, [(3, .int (Zi (q0.1))), (0, .ref pl), (1, .int (Zi i)), (2, .int (Zi li))], [.int (Zi li), .int (Zi (q0.1)), .ref pl])) (fun _ => rfl) ?_
  refine C_callV (As := [.int (Zi (q0.1)), .int (Zi li)]) (rest := []) rfl (by decide) rfl (by decide) rfl rfl (by decide +kernel) (Nat.le_of_ble_eq_true rfl) hs hp.1.1.1 (hB s pp pl tr B G P ω p2 A2 m2 sm τ β 1 (lo + 1) mid q0.1 q0.2 lv li hp B0 B1 htr np hn0 n3 (by omega) (by omega) (by omega) (by rw [if_neg (by omega), if_pos rfl]; omega) (by omega) el) (fun x h v1 n1 hs q => ?_)
  obtain ⟨rfl, P1, G1, ω1, hp, cq, le1, th1, hv, hn, ot1⟩ := q
  have cs := cs.tr cq
  have htv := htr.fr sw cs.2.2 np
  show B_R _ _ (15, [(3, .int (Zi (q0.1))), (0, .ref pl), (1, .int (Zi i)), (2, .int (Zi li))], []) _ _ _
  refine Z_go (f2 := (16, [(3, .int (Zi (q0.1))), (0, .ref pl), (1, .int (Zi i)), (2, .int (Zi li))], [.ref pl])) (fun _ => rfl) ?_
  refine C_gr rfl hs hp.1.1.1 (by decide) (Nat.le_of_ble_eq_true rfl) rfl hp.1.1.2.2.1 ?_
  refine Z_go (f2 := (20, [(3, .int (Zi (q0.1))), (0, .ref pl), (1, .int (Zi i)), (2, .int (Zi li))], [.int (Zi (q0.1)), .ref tr])) (fun _ => rfl) ?_
  refine C_callVR (As := [.int (Zi (q0.1))]) (rest := []) rfl (by decide) rfl (by decide) rfl rfl (by decide +kernel) (Nat.le_of_ble_eq_true rfl) hs htv.1.1 (C_t3 _ htv (i := q0.1) (by assumption)) (fun x q => ?_)
  obtain rfl := q
  show B_R _ _ (23, [(3, .int (Zi (q0.1))), (0, .ref pl), (1, .int (Zi i)), (2, .int (Zi li))], [.int (Zi (T_g τ 3 q0.1))]) _ _ _
  refine Z_go (f2 := (24, [(3, .int (Zi (T_g τ 3 q0.1))), (0, .ref pl), (1, .int (Zi i)), (2, .int (Zi li))], [])) (fun _ => rfl) ?_
  refine Z_go (f2 := (25, [(3, .int (Zi (T_g τ 3 q0.1))), (0, .ref pl), (1, .int (Zi i)), (2, .int (Zi li))], [.int (Zi 0)])) (fun _ => rfl) ?_
  refine Z_go (f2 := (27, [(4, .int (Zi 0)), (3, .int (Zi (T_g τ 3 q0.1))), (0, .ref pl), (1, .int (Zi i)), (2, .int (Zi li))], [])) (fun _ => rfl) ?_
  refine B_loc (K := [(4, .int (Zi 0)), (3, .int (Zi (T_g τ 3 q0.1))), (0, .ref pl), (1, .int (Zi i)), (2, .int (Zi li))]) (N_all_sub ⟨rfl, rfl, rfl, rfl, rfl, trivial⟩) (show ([4, 3, 0, 1, 2] : List Nat).Nodup by decide) ?_
  rw [hg3]
  exact C_walt_lp hB B0 B1 htr np hn0 hq hlk l0 h1 hby hdep el sw L.length L [] 0 v1 h _ P1 G1 _ rfl rfl rfl hs hp cs le1 th1 hv hn ot1
