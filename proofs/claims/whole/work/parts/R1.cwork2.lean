/-! the class: Planner: work: a node -/
theorem C_work : ∀ (dd d : Nat), W_BN (d + 2 * dd + 9) dd := by
  intro dd
  induction dd with
  | zero => intro d s pp pl tr B G P ω p2 A2 m2 sm τ β k lo hi i t lv li hp B0 B1 htr np hn0 hn; exact False.elim hn
  | succ dd ih =>
    intro d s pp pl tr B G P ω p2 A2 m2 sm τ β k lo hi i t lv li hp B0 B1 htr np hn0 hn l0 h1 hby hdep k2 el
    have his := N_is.is _ _ _ _ _ _ hn
    have hB : W_BN (d + 2 * dd + 9) dd := ih d
    have nr := N_is.r hn
    have hd3 : ((dd + 1 : Nat) : Int) = (dd : Int) + 1 := by omega
    rw [hd3] at hdep
    have h36 : lv ≤ 36 := by
      have : 4 * (lv : Int) + 3 * ((dd : Int) + 1) ≤ 147 := by
        split at hdep
        · omega
        · split at hdep
          · omega
          · split at hdep <;> omega
      omega
    have zli : Zr li := ⟨by omega, by omega⟩
    have zi : Zr i := ⟨by omega, by omega⟩
    have tg : ∀ f, T_g τ f i = τ f i := fun f => by unfold T_g; rw [if_pos (by omega)]
    have th380 : P.2.2.2.2.1 38 = true := hp.1.2.2.2.2
    have cs := D_cs.refl pp s ω
    by_cases k0 : k = 0
    · subst k0
      rw [if_neg (by omega), if_neg (by omega)] at hdep
      obtain ⟨r1, r2, hn⟩ := hn
      rw [if_pos rfl] at hn
      rcases hn with ⟨At, a1, rfl, a3, a4⟩ | ⟨u, op, l, hh, a1, rfl, a3, a33, a4, a5, a6, a7⟩ | hn
      · rw [P_plan_atm a1]
        rw [show d + 2 * (dd + 1) + 9 = d + 2 * dd + 10 + 1 by omega]
        cases At with
        | inl z =>
          have b1 : z = 2 ∨ z = 3 ∨ z = 4 := a1
          have b3 : τ 0 i = z + 2 := a3
          have hk : T_g τ 0 i = z + 2 := by rw [tg]; exact b3
          have zk : Zr (T_g τ 0 i) := ⟨by omega, by omega⟩
          show C_ok _ _ _ _ (W_ps pp pl tr B s P G ω lv V_nil)
          refine C_enter (M := E_m60) rfl (Nat.le_of_ble_eq_true rfl) (fun h0 h hs => ?_)
          show B_R (d + 2 * dd + 10) _ (0, [(0, .ref pl), (1, .int (Zi i)), (2, .int (Zi li))], []) _ _ _
          refine Z_go (f2 := (1, [(0, .ref pl), (1, .int (Zi i)), (2, .int (Zi li))], [.int (Zi li)])) (fun _ => rfl) ?_
          refine Z_go (f2 := (3, [(0, .ref pl), (1, .int (Zi i)), (2, .int (Zi li))], [.int (Zi 38), .int (Zi li)])) (fun _ => rfl) ?_
          refine Z_clt rfl rfl (by first | exact hs.zF _ _ | exact Zor_r _ _ | exact hs.zA _ _ | assumption | exact zA _ _ | exact zS _ | exact Zr_not (hs.zA _ _) | exact hs.1.1 _ _ | exact ⟨by omega, by omega⟩) (by first | exact hs.zF _ _ | exact Zor_r _ _ | exact hs.zA _ _ | assumption | exact zA _ _ | exact zS _ | exact Zr_not (hs.zA _ _) | exact hs.1.1 _ _ | exact ⟨by omega, by omega⟩) (fun y1 => ?_) (fun y1 => ?_)
          · refine Z_go (f2 := (8, [(0, .ref pl), (1, .int (Zi i)), (2, .int (Zi li))], [.ref pl])) (fun _ => rfl) ?_
            refine C_gr rfl hs hp.1.1.1 (by decide) (Nat.le_of_ble_eq_true rfl) rfl hp.1.1.2.2.1 ?_
            refine Z_go (f2 := (12, [(0, .ref pl), (1, .int (Zi i)), (2, .int (Zi li))], [.int (Zi i), .ref tr])) (fun _ => rfl) ?_
            refine C_callVR (As := [.int (Zi i)]) (rest := []) rfl (by decide) rfl (by decide) rfl rfl (by decide +kernel) (Nat.le_of_ble_eq_true rfl) hs htr.1.1 (C_t0 _ htr (i := i) (by assumption)) (fun x q => ?_)
            obtain rfl := q
            show B_R _ _ (15, [(0, .ref pl), (1, .int (Zi i)), (2, .int (Zi li))], [.int (Zi (T_g τ 0 i))]) _ _ _
            rcases (by omega : T_g τ 0 i = 0 ∨ T_g τ 0 i = 1 ∨ T_g τ 0 i = 2 ∨ T_g τ 0 i = 3 ∨ (T_g τ 0 i < 0 ∨ 3 < T_g τ 0 i)) with y2 | y2 | y2 | y2 | y2
            · refine Z_swk (f2 := (44, [(0, .ref pl), (1, .int (Zi i)), (2, .int (Zi li))], [])) y2 (fun _ => rfl) ?_
              exfalso; omega
            · refine Z_swk (f2 := (53, [(0, .ref pl), (1, .int (Zi i)), (2, .int (Zi li))], [])) y2 (fun _ => rfl) ?_
              exfalso; omega
            · refine Z_swk (f2 := (62, [(0, .ref pl), (1, .int (Zi i)), (2, .int (Zi li))], [])) y2 (fun _ => rfl) ?_
              exfalso; omega
            · refine Z_swk (f2 := (71, [(0, .ref pl), (1, .int (Zi i)), (2, .int (Zi li))], [])) y2 (fun _ => rfl) ?_
              exfalso; omega
            · refine Z_tswd rfl (by first | exact hs.zF _ _ | exact Zor_r _ _ | exact hs.zA _ _ | assumption | exact zA _ _ | exact zS _ | exact Zr_not (hs.zA _ _) | exact hs.1.1 _ _ | exact ⟨by omega, by omega⟩) y2 (by rfl) ?_
              show B_R _ _ (91, [(0, .ref pl), (1, .int (Zi i)), (2, .int (Zi li))], []) _ _ _
              refine Z_go (f2 := (92, [(0, .ref pl), (1, .int (Zi i)), (2, .int (Zi li))], [.ref pl])) (fun _ => rfl) ?_
              refine Z_go (f2 := (93, [(0, .ref pl), (1, .int (Zi i)), (2, .int (Zi li))], [.ref pl, .ref pl])) (fun _ => rfl) ?_
              refine Z_go (f2 := (94, [(0, .ref pl), (1, .int (Zi i)), (2, .int (Zi li))], [.int (Zi li), .ref pl, .ref pl])) (fun _ => rfl) ?_
              refine C_callV (As := [.int (Zi li)]) (rest := [.ref pl]) rfl (by decide) rfl (by decide) rfl rfl (by decide +kernel) (Nat.le_of_ble_eq_true rfl) hs hp.1.1.1 (C_prt _ hp B0 B1 (l := lv) (by omega) el) (fun x h v1 n1 hs q => ?_)
              obtain ⟨P1, G1, ω1, rfl, hp, cq, le1, th1, ot1⟩ := q
              have cs := cs.tr cq
              have hn0 := hn0.congr (ot1 38 th380)
              show B_R _ _ (97, [(0, .ref pl), (1, .int (Zi i)), (2, .int (Zi li))], [.ref (P1.2.2.2.1 lv), .ref pl]) _ _ _
              refine C_callV (As := [.ref (P1.2.2.2.1 lv)]) (rest := []) rfl (by decide) rfl (by decide) rfl rfl (by decide +kernel) (Nat.le_of_ble_eq_true rfl) hs hp.1.1.1 (C_nil _ hp B0 B1 (j := lv) (by omega) th1) (fun x h v3 n3 hs q => ?_)
              obtain ⟨rfl, G3, ⟨ω3, hp, cq⟩, hv, ot3⟩ := q
              have cs := cs.tr cq
              show B_R _ _ (100, [(0, .ref pl), (1, .int (Zi i)), (2, .int (Zi li))], []) _ _ _
              refine Z_ret rfl rfl ⟨_, hs, ?_⟩
              try dsimp only
              exact ⟨rfl, P1, G3, ω3, hp, cs, le1, th1, hv, hn0.congr (ot3 38 (by omega)), fun j hj hTj => (ot1 j hTj).tr (ot3 j (by omega))⟩
          · exfalso; omega
        | inr C =>
          obtain ⟨b1, b2, b3, b4⟩ := a3
          have hk : T_g τ 0 i = 3 := by rw [tg]; exact b1
          have zk : Zr (T_g τ 0 i) := ⟨by omega, by omega⟩
          obtain ⟨_, _, _, _, _, hm168, _, hsm⟩ := htr.1
          have hk7 : 0 ≤ T_g τ 7 i ∧ T_g τ 7 i < 80 := by rw [tg]; exact ⟨b2, by omega⟩
          obtain ⟨c0, c1⟩ := hk7
          have zc : Zr (T_g τ 7 i) := ⟨by omega, by omega⟩
          have hse : V_atm (.inr C) = V_set (fun b => T_has β (T_g τ 7 i) b) := by
            show V_set C = _
            refine V_set_eq (fun b h0 h1 => ?_)
            rw [tg]
            exact (b4 b h0 (by omega)).symm
          rw [hse]
          refine C_enter (M := E_m60) rfl (Nat.le_of_ble_eq_true rfl) (fun h0 h hs => ?_)
          show B_R (d + 2 * dd + 10) _ (0, [(0, .ref pl), (1, .int (Zi i)), (2, .int (Zi li))], []) _ _ _
          have hs0 := hs
          refine Z_go (f2 := (1, [(0, .ref pl), (1, .int (Zi i)), (2, .int (Zi li))], [.int (Zi li)])) (fun _ => rfl) ?_
          refine Z_go (f2 := (3, [(0, .ref pl), (1, .int (Zi i)), (2, .int (Zi li))], [.int (Zi 38), .int (Zi li)])) (fun _ => rfl) ?_
          refine Z_clt rfl rfl (by first | exact hs.zF _ _ | exact Zor_r _ _ | exact hs.zA _ _ | assumption | exact zA _ _ | exact zS _ | exact Zr_not (hs.zA _ _) | exact hs.1.1 _ _ | exact ⟨by omega, by omega⟩) (by first | exact hs.zF _ _ | exact Zor_r _ _ | exact hs.zA _ _ | assumption | exact zA _ _ | exact zS _ | exact Zr_not (hs.zA _ _) | exact hs.1.1 _ _ | exact ⟨by omega, by omega⟩) (fun y1 => ?_) (fun y1 => ?_)
          · refine Z_go (f2 := (8, [(0, .ref pl), (1, .int (Zi i)), (2, .int (Zi li))], [.ref pl])) (fun _ => rfl) ?_
            refine C_gr rfl hs hp.1.1.1 (by decide) (Nat.le_of_ble_eq_true rfl) rfl hp.1.1.2.2.1 ?_
            refine Z_go (f2 := (12, [(0, .ref pl), (1, .int (Zi i)), (2, .int (Zi li))], [.int (Zi i), .ref tr])) (fun _ => rfl) ?_
            refine C_callVR (As := [.int (Zi i)]) (rest := []) rfl (by decide) rfl (by decide) rfl rfl (by decide +kernel) (Nat.le_of_ble_eq_true rfl) hs htr.1.1 (C_t0 _ htr (i := i) (by assumption)) (fun x q => ?_)
            obtain rfl := q
            show B_R _ _ (15, [(0, .ref pl), (1, .int (Zi i)), (2, .int (Zi li))], [.int (Zi (T_g τ 0 i))]) _ _ _
            rcases (by omega : T_g τ 0 i = 0 ∨ T_g τ 0 i = 1 ∨ T_g τ 0 i = 2 ∨ T_g τ 0 i = 3 ∨ (T_g τ 0 i < 0 ∨ 3 < T_g τ 0 i)) with y2 | y2 | y2 | y2 | y2
            · refine Z_swk (f2 := (44, [(0, .ref pl), (1, .int (Zi i)), (2, .int (Zi li))], [])) y2 (fun _ => rfl) ?_
              exfalso; omega
            · refine Z_swk (f2 := (53, [(0, .ref pl), (1, .int (Zi i)), (2, .int (Zi li))], [])) y2 (fun _ => rfl) ?_
              exfalso; omega
            · refine Z_swk (f2 := (62, [(0, .ref pl), (1, .int (Zi i)), (2, .int (Zi li))], [])) y2 (fun _ => rfl) ?_
              exfalso; omega
            · refine Z_swk (f2 := (71, [(0, .ref pl), (1, .int (Zi i)), (2, .int (Zi li))], [])) y2 (fun _ => rfl) ?_
              refine Z_go (f2 := (72, [(0, .ref pl), (1, .int (Zi i)), (2, .int (Zi li))], [.ref pl])) (fun _ => rfl) ?_
              refine Z_go (f2 := (73, [(0, .ref pl), (1, .int (Zi i)), (2, .int (Zi li))], [.ref pl, .ref pl])) (fun _ => rfl) ?_
              refine C_gr rfl hs hp.1.1.1 (by decide) (Nat.le_of_ble_eq_true rfl) rfl hp.1.1.2.2.1 ?_
              refine Z_go (f2 := (77, [(0, .ref pl), (1, .int (Zi i)), (2, .int (Zi li))], [.int (Zi i), .ref tr, .ref pl])) (fun _ => rfl) ?_
              refine C_callVR (As := [.int (Zi i)]) (rest := [.ref pl]) rfl (by decide) rfl (by decide) rfl rfl (by decide +kernel) (Nat.le_of_ble_eq_true rfl) hs htr.1.1 (C_t7 _ htr (i := i) (by assumption)) (fun x q => ?_)
              obtain rfl := q
              show B_R _ _ (80, [(0, .ref pl), (1, .int (Zi i)), (2, .int (Zi li))], [.int (Zi (T_g τ 7 i)), .ref pl]) _ _ _
              refine Z_go (f2 := (81, [(0, .ref pl), (1, .int (Zi i)), (2, .int (Zi li))], [.ref pl, .int (Zi (T_g τ 7 i)), .ref pl])) (fun _ => rfl) ?_
              refine Z_go (f2 := (82, [(0, .ref pl), (1, .int (Zi i)), (2, .int (Zi li))], [.int (Zi li), .ref pl, .int (Zi (T_g τ 7 i)), .ref pl])) (fun _ => rfl) ?_
              refine C_callV (As := [.int (Zi li)]) (rest := [.int (Zi (T_g τ 7 i)), .ref pl]) rfl (by decide) rfl (by decide) rfl rfl (by decide +kernel) (Nat.le_of_ble_eq_true rfl) hs hp.1.1.1 (C_prt _ hp B0 B1 (l := lv) (by omega) el) (fun x h v1 n1 hs q => ?_)
              obtain ⟨P1, G1, ω1, rfl, hp, cq, le1, th1, ot1⟩ := q
              have cs := cs.tr cq
              have hn0 := hn0.congr (ot1 38 th380)
              have htv := htr.fr hs0.1 cs.2.2 np
              show B_R _ _ (85, [(0, .ref pl), (1, .int (Zi i)), (2, .int (Zi li))], [.ref (P1.2.2.2.1 lv), .int (Zi (T_g τ 7 i)), .ref pl]) _ _ _
              refine C_callV (As := [.int (Zi (T_g τ 7 i)), .ref (P1.2.2.2.1 lv)]) (rest := []) rfl (by decide) rfl (by decide) rfl rfl (by decide +kernel) (Nat.le_of_ble_eq_true rfl) hs hp.1.1.1 (C_wby _ hp B0 B1 (j := lv) (by omega) th1 htv np c0 c1) (fun x h v3 n3 hs q => ?_)
              obtain ⟨rfl, G3, ⟨ω3, hp, cq⟩, hv, ot3⟩ := q
              have cs := cs.tr cq
              show B_R _ _ (88, [(0, .ref pl), (1, .int (Zi i)), (2, .int (Zi li))], []) _ _ _
              refine Z_go (f2 := (100, [(0, .ref pl), (1, .int (Zi i)), (2, .int (Zi li))], [])) (fun _ => rfl) ?_
              refine Z_ret rfl rfl ⟨_, hs, ?_⟩
              try dsimp only
              exact ⟨rfl, P1, G3, ω3, hp, cs, le1, th1, hv, hn0.congr (ot3 38 (by omega)), fun j hj hTj => (ot1 j hTj).tr (ot3 j (by omega))⟩
            · refine Z_tswd rfl (by first | exact hs.zF _ _ | exact Zor_r _ _ | exact hs.zA _ _ | assumption | exact zA _ _ | exact zS _ | exact Zr_not (hs.zA _ _) | exact hs.1.1 _ _ | exact ⟨by omega, by omega⟩) y2 (by rfl) ?_
              show B_R _ _ (91, [(0, .ref pl), (1, .int (Zi i)), (2, .int (Zi li))], []) _ _ _
              exfalso; omega
          · exfalso; omega
      · rw [show d + 2 * (dd + 1) + 9 = d + 2 * dd + 10 + 1 by omega]
        rw [if_pos a3] at hdep
        have hk : T_g τ 0 i = 2 := by rw [tg]; exact a3
        have zk : Zr (T_g τ 0 i) := ⟨by omega, by omega⟩
        have hti := N_is.is _ _ _ _ _ _ a7
        have hbc := T_by_cnt a1 hti
        rw [P_plan_cnt a1 hti]
        refine C_enter (M := E_m60) rfl (Nat.le_of_ble_eq_true rfl) (fun h0 h hs => ?_)
        show B_R (d + 2 * dd + 10) _ (0, [(0, .ref pl), (1, .int (Zi i)), (2, .int (Zi li))], []) _ _ _
        refine Z_go (f2 := (1, [(0, .ref pl), (1, .int (Zi i)), (2, .int (Zi li))], [.int (Zi li)])) (fun _ => rfl) ?_
        refine Z_go (f2 := (3, [(0, .ref pl), (1, .int (Zi i)), (2, .int (Zi li))], [.int (Zi 38), .int (Zi li)])) (fun _ => rfl) ?_
        refine Z_clt rfl rfl (by first | exact hs.zF _ _ | exact Zor_r _ _ | exact hs.zA _ _ | assumption | exact zA _ _ | exact zS _ | exact Zr_not (hs.zA _ _) | exact hs.1.1 _ _ | exact ⟨by omega, by omega⟩) (by first | exact hs.zF _ _ | exact Zor_r _ _ | exact hs.zA _ _ | assumption | exact zA _ _ | exact zS _ | exact Zr_not (hs.zA _ _) | exact hs.1.1 _ _ | exact ⟨by omega, by omega⟩) (fun y1 => ?_) (fun y1 => ?_)
        · refine Z_go (f2 := (8, [(0, .ref pl), (1, .int (Zi i)), (2, .int (Zi li))], [.ref pl])) (fun _ => rfl) ?_
          refine C_gr rfl hs hp.1.1.1 (by decide) (Nat.le_of_ble_eq_true rfl) rfl hp.1.1.2.2.1 ?_
          refine Z_go (f2 := (12, [(0, .ref pl), (1, .int (Zi i)), (2, .int (Zi li))], [.int (Zi i), .ref tr])) (fun _ => rfl) ?_
          refine C_callVR (As := [.int (Zi i)]) (rest := []) rfl (by decide) rfl (by decide) rfl rfl (by decide +kernel) (Nat.le_of_ble_eq_true rfl) hs htr.1.1 (C_t0 _ htr (i := i) (by assumption)) (fun x q => ?_)
          obtain rfl := q
          show B_R _ _ (15, [(0, .ref pl), (1, .int (Zi i)), (2, .int (Zi li))], [.int (Zi (T_g τ 0 i))]) _ _ _
          rcases (by omega : T_g τ 0 i = 0 ∨ T_g τ 0 i = 1 ∨ T_g τ 0 i = 2 ∨ T_g τ 0 i = 3 ∨ (T_g τ 0 i < 0 ∨ 3 < T_g τ 0 i)) with y2 | y2 | y2 | y2 | y2
          · refine Z_swk (f2 := (44, [(0, .ref pl), (1, .int (Zi i)), (2, .int (Zi li))], [])) y2 (fun _ => rfl) ?_
            exfalso; omega
          · refine Z_swk (f2 := (53, [(0, .ref pl), (1, .int (Zi i)), (2, .int (Zi li))], [])) y2 (fun _ => rfl) ?_
            exfalso; omega
          · refine Z_swk (f2 := (62, [(0, .ref pl), (1, .int (Zi i)), (2, .int (Zi li))], [])) y2 (fun _ => rfl) ?_
            refine Z_go (f2 := (63, [(0, .ref pl), (1, .int (Zi i)), (2, .int (Zi li))], [.ref pl])) (fun _ => rfl) ?_
            refine Z_go (f2 := (64, [(0, .ref pl), (1, .int (Zi i)), (2, .int (Zi li))], [.int (Zi i), .ref pl])) (fun _ => rfl) ?_
            refine Z_go (f2 := (65, [(0, .ref pl), (1, .int (Zi i)), (2, .int (Zi li))], [.int (Zi li), .int (Zi i), .ref pl])) (fun _ => rfl) ?_
            refine C_callV (As := [.int (Zi i), .int (Zi li)]) (rest := []) rfl (by decide) rfl (by decide) rfl rfl (by decide +kernel) (Nat.le_of_ble_eq_true rfl) hs hp.1.1.1 (C_wrep (d + 2 * dd) hB hp B0 B1 htr np hn0 (lo := lo) (hi := hi) (x9 := τ 1 i) a7 (by omega) (by omega) a33 (by omega) el zi a1 (tg 1) ((tg 5).trans a4) ((tg 6).trans a5) (by omega)) (fun x h v n1 hs q => ?_)
            obtain ⟨rfl, P1, G1, ω1, hp, cq, q⟩ := q
            have cs := cs.tr cq
            show B_R _ _ (68, [(0, .ref pl), (1, .int (Zi i)), (2, .int (Zi li))], []) _ _ _
            refine Z_go (f2 := (100, [(0, .ref pl), (1, .int (Zi i)), (2, .int (Zi li))], [])) (fun _ => rfl) ?_
            refine Z_ret rfl rfl ⟨_, hs, ?_⟩
            try dsimp only
            exact ⟨rfl, P1, G1, ω1, hp, cs, q⟩
          · refine Z_swk (f2 := (71, [(0, .ref pl), (1, .int (Zi i)), (2, .int (Zi li))], [])) y2 (fun _ => rfl) ?_
            exfalso; omega
          · refine Z_tswd rfl (by first | exact hs.zF _ _ | exact Zor_r _ _ | exact hs.zA _ _ | assumption | exact zA _ _ | exact zS _ | exact Zr_not (hs.zA _ _) | exact hs.1.1 _ _ | exact ⟨by omega, by omega⟩) y2 (by rfl) ?_
            show B_R _ _ (91, [(0, .ref pl), (1, .int (Zi i)), (2, .int (Zi li))], []) _ _ _
            exfalso; omega
        · exfalso; omega
      · have h0 := N_is.k2 hn
        rw [if_neg (by omega)] at hdep
        have := ih (d + 2) s pp pl tr B G P ω p2 A2 m2 sm τ β 2 lo hi i t lv li hp B0 B1 htr np hn0 hn l0 h1 hby (by rw [if_pos rfl]; omega) (by omega) el
        rw [show d + 2 + 2 * dd + 9 = d + 2 * (dd + 1) + 9 by omega] at this
        exact this
    · by_cases k1 : k = 1
      · subst k1
        rw [if_neg (by omega), if_pos rfl] at hdep
        obtain ⟨r1, r2, hn⟩ := hn
        rw [if_neg (by omega), if_pos rfl] at hn
        obtain ⟨e, a1, a2, L, rfl, ⟨c1, c2, c3⟩, a5⟩ := hn
        rw [show d + 2 * (dd + 1) + 9 = d + 2 * dd + 10 + 1 by omega]
        have hk : T_g τ 0 i = 1 := by rw [tg]; exact a1
        have zk : Zr (T_g τ 0 i) := ⟨by omega, by omega⟩
        refine C_enter (M := E_m60) rfl (Nat.le_of_ble_eq_true rfl) (fun h0 h hs => ?_)
        show B_R (d + 2 * dd + 10) _ (0, [(0, .ref pl), (1, .int (Zi i)), (2, .int (Zi li))], []) _ _ _
        refine Z_go (f2 := (1, [(0, .ref pl), (1, .int (Zi i)), (2, .int (Zi li))], [.int (Zi li)])) (fun _ => rfl) ?_
        refine Z_go (f2 := (3, [(0, .ref pl), (1, .int (Zi i)), (2, .int (Zi li))], [.int (Zi 38), .int (Zi li)])) (fun _ => rfl) ?_
        refine Z_clt rfl rfl (by first | exact hs.zF _ _ | exact Zor_r _ _ | exact hs.zA _ _ | assumption | exact zA _ _ | exact zS _ | exact Zr_not (hs.zA _ _) | exact hs.1.1 _ _ | exact ⟨by omega, by omega⟩) (by first | exact hs.zF _ _ | exact Zor_r _ _ | exact hs.zA _ _ | assumption | exact zA _ _ | exact zS _ | exact Zr_not (hs.zA _ _) | exact hs.1.1 _ _ | exact ⟨by omega, by omega⟩) (fun y1 => ?_) (fun y1 => ?_)
        · refine Z_go (f2 := (8, [(0, .ref pl), (1, .int (Zi i)), (2, .int (Zi li))], [.ref pl])) (fun _ => rfl) ?_
          refine C_gr rfl hs hp.1.1.1 (by decide) (Nat.le_of_ble_eq_true rfl) rfl hp.1.1.2.2.1 ?_
          refine Z_go (f2 := (12, [(0, .ref pl), (1, .int (Zi i)), (2, .int (Zi li))], [.int (Zi i), .ref tr])) (fun _ => rfl) ?_
          refine C_callVR (As := [.int (Zi i)]) (rest := []) rfl (by decide) rfl (by decide) rfl rfl (by decide +kernel) (Nat.le_of_ble_eq_true rfl) hs htr.1.1 (C_t0 _ htr (i := i) (by assumption)) (fun x q => ?_)
          obtain rfl := q
          show B_R _ _ (15, [(0, .ref pl), (1, .int (Zi i)), (2, .int (Zi li))], [.int (Zi (T_g τ 0 i))]) _ _ _
          rcases (by omega : T_g τ 0 i = 0 ∨ T_g τ 0 i = 1 ∨ T_g τ 0 i = 2 ∨ T_g τ 0 i = 3 ∨ (T_g τ 0 i < 0 ∨ 3 < T_g τ 0 i)) with y2 | y2 | y2 | y2 | y2
          · refine Z_swk (f2 := (44, [(0, .ref pl), (1, .int (Zi i)), (2, .int (Zi li))], [])) y2 (fun _ => rfl) ?_
            exfalso; omega
          · refine Z_swk (f2 := (53, [(0, .ref pl), (1, .int (Zi i)), (2, .int (Zi li))], [])) y2 (fun _ => rfl) ?_
            refine Z_go (f2 := (54, [(0, .ref pl), (1, .int (Zi i)), (2, .int (Zi li))], [.ref pl])) (fun _ => rfl) ?_
            refine Z_go (f2 := (55, [(0, .ref pl), (1, .int (Zi i)), (2, .int (Zi li))], [.int (Zi i), .ref pl])) (fun _ => rfl) ?_
            refine Z_go (f2 := (56, [(0, .ref pl), (1, .int (Zi i)), (2, .int (Zi li))], [.int (Zi li), .int (Zi i), .ref pl])) (fun _ => rfl) ?_
            refine C_callV (As := [.int (Zi i), .int (Zi li)]) (rest := []) rfl (by decide) rfl (by decide) rfl rfl (by decide +kernel) (Nat.le_of_ble_eq_true rfl) hs hp.1.1.1 (C_wcat (d + 2 * dd) hp hB B0 B1 htr np hn0 (L := L) (lo := lo) (hi := hi) a5 c3 l0 h1 hby (by omega) el zi ((tg 1).trans c1)) (fun x h v n1 hs q => ?_)
            obtain ⟨rfl, P1, G1, ω1, hp, cq, q⟩ := q
            have cs := cs.tr cq
            show B_R _ _ (59, [(0, .ref pl), (1, .int (Zi i)), (2, .int (Zi li))], []) _ _ _
            refine Z_go (f2 := (100, [(0, .ref pl), (1, .int (Zi i)), (2, .int (Zi li))], [])) (fun _ => rfl) ?_
            refine Z_ret rfl rfl ⟨_, hs, ?_⟩
            try dsimp only
            exact ⟨rfl, P1, G1, ω1, hp, cs, q⟩
          · refine Z_swk (f2 := (62, [(0, .ref pl), (1, .int (Zi i)), (2, .int (Zi li))], [])) y2 (fun _ => rfl) ?_
            exfalso; omega
          · refine Z_swk (f2 := (71, [(0, .ref pl), (1, .int (Zi i)), (2, .int (Zi li))], [])) y2 (fun _ => rfl) ?_
            exfalso; omega
          · refine Z_tswd rfl (by first | exact hs.zF _ _ | exact Zor_r _ _ | exact hs.zA _ _ | assumption | exact zA _ _ | exact zS _ | exact Zr_not (hs.zA _ _) | exact hs.1.1 _ _ | exact ⟨by omega, by omega⟩) y2 (by rfl) ?_
            show B_R _ _ (91, [(0, .ref pl), (1, .int (Zi i)), (2, .int (Zi li))], []) _ _ _
            exfalso; omega
        · exfalso; omega
      · obtain rfl : k = 2 := by omega
        rw [if_pos rfl] at hdep
        obtain ⟨r1, r2, hn⟩ := hn
        rw [if_neg (by omega), if_neg (by omega)] at hn
        obtain ⟨e, a1, a2, qq, L, rfl, ⟨c1, c2, c3⟩, a5⟩ := hn
        rw [show d + 2 * (dd + 1) + 9 = d + 2 * dd + 10 + 1 by omega]
        have hk : T_g τ 0 i = 0 := by rw [tg]; exact a1
        have zk : Zr (T_g τ 0 i) := ⟨by omega, by omega⟩
        refine C_enter (M := E_m60) rfl (Nat.le_of_ble_eq_true rfl) (fun h0 h hs => ?_)
        show B_R (d + 2 * dd + 10) _ (0, [(0, .ref pl), (1, .int (Zi i)), (2, .int (Zi li))], []) _ _ _
        refine Z_go (f2 := (1, [(0, .ref pl), (1, .int (Zi i)), (2, .int (Zi li))], [.int (Zi li)])) (fun _ => rfl) ?_
        refine Z_go (f2 := (3, [(0, .ref pl), (1, .int (Zi i)), (2, .int (Zi li))], [.int (Zi 38), .int (Zi li)])) (fun _ => rfl) ?_
        refine Z_clt rfl rfl (by first | exact hs.zF _ _ | exact Zor_r _ _ | exact hs.zA _ _ | assumption | exact zA _ _ | exact zS _ | exact Zr_not (hs.zA _ _) | exact hs.1.1 _ _ | exact ⟨by omega, by omega⟩) (by first | exact hs.zF _ _ | exact Zor_r _ _ | exact hs.zA _ _ | assumption | exact zA _ _ | exact zS _ | exact Zr_not (hs.zA _ _) | exact hs.1.1 _ _ | exact ⟨by omega, by omega⟩) (fun y1 => ?_) (fun y1 => ?_)
        · refine Z_go (f2 := (8, [(0, .ref pl), (1, .int (Zi i)), (2, .int (Zi li))], [.ref pl])) (fun _ => rfl) ?_
          refine C_gr rfl hs hp.1.1.1 (by decide) (Nat.le_of_ble_eq_true rfl) rfl hp.1.1.2.2.1 ?_
          refine Z_go (f2 := (12, [(0, .ref pl), (1, .int (Zi i)), (2, .int (Zi li))], [.int (Zi i), .ref tr])) (fun _ => rfl) ?_
          refine C_callVR (As := [.int (Zi i)]) (rest := []) rfl (by decide) rfl (by decide) rfl rfl (by decide +kernel) (Nat.le_of_ble_eq_true rfl) hs htr.1.1 (C_t0 _ htr (i := i) (by assumption)) (fun x q => ?_)
          obtain rfl := q
          show B_R _ _ (15, [(0, .ref pl), (1, .int (Zi i)), (2, .int (Zi li))], [.int (Zi (T_g τ 0 i))]) _ _ _
          rcases (by omega : T_g τ 0 i = 0 ∨ T_g τ 0 i = 1 ∨ T_g τ 0 i = 2 ∨ T_g τ 0 i = 3 ∨ (T_g τ 0 i < 0 ∨ 3 < T_g τ 0 i)) with y2 | y2 | y2 | y2 | y2
          · refine Z_swk (f2 := (44, [(0, .ref pl), (1, .int (Zi i)), (2, .int (Zi li))], [])) y2 (fun _ => rfl) ?_
            refine Z_go (f2 := (45, [(0, .ref pl), (1, .int (Zi i)), (2, .int (Zi li))], [.ref pl])) (fun _ => rfl) ?_
            refine Z_go (f2 := (46, [(0, .ref pl), (1, .int (Zi i)), (2, .int (Zi li))], [.int (Zi i), .ref pl])) (fun _ => rfl) ?_
            refine Z_go (f2 := (47, [(0, .ref pl), (1, .int (Zi i)), (2, .int (Zi li))], [.int (Zi li), .int (Zi i), .ref pl])) (fun _ => rfl) ?_
            refine C_callV (As := [.int (Zi i), .int (Zi li)]) (rest := []) rfl (by decide) rfl (by decide) rfl rfl (by decide +kernel) (Nat.le_of_ble_eq_true rfl) hs hp.1.1.1 (C_walt (d + 2 * dd) hp hB B0 B1 htr np hn0 (q0 := qq) (L := L) (lo := lo) (hi := hi) a5 c3 l0 h1 hby (by omega) el zi ((tg 1).trans c1)) (fun x h v n1 hs q => ?_)
            obtain ⟨rfl, P1, G1, ω1, hp, cq, q⟩ := q
            have cs := cs.tr cq
            show B_R _ _ (50, [(0, .ref pl), (1, .int (Zi i)), (2, .int (Zi li))], []) _ _ _
            refine Z_go (f2 := (100, [(0, .ref pl), (1, .int (Zi i)), (2, .int (Zi li))], [])) (fun _ => rfl) ?_
            refine Z_ret rfl rfl ⟨_, hs, ?_⟩
            try dsimp only
            exact ⟨rfl, P1, G1, ω1, hp, cs, q⟩
          · refine Z_swk (f2 := (53, [(0, .ref pl), (1, .int (Zi i)), (2, .int (Zi li))], [])) y2 (fun _ => rfl) ?_
            exfalso; omega
          · refine Z_swk (f2 := (62, [(0, .ref pl), (1, .int (Zi i)), (2, .int (Zi li))], [])) y2 (fun _ => rfl) ?_
            exfalso; omega
          · refine Z_swk (f2 := (71, [(0, .ref pl), (1, .int (Zi i)), (2, .int (Zi li))], [])) y2 (fun _ => rfl) ?_
            exfalso; omega
          · refine Z_tswd rfl (by first | exact hs.zF _ _ | exact Zor_r _ _ | exact hs.zA _ _ | assumption | exact zA _ _ | exact zS _ | exact Zr_not (hs.zA _ _) | exact hs.1.1 _ _ | exact ⟨by omega, by omega⟩) y2 (by rfl) ?_
            show B_R _ _ (91, [(0, .ref pl), (1, .int (Zi i)), (2, .int (Zi li))], []) _ _ _
            exfalso; omega
        · exfalso; omega
