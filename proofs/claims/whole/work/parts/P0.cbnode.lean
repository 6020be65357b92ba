/-! the class: Machine: what is built: a node; all of it -/
theorem C_bnode : ∀ (dd d : Nat), M_BN (d + 2 * dd + 3) dd := by
  intro dd
  induction dd with
  | zero => intro d s p o A tr p2 A2 m2 sm τ β k lo hi i t r dep hx hn; exact False.elim hn
  | succ dd ih =>
    intro d s p o A tr p2 A2 m2 sm τ β k lo hi i t r dep hx hn l0 h1 zr hsz dep0 hdep k2
    have his := N_is.is _ _ _ _ _ _ hn
    have szp := T_sz_pos his
    have hgs := N_is.gs hn l0 h1
    have h50 := hx.2.2.2.2
    rw [show T_mn (T_sz t) = T_sz t by unfold T_mn; rw [if_neg (by omega)]] at hgs
    have hd36 : dep ≤ 36 := by
      have : 4 * dep + 3 * ((dd : Int) + 1) ≤ 147 := by
        rw [show ((dd + 1 : Nat) : Int) = (dd : Int) + 1 by omega] at hdep
        split at hdep
        · omega
        · split at hdep
          · omega
          · split at hdep <;> omega
      omega
    have hB : M_BN (d + 2 * dd + 1 + 2) dd := ih d
    have zdep : Zr dep := ⟨by omega, by omega⟩
    have e0 := hx.2.1
    have htr := hx.2.2.1
    have nr := N_is.r hn
    have zi : Zr i := ⟨by omega, by omega⟩
    have tg : ∀ f, T_g τ f i = τ f i := fun f => by unfold T_g; rw [if_pos (by omega)]
    have hd3 : ((dd + 1 : Nat) : Int) = (dd : Int) + 1 := by omega
    rw [hd3] at hdep
    by_cases k0 : k = 0
    · subst k0
      rw [if_neg (by omega), if_neg (by omega)] at hdep
      obtain ⟨r1, r2, hn⟩ := hn
      rw [if_pos rfl] at hn
      rcases hn with ⟨At, a1, rfl, a3, a4⟩ | ⟨u, op, l, hh, a1, rfl, a3, a33, a4, a5, a6, a7⟩ | hn
      · rw [T_sz_atm a1] at *
        rw [show d + 2 * (dd + 1) + 3 = d + 2 * dd + 1 + 4 by omega]
        have hk : 3 ≤ T_g τ 0 i ∧ T_g τ 0 i ≤ 6 := by
          rw [tg]
          cases At with
          | inl z =>
            have a1 : z = 2 ∨ z = 3 ∨ z = 4 := a1
            have a3 : τ 0 i = z + 2 := a3
            omega
          | inr B => have := a3.1; omega
        have zk : Zr (T_g τ 0 i) := ⟨by omega, by omega⟩
        refine C_enter (M := E_m18) rfl (Nat.le_of_ble_eq_true rfl) (fun h0 h hs => ?_)
        show B_R (d + 2 * dd + 1 + 3) _ (0, [(0, .ref o), (1, .int (Zi i)), (2, .int (Zi r)), (3, .int (Zi dep))], []) _ _ _
        have ok := hx.1.1
        have hsx := hs
        refine Z_go (f2 := (1, [(0, .ref o), (1, .int (Zi i)), (2, .int (Zi r)), (3, .int (Zi dep))], [.int (Zi dep)])) (fun _ => rfl) ?_
        refine Z_go (f2 := (3, [(0, .ref o), (1, .int (Zi i)), (2, .int (Zi r)), (3, .int (Zi dep))], [.int (Zi 38), .int (Zi dep)])) (fun _ => rfl) ?_
        refine Z_cgt rfl rfl (by first | exact hs.zF _ _ | exact Zor_r _ _ | exact hs.zA _ _ | assumption | exact zA _ _ | exact zS _ | exact Zr_not (hs.zA _ _) | exact hs.1.1 _ _ | exact ⟨by omega, by omega⟩) (by first | exact hs.zF _ _ | exact Zor_r _ _ | exact hs.zA _ _ | assumption | exact zA _ _ | exact zS _ | exact Zr_not (hs.zA _ _) | exact hs.1.1 _ _ | exact ⟨by omega, by omega⟩) (fun y1 => ?_) (fun y1 => ?_)
        · exfalso; omega
        · refine Z_go (f2 := (7, [(0, .ref o), (1, .int (Zi i)), (2, .int (Zi r)), (3, .int (Zi dep))], [.ref o])) (fun _ => rfl) ?_
          refine C_gr rfl hs ok (by decide) (Nat.le_of_ble_eq_true rfl) rfl e0 ?_
          refine Z_go (f2 := (11, [(0, .ref o), (1, .int (Zi i)), (2, .int (Zi r)), (3, .int (Zi dep))], [.int (Zi i), .ref tr])) (fun _ => rfl) ?_
          refine C_callVR (As := [.int (Zi i)]) (rest := []) rfl (by decide) rfl (by decide) rfl rfl (by decide +kernel) (Nat.le_of_ble_eq_true rfl) hs htr.1.1 (C_t8 _ htr (i := i) (by first | exact hs.zF _ _ | exact Zor_r _ _ | exact hs.zA _ _ | assumption | exact zA _ _ | exact zS _ | exact Zr_not (hs.zA _ _) | exact hs.1.1 _ _ | exact ⟨by omega, by omega⟩)) (fun x q => ?_)
          obtain rfl := q
          show B_R _ _ (14, [(0, .ref o), (1, .int (Zi i)), (2, .int (Zi r)), (3, .int (Zi dep))], [.int (Zi (T_gs τ i))]) _ _ _
          refine Z_ine rfl rfl (by first | exact hs.zF _ _ | exact Zor_r _ _ | exact hs.zA _ _ | assumption | exact zA _ _ | exact zS _ | exact Zr_not (hs.zA _ _) | exact hs.1.1 _ _ | exact ⟨by omega, by omega⟩) (fun y2 => ?_) (fun y2 => ?_)
          · refine Z_go (f2 := (20, [(0, .ref o), (1, .int (Zi i)), (2, .int (Zi r)), (3, .int (Zi dep))], [.ref o])) (fun _ => rfl) ?_
            refine C_gr rfl hs ok (by decide) (Nat.le_of_ble_eq_true rfl) rfl e0 ?_
            refine Z_go (f2 := (24, [(0, .ref o), (1, .int (Zi i)), (2, .int (Zi r)), (3, .int (Zi dep))], [.int (Zi i), .ref tr])) (fun _ => rfl) ?_
            refine C_callVR (As := [.int (Zi i)]) (rest := []) rfl (by decide) rfl (by decide) rfl rfl (by decide +kernel) (Nat.le_of_ble_eq_true rfl) hs htr.1.1 (C_t0 _ htr (i := i) (by first | exact hs.zF _ _ | exact Zor_r _ _ | exact hs.zA _ _ | assumption | exact zA _ _ | exact zS _ | exact Zr_not (hs.zA _ _) | exact hs.1.1 _ _ | exact ⟨by omega, by omega⟩)) (fun x q => ?_)
            obtain rfl := q
            show B_R _ _ (27, [(0, .ref o), (1, .int (Zi i)), (2, .int (Zi r)), (3, .int (Zi dep))], [.int (Zi (T_g τ 0 i))]) _ _ _
            rcases (by omega : T_g τ 0 i = 0 ∨ T_g τ 0 i = 1 ∨ T_g τ 0 i = 2 ∨ (T_g τ 0 i < 0 ∨ 2 < T_g τ 0 i)) with y3 | y3 | y3 | y3
            · refine Z_swk (f2 := (52, [(0, .ref o), (1, .int (Zi i)), (2, .int (Zi r)), (3, .int (Zi dep))], [])) y3 (fun _ => rfl) ?_
              exfalso; omega
            · refine Z_swk (f2 := (60, [(0, .ref o), (1, .int (Zi i)), (2, .int (Zi r)), (3, .int (Zi dep))], [])) y3 (fun _ => rfl) ?_
              exfalso; omega
            · refine Z_swk (f2 := (68, [(0, .ref o), (1, .int (Zi i)), (2, .int (Zi r)), (3, .int (Zi dep))], [])) y3 (fun _ => rfl) ?_
              exfalso; omega
            · refine Z_tswd rfl (by first | exact hs.zF _ _ | exact Zor_r _ _ | exact hs.zA _ _ | assumption | exact zA _ _ | exact zS _ | exact Zr_not (hs.zA _ _) | exact hs.1.1 _ _ | exact ⟨by omega, by omega⟩) y3 (by rfl) ?_
              show B_R _ _ (76, [(0, .ref o), (1, .int (Zi i)), (2, .int (Zi r)), (3, .int (Zi dep))], []) _ _ _
              refine Z_go (f2 := (77, [(0, .ref o), (1, .int (Zi i)), (2, .int (Zi r)), (3, .int (Zi dep))], [.ref o])) (fun _ => rfl) ?_
              refine Z_go (f2 := (78, [(0, .ref o), (1, .int (Zi i)), (2, .int (Zi r)), (3, .int (Zi dep))], [.ref o, .ref o])) (fun _ => rfl) ?_
              refine C_gr rfl hs ok (by decide) (Nat.le_of_ble_eq_true rfl) rfl e0 ?_
              refine Z_go (f2 := (82, [(0, .ref o), (1, .int (Zi i)), (2, .int (Zi r)), (3, .int (Zi dep))], [.int (Zi i), .ref tr, .ref o])) (fun _ => rfl) ?_
              refine C_callVR (As := [.int (Zi i)]) (rest := [.ref o]) rfl (by decide) rfl (by decide) rfl rfl (by decide +kernel) (Nat.le_of_ble_eq_true rfl) hs htr.1.1 (C_t0 _ htr (i := i) (by first | exact hs.zF _ _ | exact Zor_r _ _ | exact hs.zA _ _ | assumption | exact zA _ _ | exact zS _ | exact Zr_not (hs.zA _ _) | exact hs.1.1 _ _ | exact ⟨by omega, by omega⟩)) (fun x q => ?_)
              obtain rfl := q
              show B_R _ _ (85, [(0, .ref o), (1, .int (Zi i)), (2, .int (Zi r)), (3, .int (Zi dep))], [.int (Zi (T_g τ 0 i)), .ref o]) _ _ _
              refine Z_go (f2 := (86, [(0, .ref o), (1, .int (Zi i)), (2, .int (Zi r)), (3, .int (Zi dep))], [.int (Zi r), .int (Zi (T_g τ 0 i)), .ref o])) (fun _ => rfl) ?_
              refine Z_go (f2 := (87, [(0, .ref o), (1, .int (Zi i)), (2, .int (Zi r)), (3, .int (Zi dep))], [.int (Zi (-1)), .int (Zi r), .int (Zi (T_g τ 0 i)), .ref o])) (fun _ => rfl) ?_
              refine Z_go (f2 := (88, [(0, .ref o), (1, .int (Zi i)), (2, .int (Zi r)), (3, .int (Zi dep))], [.ref o, .int (Zi (-1)), .int (Zi r), .int (Zi (T_g τ 0 i)), .ref o])) (fun _ => rfl) ?_
              refine C_gr rfl hs ok (by decide) (Nat.le_of_ble_eq_true rfl) rfl e0 ?_
              refine Z_go (f2 := (92, [(0, .ref o), (1, .int (Zi i)), (2, .int (Zi r)), (3, .int (Zi dep))], [.int (Zi i), .ref tr, .int (Zi (-1)), .int (Zi r), .int (Zi (T_g τ 0 i)), .ref o])) (fun _ => rfl) ?_
              refine C_callVR (As := [.int (Zi i)]) (rest := [.int (Zi (-1)), .int (Zi r), .int (Zi (T_g τ 0 i)), .ref o]) rfl (by decide) rfl (by decide) rfl rfl (by decide +kernel) (Nat.le_of_ble_eq_true rfl) hs htr.1.1 (C_t7 _ htr (i := i) (by first | exact hs.zF _ _ | exact Zor_r _ _ | exact hs.zA _ _ | assumption | exact zA _ _ | exact zS _ | exact Zr_not (hs.zA _ _) | exact hs.1.1 _ _ | exact ⟨by omega, by omega⟩)) (fun x q => ?_)
              obtain rfl := q
              show B_R _ _ (95, [(0, .ref o), (1, .int (Zi i)), (2, .int (Zi r)), (3, .int (Zi dep))], [.int (Zi (T_g τ 7 i)), .int (Zi (-1)), .int (Zi r), .int (Zi (T_g τ 0 i)), .ref o]) _ _ _
              refine C_callV (As := [.int (Zi (T_g τ 0 i)), .int (Zi r), .int (Zi (-1)), .int (Zi (T_g τ 7 i))]) (rest := []) rfl (by decide) rfl (by decide) rfl rfl (by decide +kernel) (Nat.le_of_ble_eq_true rfl) hs ok (C_nst _ hx.1 h50 (by omega) (a := T_g τ 0 i) (b := r) (c := -1) (e := T_g τ 7 i) zk zr ⟨by omega, by omega⟩ (T_g_zr hs htr (by omega) i)) (fun x h v n1 hs q => ?_)
              obtain ⟨rfl, rfl, fb1, f51, nw⟩ := q
              show B_R _ _ (98, [(0, .ref o), (1, .int (Zi i)), (2, .int (Zi r)), (3, .int (Zi dep))], [.int (Zi (C_F s o 5))]) _ _ _
              refine Z_iret rfl rfl (by first | rfl | decide | exact narrow_b01 (by omega)) ⟨_, hs, ?_⟩
              try dsimp only
              refine ⟨rfl, _, hsx.1.1 o 5, rfl, fb1, by omega, ?_⟩
              rw [f51]
              have hb := M_bl.atm (H := T_has β) (sm := sm) (At := At) (a := 0) a1 nw (by
                rw [tg, tg]
                cases At with
                | inl z => exact a3
                | inr B => exact ⟨a3.1, ⟨a3.2.1, a3.2.2.1⟩, a3.2.2.2⟩)
              exact hb.same (fun W n i j => by rw [M_of_atm a1])
          · refine Z_go (f2 := (18, [(0, .ref o), (1, .int (Zi i)), (2, .int (Zi r)), (3, .int (Zi dep))], [.int (Zi r)])) (fun _ => rfl) ?_
            refine Z_iret rfl rfl (by first | rfl | decide | exact narrow_b01 (by omega)) ⟨_, hs, ?_⟩
            try dsimp only
            exact ⟨rfl, r, zr, rfl, M_fb.refl hx.1, by omega, M_bl.id.same (fun W n i j => (M_of_0 his (by omega) i j).symm)⟩
      · rw [show d + 2 * (dd + 1) + 3 = d + 2 * dd + 1 + 4 by omega]
        rw [if_pos a3] at hdep
        have hk : T_g τ 0 i = 2 := by rw [tg]; exact a3
        have hti := N_is.is _ _ _ _ _ _ a7
        refine C_enter (M := E_m18) rfl (Nat.le_of_ble_eq_true rfl) (fun h0 h hs => ?_)
        show B_R (d + 2 * dd + 1 + 3) _ (0, [(0, .ref o), (1, .int (Zi i)), (2, .int (Zi r)), (3, .int (Zi dep))], []) _ _ _
        have ok := hx.1.1
        refine Z_go (f2 := (1, [(0, .ref o), (1, .int (Zi i)), (2, .int (Zi r)), (3, .int (Zi dep))], [.int (Zi dep)])) (fun _ => rfl) ?_
        refine Z_go (f2 := (3, [(0, .ref o), (1, .int (Zi i)), (2, .int (Zi r)), (3, .int (Zi dep))], [.int (Zi 38), .int (Zi dep)])) (fun _ => rfl) ?_
        refine Z_cgt rfl rfl (by first | exact hs.zF _ _ | exact Zor_r _ _ | exact hs.zA _ _ | assumption | exact zA _ _ | exact zS _ | exact Zr_not (hs.zA _ _) | exact hs.1.1 _ _ | exact ⟨by omega, by omega⟩) (by first | exact hs.zF _ _ | exact Zor_r _ _ | exact hs.zA _ _ | assumption | exact zA _ _ | exact zS _ | exact Zr_not (hs.zA _ _) | exact hs.1.1 _ _ | exact ⟨by omega, by omega⟩) (fun y1 => ?_) (fun y1 => ?_)
        · exfalso; omega
        · refine Z_go (f2 := (7, [(0, .ref o), (1, .int (Zi i)), (2, .int (Zi r)), (3, .int (Zi dep))], [.ref o])) (fun _ => rfl) ?_
          refine C_gr rfl hs ok (by decide) (Nat.le_of_ble_eq_true rfl) rfl e0 ?_
          refine Z_go (f2 := (11, [(0, .ref o), (1, .int (Zi i)), (2, .int (Zi r)), (3, .int (Zi dep))], [.int (Zi i), .ref tr])) (fun _ => rfl) ?_
          refine C_callVR (As := [.int (Zi i)]) (rest := []) rfl (by decide) rfl (by decide) rfl rfl (by decide +kernel) (Nat.le_of_ble_eq_true rfl) hs htr.1.1 (C_t8 _ htr (i := i) (by first | exact hs.zF _ _ | exact Zor_r _ _ | exact hs.zA _ _ | assumption | exact zA _ _ | exact zS _ | exact Zr_not (hs.zA _ _) | exact hs.1.1 _ _ | exact ⟨by omega, by omega⟩)) (fun x q => ?_)
          obtain rfl := q
          show B_R _ _ (14, [(0, .ref o), (1, .int (Zi i)), (2, .int (Zi r)), (3, .int (Zi dep))], [.int (Zi (T_gs τ i))]) _ _ _
          refine Z_ine rfl rfl (by first | exact hs.zF _ _ | exact Zor_r _ _ | exact hs.zA _ _ | assumption | exact zA _ _ | exact zS _ | exact Zr_not (hs.zA _ _) | exact hs.1.1 _ _ | exact ⟨by omega, by omega⟩) (fun y2 => ?_) (fun y2 => ?_)
          · refine Z_go (f2 := (20, [(0, .ref o), (1, .int (Zi i)), (2, .int (Zi r)), (3, .int (Zi dep))], [.ref o])) (fun _ => rfl) ?_
            refine C_gr rfl hs ok (by decide) (Nat.le_of_ble_eq_true rfl) rfl e0 ?_
            refine Z_go (f2 := (24, [(0, .ref o), (1, .int (Zi i)), (2, .int (Zi r)), (3, .int (Zi dep))], [.int (Zi i), .ref tr])) (fun _ => rfl) ?_
            refine C_callVR (As := [.int (Zi i)]) (rest := []) rfl (by decide) rfl (by decide) rfl rfl (by decide +kernel) (Nat.le_of_ble_eq_true rfl) hs htr.1.1 (C_t0 _ htr (i := i) (by first | exact hs.zF _ _ | exact Zor_r _ _ | exact hs.zA _ _ | assumption | exact zA _ _ | exact zS _ | exact Zr_not (hs.zA _ _) | exact hs.1.1 _ _ | exact ⟨by omega, by omega⟩)) (fun x q => ?_)
            obtain rfl := q
            show B_R _ _ (27, [(0, .ref o), (1, .int (Zi i)), (2, .int (Zi r)), (3, .int (Zi dep))], [.int (Zi (T_g τ 0 i))]) _ _ _
            rcases (by omega : T_g τ 0 i = 0 ∨ T_g τ 0 i = 1 ∨ T_g τ 0 i = 2 ∨ (T_g τ 0 i < 0 ∨ 2 < T_g τ 0 i)) with y3 | y3 | y3 | y3
            · refine Z_swk (f2 := (52, [(0, .ref o), (1, .int (Zi i)), (2, .int (Zi r)), (3, .int (Zi dep))], [])) y3 (fun _ => rfl) ?_
              exfalso; omega
            · refine Z_swk (f2 := (60, [(0, .ref o), (1, .int (Zi i)), (2, .int (Zi r)), (3, .int (Zi dep))], [])) y3 (fun _ => rfl) ?_
              exfalso; omega
            · refine Z_swk (f2 := (68, [(0, .ref o), (1, .int (Zi i)), (2, .int (Zi r)), (3, .int (Zi dep))], [])) y3 (fun _ => rfl) ?_
              refine Z_go (f2 := (69, [(0, .ref o), (1, .int (Zi i)), (2, .int (Zi r)), (3, .int (Zi dep))], [.ref o])) (fun _ => rfl) ?_
              refine Z_go (f2 := (70, [(0, .ref o), (1, .int (Zi i)), (2, .int (Zi r)), (3, .int (Zi dep))], [.int (Zi i), .ref o])) (fun _ => rfl) ?_
              refine Z_go (f2 := (71, [(0, .ref o), (1, .int (Zi i)), (2, .int (Zi r)), (3, .int (Zi dep))], [.int (Zi r), .int (Zi i), .ref o])) (fun _ => rfl) ?_
              refine Z_go (f2 := (72, [(0, .ref o), (1, .int (Zi i)), (2, .int (Zi r)), (3, .int (Zi dep))], [.int (Zi dep), .int (Zi r), .int (Zi i), .ref o])) (fun _ => rfl) ?_
              refine C_callV (As := [.int (Zi i), .int (Zi r), .int (Zi dep)]) (rest := []) rfl (by decide) rfl (by decide) rfl rfl (by decide +kernel) (Nat.le_of_ble_eq_true rfl) hs ok (C_brep (d + 2 * dd + 1) hB hx (x9 := τ 1 i) a7 (by omega) (by omega) a33 zr dep0 (by omega) zi a1 (tg 1) ((tg 5).trans a4) ((tg 6).trans a5) (B := T_sz (T_cnt u op l hh)) (T_sz_cnt a1 hti) hsz) (fun x h v n1 hs q => ?_)
              obtain ⟨rfl, q1, zq1, rfl, fb1, f51, bl1⟩ := q
              show B_R _ _ (75, [(0, .ref o), (1, .int (Zi i)), (2, .int (Zi r)), (3, .int (Zi dep))], [.int (Zi q1)]) _ _ _
              refine Z_iret rfl rfl (by first | rfl | decide | exact narrow_b01 (by omega)) ⟨_, hs, ?_⟩
              try dsimp only
              exact ⟨rfl, q1, zq1, rfl, fb1, f51, bl1.same (fun W n i j => by rw [M_of_cnt a1 hti])⟩
            · refine Z_tswd rfl (by first | exact hs.zF _ _ | exact Zor_r _ _ | exact hs.zA _ _ | assumption | exact zA _ _ | exact zS _ | exact Zr_not (hs.zA _ _) | exact hs.1.1 _ _ | exact ⟨by omega, by omega⟩) y3 (by rfl) ?_
              show B_R _ _ (76, [(0, .ref o), (1, .int (Zi i)), (2, .int (Zi r)), (3, .int (Zi dep))], []) _ _ _
              exfalso; omega
          · refine Z_go (f2 := (18, [(0, .ref o), (1, .int (Zi i)), (2, .int (Zi r)), (3, .int (Zi dep))], [.int (Zi r)])) (fun _ => rfl) ?_
            refine Z_iret rfl rfl (by first | rfl | decide | exact narrow_b01 (by omega)) ⟨_, hs, ?_⟩
            try dsimp only
            exact ⟨rfl, r, zr, rfl, M_fb.refl hx.1, by omega, M_bl.id.same (fun W n i j => (M_of_0 his (by omega) i j).symm)⟩
      · have h0 := N_is.k2 hn
        rw [if_neg (by omega)] at hdep
        have := ih (d + 2) s p o A tr p2 A2 m2 sm τ β 2 lo hi i t r dep hx hn l0 h1 zr hsz dep0 (by rw [if_pos rfl]; omega) (by omega)
        rw [show d + 2 + 2 * dd + 3 = d + 2 * (dd + 1) + 3 by omega] at this
        exact this
    · by_cases k1 : k = 1
      · subst k1
        rw [if_neg (by omega), if_pos rfl] at hdep
        obtain ⟨r1, r2, hn⟩ := hn
        rw [if_neg (by omega), if_pos rfl] at hn
        obtain ⟨e, a1, a2, L, rfl, ⟨c1, c2, c3⟩, a5⟩ := hn
        rw [show d + 2 * (dd + 1) + 3 = d + 2 * dd + 1 + 4 by omega]
        have hk : T_g τ 0 i = 1 := by rw [tg]; exact a1
        have hall := N_seq.all (Z := T_is) (fun a b x t h => N_is.is _ _ _ _ _ _ h) a5
        have hsz2 : T_sz (N_beh L) = 0 + T_szs L := N_beh_sz L T_emp T_is.emp hall
        refine C_enter (M := E_m18) rfl (Nat.le_of_ble_eq_true rfl) (fun h0 h hs => ?_)
        show B_R (d + 2 * dd + 1 + 3) _ (0, [(0, .ref o), (1, .int (Zi i)), (2, .int (Zi r)), (3, .int (Zi dep))], []) _ _ _
        have ok := hx.1.1
        refine Z_go (f2 := (1, [(0, .ref o), (1, .int (Zi i)), (2, .int (Zi r)), (3, .int (Zi dep))], [.int (Zi dep)])) (fun _ => rfl) ?_
        refine Z_go (f2 := (3, [(0, .ref o), (1, .int (Zi i)), (2, .int (Zi r)), (3, .int (Zi dep))], [.int (Zi 38), .int (Zi dep)])) (fun _ => rfl) ?_
        refine Z_cgt rfl rfl (by first | exact hs.zF _ _ | exact Zor_r _ _ | exact hs.zA _ _ | assumption | exact zA _ _ | exact zS _ | exact Zr_not (hs.zA _ _) | exact hs.1.1 _ _ | exact ⟨by omega, by omega⟩) (by first | exact hs.zF _ _ | exact Zor_r _ _ | exact hs.zA _ _ | assumption | exact zA _ _ | exact zS _ | exact Zr_not (hs.zA _ _) | exact hs.1.1 _ _ | exact ⟨by omega, by omega⟩) (fun y1 => ?_) (fun y1 => ?_)
        · exfalso; omega
        · refine Z_go (f2 := (7, [(0, .ref o), (1, .int (Zi i)), (2, .int (Zi r)), (3, .int (Zi dep))], [.ref o])) (fun _ => rfl) ?_
          refine C_gr rfl hs ok (by decide) (Nat.le_of_ble_eq_true rfl) rfl e0 ?_
          refine Z_go (f2 := (11, [(0, .ref o), (1, .int (Zi i)), (2, .int (Zi r)), (3, .int (Zi dep))], [.int (Zi i), .ref tr])) (fun _ => rfl) ?_
          refine C_callVR (As := [.int (Zi i)]) (rest := []) rfl (by decide) rfl (by decide) rfl rfl (by decide +kernel) (Nat.le_of_ble_eq_true rfl) hs htr.1.1 (C_t8 _ htr (i := i) (by first | exact hs.zF _ _ | exact Zor_r _ _ | exact hs.zA _ _ | assumption | exact zA _ _ | exact zS _ | exact Zr_not (hs.zA _ _) | exact hs.1.1 _ _ | exact ⟨by omega, by omega⟩)) (fun x q => ?_)
          obtain rfl := q
          show B_R _ _ (14, [(0, .ref o), (1, .int (Zi i)), (2, .int (Zi r)), (3, .int (Zi dep))], [.int (Zi (T_gs τ i))]) _ _ _
          refine Z_ine rfl rfl (by first | exact hs.zF _ _ | exact Zor_r _ _ | exact hs.zA _ _ | assumption | exact zA _ _ | exact zS _ | exact Zr_not (hs.zA _ _) | exact hs.1.1 _ _ | exact ⟨by omega, by omega⟩) (fun y2 => ?_) (fun y2 => ?_)
          · refine Z_go (f2 := (20, [(0, .ref o), (1, .int (Zi i)), (2, .int (Zi r)), (3, .int (Zi dep))], [.ref o])) (fun _ => rfl) ?_
            refine C_gr rfl hs ok (by decide) (Nat.le_of_ble_eq_true rfl) rfl e0 ?_
            refine Z_go (f2 := (24, [(0, .ref o), (1, .int (Zi i)), (2, .int (Zi r)), (3, .int (Zi dep))], [.int (Zi i), .ref tr])) (fun _ => rfl) ?_
            refine C_callVR (As := [.int (Zi i)]) (rest := []) rfl (by decide) rfl (by decide) rfl rfl (by decide +kernel) (Nat.le_of_ble_eq_true rfl) hs htr.1.1 (C_t0 _ htr (i := i) (by first | exact hs.zF _ _ | exact Zor_r _ _ | exact hs.zA _ _ | assumption | exact zA _ _ | exact zS _ | exact Zr_not (hs.zA _ _) | exact hs.1.1 _ _ | exact ⟨by omega, by omega⟩)) (fun x q => ?_)
            obtain rfl := q
            show B_R _ _ (27, [(0, .ref o), (1, .int (Zi i)), (2, .int (Zi r)), (3, .int (Zi dep))], [.int (Zi (T_g τ 0 i))]) _ _ _
            rcases (by omega : T_g τ 0 i = 0 ∨ T_g τ 0 i = 1 ∨ T_g τ 0 i = 2 ∨ (T_g τ 0 i < 0 ∨ 2 < T_g τ 0 i)) with y3 | y3 | y3 | y3
            · refine Z_swk (f2 := (52, [(0, .ref o), (1, .int (Zi i)), (2, .int (Zi r)), (3, .int (Zi dep))], [])) y3 (fun _ => rfl) ?_
              exfalso; omega
            · refine Z_swk (f2 := (60, [(0, .ref o), (1, .int (Zi i)), (2, .int (Zi r)), (3, .int (Zi dep))], [])) y3 (fun _ => rfl) ?_
              refine Z_go (f2 := (61, [(0, .ref o), (1, .int (Zi i)), (2, .int (Zi r)), (3, .int (Zi dep))], [.ref o])) (fun _ => rfl) ?_
              refine Z_go (f2 := (62, [(0, .ref o), (1, .int (Zi i)), (2, .int (Zi r)), (3, .int (Zi dep))], [.int (Zi i), .ref o])) (fun _ => rfl) ?_
              refine Z_go (f2 := (63, [(0, .ref o), (1, .int (Zi i)), (2, .int (Zi r)), (3, .int (Zi dep))], [.int (Zi r), .int (Zi i), .ref o])) (fun _ => rfl) ?_
              refine Z_go (f2 := (64, [(0, .ref o), (1, .int (Zi i)), (2, .int (Zi r)), (3, .int (Zi dep))], [.int (Zi dep), .int (Zi r), .int (Zi i), .ref o])) (fun _ => rfl) ?_
              refine C_callV (As := [.int (Zi i), .int (Zi r), .int (Zi dep)]) (rest := []) rfl (by decide) rfl (by decide) rfl rfl (by decide +kernel) (Nat.le_of_ble_eq_true rfl) hs ok (C_bcat (d + 2 * dd + 1) hB hx (L := L) (lo := lo) (hi := hi) ((tg 2).trans c2) zi a5 c3 l0 h1 zr (by omega) dep0 (by omega)) (fun x h v n1 hs q => ?_)
              obtain ⟨rfl, q1, zq1, rfl, fb1, f51, bl1⟩ := q
              show B_R _ _ (67, [(0, .ref o), (1, .int (Zi i)), (2, .int (Zi r)), (3, .int (Zi dep))], [.int (Zi q1)]) _ _ _
              refine Z_iret rfl rfl (by first | rfl | decide | exact narrow_b01 (by omega)) ⟨_, hs, ?_⟩
              try dsimp only
              refine ⟨rfl, q1, zq1, rfl, fb1, by omega, bl1.same (fun W n i j => ?_)⟩
              have h := (N_beh_M (W := W) (n := n) L T_emp T_is.emp hall i j).symm
              rw [M_of_emp] at h
              exact (M_id_seq (M_sl_rg L hall)).symm.trans h
            · refine Z_swk (f2 := (68, [(0, .ref o), (1, .int (Zi i)), (2, .int (Zi r)), (3, .int (Zi dep))], [])) y3 (fun _ => rfl) ?_
              exfalso; omega
            · refine Z_tswd rfl (by first | exact hs.zF _ _ | exact Zor_r _ _ | exact hs.zA _ _ | assumption | exact zA _ _ | exact zS _ | exact Zr_not (hs.zA _ _) | exact hs.1.1 _ _ | exact ⟨by omega, by omega⟩) y3 (by rfl) ?_
              show B_R _ _ (76, [(0, .ref o), (1, .int (Zi i)), (2, .int (Zi r)), (3, .int (Zi dep))], []) _ _ _
              exfalso; omega
          · refine Z_go (f2 := (18, [(0, .ref o), (1, .int (Zi i)), (2, .int (Zi r)), (3, .int (Zi dep))], [.int (Zi r)])) (fun _ => rfl) ?_
            refine Z_iret rfl rfl (by first | rfl | decide | exact narrow_b01 (by omega)) ⟨_, hs, ?_⟩
            try dsimp only
            exact ⟨rfl, r, zr, rfl, M_fb.refl hx.1, by omega, M_bl.id.same (fun W n i j => (M_of_0 his (by omega) i j).symm)⟩
      · obtain rfl : k = 2 := by omega
        rw [if_pos rfl] at hdep
        obtain ⟨r1, r2, hn⟩ := hn
        rw [if_neg (by omega), if_neg (by omega)] at hn
        obtain ⟨e, a1, a2, qq, L, rfl, ⟨c1, c2, c3⟩, a5⟩ := hn
        rw [show d + 2 * (dd + 1) + 3 = d + 2 * dd + 1 + 4 by omega]
        have hk : T_g τ 0 i = 0 := by rw [tg]; exact a1
        have hall := N_seq.all (Z := T_is) (fun a b x t h => N_is.is _ _ _ _ _ _ h) a5
        have hqq := hall qq (List.mem_cons_self ..)
        have hall2 : ∀ q ∈ L, T_is q.2 := fun q h => hall q (List.mem_cons_of_mem _ h)
        have hsz2 : T_sz (N_or qq.2 L) = T_sz qq.2 + T_szs L + L.length := N_or_sz L qq.2 hqq hall2
        have hsz3 : T_szs (qq :: L) = T_sz qq.2 + T_szs L := rfl
        have hsz4 : ((qq :: L).length : Int) = L.length + 1 := by rw [List.length_cons]; omega
        refine C_enter (M := E_m18) rfl (Nat.le_of_ble_eq_true rfl) (fun h0 h hs => ?_)
        show B_R (d + 2 * dd + 1 + 3) _ (0, [(0, .ref o), (1, .int (Zi i)), (2, .int (Zi r)), (3, .int (Zi dep))], []) _ _ _
        have ok := hx.1.1
        refine Z_go (f2 := (1, [(0, .ref o), (1, .int (Zi i)), (2, .int (Zi r)), (3, .int (Zi dep))], [.int (Zi dep)])) (fun _ => rfl) ?_
        refine Z_go (f2 := (3, [(0, .ref o), (1, .int (Zi i)), (2, .int (Zi r)), (3, .int (Zi dep))], [.int (Zi 38), .int (Zi dep)])) (fun _ => rfl) ?_
        refine Z_cgt rfl rfl (by first | exact hs.zF _ _ | exact Zor_r _ _ | exact hs.zA _ _ | assumption | exact zA _ _ | exact zS _ | exact Zr_not (hs.zA _ _) | exact hs.1.1 _ _ | exact ⟨by omega, by omega⟩) (by first | exact hs.zF _ _ | exact Zor_r _ _ | exact hs.zA _ _ | assumption | exact zA _ _ | exact zS _ | exact Zr_not (hs.zA _ _) | exact hs.1.1 _ _ | exact ⟨by omega, by omega⟩) (fun y1 => ?_) (fun y1 => ?_)
        · exfalso; omega
        · refine Z_go (f2 := (7, [(0, .ref o), (1, .int (Zi i)), (2, .int (Zi r)), (3, .int (Zi dep))], [.ref o])) (fun _ => rfl) ?_
          refine C_gr rfl hs ok (by decide) (Nat.le_of_ble_eq_true rfl) rfl e0 ?_
          refine Z_go (f2 := (11, [(0, .ref o), (1, .int (Zi i)), (2, .int (Zi r)), (3, .int (Zi dep))], [.int (Zi i), .ref tr])) (fun _ => rfl) ?_
          refine C_callVR (As := [.int (Zi i)]) (rest := []) rfl (by decide) rfl (by decide) rfl rfl (by decide +kernel) (Nat.le_of_ble_eq_true rfl) hs htr.1.1 (C_t8 _ htr (i := i) (by first | exact hs.zF _ _ | exact Zor_r _ _ | exact hs.zA _ _ | assumption | exact zA _ _ | exact zS _ | exact Zr_not (hs.zA _ _) | exact hs.1.1 _ _ | exact ⟨by omega, by omega⟩)) (fun x q => ?_)
          obtain rfl := q
          show B_R _ _ (14, [(0, .ref o), (1, .int (Zi i)), (2, .int (Zi r)), (3, .int (Zi dep))], [.int (Zi (T_gs τ i))]) _ _ _
          refine Z_ine rfl rfl (by first | exact hs.zF _ _ | exact Zor_r _ _ | exact hs.zA _ _ | assumption | exact zA _ _ | exact zS _ | exact Zr_not (hs.zA _ _) | exact hs.1.1 _ _ | exact ⟨by omega, by omega⟩) (fun y2 => ?_) (fun y2 => ?_)
          · refine Z_go (f2 := (20, [(0, .ref o), (1, .int (Zi i)), (2, .int (Zi r)), (3, .int (Zi dep))], [.ref o])) (fun _ => rfl) ?_
            refine C_gr rfl hs ok (by decide) (Nat.le_of_ble_eq_true rfl) rfl e0 ?_
            refine Z_go (f2 := (24, [(0, .ref o), (1, .int (Zi i)), (2, .int (Zi r)), (3, .int (Zi dep))], [.int (Zi i), .ref tr])) (fun _ => rfl) ?_
            refine C_callVR (As := [.int (Zi i)]) (rest := []) rfl (by decide) rfl (by decide) rfl rfl (by decide +kernel) (Nat.le_of_ble_eq_true rfl) hs htr.1.1 (C_t0 _ htr (i := i) (by first | exact hs.zF _ _ | exact Zor_r _ _ | exact hs.zA _ _ | assumption | exact zA _ _ | exact zS _ | exact Zr_not (hs.zA _ _) | exact hs.1.1 _ _ | exact ⟨by omega, by omega⟩)) (fun x q => ?_)
            obtain rfl := q
            show B_R _ _ (27, [(0, .ref o), (1, .int (Zi i)), (2, .int (Zi r)), (3, .int (Zi dep))], [.int (Zi (T_g τ 0 i))]) _ _ _
            rcases (by omega : T_g τ 0 i = 0 ∨ T_g τ 0 i = 1 ∨ T_g τ 0 i = 2 ∨ (T_g τ 0 i < 0 ∨ 2 < T_g τ 0 i)) with y3 | y3 | y3 | y3
            · refine Z_swk (f2 := (52, [(0, .ref o), (1, .int (Zi i)), (2, .int (Zi r)), (3, .int (Zi dep))], [])) y3 (fun _ => rfl) ?_
              refine Z_go (f2 := (53, [(0, .ref o), (1, .int (Zi i)), (2, .int (Zi r)), (3, .int (Zi dep))], [.ref o])) (fun _ => rfl) ?_
              refine Z_go (f2 := (54, [(0, .ref o), (1, .int (Zi i)), (2, .int (Zi r)), (3, .int (Zi dep))], [.int (Zi i), .ref o])) (fun _ => rfl) ?_
              refine Z_go (f2 := (55, [(0, .ref o), (1, .int (Zi i)), (2, .int (Zi r)), (3, .int (Zi dep))], [.int (Zi r), .int (Zi i), .ref o])) (fun _ => rfl) ?_
              refine Z_go (f2 := (56, [(0, .ref o), (1, .int (Zi i)), (2, .int (Zi r)), (3, .int (Zi dep))], [.int (Zi dep), .int (Zi r), .int (Zi i), .ref o])) (fun _ => rfl) ?_
              refine C_callV (As := [.int (Zi i), .int (Zi r), .int (Zi dep)]) (rest := []) rfl (by decide) rfl (by decide) rfl rfl (by decide +kernel) (Nat.le_of_ble_eq_true rfl) hs ok (C_balt (d + 2 * dd + 1) hB hx (L := qq :: L) (lo := lo) (hi := hi) ((tg 2).trans c2) (List.cons_ne_nil _ _) zi a5 c3 l0 h1 zr (by omega) dep0 (by omega)) (fun x h v n1 hs q => ?_)
              obtain ⟨rfl, q1, zq1, rfl, fb1, f51, bl1⟩ := q
              show B_R _ _ (59, [(0, .ref o), (1, .int (Zi i)), (2, .int (Zi r)), (3, .int (Zi dep))], [.int (Zi q1)]) _ _ _
              refine Z_iret rfl rfl (by first | rfl | decide | exact narrow_b01 (by omega)) ⟨_, hs, ?_⟩
              try dsimp only
              refine ⟨rfl, q1, zq1, rfl, fb1, by omega, bl1.same (fun W n i j => ?_)⟩
              exact (N_or_M (W := W) (n := n) L qq.2 hqq hall2 i j).symm
            · refine Z_swk (f2 := (60, [(0, .ref o), (1, .int (Zi i)), (2, .int (Zi r)), (3, .int (Zi dep))], [])) y3 (fun _ => rfl) ?_
              exfalso; omega
            · refine Z_swk (f2 := (68, [(0, .ref o), (1, .int (Zi i)), (2, .int (Zi r)), (3, .int (Zi dep))], [])) y3 (fun _ => rfl) ?_
              exfalso; omega
            · refine Z_tswd rfl (by first | exact hs.zF _ _ | exact Zor_r _ _ | exact hs.zA _ _ | assumption | exact zA _ _ | exact zS _ | exact Zr_not (hs.zA _ _) | exact hs.1.1 _ _ | exact ⟨by omega, by omega⟩) y3 (by rfl) ?_
              show B_R _ _ (76, [(0, .ref o), (1, .int (Zi i)), (2, .int (Zi r)), (3, .int (Zi dep))], []) _ _ _
              exfalso; omega
          · refine Z_go (f2 := (18, [(0, .ref o), (1, .int (Zi i)), (2, .int (Zi r)), (3, .int (Zi dep))], [.int (Zi r)])) (fun _ => rfl) ?_
            refine Z_iret rfl rfl (by first | rfl | decide | exact narrow_b01 (by omega)) ⟨_, hs, ?_⟩
            try dsimp only
            exact ⟨rfl, r, zr, rfl, M_fb.refl hx.1, by omega, M_bl.id.same (fun W n i j => (M_of_0 his (by omega) i j).symm)⟩
/-- the machine stands for the regex t -/
def D_M1 (s : C_S) (p : List Nat) (o : Nat) (A : Nat → Nat) (β : Int → Int64) (t : P_T) : Prop := D_M0 s p o A ∧ ∃ m e : Int, C_F s o 5 = m ∧ C_F s o 6 = e ∧ 0 ≤ e ∧ e < m ∧ m ≤ 202 ∧ M_kok (M_κ s A) m ∧ (∀ q, 0 ≤ q → q < m → M_κ s A 1 q = 3 → 0 ≤ M_κ s A 4 q ∧ M_κ s A 4 q < 80) ∧ ∀ (W : Int → Int) (n : Int), (∀ k, 0 ≤ k → k < n → 0 ≤ W k ∧ W k ≤ 255) → ∀ i j, 0 ≤ i → i ≤ n → (M_ac (M_κ s A) (T_has β) W n e i j ↔ M_of W n t i j)
theorem C_root (d : Nat) {s : C_S} {p : List Nat} {o : Nat} {A : Nat → Nat} {m sm : Int} {τ : Nat → Int → Int} {β : Int → Int64} (hd : D_Tr s p o A m sm τ β) : C_rd (d + 1) 120 [.ref o] s (fun x => x = some (.int (Zi 0))) := by
  refine C_enterR (M := E_m120) rfl (Nat.le_of_ble_eq_true rfl) (fun h0 h hs => ?_)
  show B_R (d + 0) _ (0, [(0, .ref o)], []) _ _ _
  refine Z_go (f2 := (1, [(0, .ref o)], [.int (Zi 0)])) (fun _ => rfl) ?_
  refine Z_iret rfl rfl (by first | rfl | decide | exact narrow_b01 (by omega)) ⟨rfl, rfl, ?_⟩
  try dsimp only
  all_goals rfl
theorem C_build (d : Nat) {s : C_S} {p : List Nat} {o : Nat} {A : Nat → Nat} {tr : Nat} {p2 : List Nat} {A2 : Nat → Nat} {m2 sm : Int} {τ : Nat → Int → Int} {β : Int → Int64} {t : P_T} (hm : D_M0 s p o A) (e0 : C_P s o 0 = some tr) (htr : D_Tr s p2 tr A2 m2 sm τ β) (np : p2 ≠ p) (hn : N_is τ (T_has β) sm 48 2 0 m2 0 t) (hsz : T_sz t ≤ 200) : C_ok (d + 100) 17 [.ref o] s (fun x s2 n => x = none ∧ n = 0 ∧ C_fr (fun t => t = p) s s2 ∧ C_n s2 = C_n s ∧ (∀ f, C_P s2 o f = C_P s o f) ∧ D_M1 s2 p o A β t) := by
  refine C_enter (M := E_m17) rfl (Nat.le_of_ble_eq_true rfl) (fun h0 h hs => ?_)
  show B_R (d + 99) _ (0, [(0, .ref o)], []) _ _ _
  have ok := hm.1
  have s5 : C_F (C_sF s o 5 0) o 5 = 0 := if_pos ⟨rfl, rfl⟩
  have hm0 : D_M0 (C_sF s o 5 0) p o A := hm
  have fr0 : C_fr (fun t => t = p) s (C_sF s o 5 0) := (C_fr.refl _ _).sF hm.2.1
  have w := hs.1
  have htr0 := htr.fr w fr0 (fun e => np e)
  have htis := N_is.is _ _ _ _ _ _ hn
  have szp := T_sz_pos htis
  refine Z_go (f2 := (1, [(0, .ref o)], [.ref o])) (fun _ => rfl) ?_
  refine Z_go (f2 := (2, [(0, .ref o)], [.int (Zi 0), .ref o])) (fun _ => rfl) ?_
  refine C_pi rfl hs ok (by decide) (Nat.le_of_ble_eq_true rfl) (.inl rfl) rfl rfl rfl (by first | exact hs.zF _ _ | exact Zor_r _ _ | exact hs.zA _ _ | assumption | exact zA _ _ | exact zS _ | exact Zr_not (hs.zA _ _) | exact hs.1.1 _ _ | exact ⟨by omega, by omega⟩) (fun h hs => ?_)
  have w0 := hs
  refine Z_go (f2 := (6, [(0, .ref o)], [.ref o])) (fun _ => rfl) ?_
  refine Z_go (f2 := (8, [(0, .ref o)], [.int (Zi 8), .ref o])) (fun _ => rfl) ?_
  refine Z_go (f2 := (9, [(0, .ref o)], [.int (Zi (-1)), .int (Zi 8), .ref o])) (fun _ => rfl) ?_
  refine Z_go (f2 := (10, [(0, .ref o)], [.int (Zi (-1)), .int (Zi (-1)), .int (Zi 8), .ref o])) (fun _ => rfl) ?_
  refine Z_go (f2 := (11, [(0, .ref o)], [.int (Zi (-1)), .int (Zi (-1)), .int (Zi (-1)), .int (Zi 8), .ref o])) (fun _ => rfl) ?_
  refine C_callV (As := [.int (Zi 8), .int (Zi (-1)), .int (Zi (-1)), .int (Zi (-1))]) (rest := []) rfl (by decide) rfl (by decide) rfl rfl (by decide +kernel) (Nat.le_of_ble_eq_true rfl) hs ok (C_nst _ hm0 (by omega) (by omega) (a := 8) (b := -1) (c := -1) (e := -1) ⟨by omega, by omega⟩ ⟨by omega, by omega⟩ ⟨by omega, by omega⟩ ⟨by omega, by omega⟩) (fun x h v n1 hs q => ?_)
  obtain ⟨rfl, rfl, fb1, f51, nw⟩ := q
  rw [s5] at f51 nw ⊢
  have hxv := fb1.cx (tr := tr) (p2 := p2) (A2 := A2) (m2 := m2) (sm := sm) (τ := τ) (β := β) ⟨hm0, e0, htr0, np, by omega⟩ w0.1 (by omega)
  have ev0 := hxv.2.1
  obtain ⟨_, _, _, _, _, hm168, _, hsm⟩ := hxv.2.2.1.1
  show B_R _ _ (14, [(0, .ref o)], [.int (Zi 0)]) _ _ _
  refine Z_go (f2 := (15, [(1, .int (Zi 0)), (0, .ref o)], [])) (fun _ => rfl) ?_
  refine Z_go (f2 := (16, [(1, .int (Zi 0)), (0, .ref o)], [.ref o])) (fun _ => rfl) ?_
  refine Z_go (f2 := (17, [(1, .int (Zi 0)), (0, .ref o)], [.ref o, .ref o])) (fun _ => rfl) ?_
  refine Z_go (f2 := (18, [(1, .int (Zi 0)), (0, .ref o)], [.ref o, .ref o, .ref o])) (fun _ => rfl) ?_
  refine C_gr rfl hs fb1.2.2.1.1 (by decide) (Nat.le_of_ble_eq_true rfl) rfl ev0 ?_
  refine C_callVR (As := []) (rest := [.ref o, .ref o]) rfl (by decide) rfl (by decide) rfl rfl (by decide +kernel) (Nat.le_of_ble_eq_true rfl) hs hxv.2.2.1.1.1 (C_root _ hxv.2.2.1) (fun x q => ?_)
  obtain rfl := q
  show B_R _ _ (24, [(1, .int (Zi 0)), (0, .ref o)], [.int (Zi 0), .ref o, .ref o]) _ _ _
  refine Z_go (f2 := (25, [(1, .int (Zi 0)), (0, .ref o)], [.int (Zi 0), .int (Zi 0), .ref o, .ref o])) (fun _ => rfl) ?_
  refine Z_go (f2 := (26, [(1, .int (Zi 0)), (0, .ref o)], [.int (Zi 0), .int (Zi 0), .int (Zi 0), .ref o, .ref o])) (fun _ => rfl) ?_
  refine C_callV (As := [.int (Zi 0), .int (Zi 0), .int (Zi 0)]) (rest := [.ref o]) rfl (by decide) rfl (by decide) rfl rfl (by decide +kernel) (Nat.le_of_ble_eq_true rfl) hs fb1.2.2.1.1 ((show M_BN (d + 99) 48 from C_bnode 48 d) v p o A tr p2 A2 m2 sm τ β 2 0 m2 0 t 0 0 hxv hn (by omega) (by omega) ⟨by omega, by omega⟩ (by omega) (by omega) (by rw [if_pos rfl]; omega) (by omega)) (fun x h w1 n2 hs q => ?_)
  obtain ⟨rfl, q1, zq1, rfl, fb2, f52, bl⟩ := q
  show B_R _ _ (29, [(1, .int (Zi 0)), (0, .ref o)], [.int (Zi q1), .ref o]) _ _ _
  refine C_pi rfl hs fb2.2.2.1.1 (by decide) (Nat.le_of_ble_eq_true rfl) (.inl rfl) rfl rfl rfl (by first | exact hs.zF _ _ | exact Zor_r _ _ | exact hs.zA _ _ | assumption | exact zA _ _ | exact zS _ | exact Zr_not (hs.zA _ _) | exact hs.1.1 _ _ | exact ⟨by omega, by omega⟩) (fun h hs => ?_)
  refine Z_ret rfl rfl ⟨_, hs, ?_⟩
  try dsimp only
  have hm3 : D_M0 (C_sF w1 o 6 q1) p o A := fb2.2.2.1
  refine ⟨rfl, rfl, (fr0.tr (fb1.1.tr fb2.1)).sF fb2.2.2.1.2.1, (fb2.2.1.trans fb1.2.1).trans rfl, fun f => ((fb2.2.2.2.1 f).trans (fb1.2.2.2.1 f)).trans rfl, hm3, C_F w1 o 5, q1, if_neg (by omega), if_pos ⟨rfl, rfl⟩, ?_⟩
  rw [f51] at bl f52
  obtain ⟨b1, b2, b3, b4, b5, b6⟩ := bl
  have old : ∀ f, M_κ w1 A f 0 = M_κ v A f 0 := fun f => b2 f 0 (by omega)
  have k8 : M_κ w1 A 1 0 = 8 := (old 1).trans nw.2.1
  have ke : M_κ (C_sF w1 o 6 q1) A = M_κ w1 A := rfl
  rw [ke]
  have tg9 : ∀ y, M_tg (0 + 1) (C_F w1 o 5) 0 y → 0 ≤ y ∧ y < C_F w1 o 5 := fun y hy => by rcases hy with h | h <;> omega
  refine ⟨(tg9 _ b3).1, (tg9 _ b3).2, by omega, fun q q0 q1_ => ?_, fun q q0 q1_ hq => ?_, fun W n hW i j i0 i1 => ?_⟩
  · by_cases c : q = 0
    · rw [c]; exact .inl k8
    · rcases b4 q (by omega) q1_ with ⟨g1, g2, g3⟩ | ⟨g1, g2, g3, g4⟩
      · exact .inr (.inl ⟨g1, (tg9 _ g2).1, (tg9 _ g2).2, (tg9 _ g3).1, (tg9 _ g3).2⟩)
      · exact .inr (.inr ⟨g1, g2, (tg9 _ g3).1, (tg9 _ g3).2⟩)
  · by_cases c : q = 0
    · rw [c, k8] at hq; omega
    · rcases b4 q (by omega) q1_ with ⟨g1, g2, g3⟩ | ⟨g1, g2, g3, g4⟩
      · omega
      · have := g4 hq
        exact ⟨this.1, by omega⟩
  · obtain ⟨h1, h2⟩ := b5 (M_κ w1 A) (fun _ _ _ _ => rfl) W n hW
    constructor
    · rintro ⟨Q, hQ⟩
      obtain ⟨k, N', _, g2, g3⟩ := h1 Q i j i0 i1 hQ
      cases N' with
      | zero => exact False.elim g3
      | succ N' =>
        rcases g3 with ⟨_, e⟩ | ⟨e, _⟩ | ⟨e, _⟩ | ⟨e, _⟩
        · rw [← e]; exact g2
        · omega
        · omega
        · omega
    · intro hR
      exact h2 i j j 1 hR (.inl ⟨k8, rfl⟩)
