/-! the class: Parser: CATs -/
theorem T_gs_of {τ : Nat → Int → Int} {i z : Int} (h : 0 ≤ i ∧ i < 168) (e : τ 8 i = T_mn z) (z0 : 0 ≤ z) : T_gs τ i = T_mn z := by
  have eg : T_g τ 8 i = T_mn z := by
    unfold T_g
    rw [if_pos h, e]
  unfold T_gs
  rw [eg]
  unfold T_mn
  omega
theorem C_cat_lp {d : Nat} {h0 : E_H} {s : C_S} {p : List Nat} {o tr src N : Nat} {S : Int → Int} {nn fo a : Int} {A : Nat → Nat} {m sm : Int} {τ : Nat → Int → Int} {β : Int → Int64} {st : P_K} {R : P_R P_T} {o' : Option P_T} {kk : Int} (a0 : 0 ≤ a) (m0 : 0 ≤ m) (k0 : 0 ≤ kk) (k1 : kk ≤ 10) (hk : (st.length : Int) = kk) (hA : kk < 10 → K_alt (d + 5) (kk + 1)) : ∀ (t : Nat) (turn aa pl' m' sm' : Int) (τ' : Nat → Int → Int) (β' : Int → Int64) (L : List (Int × P_T)) (F' : Nat) (u : C_S) (h : E_H), nn - aa < t → C_is h0 h u → D_P0 u p o tr src N S nn fo 0 pl' aa → D_Tr u (p ++ [tr]) tr A m' sm' τ' β' → T_zb τ' → D_Pf p s u → a ≤ aa → aa ≤ nn → (0 ≤ turn ∧ turn ≤ aa) → m' ≤ 2 * aa + 2 → sm' ≤ aa → m < m' → N_new τ β m sm τ' β' m' sm' → τ' 0 m = 1 ∧ τ' 3 m = -1 ∧ τ' 8 m = T_mn (T_sz (N_beh L)) ∧ T_is (N_beh L) → N_par τ' (T_has β') sm' (46 - 4 * kk.toNat) 0 m m' L → R = P_run S (fo ≠ 0) F' aa ((o', N_beh L) :: st) → nn - aa < (F' : Int) → B_R (d + 8) E_m36 (12, [(3, .int (Zi turn)), (2, .int (Zi m)), (0, .ref o), (1, .int (Zi kk))], []) h 0 (fun r => ∃ s2 : C_S, C_is h0 r.2.1 s2 ∧ (fun (x : Option Value) (s2 : C_S) (n : Nat) => E_post p o tr src N S nn fo A s m sm τ β a (nn + 20 - kk) R (G_c S (fo ≠ 0) nn m (47 - 4 * kk.toNat) R o' st) x s2 n) r.1 s2 r.2.2) := by
  intro t
  induction t with
  | zero => intro turn aa pl' m' sm' τ' β' L F' u h ht hs hp hd hz pf g0 g1 t0 hm hsa mm hnew hE hpar hR hF; omega
  | succ t ih =>
    intro turn aa pl' m' sm' τ' β' L F' u h ht hs hp hd hz pf g0 g1 t0 hm hsa mm hnew hE hpar hR hF
    have hpz := hp.z hs
    have za := hpz.2.2.1
    have zn := hpz.2.2.2.1
    have zfo := hpz.2.2.2.2
    have nn0 := hp.2.2.2.2.1
    have nn1 := hp.2.2.2.2.2
    have hne := hp.ne hd
    have hm0 := hd.1.2.2.2.2.1
    have hm1 := hd.1.2.2.2.2.2.1
    have hsm0 := hd.1.2.2.2.2.2.2.1
    have hsm1 := hd.1.2.2.2.2.2.2.2
    have hra := hp.r aa (by omega)
    have e9 : 47 - 4 * kk.toNat = (46 - 4 * kk.toNat) + 1 := by omega
    obtain ⟨e0, e3, e8, eI⟩ := hE
    refine Z_go (f2 := (13, [(3, .int (Zi turn)), (2, .int (Zi m)), (0, .ref o), (1, .int (Zi kk))], [.int (Zi turn)])) (fun _ => rfl) ?_
    refine Z_go (f2 := (15, [(3, .int (Zi turn)), (2, .int (Zi m)), (0, .ref o), (1, .int (Zi kk))], [.int (Zi 80), .int (Zi turn)])) (fun _ => rfl) ?_
    refine Z_cge rfl rfl (by first | exact hs.zF _ _ | exact Zor_r _ _ | exact hs.zA _ _ | assumption | exact zA _ _ | exact zS _ | exact Zr_not (hs.zA _ _) | exact hs.1.1 _ _ | exact ⟨by omega, by omega⟩) (by first | exact hs.zF _ _ | exact Zor_r _ _ | exact hs.zA _ _ | assumption | exact zA _ _ | exact zS _ | exact Zr_not (hs.zA _ _) | exact hs.1.1 _ _ | exact ⟨by omega, by omega⟩) (fun c1 => ?_) (fun c1 => ?_)
    · refine Z_go (f2 := (80, [(3, .int (Zi turn)), (2, .int (Zi m)), (0, .ref o), (1, .int (Zi kk))], [.int (Zi m)])) (fun _ => rfl) ?_
      refine Z_iret rfl rfl (by first | rfl | decide | exact narrow_b01 (by omega)) ⟨_, hs, ?_⟩
      try dsimp only
      first
      | (exfalso; omega)
      | (refine ⟨rfl, pf, _, _, _, _, _, m, _, _, rfl, by omega, by omega, hp, hd, hz, by omega, by omega, .inr ⟨by omega, by omega, by omega, by omega, hnew, N_beh L, F', ?_, e3, hR, by omega, by omega⟩⟩
         rw [e9]
         exact ⟨Int.le_refl _, mm, by rw [if_neg (by decide), if_pos rfl]; exact ⟨rfl, e0, e8, L, rfl, hpar.1, hpar.2⟩⟩)
    · refine Z_go (f2 := (19, [(3, .int (Zi turn)), (2, .int (Zi m)), (0, .ref o), (1, .int (Zi kk))], [.ref o])) (fun _ => rfl) ?_
      refine C_gi rfl hs hp.1.1 (by decide) (Nat.le_of_ble_eq_true rfl) rfl ?_
      rw [show C_F (u) o 5 = aa from (by first | exact hp.1.2.2.2.2.2.2.2.2.2.1 | exact (if_neg (fun e => absurd e.1 (by assumption))).trans hp.1.2.2.2.2.2.2.2.2.2.1 | exact (if_neg (fun e => absurd e.2 (by decide))).trans hp.1.2.2.2.2.2.2.2.2.2.1 | exact (if_neg (fun e => absurd e.2 (by decide))).trans ((if_neg (fun e => absurd e.2 (by decide))).trans hp.1.2.2.2.2.2.2.2.2.2.1) | exact (if_neg (fun e => absurd e.2 (by decide))).trans ((if_neg (fun e => absurd e.2 (by decide))).trans ((if_neg (fun e => absurd e.2 (by decide))).trans hp.1.2.2.2.2.2.2.2.2.2.1)))]
      show B_R _ _ (22, [(3, .int (Zi turn)), (2, .int (Zi m)), (0, .ref o), (1, .int (Zi kk))], [.int (Zi aa)]) _ _ _
      refine Z_go (f2 := (23, [(3, .int (Zi turn)), (2, .int (Zi m)), (0, .ref o), (1, .int (Zi kk))], [.ref o, .int (Zi aa)])) (fun _ => rfl) ?_
      refine C_gi rfl hs hp.1.1 (by decide) (Nat.le_of_ble_eq_true rfl) rfl ?_
      rw [show C_F (u) o 4 = nn from (by first | exact hp.1.2.2.2.2.2.2.2.2.1 | exact (if_neg (fun e => absurd e.1 (by assumption))).trans hp.1.2.2.2.2.2.2.2.2.1 | exact (if_neg (fun e => absurd e.2 (by decide))).trans hp.1.2.2.2.2.2.2.2.2.1 | exact (if_neg (fun e => absurd e.2 (by decide))).trans ((if_neg (fun e => absurd e.2 (by decide))).trans hp.1.2.2.2.2.2.2.2.2.1) | exact (if_neg (fun e => absurd e.2 (by decide))).trans ((if_neg (fun e => absurd e.2 (by decide))).trans ((if_neg (fun e => absurd e.2 (by decide))).trans hp.1.2.2.2.2.2.2.2.2.1)))]
      show B_R _ _ (26, [(3, .int (Zi turn)), (2, .int (Zi m)), (0, .ref o), (1, .int (Zi kk))], [.int (Zi nn), .int (Zi aa)]) _ _ _
      refine Z_cge rfl rfl (by first | exact hs.zF _ _ | exact Zor_r _ _ | exact hs.zA _ _ | assumption | exact zA _ _ | exact zS _ | exact Zr_not (hs.zA _ _) | exact hs.1.1 _ _ | exact ⟨by omega, by omega⟩) (by first | exact hs.zF _ _ | exact Zor_r _ _ | exact hs.zA _ _ | assumption | exact zA _ _ | exact zS _ | exact Zr_not (hs.zA _ _) | exact hs.1.1 _ _ | exact ⟨by omega, by omega⟩) (fun c2 => ?_) (fun c2 => ?_)
      · refine Z_go (f2 := (80, [(3, .int (Zi turn)), (2, .int (Zi m)), (0, .ref o), (1, .int (Zi kk))], [.int (Zi m)])) (fun _ => rfl) ?_
        refine Z_iret rfl rfl (by first | rfl | decide | exact narrow_b01 (by omega)) ⟨_, hs, ?_⟩
        try dsimp only
        first
        | (exfalso; omega)
        | (refine ⟨rfl, pf, _, _, _, _, _, m, _, _, rfl, by omega, by omega, hp, hd, hz, by omega, by omega, .inr ⟨by omega, by omega, by omega, by omega, hnew, N_beh L, F', ?_, e3, hR, by omega, by omega⟩⟩
           rw [e9]
           exact ⟨Int.le_refl _, mm, by rw [if_neg (by decide), if_pos rfl]; exact ⟨rfl, e0, e8, L, rfl, hpar.1, hpar.2⟩⟩)
      · refine Z_go (f2 := (30, [(3, .int (Zi turn)), (2, .int (Zi m)), (0, .ref o), (1, .int (Zi kk))], [.ref o])) (fun _ => rfl) ?_
        refine C_callVR (As := []) (rest := []) rfl (by decide) rfl (by decide) rfl rfl (by decide +kernel) (Nat.le_of_ble_eq_true rfl) hs hp.1.1 (C_peek _ hp (by omega)) (fun x q => ?_)
        obtain rfl := q
        have zpk164 := hp.r aa (by omega)
        show B_R _ _ (33, [(3, .int (Zi turn)), (2, .int (Zi m)), (0, .ref o), (1, .int (Zi kk))], [.int (Zi (S aa))]) _ _ _
        refine Z_go (f2 := (35, [(3, .int (Zi turn)), (2, .int (Zi m)), (0, .ref o), (1, .int (Zi kk))], [.int (Zi 124), .int (Zi (S aa))])) (fun _ => rfl) ?_
        refine Z_ceq rfl rfl (by first | exact hs.zF _ _ | exact Zor_r _ _ | exact hs.zA _ _ | assumption | exact zA _ _ | exact zS _ | exact Zr_not (hs.zA _ _) | exact hs.1.1 _ _ | exact ⟨by omega, by omega⟩) (by first | exact hs.zF _ _ | exact Zor_r _ _ | exact hs.zA _ _ | assumption | exact zA _ _ | exact zS _ | exact Zr_not (hs.zA _ _) | exact hs.1.1 _ _ | exact ⟨by omega, by omega⟩) (fun c3 => ?_) (fun c3 => ?_)
        · refine Z_go (f2 := (80, [(3, .int (Zi turn)), (2, .int (Zi m)), (0, .ref o), (1, .int (Zi kk))], [.int (Zi m)])) (fun _ => rfl) ?_
          refine Z_iret rfl rfl (by first | rfl | decide | exact narrow_b01 (by omega)) ⟨_, hs, ?_⟩
          try dsimp only
          first
          | (exfalso; omega)
          | (refine ⟨rfl, pf, _, _, _, _, _, m, _, _, rfl, by omega, by omega, hp, hd, hz, by omega, by omega, .inr ⟨by omega, by omega, by omega, by omega, hnew, N_beh L, F', ?_, e3, hR, by omega, by omega⟩⟩
             rw [e9]
             exact ⟨Int.le_refl _, mm, by rw [if_neg (by decide), if_pos rfl]; exact ⟨rfl, e0, e8, L, rfl, hpar.1, hpar.2⟩⟩)
        · refine Z_go (f2 := (39, [(3, .int (Zi turn)), (2, .int (Zi m)), (0, .ref o), (1, .int (Zi kk))], [.ref o])) (fun _ => rfl) ?_
          refine C_callVR (As := []) (rest := []) rfl (by decide) rfl (by decide) rfl rfl (by decide +kernel) (Nat.le_of_ble_eq_true rfl) hs hp.1.1 (C_peek _ hp (by omega)) (fun x q => ?_)
          obtain rfl := q
          have zpk165 := hp.r aa (by omega)
          show B_R _ _ (42, [(3, .int (Zi turn)), (2, .int (Zi m)), (0, .ref o), (1, .int (Zi kk))], [.int (Zi (S aa))]) _ _ _
          refine Z_go (f2 := (44, [(3, .int (Zi turn)), (2, .int (Zi m)), (0, .ref o), (1, .int (Zi kk))], [.int (Zi 41), .int (Zi (S aa))])) (fun _ => rfl) ?_
          refine Z_ceq rfl rfl (by first | exact hs.zF _ _ | exact Zor_r _ _ | exact hs.zA _ _ | assumption | exact zA _ _ | exact zS _ | exact Zr_not (hs.zA _ _) | exact hs.1.1 _ _ | exact ⟨by omega, by omega⟩) (by first | exact hs.zF _ _ | exact Zor_r _ _ | exact hs.zA _ _ | assumption | exact zA _ _ | exact zS _ | exact Zr_not (hs.zA _ _) | exact hs.1.1 _ _ | exact ⟨by omega, by omega⟩) (fun c4 => ?_) (fun c4 => ?_)
          · refine Z_go (f2 := (80, [(3, .int (Zi turn)), (2, .int (Zi m)), (0, .ref o), (1, .int (Zi kk))], [.int (Zi m)])) (fun _ => rfl) ?_
            refine Z_iret rfl rfl (by first | rfl | decide | exact narrow_b01 (by omega)) ⟨_, hs, ?_⟩
            try dsimp only
            first
            | (exfalso; omega)
            | (refine ⟨rfl, pf, _, _, _, _, _, m, _, _, rfl, by omega, by omega, hp, hd, hz, by omega, by omega, .inr ⟨by omega, by omega, by omega, by omega, hnew, N_beh L, F', ?_, e3, hR, by omega, by omega⟩⟩
               rw [e9]
               exact ⟨Int.le_refl _, mm, by rw [if_neg (by decide), if_pos rfl]; exact ⟨rfl, e0, e8, L, rfl, hpar.1, hpar.2⟩⟩)
          · refine Z_go (f2 := (48, [(3, .int (Zi turn)), (2, .int (Zi m)), (0, .ref o), (1, .int (Zi kk))], [.ref o])) (fun _ => rfl) ?_
            refine Z_go (f2 := (49, [(3, .int (Zi turn)), (2, .int (Zi m)), (0, .ref o), (1, .int (Zi kk))], [.int (Zi kk), .ref o])) (fun _ => rfl) ?_
            have wf166 := hs.1
            refine C_callV (As := [.int (Zi kk)]) (rest := []) rfl (by decide) rfl (by decide) rfl rfl (by decide +kernel) (Nat.le_of_ble_eq_true rfl) hs hp.1.1 (C_rep _ hp hd hz (by omega) (by omega) (by omega) (by omega) k0 k1 hk hR hF (by omega) (by omega) hA) (fun x h v166 n166 hs q => ?_)
            obtain ⟨rfl, pg166, f166, pl166, a166, m166, sm166, i166, τ166, β166, rfl, ia166, ib166, hp166, hd166, hz166, ga166, gb166, sy166⟩ := q
            have zi166 : Zr i166 := ⟨by omega, by omega⟩
            have pf166 := pf.tr pg166
            have hne := hp166.ne hd166
            obtain ⟨zzf166, zzp166, zza166, _⟩ := hp166.z hs
            show B_R _ _ (52, [(3, .int (Zi turn)), (2, .int (Zi m)), (0, .ref o), (1, .int (Zi kk))], [.int (Zi i166)]) _ _ _
            refine Z_go (f2 := (54, [(4, .int (Zi i166)), (3, .int (Zi turn)), (2, .int (Zi m)), (0, .ref o), (1, .int (Zi kk))], [])) (fun _ => rfl) ?_
            refine Z_go (f2 := (55, [(4, .int (Zi i166)), (3, .int (Zi turn)), (2, .int (Zi m)), (0, .ref o), (1, .int (Zi kk))], [.ref o])) (fun _ => rfl) ?_
            refine C_gi rfl hs hp166.1.1 (by decide) (Nat.le_of_ble_eq_true rfl) rfl ?_
            rw [show C_F (v166) o 1 = f166 from (by first | exact hp166.1.2.2.2.2.2.2.1 | exact (if_neg (fun e => absurd e.1 (by assumption))).trans hp166.1.2.2.2.2.2.2.1 | exact (if_neg (fun e => absurd e.2 (by decide))).trans hp166.1.2.2.2.2.2.2.1 | exact (if_neg (fun e => absurd e.2 (by decide))).trans ((if_neg (fun e => absurd e.2 (by decide))).trans hp166.1.2.2.2.2.2.2.1) | exact (if_neg (fun e => absurd e.2 (by decide))).trans ((if_neg (fun e => absurd e.2 (by decide))).trans ((if_neg (fun e => absurd e.2 (by decide))).trans hp166.1.2.2.2.2.2.2.1)))]
            show B_R _ _ (58, [(4, .int (Zi i166)), (3, .int (Zi turn)), (2, .int (Zi m)), (0, .ref o), (1, .int (Zi kk))], [.int (Zi f166)]) _ _ _
            refine Z_ieq rfl rfl (by first | exact hs.zF _ _ | exact Zor_r _ _ | exact hs.zA _ _ | assumption | exact zA _ _ | exact zS _ | exact Zr_not (hs.zA _ _) | exact hs.1.1 _ _ | exact ⟨by omega, by omega⟩) (fun c5 => ?_) (fun c5 => ?_)
            · obtain rfl : f166 = 0 := by omega
              rcases sy166 with ⟨hf, _⟩ | ⟨_, g1, g2, g3, g4, g0, t9, F2, g5, g6, g7, g8⟩
              · exact absurd rfl hf
              have hmb := hd166.1.2.2.2.2.2.1
              have hgs := N_is.gs g5 hm0 hmb
              have htis := N_is.is _ _ _ _ _ _ g5
              have hsp := T_sz_pos htis
              refine Z_go (f2 := (64, [(4, .int (Zi i166)), (3, .int (Zi turn)), (2, .int (Zi m)), (0, .ref o), (1, .int (Zi kk))], [.ref o])) (fun _ => rfl) ?_
              refine C_gr rfl hs hp166.1.1 (by decide) (Nat.le_of_ble_eq_true rfl) rfl hp166.1.2.2.1 ?_
              refine Z_go (f2 := (68, [(4, .int (Zi i166)), (3, .int (Zi turn)), (2, .int (Zi m)), (0, .ref o), (1, .int (Zi kk))], [.int (Zi m), .ref tr])) (fun _ => rfl) ?_
              refine Z_go (f2 := (70, [(4, .int (Zi i166)), (3, .int (Zi turn)), (2, .int (Zi m)), (0, .ref o), (1, .int (Zi kk))], [.int (Zi i166), .int (Zi m), .ref tr])) (fun _ => rfl) ?_
              have wf167 := hs.1
              refine C_callV (As := [.int (Zi m), .int (Zi i166)]) (rest := []) rfl (by decide) rfl (by decide) rfl rfl (by decide +kernel) (Nat.le_of_ble_eq_true rfl) hs hd166.1.1 (C_append _ hd166 hz166 (a := m) (i := i166) (by first | exact hs.zF _ _ | exact Zor_r _ _ | exact hs.zA _ _ | assumption | exact zA _ _ | exact zS _ | exact Zr_not (hs.zA _ _) | exact hs.1.1 _ _ | exact ⟨by omega, by omega⟩) (by first | exact hs.zF _ _ | exact Zor_r _ _ | exact hs.zA _ _ | assumption | exact zA _ _ | exact zS _ | exact Zr_not (hs.zA _ _) | exact hs.1.1 _ _ | exact ⟨by omega, by omega⟩)) (fun x h v167 n167 hs q => ?_)
              obtain ⟨rfl, rfl, fr167, en167, hd167, hz167⟩ := q
              have hp167 := hp166.sub wf167 fr167
              have pf167 := pf166.on fr167 en167
              have hne := hp167.ne hd167
              show B_R _ _ (73, [(4, .int (Zi i166)), (3, .int (Zi turn)), (2, .int (Zi m)), (0, .ref o), (1, .int (Zi kk))], []) _ _ _
              refine Z_iinc (L2 := [(3, .int (Zi (turn + 1))), (4, .int (Zi i166)), (2, .int (Zi m)), (0, .ref o), (1, .int (Zi kk))]) rfl rfl (by decide) rfl ?_
              refine Z_go (f2 := (12, [(3, .int (Zi (turn + 1))), (4, .int (Zi i166)), (2, .int (Zi m)), (0, .ref o), (1, .int (Zi kk))], [])) (fun _ => rfl) ?_
              obtain ⟨hpar2, ⟨z0, z3⟩, z8, zo⟩ := hpar.app m0 g5 g6 hmb (fun f j j0 j1 _ => g4.2.2.1 f j j0 j1) g4.2.2.2 g4.2.1
              have hg1 : T_gs τ166 m = T_mn (T_sz (N_beh L)) := T_gs_of ⟨m0, by omega⟩ (by rw [g4.2.2.1 8 m m0 mm]; exact e8) (T_sz_pos eI)
              refine B_loc (K := [(3, .int (Zi (turn + 1))), (2, .int (Zi m)), (0, .ref o), (1, .int (Zi kk))]) (N_all_sub ⟨rfl, rfl, rfl, rfl, trivial⟩) (show ([3, 2, 0, 1] : List Nat).Nodup by decide) ?_
              refine ih (turn + 1) a166 pl166 m166 sm166 _ β166 (L ++ [(i166, t9)]) F2 v167 h (by omega) hs hp167 hd167 hz167 pf167 (by omega) (by omega) (by omega) (by omega) (by omega) (by have := g4.1; omega) ⟨by have := hnew.1; have := g4.1; omega, by have := hnew.2.1; have := g4.2.1; omega, fun f j j0 j1 => ((zo f j j0 j1).trans (g4.2.2.1 f j j0 (by omega))).trans (hnew.2.2.1 f j j0 j1), fun c j c0 c1 j0 j1 => (g4.2.2.2 c j c0 (by have := hnew.2.1; omega) j0 j1).trans (hnew.2.2.2 c j c0 c1 j0 j1)⟩ ⟨by rw [z0, g4.2.2.1 0 m m0 mm]; exact e0, by rw [z3, g4.2.2.1 3 m m0 mm]; exact e3, ?_, ?_⟩ hpar2 (by rw [g7, N_beh_app]) (by omega)
              · rw [z8, hg1, hgs, T_mn_add (T_sz_pos eI) hsp, N_beh_app, T_sz_beh eI htis]
              · rw [N_beh_app]; exact eI.beh htis
            · refine Z_go (f2 := (62, [(4, .int (Zi i166)), (3, .int (Zi turn)), (2, .int (Zi m)), (0, .ref o), (1, .int (Zi kk))], [.int (Zi m)])) (fun _ => rfl) ?_
              refine Z_iret rfl rfl (by first | rfl | decide | exact narrow_b01 (by omega)) ⟨_, hs, ?_⟩
              try dsimp only
              rcases sy166 with ⟨hf, hE⟩ | ⟨hf, _⟩
              · refine ⟨rfl, pf166, _, _, _, _, _, m, _, _, rfl, by omega, by omega, hp166, hd166, hz166, by omega, by omega, .inl ⟨hf, hE⟩⟩
              · exact absurd hf (by assumption)
theorem C_cat (d : Nat) {s : C_S} {p : List Nat} {o tr src N : Nat} {S : Int → Int} {nn fo pl a : Int} {A : Nat → Nat} {m sm : Int} {τ : Nat → Int → Int} {β : Int → Int64} {F : Nat} {st : P_K} {R : P_R P_T} {o' : Option P_T} {kk : Int} (hp : D_P0 s p o tr src N S nn fo 0 pl a) (hd : D_Tr s (p ++ [tr]) tr A m sm τ β) (hz : T_zb τ) (a0 : 0 ≤ a) (an : a ≤ nn) (hm : m ≤ 2 * a + 1) (hsa : sm ≤ a) (k0 : 0 ≤ kk) (k1 : kk ≤ 10) (hk : (st.length : Int) = kk) (hR : R = P_run S (fo ≠ 0) F a ((o', T_emp) :: st)) (hF : nn - a < (F : Int)) (hA : kk < 10 → K_alt (d + 5) (kk + 1)) : C_ok (d + 9) 36 [.ref o, .int (Zi kk)] s (fun x s2 n => E_post p o tr src N S nn fo A s m sm τ β a (nn + 20 - kk) R (G_c S (fo ≠ 0) nn m (47 - 4 * kk.toNat) R o' st) x s2 n) := by
  refine C_enter (M := E_m36) rfl (Nat.le_of_ble_eq_true rfl) (fun h0 h hs => ?_)
  show B_R (d + 8) _ (0, [(0, .ref o), (1, .int (Zi kk))], []) _ _ _
  have hpz := hp.z hs
  have za := hpz.2.2.1
  have zn := hpz.2.2.2.1
  have zfo := hpz.2.2.2.2
  have nn0 := hp.2.2.2.2.1
  have nn1 := hp.2.2.2.2.2
  have hne := hp.ne hd
  have hm0 := hd.1.2.2.2.2.1
  have hm1 := hd.1.2.2.2.2.2.1
  have hsm0 := hd.1.2.2.2.2.2.2.1
  have hsm1 := hd.1.2.2.2.2.2.2.2
  refine Z_go (f2 := (1, [(0, .ref o), (1, .int (Zi kk))], [.ref o])) (fun _ => rfl) ?_
  refine C_gr rfl hs hp.1.1 (by decide) (Nat.le_of_ble_eq_true rfl) rfl hp.1.2.2.1 ?_
  refine Z_go (f2 := (5, [(0, .ref o), (1, .int (Zi kk))], [.int (Zi 1), .ref tr])) (fun _ => rfl) ?_
  refine Z_go (f2 := (6, [(0, .ref o), (1, .int (Zi kk))], [.int (Zi 0), .int (Zi 1), .ref tr])) (fun _ => rfl) ?_
  have wf168 := hs.1
  refine C_callV (As := [.int (Zi 1), .int (Zi 0)]) (rest := []) rfl (by decide) rfl (by decide) rfl rfl (by decide +kernel) (Nat.le_of_ble_eq_true rfl) hs hd.1.1 (C_newNode _ hd hz (k := 1) (z := 0) (by first | exact hs.zF _ _ | exact Zor_r _ _ | exact hs.zA _ _ | assumption | exact zA _ _ | exact zS _ | exact Zr_not (hs.zA _ _) | exact hs.1.1 _ _ | exact ⟨by omega, by omega⟩) (by omega) (by omega)) (fun x h v168 n168 hs q => ?_)
  obtain ⟨rfl, fr168, en168, m168, τ168, i168, rfl, ia168, ib168, hd168, hz168, hn168⟩ := q
  have zi168 : Zr i168 := ⟨by omega, by omega⟩
  have hp168 := hp.sub wf168 fr168
  have pf168 := (D_Pf.refl p s).on fr168 en168
  have hne := hp168.ne hd168
  show B_R _ _ (9, [(0, .ref o), (1, .int (Zi kk))], [.int (Zi i168)]) _ _ _
  refine Z_go (f2 := (10, [(2, .int (Zi i168)), (0, .ref o), (1, .int (Zi kk))], [])) (fun _ => rfl) ?_
  refine Z_go (f2 := (11, [(2, .int (Zi i168)), (0, .ref o), (1, .int (Zi kk))], [.int (Zi 0)])) (fun _ => rfl) ?_
  refine Z_go (f2 := (12, [(3, .int (Zi 0)), (2, .int (Zi i168)), (0, .ref o), (1, .int (Zi kk))], [])) (fun _ => rfl) ?_
  obtain ⟨e1, e2, e3⟩ := hn168 (by omega)
  subst e1
  have hmm : 0 ≤ i168 ∧ i168 < 168 := ⟨hm0, by omega⟩
  refine B_loc (K := [(3, .int (Zi 0)), (2, .int (Zi i168)), (0, .ref o), (1, .int (Zi kk))]) (N_all_sub ⟨rfl, rfl, rfl, rfl, trivial⟩) (show ([3, 2, 0, 1] : List Nat).Nodup by decide) ?_
  refine C_cat_lp a0 hm0 k0 k1 hk hA (nn.toNat + 2) 0 a pl m168 sm τ168 β [] F v168 h (by omega) hs hp168 hd168 hz168 pf168 (by omega) an (by omega) (by omega) (by omega) (by omega) ⟨by omega, Int.le_refl _, fun f j j0 j1 => by rw [e3]; exact T_nn_o (by omega), fun _ _ _ _ _ _ => Iff.rfl⟩ ⟨by rw [e3]; exact T_nn_0 hmm, by rw [e3]; exact T_nn_1 hmm (by omega), by rw [e3, T_nn_8 hmm]; rfl, T_is.emp⟩ (N_par.nil (by rw [e3]; exact T_nn_1 hmm (by omega)) (by rw [e3]; exact T_nn_1 hmm (by omega)) (by omega)) hR (by omega)
