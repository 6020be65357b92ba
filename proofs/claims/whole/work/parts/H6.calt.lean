/-! the class: Parser: ALTs, the whole of it -/
theorem N_par.gr {τ : Nat → Int → Int} {H : Int → Int → Prop} {sm : Int} {D k : Nat} {c hi z : Int} {L : List (Int × P_T)} (h : N_par τ H sm D k c hi L) : N_par (T_gr τ c z) H sm D k c hi L := h.keep (fun f j j0 j1 hj => T_st_o (by omega)) (fun _ _ _ _ _ _ => Iff.rfl) (Int.le_refl _)
theorem C_alt_lp {d : Nat} {h0 : E_H} {s : C_S} {p : List Nat} {o tr src N : Nat} {S : Int → Int} {nn fo a : Int} {A : Nat → Nat} {m sm : Int} {τ : Nat → Int → Int} {β : Int → Int64} {st : P_K} {R : P_R P_T} {kk : Int} (a0 : 0 ≤ a) (m0 : 0 ≤ m) (m9 : m < 168) (k0 : 0 ≤ kk) (k1 : kk ≤ 10) (hk : (st.length : Int) = kk) (hA : kk < 10 → K_alt (d + 5) (kk + 1)) : ∀ (t : Nat) (turn aa f pl' m' sm' e : Int) (τ' : Nat → Int → Int) (β' : Int → Int64) (u : C_S) (h : E_H), nn + 30 - aa + e < t → (f = 0 ∧ e = 1 ∨ f ≠ 0 ∧ e = 0) → C_is h0 h u → D_P0 u p o tr src N S nn fo f pl' aa → D_Tr u (p ++ [tr]) tr A m' sm' τ' β' → T_zb τ' → D_Pf p s u → a ≤ aa → aa ≤ nn + 20 - kk → (0 ≤ turn ∧ turn ≤ 80) → (f ≠ 0 ∧ R = .inl (f, pl') ∨ f = 0 ∧ aa ≤ nn ∧ turn ≤ aa ∧ m' ≤ 2 * aa + 2 ∧ sm' ≤ aa ∧ m < m' ∧ N_new τ β m sm τ' β' m' sm' ∧ ∃ (q : Int × P_T) (L : List (Int × P_T)) (o1 : Option P_T) (cc : P_T) (F' : Nat), (τ' 0 m = 0 ∧ τ' 3 m = -1 ∧ τ' 8 m = T_mn (T_sz (N_or q.2 L)) ∧ T_is (N_or q.2 L)) ∧ N_par τ' (T_has β') sm' (47 - 4 * kk.toNat) 1 m m' (q :: L) ∧ P_orj o1 cc = N_or q.2 L ∧ R = P_run S (fo ≠ 0) F' aa ((o1, cc) :: st) ∧ nn - aa < (F' : Int) ∧ (S aa = -1 ∨ S aa = 124 ∨ S aa = 41)) → B_R (d + 9) E_m35 (25, [(3, .int (Zi turn)), (2, .int (Zi m)), (0, .ref o), (1, .int (Zi kk))], []) h 0 (fun r => ∃ s2 : C_S, C_is h0 r.2.1 s2 ∧ (fun (x : Option Value) (s2 : C_S) (n : Nat) => E_post p o tr src N S nn fo A s m sm τ β a (nn + 20 - kk) R (G_l S (fo ≠ 0) nn m (48 - 4 * kk.toNat) R st) x s2 n) r.1 s2 r.2.2) := by
  intro t
  induction t with
  | zero => intro turn aa f pl' m' sm' e τ' β' u h ht he hs hp hd hz pf g0 g1 t0 hI; omega
  | succ t ih =>
    intro turn aa f pl' m' sm' e τ' β' u h ht he hs hp hd hz pf g0 g1 t0 hI
    have hpz := hp.z hs
    have zfu := hpz.1
    have za := hpz.2.2.1
    have zn := hpz.2.2.2.1
    have zfo := hpz.2.2.2.2
    have nn0 := hp.2.2.2.2.1
    have nn1 := hp.2.2.2.2.2
    have hne := hp.ne hd
    have hm0 := hd.1.2.2.2.2.1
    have hm1 := hd.1.2.2.2.2.2.1
    have hsm0 := hd.1.2.2.2.2.2.2.1
    have hsm1 := hd.1.2.2.2.2.2.2.2
    have hra := hp.r aa (by omega)
    have e9 : 48 - 4 * kk.toNat = (47 - 4 * kk.toNat) + 1 := by omega
    rcases hI with ⟨hf, hR⟩ | ⟨rfl, g9, htu, hm, hsa, mm, hnew, q, L, o1, cc, F', ⟨e0, e3, e8, eI⟩, hpar, ho, hR, hF, hS⟩
    · refine Z_go (f2 := (26, [(3, .int (Zi turn)), (2, .int (Zi m)), (0, .ref o), (1, .int (Zi kk))], [.int (Zi turn)])) (fun _ => rfl) ?_
      refine Z_go (f2 := (28, [(3, .int (Zi turn)), (2, .int (Zi m)), (0, .ref o), (1, .int (Zi kk))], [.int (Zi 80), .int (Zi turn)])) (fun _ => rfl) ?_
      refine Z_cge rfl rfl (by first | exact hs.zF _ _ | exact Zor_r _ _ | exact hs.zA _ _ | assumption | exact zA _ _ | exact zS _ | exact Zr_not (hs.zA _ _) | exact hs.1.1 _ _ | exact ⟨by omega, by omega⟩) (by first | exact hs.zF _ _ | exact Zor_r _ _ | exact hs.zA _ _ | assumption | exact zA _ _ | exact zS _ | exact Zr_not (hs.zA _ _) | exact hs.1.1 _ _ | exact ⟨by omega, by omega⟩) (fun c1 => ?_) (fun c1 => ?_)
      · refine Z_go (f2 := (86, [(3, .int (Zi turn)), (2, .int (Zi m)), (0, .ref o), (1, .int (Zi kk))], [.int (Zi m)])) (fun _ => rfl) ?_
        refine Z_iret rfl rfl (by first | rfl | decide | exact narrow_b01 (by omega)) ⟨_, hs, ?_⟩
        try dsimp only
        refine ⟨rfl, pf, _, _, _, _, _, m, _, _, rfl, by omega, by omega, hp, hd, hz, by omega, by omega, .inl ⟨hf, hR⟩⟩
      · refine Z_go (f2 := (32, [(3, .int (Zi turn)), (2, .int (Zi m)), (0, .ref o), (1, .int (Zi kk))], [.ref o])) (fun _ => rfl) ?_
        refine C_gi rfl hs hp.1.1 (by decide) (Nat.le_of_ble_eq_true rfl) rfl ?_
        rw [show C_F (u) o 1 = f from (by first | exact hp.1.2.2.2.2.2.2.1 | exact (if_neg (fun e => absurd e.1 (by assumption))).trans hp.1.2.2.2.2.2.2.1 | exact (if_neg (fun e => absurd e.2 (by decide))).trans hp.1.2.2.2.2.2.2.1 | exact (if_neg (fun e => absurd e.2 (by decide))).trans ((if_neg (fun e => absurd e.2 (by decide))).trans hp.1.2.2.2.2.2.2.1) | exact (if_neg (fun e => absurd e.2 (by decide))).trans ((if_neg (fun e => absurd e.2 (by decide))).trans ((if_neg (fun e => absurd e.2 (by decide))).trans hp.1.2.2.2.2.2.2.1)))]
        show B_R _ _ (35, [(3, .int (Zi turn)), (2, .int (Zi m)), (0, .ref o), (1, .int (Zi kk))], [.int (Zi f)]) _ _ _
        refine Z_ine rfl rfl (by first | exact hs.zF _ _ | exact Zor_r _ _ | exact hs.zA _ _ | assumption | exact zA _ _ | exact zS _ | exact Zr_not (hs.zA _ _) | exact hs.1.1 _ _ | exact ⟨by omega, by omega⟩) (fun c2 => ?_) (fun c2 => ?_)
        · refine Z_go (f2 := (86, [(3, .int (Zi turn)), (2, .int (Zi m)), (0, .ref o), (1, .int (Zi kk))], [.int (Zi m)])) (fun _ => rfl) ?_
          refine Z_iret rfl rfl (by first | rfl | decide | exact narrow_b01 (by omega)) ⟨_, hs, ?_⟩
          try dsimp only
          refine ⟨rfl, pf, _, _, _, _, _, m, _, _, rfl, by omega, by omega, hp, hd, hz, by omega, by omega, .inl ⟨hf, hR⟩⟩
        · exfalso; omega
    · refine Z_go (f2 := (26, [(3, .int (Zi turn)), (2, .int (Zi m)), (0, .ref o), (1, .int (Zi kk))], [.int (Zi turn)])) (fun _ => rfl) ?_
      refine Z_go (f2 := (28, [(3, .int (Zi turn)), (2, .int (Zi m)), (0, .ref o), (1, .int (Zi kk))], [.int (Zi 80), .int (Zi turn)])) (fun _ => rfl) ?_
      refine Z_cge rfl rfl (by first | exact hs.zF _ _ | exact Zor_r _ _ | exact hs.zA _ _ | assumption | exact zA _ _ | exact zS _ | exact Zr_not (hs.zA _ _) | exact hs.1.1 _ _ | exact ⟨by omega, by omega⟩) (by first | exact hs.zF _ _ | exact Zor_r _ _ | exact hs.zA _ _ | assumption | exact zA _ _ | exact zS _ | exact Zr_not (hs.zA _ _) | exact hs.1.1 _ _ | exact ⟨by omega, by omega⟩) (fun c1 => ?_) (fun c1 => ?_)
      · refine Z_go (f2 := (86, [(3, .int (Zi turn)), (2, .int (Zi m)), (0, .ref o), (1, .int (Zi kk))], [.int (Zi m)])) (fun _ => rfl) ?_
        refine Z_iret rfl rfl (by first | rfl | decide | exact narrow_b01 (by omega)) ⟨_, hs, ?_⟩
        try dsimp only
        first
        | (exfalso; omega)
        | (refine ⟨rfl, pf, _, _, _, _, _, m, _, _, rfl, by omega, by omega, hp, hd, hz, by omega, by omega, .inr ⟨by omega, by omega, by omega, by omega, hnew, o1, cc, F', ?_, e3, hR, by omega, by omega⟩⟩
           rw [e9]
           exact ⟨Int.le_refl _, mm, by rw [if_neg (by decide), if_neg (by decide)]; exact ⟨rfl, e0, by rw [ho]; exact e8, q, L, ho, hpar.1, hpar.2⟩⟩)
      · refine Z_go (f2 := (32, [(3, .int (Zi turn)), (2, .int (Zi m)), (0, .ref o), (1, .int (Zi kk))], [.ref o])) (fun _ => rfl) ?_
        refine C_gi rfl hs hp.1.1 (by decide) (Nat.le_of_ble_eq_true rfl) rfl ?_
        rw [show C_F (u) o 1 = 0 from (by first | exact hp.1.2.2.2.2.2.2.1 | exact (if_neg (fun e => absurd e.1 (by assumption))).trans hp.1.2.2.2.2.2.2.1 | exact (if_neg (fun e => absurd e.2 (by decide))).trans hp.1.2.2.2.2.2.2.1 | exact (if_neg (fun e => absurd e.2 (by decide))).trans ((if_neg (fun e => absurd e.2 (by decide))).trans hp.1.2.2.2.2.2.2.1) | exact (if_neg (fun e => absurd e.2 (by decide))).trans ((if_neg (fun e => absurd e.2 (by decide))).trans ((if_neg (fun e => absurd e.2 (by decide))).trans hp.1.2.2.2.2.2.2.1)))]
        show B_R _ _ (35, [(3, .int (Zi turn)), (2, .int (Zi m)), (0, .ref o), (1, .int (Zi kk))], [.int (Zi 0)]) _ _ _
        refine Z_ine rfl rfl (by first | exact hs.zF _ _ | exact Zor_r _ _ | exact hs.zA _ _ | assumption | exact zA _ _ | exact zS _ | exact Zr_not (hs.zA _ _) | exact hs.1.1 _ _ | exact ⟨by omega, by omega⟩) (fun c2 => ?_) (fun c2 => ?_)
        · exfalso; omega
        · refine Z_go (f2 := (39, [(3, .int (Zi turn)), (2, .int (Zi m)), (0, .ref o), (1, .int (Zi kk))], [.ref o])) (fun _ => rfl) ?_
          refine C_callVR (As := []) (rest := []) rfl (by decide) rfl (by decide) rfl rfl (by decide +kernel) (Nat.le_of_ble_eq_true rfl) hs hp.1.1 (C_peek _ hp (by omega)) (fun x q => ?_)
          obtain rfl := q
          have zpk169 := hp.r aa (by omega)
          show B_R _ _ (42, [(3, .int (Zi turn)), (2, .int (Zi m)), (0, .ref o), (1, .int (Zi kk))], [.int (Zi (S aa))]) _ _ _
          refine Z_go (f2 := (44, [(3, .int (Zi turn)), (2, .int (Zi m)), (0, .ref o), (1, .int (Zi kk))], [.int (Zi 124), .int (Zi (S aa))])) (fun _ => rfl) ?_
          refine Z_cne rfl rfl (by first | exact hs.zF _ _ | exact Zor_r _ _ | exact hs.zA _ _ | assumption | exact zA _ _ | exact zS _ | exact Zr_not (hs.zA _ _) | exact hs.1.1 _ _ | exact ⟨by omega, by omega⟩) (by first | exact hs.zF _ _ | exact Zor_r _ _ | exact hs.zA _ _ | assumption | exact zA _ _ | exact zS _ | exact Zr_not (hs.zA _ _) | exact hs.1.1 _ _ | exact ⟨by omega, by omega⟩) (fun c3 => ?_) (fun c3 => ?_)
          · refine Z_go (f2 := (86, [(3, .int (Zi turn)), (2, .int (Zi m)), (0, .ref o), (1, .int (Zi kk))], [.int (Zi m)])) (fun _ => rfl) ?_
            refine Z_iret rfl rfl (by first | rfl | decide | exact narrow_b01 (by omega)) ⟨_, hs, ?_⟩
            try dsimp only
            first
            | (exfalso; omega)
            | (refine ⟨rfl, pf, _, _, _, _, _, m, _, _, rfl, by omega, by omega, hp, hd, hz, by omega, by omega, .inr ⟨by omega, by omega, by omega, by omega, hnew, o1, cc, F', ?_, e3, hR, by omega, by omega⟩⟩
               rw [e9]
               exact ⟨Int.le_refl _, mm, by rw [if_neg (by decide), if_neg (by decide)]; exact ⟨rfl, e0, by rw [ho]; exact e8, q, L, ho, hpar.1, hpar.2⟩⟩)
          · obtain ⟨F2, rfl⟩ : ∃ F2, F' = F2 + 1 := ⟨F' - 1, by omega⟩
            rw [P_run_or (by omega)] at hR
            refine Z_go (f2 := (48, [(3, .int (Zi turn)), (2, .int (Zi m)), (0, .ref o), (1, .int (Zi kk))], [.ref o])) (fun _ => rfl) ?_
            refine Z_go (f2 := (49, [(3, .int (Zi turn)), (2, .int (Zi m)), (0, .ref o), (1, .int (Zi kk))], [.ref o, .ref o])) (fun _ => rfl) ?_
            refine C_gi rfl hs hp.1.1 (by decide) (Nat.le_of_ble_eq_true rfl) rfl ?_
            rw [show C_F (u) o 5 = aa from (by first | exact hp.1.2.2.2.2.2.2.2.2.2.1 | exact (if_neg (fun e => absurd e.1 (by assumption))).trans hp.1.2.2.2.2.2.2.2.2.2.1 | exact (if_neg (fun e => absurd e.2 (by decide))).trans hp.1.2.2.2.2.2.2.2.2.2.1 | exact (if_neg (fun e => absurd e.2 (by decide))).trans ((if_neg (fun e => absurd e.2 (by decide))).trans hp.1.2.2.2.2.2.2.2.2.2.1) | exact (if_neg (fun e => absurd e.2 (by decide))).trans ((if_neg (fun e => absurd e.2 (by decide))).trans ((if_neg (fun e => absurd e.2 (by decide))).trans hp.1.2.2.2.2.2.2.2.2.2.1)))]
            show B_R _ _ (52, [(3, .int (Zi turn)), (2, .int (Zi m)), (0, .ref o), (1, .int (Zi kk))], [.int (Zi aa), .ref o]) _ _ _
            refine Z_go (f2 := (53, [(3, .int (Zi turn)), (2, .int (Zi m)), (0, .ref o), (1, .int (Zi kk))], [.int (Zi 1), .int (Zi aa), .ref o])) (fun _ => rfl) ?_
            refine Z_iadd rfl ?_
            refine C_pi rfl hs hp.1.1 (by decide) (Nat.le_of_ble_eq_true rfl) (.inl rfl) rfl rfl rfl (by first | exact hs.zF _ _ | exact Zor_r _ _ | exact hs.zA _ _ | assumption | exact zA _ _ | exact zS _ | exact Zr_not (hs.zA _ _) | exact hs.1.1 _ _ | exact ⟨by omega, by omega⟩) (fun h hs => ?_)
            refine Z_go (f2 := (58, [(3, .int (Zi turn)), (2, .int (Zi m)), (0, .ref o), (1, .int (Zi kk))], [.ref o])) (fun _ => rfl) ?_
            refine C_gr rfl hs hp.1.1 (by decide) (Nat.le_of_ble_eq_true rfl) rfl hp.1.2.2.1 ?_
            refine Z_go (f2 := (62, [(3, .int (Zi turn)), (2, .int (Zi m)), (0, .ref o), (1, .int (Zi kk))], [.int (Zi m), .ref tr])) (fun _ => rfl) ?_
            refine Z_go (f2 := (63, [(3, .int (Zi turn)), (2, .int (Zi m)), (0, .ref o), (1, .int (Zi kk))], [.int (Zi 1), .int (Zi m), .ref tr])) (fun _ => rfl) ?_
            have wf170 := hs.1
            refine C_callV (As := [.int (Zi m), .int (Zi 1)]) (rest := []) rfl (by decide) rfl (by decide) rfl rfl (by decide +kernel) (Nat.le_of_ble_eq_true rfl) hs hd.1.1 (C_trgrow _ (hd.oF hne) hz (a := m) (z := 1) (by first | exact hs.zF _ _ | exact Zor_r _ _ | exact hs.zA _ _ | assumption | exact zA _ _ | exact zS _ | exact Zr_not (hs.zA _ _) | exact hs.1.1 _ _ | exact ⟨by omega, by omega⟩) (by omega) (by omega)) (fun x h v170 n170 hs q => ?_)
            obtain ⟨rfl, rfl, fr170, en170, hd170, hz170⟩ := q
            have hp170 := (hp.aa (aa + 1)).sub wf170 fr170
            have pf170 := (pf.sF hp.1.2.1).on fr170 en170
            have hne := hp170.ne hd170
            show B_R _ _ (66, [(3, .int (Zi turn)), (2, .int (Zi m)), (0, .ref o), (1, .int (Zi kk))], []) _ _ _
            refine Z_go (f2 := (67, [(3, .int (Zi turn)), (2, .int (Zi m)), (0, .ref o), (1, .int (Zi kk))], [.ref o])) (fun _ => rfl) ?_
            refine C_gr rfl hs hp170.1.1 (by decide) (Nat.le_of_ble_eq_true rfl) rfl hp170.1.2.2.1 ?_
            refine Z_go (f2 := (71, [(3, .int (Zi turn)), (2, .int (Zi m)), (0, .ref o), (1, .int (Zi kk))], [.int (Zi m), .ref tr])) (fun _ => rfl) ?_
            refine Z_go (f2 := (72, [(3, .int (Zi turn)), (2, .int (Zi m)), (0, .ref o), (1, .int (Zi kk))], [.ref o, .int (Zi m), .ref tr])) (fun _ => rfl) ?_
            refine Z_go (f2 := (73, [(3, .int (Zi turn)), (2, .int (Zi m)), (0, .ref o), (1, .int (Zi kk))], [.int (Zi kk), .ref o, .int (Zi m), .ref tr])) (fun _ => rfl) ?_
            have wf171 := hs.1
            refine C_callV (As := [.int (Zi kk)]) (rest := [.int (Zi m), .ref tr]) rfl (by decide) rfl (by decide) rfl rfl (by decide +kernel) (Nat.le_of_ble_eq_true rfl) hs hp170.1.1 (C_cat _ hp170 hd170 hz170 (by omega) (F := F2) (o' := some (P_orj o1 cc)) (by omega) (by omega) (by omega) k0 k1 hk hR (by omega) hA) (fun x h v171 n171 hs q => ?_)
            obtain ⟨rfl, pg171, f171, pl171, a171, m171, sm171, i171, τ171, β171, rfl, ia171, ib171, hp171, hd171, hz171, ga171, gb171, sy171⟩ := q
            have zi171 : Zr i171 := ⟨by omega, by omega⟩
            have pf171 := pf170.tr pg171
            have hne := hp171.ne hd171
            obtain ⟨zzf171, zzp171, zza171, _⟩ := hp171.z hs
            show B_R _ _ (76, [(3, .int (Zi turn)), (2, .int (Zi m)), (0, .ref o), (1, .int (Zi kk))], [.int (Zi i171), .int (Zi m), .ref tr]) _ _ _
            have wf172 := hs.1
            refine C_callV (As := [.int (Zi m), .int (Zi i171)]) (rest := []) rfl (by decide) rfl (by decide) rfl rfl (by decide +kernel) (Nat.le_of_ble_eq_true rfl) hs hd171.1.1 (C_append _ hd171 hz171 (a := m) (i := i171) (by first | exact hs.zF _ _ | exact Zor_r _ _ | exact hs.zA _ _ | assumption | exact zA _ _ | exact zS _ | exact Zr_not (hs.zA _ _) | exact hs.1.1 _ _ | exact ⟨by omega, by omega⟩) (by first | exact hs.zF _ _ | exact Zor_r _ _ | exact hs.zA _ _ | assumption | exact zA _ _ | exact zS _ | exact Zr_not (hs.zA _ _) | exact hs.1.1 _ _ | exact ⟨by omega, by omega⟩)) (fun x h v172 n172 hs q => ?_)
            obtain ⟨rfl, rfl, fr172, en172, hd172, hz172⟩ := q
            have hp172 := hp171.sub wf172 fr172
            have pf172 := pf171.on fr172 en172
            have hne := hp172.ne hd172
            show B_R _ _ (79, [(3, .int (Zi turn)), (2, .int (Zi m)), (0, .ref o), (1, .int (Zi kk))], []) _ _ _
            refine Z_iinc (L2 := [(3, .int (Zi (turn + 1))), (2, .int (Zi m)), (0, .ref o), (1, .int (Zi kk))]) rfl rfl (by decide) rfl ?_
            refine Z_go (f2 := (25, [(3, .int (Zi (turn + 1))), (2, .int (Zi m)), (0, .ref o), (1, .int (Zi kk))], [])) (fun _ => rfl) ?_
            refine B_loc (K := [(3, .int (Zi (turn + 1))), (2, .int (Zi m)), (0, .ref o), (1, .int (Zi kk))]) (N_all_sub ⟨rfl, rfl, rfl, rfl, trivial⟩) (show ([3, 2, 0, 1] : List Nat).Nodup by decide) ?_
            rcases sy171 with ⟨hf, hE⟩ | ⟨hf, g1_, g2, g3, g4, c2, F3, g5, g6, g7, g8, g10⟩
            · exact ih (turn + 1) a171 f171 pl171 _ _ 0 _ _ v172 h (by omega) (.inr ⟨hf, rfl⟩) hs hp172 hd172 hz172 pf172 (by omega) (by omega) (by omega) (.inl ⟨hf, hE⟩)
            · have hmb := hd171.1.2.2.2.2.2.1
              have hgs := N_is.gs g5 hm0 hmb
              have htis := N_is.is _ _ _ _ _ _ g5
              have hsp := T_sz_pos htis
              have hgr : ∀ f j, 0 ≤ j → j < m' → f ≠ 8 ∨ j ≠ m → τ171 f j = τ' f j := fun f j j0 j1 hj => (g4.2.2.1 f j j0 j1).trans (T_st_o (by omega))
              obtain ⟨hpar2, ⟨z0, z3⟩, z8, zo⟩ := (hpar.gr (z := 1)).app m0 g5 g6 hmb (fun f j j0 j1 _ => g4.2.2.1 f j j0 j1) g4.2.2.2 g4.2.1
              have hg0 : T_gs τ' m = T_mn (T_sz (N_or q.2 L)) := T_gs_of ⟨m0, m9⟩ e8 (T_sz_pos eI)
              have hg1 : T_gs τ171 m = T_mn (T_sz (N_or q.2 L) + 1) := T_gs_of ⟨m0, m9⟩ (by
                rw [g4.2.2.1 8 m m0 mm]
                show T_st τ' 8 m (T_mn (T_gs τ' m + 1)) 8 m = _
                rw [T_st_s ⟨m0, m9⟩, hg0, T_mn_add1 (T_sz_pos eI) (by omega)]) (by have := T_sz_pos eI; omega)
              refine ih (turn + 1) a171 f171 pl171 _ _ 1 _ _ v172 h (by omega) (.inl ⟨hf, rfl⟩) hs hp172 hd172 hz172 pf172 (by omega) (by omega) (by omega) (.inr ⟨hf, g1_, by omega, g2, g3, by have := g4.1; omega, ⟨by have := hnew.1; have := g4.1; omega, by have := hnew.2.1; have := g4.2.1; omega, fun f j j0 j1 => ((zo f j j0 j1).trans (hgr f j j0 (by omega) (.inr (by omega)))).trans (hnew.2.2.1 f j j0 j1), fun c j c0 c9 j0 j1 => (g4.2.2.2 c j c0 (by have := hnew.2.1; omega) j0 j1).trans (hnew.2.2.2 c j c0 c9 j0 j1)⟩, q, L ++ [(i171, c2)], some (P_orj o1 cc), c2, F3, ⟨by rw [z0, hgr 0 m m0 mm (.inl (by decide))]; exact e0, by rw [z3, hgr 3 m m0 mm (.inl (by decide))]; exact e3, ?_, ?_⟩, hpar2, ?_, g7, by omega, g10⟩)
              · rw [z8, hg1, hgs, T_mn_add (by have := T_sz_pos eI; omega) hsp, N_or_app, T_sz_or eI htis, show T_sz (N_or q.2 L) + 1 + T_sz c2 = T_sz (N_or q.2 L) + T_sz c2 + 1 by omega]
              · rw [N_or_app]; exact eI.or htis
              · rw [N_or_app, ← ho]; rfl
theorem C_alt (d : Nat) {s : C_S} {p : List Nat} {o tr src N : Nat} {S : Int → Int} {nn fo pl a : Int} {A : Nat → Nat} {m sm : Int} {τ : Nat → Int → Int} {β : Int → Int64} {F : Nat} {st : P_K} {R : P_R P_T} {kk : Int} (hp : D_P0 s p o tr src N S nn fo 0 pl a) (hd : D_Tr s (p ++ [tr]) tr A m sm τ β) (hz : T_zb τ) (a0 : 0 ≤ a) (an : a ≤ nn) (hm : m ≤ 2 * a) (hsa : sm ≤ a) (k0 : 0 ≤ kk) (k1 : kk ≤ 10) (hk : (st.length : Int) = kk) (hR : R = P_run S (fo ≠ 0) F a ((none, T_emp) :: st)) (hF : nn - a < (F : Int)) (hA : kk < 10 → K_alt (d + 5) (kk + 1)) : C_ok (d + 10) 35 [.ref o, .int (Zi kk)] s (fun x s2 n => E_post p o tr src N S nn fo A s m sm τ β a (nn + 20 - kk) R (G_l S (fo ≠ 0) nn m (48 - 4 * kk.toNat) R st) x s2 n) := by
  refine C_enter (M := E_m35) rfl (Nat.le_of_ble_eq_true rfl) (fun h0 h hs => ?_)
  show B_R (d + 9) _ (0, [(0, .ref o), (1, .int (Zi kk))], []) _ _ _
  have hpz := hp.z hs
  have za := hpz.2.2.1
  have zn := hpz.2.2.2.1
  have zfo := hpz.2.2.2.2
  have nn0 := hp.2.2.2.2.1
  have nn1 := hp.2.2.2.2.2
  have hne := hp.ne hd
  have hm0 := hd.1.2.2.2.2.1
  have hm1 := hd.1.2.2.2.2.2.1
  have hsm0 := hd.1.2.2.2.2.2.2.1
  have hsm1 := hd.1.2.2.2.2.2.2.2
  refine Z_go (f2 := (1, [(0, .ref o), (1, .int (Zi kk))], [.ref o])) (fun _ => rfl) ?_
  refine C_gr rfl hs hp.1.1 (by decide) (Nat.le_of_ble_eq_true rfl) rfl hp.1.2.2.1 ?_
  refine Z_go (f2 := (5, [(0, .ref o), (1, .int (Zi kk))], [.int (Zi 0), .ref tr])) (fun _ => rfl) ?_
  refine Z_go (f2 := (6, [(0, .ref o), (1, .int (Zi kk))], [.int (Zi 0), .int (Zi 0), .ref tr])) (fun _ => rfl) ?_
  have wf173 := hs.1
  refine C_callV (As := [.int (Zi 0), .int (Zi 0)]) (rest := []) rfl (by decide) rfl (by decide) rfl rfl (by decide +kernel) (Nat.le_of_ble_eq_true rfl) hs hd.1.1 (C_newNode _ hd hz (k := 0) (z := 0) (by first | exact hs.zF _ _ | exact Zor_r _ _ | exact hs.zA _ _ | assumption | exact zA _ _ | exact zS _ | exact Zr_not (hs.zA _ _) | exact hs.1.1 _ _ | exact ⟨by omega, by omega⟩) (by omega) (by omega)) (fun x h v173 n173 hs q => ?_)
  obtain ⟨rfl, fr173, en173, m173, τ173, i173, rfl, ia173, ib173, hd173, hz173, hn173⟩ := q
  have zi173 : Zr i173 := ⟨by omega, by omega⟩
  have hp173 := hp.sub wf173 fr173
  have pf173 := (D_Pf.refl p s).on fr173 en173
  have hne := hp173.ne hd173
  show B_R _ _ (9, [(0, .ref o), (1, .int (Zi kk))], [.int (Zi i173)]) _ _ _
  obtain ⟨e1, e2, e3⟩ := hn173 (by omega)
  rw [e1]
  show B_R _ _ (9, [(0, .ref o), (1, .int (Zi kk))], [.int (Zi m)]) _ _ _
  refine Z_go (f2 := (10, [(2, .int (Zi m)), (0, .ref o), (1, .int (Zi kk))], [])) (fun _ => rfl) ?_
  refine Z_go (f2 := (11, [(2, .int (Zi m)), (0, .ref o), (1, .int (Zi kk))], [.ref o])) (fun _ => rfl) ?_
  refine C_gr rfl hs hp173.1.1 (by decide) (Nat.le_of_ble_eq_true rfl) rfl hp173.1.2.2.1 ?_
  refine Z_go (f2 := (15, [(2, .int (Zi m)), (0, .ref o), (1, .int (Zi kk))], [.int (Zi m), .ref tr])) (fun _ => rfl) ?_
  refine Z_go (f2 := (16, [(2, .int (Zi m)), (0, .ref o), (1, .int (Zi kk))], [.ref o, .int (Zi m), .ref tr])) (fun _ => rfl) ?_
  refine Z_go (f2 := (17, [(2, .int (Zi m)), (0, .ref o), (1, .int (Zi kk))], [.int (Zi kk), .ref o, .int (Zi m), .ref tr])) (fun _ => rfl) ?_
  have wf174 := hs.1
  refine C_callV (As := [.int (Zi kk)]) (rest := [.int (Zi m), .ref tr]) rfl (by decide) rfl (by decide) rfl rfl (by decide +kernel) (Nat.le_of_ble_eq_true rfl) hs hp173.1.1 (C_cat _ hp173 hd173 hz173 (by omega) (F := F) (o' := none) (by omega) (by omega) (by omega) k0 k1 hk hR (by omega) hA) (fun x h v174 n174 hs q => ?_)
  obtain ⟨rfl, pg174, f174, pl174, a174, m174, sm174, i174, τ174, β174, rfl, ia174, ib174, hp174, hd174, hz174, ga174, gb174, sy174⟩ := q
  have zi174 : Zr i174 := ⟨by omega, by omega⟩
  have pf174 := pf173.tr pg174
  have hne := hp174.ne hd174
  obtain ⟨zzf174, zzp174, zza174, _⟩ := hp174.z hs
  show B_R _ _ (20, [(2, .int (Zi m)), (0, .ref o), (1, .int (Zi kk))], [.int (Zi i174), .int (Zi m), .ref tr]) _ _ _
  have wf175 := hs.1
  refine C_callV (As := [.int (Zi m), .int (Zi i174)]) (rest := []) rfl (by decide) rfl (by decide) rfl rfl (by decide +kernel) (Nat.le_of_ble_eq_true rfl) hs hd174.1.1 (C_append _ hd174 hz174 (a := m) (i := i174) (by first | exact hs.zF _ _ | exact Zor_r _ _ | exact hs.zA _ _ | assumption | exact zA _ _ | exact zS _ | exact Zr_not (hs.zA _ _) | exact hs.1.1 _ _ | exact ⟨by omega, by omega⟩) (by first | exact hs.zF _ _ | exact Zor_r _ _ | exact hs.zA _ _ | assumption | exact zA _ _ | exact zS _ | exact Zr_not (hs.zA _ _) | exact hs.1.1 _ _ | exact ⟨by omega, by omega⟩)) (fun x h v175 n175 hs q => ?_)
  obtain ⟨rfl, rfl, fr175, en175, hd175, hz175⟩ := q
  have hp175 := hp174.sub wf175 fr175
  have pf175 := pf174.on fr175 en175
  have hne := hp175.ne hd175
  show B_R _ _ (23, [(2, .int (Zi m)), (0, .ref o), (1, .int (Zi kk))], []) _ _ _
  refine Z_go (f2 := (24, [(2, .int (Zi m)), (0, .ref o), (1, .int (Zi kk))], [.int (Zi 0)])) (fun _ => rfl) ?_
  refine Z_go (f2 := (25, [(3, .int (Zi 0)), (2, .int (Zi m)), (0, .ref o), (1, .int (Zi kk))], [])) (fun _ => rfl) ?_
  refine B_loc (K := [(3, .int (Zi 0)), (2, .int (Zi m)), (0, .ref o), (1, .int (Zi kk))]) (N_all_sub ⟨rfl, rfl, rfl, rfl, trivial⟩) (show ([3, 2, 0, 1] : List Nat).Nodup by decide) ?_
  rcases sy174 with ⟨hf, hE⟩ | ⟨hf, g1_, g2, g3, g4, c2, F3, g5, g6, g7, g8, g10⟩
  · exact C_alt_lp a0 hm0 (by omega) k0 k1 hk hA 200 0 a174 f174 pl174 _ _ 0 _ _ v175 h (by omega) (.inr ⟨hf, rfl⟩) hs hp175 hd175 hz175 pf175 (by omega) (by omega) (by omega) (.inl ⟨hf, hE⟩)
  · have hmb := hd174.1.2.2.2.2.2.1
    have hgs := N_is.gs g5 (by omega) hmb
    have htis := N_is.is _ _ _ _ _ _ g5
    have hsp := T_sz_pos htis
    have hmm : 0 ≤ m ∧ m < 168 := ⟨hm0, by omega⟩
    have hpar0 : N_par τ173 (T_has β) sm (47 - 4 * kk.toNat) 1 m m173 [] := N_par.nil (by rw [e3]; exact T_nn_1 hmm (by omega)) (by rw [e3]; exact T_nn_1 hmm (by omega)) (by omega)
    obtain ⟨hpar2, ⟨z0, z3⟩, z8, zo⟩ := hpar0.app hm0 g5 g6 hmb (fun f j j0 j1 _ => g4.2.2.1 f j j0 j1) g4.2.2.2 g4.2.1
    have ez : ∀ f, τ174 f m = T_nn τ m 0 0 f m := fun f => by rw [g4.2.2.1 f m hm0 (by omega), e3]
    have hg1 : T_gs τ174 m = 0 := by
      have eg : T_g τ174 8 m = 0 := by
        unfold T_g
        rw [if_pos hmm, ez, T_nn_8 hmm]
      unfold T_gs
      rw [eg]
      rfl
    refine C_alt_lp a0 hm0 (by omega) k0 k1 hk hA 200 0 a174 f174 pl174 _ _ 1 _ _ v175 h (by omega) (.inl ⟨hf, rfl⟩) hs hp175 hd175 hz175 pf175 (by omega) (by omega) (by omega) (.inr ⟨hf, g1_, by omega, g2, g3, by have := g4.1; omega, ⟨by have := g4.1; omega, g4.2.1, fun f j j0 j1 => ((zo f j j0 j1).trans (g4.2.2.1 f j j0 (by omega))).trans (by rw [e3]; exact T_nn_o (by omega)), g4.2.2.2⟩, (i174, c2), [], none, c2, F3, ⟨by rw [z0, ez]; exact T_nn_0 hmm, by rw [z3, ez]; exact T_nn_1 hmm (by omega), ?_, htis⟩, hpar2, rfl, g7, by omega, g10⟩)
    rw [z8, hg1, hgs]
    show T_mn (0 + T_mn (T_sz c2)) = T_mn (T_sz c2)
    unfold T_mn
    omega
theorem C_alts (d e : Nat) : ∀ kk : Int, 0 ≤ kk → kk ≤ 10 → kk + e = 10 → K_alt (d + 5 * e + 10) kk := by
  induction e with
  | zero =>
    intro kk k0 k1 ke s p o tr src N S nn fo pl a A m sm τ β F st R hp hd hz a0 an hm hsa hk hR hF
    exact C_alt (d + 5 * 0) hp hd hz a0 an hm hsa k0 k1 hk hR hF (fun h => by exfalso; omega)
  | succ e ih =>
    intro kk k0 k1 ke s p o tr src N S nn fo pl a A m sm τ β F st R hp hd hz a0 an hm hsa hk hR hF
    exact C_alt (d + 5 * (e + 1)) hp hd hz a0 an hm hsa k0 k1 hk hR hF (fun h => by
      rw [show d + 5 * (e + 1) + 5 = d + 5 * e + 10 by omega]
      exact @ih (kk + 1) (by omega) (by omega) (by omega))
