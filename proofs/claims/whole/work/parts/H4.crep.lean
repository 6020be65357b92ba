/-! the class: Parser: what is counted, CATs, ALTs -/
theorem C_rep (d : Nat) {s : C_S} {p : List Nat} {o tr src N : Nat} {S : Int → Int} {nn fo pl a : Int} {A : Nat → Nat} {m sm : Int} {τ : Nat → Int → Int} {β : Int → Int64} {F : Nat} {st : P_K} {R : P_R P_T} {o' : Option P_T} {c : P_T} {kk : Int} (hp : D_P0 s p o tr src N S nn fo 0 pl a) (hd : D_Tr s (p ++ [tr]) tr A m sm τ β) (hz : T_zb τ) (a0 : 0 ≤ a) (an : a < nn) (hm : m ≤ 2 * a + 2) (hsa : sm ≤ a) (k0 : 0 ≤ kk) (k1 : kk ≤ 10) (hk : (st.length : Int) = kk) (hR : R = P_run S (fo ≠ 0) F a ((o', c) :: st)) (hF : nn - a < (F : Int)) (n2 : S a ≠ 124) (n4 : S a ≠ 41) (hA : kk < 10 → K_alt (d + 5) (kk + 1)) : C_ok (d + 8) 37 [.ref o, .int (Zi kk)] s (fun x s2 n => E_post p o tr src N S nn fo A s m sm τ β a (nn + 20 - kk) R (G_r S (fo ≠ 0) nn a m (46 - 4 * kk.toNat) R o' c st) x s2 n) := by
  refine C_enter (M := E_m37) rfl (Nat.le_of_ble_eq_true rfl) (fun h0 h hs => ?_)
  show B_R (d + 7) _ (0, [(0, .ref o), (1, .int (Zi kk))], []) _ _ _
  have hpz := hp.z hs
  have za := hpz.2.2.1
  have zn := hpz.2.2.2.1
  have zfo := hpz.2.2.2.2
  have nn0 := hp.2.2.2.2.1
  have nn1 := hp.2.2.2.2.2
  have hne := hp.ne hd
  have hm0 := hd.1.2.2.2.2.1
  have hm1 := hd.1.2.2.2.2.2.1
  have hsm0 := hd.1.2.2.2.2.2.2.1
  have hsm1 := hd.1.2.2.2.2.2.2.2
  have hra := hp.r a a0
  have e9 : 46 - 4 * kk.toNat = (45 - 4 * kk.toNat) + 1 := by omega
  refine Z_go (f2 := (1, [(0, .ref o), (1, .int (Zi kk))], [.ref o])) (fun _ => rfl) ?_
  refine Z_go (f2 := (2, [(0, .ref o), (1, .int (Zi kk))], [.int (Zi kk), .ref o])) (fun _ => rfl) ?_
  have wf164 := hs.1
  refine C_callV (As := [.int (Zi kk)]) (rest := []) rfl (by decide) rfl (by decide) rfl rfl (by decide +kernel) (Nat.le_of_ble_eq_true rfl) hs hp.1.1 (C_atm _ hp hd hz a0 an hm hsa k0 k1 hk hR hF n2 n4 hA) (fun x h v164 n164 hs q => ?_)
  obtain ⟨rfl, pg164, f164, pl164, a164, m164, sm164, i164, τ164, β164, rfl, ia164, ib164, hp164, hd164, hz164, ga164, gb164, sy164⟩ := q
  have zi164 : Zr i164 := ⟨by omega, by omega⟩
  have pf164 := (D_Pf.refl p s).tr pg164
  have hne := hp164.ne hd164
  obtain ⟨zzf164, zzp164, zza164, _⟩ := hp164.z hs
  show B_R _ _ (5, [(0, .ref o), (1, .int (Zi kk))], [.int (Zi i164)]) _ _ _
  refine Z_go (f2 := (6, [(2, .int (Zi i164)), (0, .ref o), (1, .int (Zi kk))], [])) (fun _ => rfl) ?_
  refine Z_go (f2 := (7, [(2, .int (Zi i164)), (0, .ref o), (1, .int (Zi kk))], [.ref o])) (fun _ => rfl) ?_
  refine C_gi rfl hs hp164.1.1 (by decide) (Nat.le_of_ble_eq_true rfl) rfl ?_
  rw [show C_F (v164) o 1 = f164 from (by first | exact hp164.1.2.2.2.2.2.2.1 | exact (if_neg (fun e => absurd e.1 (by assumption))).trans hp164.1.2.2.2.2.2.2.1 | exact (if_neg (fun e => absurd e.2 (by decide))).trans hp164.1.2.2.2.2.2.2.1 | exact (if_neg (fun e => absurd e.2 (by decide))).trans ((if_neg (fun e => absurd e.2 (by decide))).trans hp164.1.2.2.2.2.2.2.1) | exact (if_neg (fun e => absurd e.2 (by decide))).trans ((if_neg (fun e => absurd e.2 (by decide))).trans ((if_neg (fun e => absurd e.2 (by decide))).trans hp164.1.2.2.2.2.2.2.1)))]
  show B_R _ _ (10, [(2, .int (Zi i164)), (0, .ref o), (1, .int (Zi kk))], [.int (Zi f164)]) _ _ _
  refine Z_ieq rfl rfl (by first | exact hs.zF _ _ | exact Zor_r _ _ | exact hs.zA _ _ | assumption | exact zA _ _ | exact zS _ | exact Zr_not (hs.zA _ _) | exact hs.1.1 _ _ | exact ⟨by omega, by omega⟩) (fun c1 => ?_) (fun c1 => ?_)
  · obtain rfl : f164 = 0 := by omega
    rcases sy164 with ⟨hf, _⟩ | ⟨_, g1, g2, g3, g4, g0, t, F2, g5, g6, g7, g8, g22⟩
    · exact absurd rfl hf
    have hmb := hd164.1.2.2.2.2.2.1
    have hgs := N_is.gs g5 hm0 hmb
    have htis := N_is.is _ _ _ _ _ _ g5
    have hsp := T_sz_pos htis
    have hrk := hp164.r a164 (by omega)
    refine Z_go (f2 := (16, [(2, .int (Zi i164)), (0, .ref o), (1, .int (Zi kk))], [.ref o])) (fun _ => rfl) ?_
    refine C_gr rfl hs hp164.1.1 (by decide) (Nat.le_of_ble_eq_true rfl) rfl hp164.1.2.2.1 ?_
    refine Z_go (f2 := (20, [(2, .int (Zi i164)), (0, .ref o), (1, .int (Zi kk))], [.int (Zi i164), .ref tr])) (fun _ => rfl) ?_
    refine C_callVR (As := [.int (Zi i164)]) (rest := []) rfl (by decide) rfl (by decide) rfl rfl (by decide +kernel) (Nat.le_of_ble_eq_true rfl) hs hd164.1.1 (C_t8 _ hd164 (i := i164) (by first | exact hs.zF _ _ | exact Zor_r _ _ | exact hs.zA _ _ | assumption | exact zA _ _ | exact zS _ | exact Zr_not (hs.zA _ _) | exact hs.1.1 _ _ | exact ⟨by omega, by omega⟩)) (fun x q => ?_)
    obtain rfl := q
    have hgs165 := T_gs_b hz164 i164
    show B_R _ _ (23, [(2, .int (Zi i164)), (0, .ref o), (1, .int (Zi kk))], [.int (Zi (T_gs τ164 i164))]) _ _ _
    refine Z_go (f2 := (24, [(3, .int (Zi (T_gs τ164 i164))), (2, .int (Zi i164)), (0, .ref o), (1, .int (Zi kk))], [])) (fun _ => rfl) ?_
    refine Z_go (f2 := (25, [(3, .int (Zi (T_gs τ164 i164))), (2, .int (Zi i164)), (0, .ref o), (1, .int (Zi kk))], [.ref o])) (fun _ => rfl) ?_
    refine C_callVR (As := []) (rest := []) rfl (by decide) rfl (by decide) rfl rfl (by decide +kernel) (Nat.le_of_ble_eq_true rfl) hs hp164.1.1 (C_peek _ hp164 (by omega)) (fun x q => ?_)
    obtain rfl := q
    have zpk166 := hp.r a164 (by omega)
    show B_R _ _ (28, [(3, .int (Zi (T_gs τ164 i164))), (2, .int (Zi i164)), (0, .ref o), (1, .int (Zi kk))], [.int (Zi (S a164))]) _ _ _
    rcases (by omega : S a164 = 42 ∨ S a164 = 43 ∨ S a164 = 63 ∨ S a164 = 123 ∨ (S a164 ≠ 42 ∧ S a164 ≠ 43 ∧ S a164 ≠ 63 ∧ S a164 ≠ 123)) with c2 | c2 | c2 | c2 | c2
    · refine Z_swk (f2 := (72, [(3, .int (Zi (T_gs τ164 i164))), (2, .int (Zi i164)), (0, .ref o), (1, .int (Zi kk))], [])) c2 (fun _ => rfl) ?_
      refine Z_go (f2 := (73, [(3, .int (Zi (T_gs τ164 i164))), (2, .int (Zi i164)), (0, .ref o), (1, .int (Zi kk))], [.ref o])) (fun _ => rfl) ?_
      refine Z_go (f2 := (74, [(3, .int (Zi (T_gs τ164 i164))), (2, .int (Zi i164)), (0, .ref o), (1, .int (Zi kk))], [.ref o, .ref o])) (fun _ => rfl) ?_
      refine C_gi rfl hs hp164.1.1 (by decide) (Nat.le_of_ble_eq_true rfl) rfl ?_
      rw [show C_F (v164) o 5 = a164 from (by first | exact hp164.1.2.2.2.2.2.2.2.2.2.1 | exact (if_neg (fun e => absurd e.1 (by assumption))).trans hp164.1.2.2.2.2.2.2.2.2.2.1 | exact (if_neg (fun e => absurd e.2 (by decide))).trans hp164.1.2.2.2.2.2.2.2.2.2.1 | exact (if_neg (fun e => absurd e.2 (by decide))).trans ((if_neg (fun e => absurd e.2 (by decide))).trans hp164.1.2.2.2.2.2.2.2.2.2.1) | exact (if_neg (fun e => absurd e.2 (by decide))).trans ((if_neg (fun e => absurd e.2 (by decide))).trans ((if_neg (fun e => absurd e.2 (by decide))).trans hp164.1.2.2.2.2.2.2.2.2.2.1)))]
      show B_R _ _ (77, [(3, .int (Zi (T_gs τ164 i164))), (2, .int (Zi i164)), (0, .ref o), (1, .int (Zi kk))], [.int (Zi a164), .ref o]) _ _ _
      refine Z_go (f2 := (78, [(3, .int (Zi (T_gs τ164 i164))), (2, .int (Zi i164)), (0, .ref o), (1, .int (Zi kk))], [.int (Zi 1), .int (Zi a164), .ref o])) (fun _ => rfl) ?_
      refine Z_iadd rfl ?_
      refine C_pi rfl hs hp164.1.1 (by decide) (Nat.le_of_ble_eq_true rfl) (.inl rfl) rfl rfl rfl (by first | exact hs.zF _ _ | exact Zor_r _ _ | exact hs.zA _ _ | assumption | exact zA _ _ | exact zS _ | exact Zr_not (hs.zA _ _) | exact hs.1.1 _ _ | exact ⟨by omega, by omega⟩) (fun h hs => ?_)
      refine Z_go (f2 := (83, [(3, .int (Zi (T_gs τ164 i164))), (2, .int (Zi i164)), (0, .ref o), (1, .int (Zi kk))], [.ref o])) (fun _ => rfl) ?_
      refine C_gr rfl hs hp164.1.1 (by decide) (Nat.le_of_ble_eq_true rfl) rfl hp164.1.2.2.1 ?_
      refine Z_go (f2 := (87, [(3, .int (Zi (T_gs τ164 i164))), (2, .int (Zi i164)), (0, .ref o), (1, .int (Zi kk))], [.int (Zi i164), .ref tr])) (fun _ => rfl) ?_
      refine Z_go (f2 := (88, [(3, .int (Zi (T_gs τ164 i164))), (2, .int (Zi i164)), (0, .ref o), (1, .int (Zi kk))], [.int (Zi 0), .int (Zi i164), .ref tr])) (fun _ => rfl) ?_
      refine Z_go (f2 := (89, [(3, .int (Zi (T_gs τ164 i164))), (2, .int (Zi i164)), (0, .ref o), (1, .int (Zi kk))], [.int (Zi (-1)), .int (Zi 0), .int (Zi i164), .ref tr])) (fun _ => rfl) ?_
      refine Z_go (f2 := (90, [(3, .int (Zi (T_gs τ164 i164))), (2, .int (Zi i164)), (0, .ref o), (1, .int (Zi kk))], [.int (Zi (T_gs τ164 i164)), .int (Zi (-1)), .int (Zi 0), .int (Zi i164), .ref tr])) (fun _ => rfl) ?_
      refine Z_go (f2 := (91, [(3, .int (Zi (T_gs τ164 i164))), (2, .int (Zi i164)), (0, .ref o), (1, .int (Zi kk))], [.int (Zi 1), .int (Zi (T_gs τ164 i164)), .int (Zi (-1)), .int (Zi 0), .int (Zi i164), .ref tr])) (fun _ => rfl) ?_
      refine Z_iadd rfl ?_
      have wf167 := hs.1
      refine C_callV (As := [.int (Zi i164), .int (Zi 0), .int (Zi (-1)), .int (Zi (T_gs τ164 i164 + 1))]) (rest := []) rfl (by decide) rfl (by decide) rfl rfl (by decide +kernel) (Nat.le_of_ble_eq_true rfl) hs hd164.1.1 (C_newRep _ (hd164.oF hne) hz164 (a := i164) (lo := 0) (hi := -1) (z := T_gs τ164 i164 + 1) (by first | exact hs.zF _ _ | exact Zor_r _ _ | exact hs.zA _ _ | assumption | exact zA _ _ | exact zS _ | exact Zr_not (hs.zA _ _) | exact hs.1.1 _ _ | exact ⟨by omega, by omega⟩) (by first | exact hs.zF _ _ | exact Zor_r _ _ | exact hs.zA _ _ | assumption | exact zA _ _ | exact zS _ | exact Zr_not (hs.zA _ _) | exact hs.1.1 _ _ | exact ⟨by omega, by omega⟩) (by first | exact hs.zF _ _ | exact Zor_r _ _ | exact hs.zA _ _ | assumption | exact zA _ _ | exact zS _ | exact Zr_not (hs.zA _ _) | exact hs.1.1 _ _ | exact ⟨by omega, by omega⟩) (by omega) (by omega)) (fun x h v167 n167 hs q => ?_)
      obtain ⟨rfl, fr167, en167, m167, τ167, i167, rfl, ia167, ib167, hd167, hz167, hn167⟩ := q
      have zi167 : Zr i167 := ⟨by omega, by omega⟩
      have hp167 := (hp164.aa (a164 + 1)).sub wf167 fr167
      have pf167 := (pf164.sF hp164.1.2.1).on fr167 en167
      have hne := hp167.ne hd167
      show B_R _ _ (95, [(3, .int (Zi (T_gs τ164 i164))), (2, .int (Zi i164)), (0, .ref o), (1, .int (Zi kk))], [.int (Zi i167)]) _ _ _
      refine Z_iret rfl rfl (by first | rfl | decide | exact narrow_b01 (by omega)) ⟨_, hs, ?_⟩
      try dsimp only
      have eP : P_cnt S a164 = .inr (some (8, 0, 0), a164 + 1) := by
        unfold P_cnt
        rw [if_pos (by omega)]
      obtain ⟨e1, e2, e3⟩ := hn167 (by omega)
      have hc : T_cok 8 0 0 := .inl ⟨by omega, rfl, rfl⟩
      obtain ⟨y1, y2, y3⟩ := N_rep_new g5 g22 hc hm0 (by omega) (z := T_mn (T_gs τ164 i164 + 1)) (by rw [hgs, T_mn_add1 hsp (by omega), T_sz_cnt hc htis, if_neg (by omega)]) (x := 0) (y := (-1)) rfl
      refine ⟨rfl, pf167, _, _, _, _, _, i167, _, _, rfl, by omega, by omega, hp167, hd167, hz167, by omega, by omega, .inr ⟨by omega, by omega, by omega, by omega, g4.tr ⟨by omega, Int.le_refl _, by rw [e3]; exact y3, fun _ _ _ _ _ _ => Iff.rfl⟩, by omega, T_cnt t 8 0 0, F2, by rw [e1, e2, e3, e9]; exact y1, by rw [e1, e3]; exact y2, by rw [g7, P_aft_ok eP]; rfl, by omega⟩⟩
    · refine Z_swk (f2 := (96, [(3, .int (Zi (T_gs τ164 i164))), (2, .int (Zi i164)), (0, .ref o), (1, .int (Zi kk))], [])) c2 (fun _ => rfl) ?_
      refine Z_go (f2 := (97, [(3, .int (Zi (T_gs τ164 i164))), (2, .int (Zi i164)), (0, .ref o), (1, .int (Zi kk))], [.ref o])) (fun _ => rfl) ?_
      refine Z_go (f2 := (98, [(3, .int (Zi (T_gs τ164 i164))), (2, .int (Zi i164)), (0, .ref o), (1, .int (Zi kk))], [.ref o, .ref o])) (fun _ => rfl) ?_
      refine C_gi rfl hs hp164.1.1 (by decide) (Nat.le_of_ble_eq_true rfl) rfl ?_
      rw [show C_F (v164) o 5 = a164 from (by first | exact hp164.1.2.2.2.2.2.2.2.2.2.1 | exact (if_neg (fun e => absurd e.1 (by assumption))).trans hp164.1.2.2.2.2.2.2.2.2.2.1 | exact (if_neg (fun e => absurd e.2 (by decide))).trans hp164.1.2.2.2.2.2.2.2.2.2.1 | exact (if_neg (fun e => absurd e.2 (by decide))).trans ((if_neg (fun e => absurd e.2 (by decide))).trans hp164.1.2.2.2.2.2.2.2.2.2.1) | exact (if_neg (fun e => absurd e.2 (by decide))).trans ((if_neg (fun e => absurd e.2 (by decide))).trans ((if_neg (fun e => absurd e.2 (by decide))).trans hp164.1.2.2.2.2.2.2.2.2.2.1)))]
      show B_R _ _ (101, [(3, .int (Zi (T_gs τ164 i164))), (2, .int (Zi i164)), (0, .ref o), (1, .int (Zi kk))], [.int (Zi a164), .ref o]) _ _ _
      refine Z_go (f2 := (102, [(3, .int (Zi (T_gs τ164 i164))), (2, .int (Zi i164)), (0, .ref o), (1, .int (Zi kk))], [.int (Zi 1), .int (Zi a164), .ref o])) (fun _ => rfl) ?_
      refine Z_iadd rfl ?_
      refine C_pi rfl hs hp164.1.1 (by decide) (Nat.le_of_ble_eq_true rfl) (.inl rfl) rfl rfl rfl (by first | exact hs.zF _ _ | exact Zor_r _ _ | exact hs.zA _ _ | assumption | exact zA _ _ | exact zS _ | exact Zr_not (hs.zA _ _) | exact hs.1.1 _ _ | exact ⟨by omega, by omega⟩) (fun h hs => ?_)
      refine Z_go (f2 := (107, [(3, .int (Zi (T_gs τ164 i164))), (2, .int (Zi i164)), (0, .ref o), (1, .int (Zi kk))], [.ref o])) (fun _ => rfl) ?_
      refine C_gr rfl hs hp164.1.1 (by decide) (Nat.le_of_ble_eq_true rfl) rfl hp164.1.2.2.1 ?_
      refine Z_go (f2 := (111, [(3, .int (Zi (T_gs τ164 i164))), (2, .int (Zi i164)), (0, .ref o), (1, .int (Zi kk))], [.int (Zi i164), .ref tr])) (fun _ => rfl) ?_
      refine Z_go (f2 := (112, [(3, .int (Zi (T_gs τ164 i164))), (2, .int (Zi i164)), (0, .ref o), (1, .int (Zi kk))], [.int (Zi 1), .int (Zi i164), .ref tr])) (fun _ => rfl) ?_
      refine Z_go (f2 := (113, [(3, .int (Zi (T_gs τ164 i164))), (2, .int (Zi i164)), (0, .ref o), (1, .int (Zi kk))], [.int (Zi (-1)), .int (Zi 1), .int (Zi i164), .ref tr])) (fun _ => rfl) ?_
      refine Z_go (f2 := (114, [(3, .int (Zi (T_gs τ164 i164))), (2, .int (Zi i164)), (0, .ref o), (1, .int (Zi kk))], [.int (Zi (T_gs τ164 i164)), .int (Zi (-1)), .int (Zi 1), .int (Zi i164), .ref tr])) (fun _ => rfl) ?_
      refine Z_go (f2 := (115, [(3, .int (Zi (T_gs τ164 i164))), (2, .int (Zi i164)), (0, .ref o), (1, .int (Zi kk))], [.int (Zi 1), .int (Zi (T_gs τ164 i164)), .int (Zi (-1)), .int (Zi 1), .int (Zi i164), .ref tr])) (fun _ => rfl) ?_
      refine Z_iadd rfl ?_
      have wf168 := hs.1
      refine C_callV (As := [.int (Zi i164), .int (Zi 1), .int (Zi (-1)), .int (Zi (T_gs τ164 i164 + 1))]) (rest := []) rfl (by decide) rfl (by decide) rfl rfl (by decide +kernel) (Nat.le_of_ble_eq_true rfl) hs hd164.1.1 (C_newRep _ (hd164.oF hne) hz164 (a := i164) (lo := 1) (hi := -1) (z := T_gs τ164 i164 + 1) (by first | exact hs.zF _ _ | exact Zor_r _ _ | exact hs.zA _ _ | assumption | exact zA _ _ | exact zS _ | exact Zr_not (hs.zA _ _) | exact hs.1.1 _ _ | exact ⟨by omega, by omega⟩) (by first | exact hs.zF _ _ | exact Zor_r _ _ | exact hs.zA _ _ | assumption | exact zA _ _ | exact zS _ | exact Zr_not (hs.zA _ _) | exact hs.1.1 _ _ | exact ⟨by omega, by omega⟩) (by first | exact hs.zF _ _ | exact Zor_r _ _ | exact hs.zA _ _ | assumption | exact zA _ _ | exact zS _ | exact Zr_not (hs.zA _ _) | exact hs.1.1 _ _ | exact ⟨by omega, by omega⟩) (by omega) (by omega)) (fun x h v168 n168 hs q => ?_)
      obtain ⟨rfl, fr168, en168, m168, τ168, i168, rfl, ia168, ib168, hd168, hz168, hn168⟩ := q
      have zi168 : Zr i168 := ⟨by omega, by omega⟩
      have hp168 := (hp164.aa (a164 + 1)).sub wf168 fr168
      have pf168 := (pf164.sF hp164.1.2.1).on fr168 en168
      have hne := hp168.ne hd168
      show B_R _ _ (119, [(3, .int (Zi (T_gs τ164 i164))), (2, .int (Zi i164)), (0, .ref o), (1, .int (Zi kk))], [.int (Zi i168)]) _ _ _
      refine Z_iret rfl rfl (by first | rfl | decide | exact narrow_b01 (by omega)) ⟨_, hs, ?_⟩
      try dsimp only
      have eP : P_cnt S a164 = .inr (some (9, 0, 0), a164 + 1) := by
        unfold P_cnt
        rw [if_neg (by omega), if_pos (by omega)]
      obtain ⟨e1, e2, e3⟩ := hn168 (by omega)
      have hc : T_cok 9 0 0 := .inl ⟨by omega, rfl, rfl⟩
      obtain ⟨y1, y2, y3⟩ := N_rep_new g5 g22 hc hm0 (by omega) (z := T_mn (T_gs τ164 i164 + 1)) (by rw [hgs, T_mn_add1 hsp (by omega), T_sz_cnt hc htis, if_neg (by omega)]) (x := 1) (y := (-1)) rfl
      refine ⟨rfl, pf168, _, _, _, _, _, i168, _, _, rfl, by omega, by omega, hp168, hd168, hz168, by omega, by omega, .inr ⟨by omega, by omega, by omega, by omega, g4.tr ⟨by omega, Int.le_refl _, by rw [e3]; exact y3, fun _ _ _ _ _ _ => Iff.rfl⟩, by omega, T_cnt t 9 0 0, F2, by rw [e1, e2, e3, e9]; exact y1, by rw [e1, e3]; exact y2, by rw [g7, P_aft_ok eP]; rfl, by omega⟩⟩
    · refine Z_swk (f2 := (120, [(3, .int (Zi (T_gs τ164 i164))), (2, .int (Zi i164)), (0, .ref o), (1, .int (Zi kk))], [])) c2 (fun _ => rfl) ?_
      refine Z_go (f2 := (121, [(3, .int (Zi (T_gs τ164 i164))), (2, .int (Zi i164)), (0, .ref o), (1, .int (Zi kk))], [.ref o])) (fun _ => rfl) ?_
      refine Z_go (f2 := (122, [(3, .int (Zi (T_gs τ164 i164))), (2, .int (Zi i164)), (0, .ref o), (1, .int (Zi kk))], [.ref o, .ref o])) (fun _ => rfl) ?_
      refine C_gi rfl hs hp164.1.1 (by decide) (Nat.le_of_ble_eq_true rfl) rfl ?_
      rw [show C_F (v164) o 5 = a164 from (by first | exact hp164.1.2.2.2.2.2.2.2.2.2.1 | exact (if_neg (fun e => absurd e.1 (by assumption))).trans hp164.1.2.2.2.2.2.2.2.2.2.1 | exact (if_neg (fun e => absurd e.2 (by decide))).trans hp164.1.2.2.2.2.2.2.2.2.2.1 | exact (if_neg (fun e => absurd e.2 (by decide))).trans ((if_neg (fun e => absurd e.2 (by decide))).trans hp164.1.2.2.2.2.2.2.2.2.2.1) | exact (if_neg (fun e => absurd e.2 (by decide))).trans ((if_neg (fun e => absurd e.2 (by decide))).trans ((if_neg (fun e => absurd e.2 (by decide))).trans hp164.1.2.2.2.2.2.2.2.2.2.1)))]
      show B_R _ _ (125, [(3, .int (Zi (T_gs τ164 i164))), (2, .int (Zi i164)), (0, .ref o), (1, .int (Zi kk))], [.int (Zi a164), .ref o]) _ _ _
      refine Z_go (f2 := (126, [(3, .int (Zi (T_gs τ164 i164))), (2, .int (Zi i164)), (0, .ref o), (1, .int (Zi kk))], [.int (Zi 1), .int (Zi a164), .ref o])) (fun _ => rfl) ?_
      refine Z_iadd rfl ?_
      refine C_pi rfl hs hp164.1.1 (by decide) (Nat.le_of_ble_eq_true rfl) (.inl rfl) rfl rfl rfl (by first | exact hs.zF _ _ | exact Zor_r _ _ | exact hs.zA _ _ | assumption | exact zA _ _ | exact zS _ | exact Zr_not (hs.zA _ _) | exact hs.1.1 _ _ | exact ⟨by omega, by omega⟩) (fun h hs => ?_)
      refine Z_go (f2 := (131, [(3, .int (Zi (T_gs τ164 i164))), (2, .int (Zi i164)), (0, .ref o), (1, .int (Zi kk))], [.ref o])) (fun _ => rfl) ?_
      refine C_gr rfl hs hp164.1.1 (by decide) (Nat.le_of_ble_eq_true rfl) rfl hp164.1.2.2.1 ?_
      refine Z_go (f2 := (135, [(3, .int (Zi (T_gs τ164 i164))), (2, .int (Zi i164)), (0, .ref o), (1, .int (Zi kk))], [.int (Zi i164), .ref tr])) (fun _ => rfl) ?_
      refine Z_go (f2 := (136, [(3, .int (Zi (T_gs τ164 i164))), (2, .int (Zi i164)), (0, .ref o), (1, .int (Zi kk))], [.int (Zi 0), .int (Zi i164), .ref tr])) (fun _ => rfl) ?_
      refine Z_go (f2 := (137, [(3, .int (Zi (T_gs τ164 i164))), (2, .int (Zi i164)), (0, .ref o), (1, .int (Zi kk))], [.int (Zi 1), .int (Zi 0), .int (Zi i164), .ref tr])) (fun _ => rfl) ?_
      refine Z_go (f2 := (138, [(3, .int (Zi (T_gs τ164 i164))), (2, .int (Zi i164)), (0, .ref o), (1, .int (Zi kk))], [.int (Zi (T_gs τ164 i164)), .int (Zi 1), .int (Zi 0), .int (Zi i164), .ref tr])) (fun _ => rfl) ?_
      refine Z_go (f2 := (139, [(3, .int (Zi (T_gs τ164 i164))), (2, .int (Zi i164)), (0, .ref o), (1, .int (Zi kk))], [.int (Zi 1), .int (Zi (T_gs τ164 i164)), .int (Zi 1), .int (Zi 0), .int (Zi i164), .ref tr])) (fun _ => rfl) ?_
      refine Z_iadd rfl ?_
      have wf169 := hs.1
      refine C_callV (As := [.int (Zi i164), .int (Zi 0), .int (Zi 1), .int (Zi (T_gs τ164 i164 + 1))]) (rest := []) rfl (by decide) rfl (by decide) rfl rfl (by decide +kernel) (Nat.le_of_ble_eq_true rfl) hs hd164.1.1 (C_newRep _ (hd164.oF hne) hz164 (a := i164) (lo := 0) (hi := 1) (z := T_gs τ164 i164 + 1) (by first | exact hs.zF _ _ | exact Zor_r _ _ | exact hs.zA _ _ | assumption | exact zA _ _ | exact zS _ | exact Zr_not (hs.zA _ _) | exact hs.1.1 _ _ | exact ⟨by omega, by omega⟩) (by first | exact hs.zF _ _ | exact Zor_r _ _ | exact hs.zA _ _ | assumption | exact zA _ _ | exact zS _ | exact Zr_not (hs.zA _ _) | exact hs.1.1 _ _ | exact ⟨by omega, by omega⟩) (by first | exact hs.zF _ _ | exact Zor_r _ _ | exact hs.zA _ _ | assumption | exact zA _ _ | exact zS _ | exact Zr_not (hs.zA _ _) | exact hs.1.1 _ _ | exact ⟨by omega, by omega⟩) (by omega) (by omega)) (fun x h v169 n169 hs q => ?_)
      obtain ⟨rfl, fr169, en169, m169, τ169, i169, rfl, ia169, ib169, hd169, hz169, hn169⟩ := q
      have zi169 : Zr i169 := ⟨by omega, by omega⟩
      have hp169 := (hp164.aa (a164 + 1)).sub wf169 fr169
      have pf169 := (pf164.sF hp164.1.2.1).on fr169 en169
      have hne := hp169.ne hd169
      show B_R _ _ (143, [(3, .int (Zi (T_gs τ164 i164))), (2, .int (Zi i164)), (0, .ref o), (1, .int (Zi kk))], [.int (Zi i169)]) _ _ _
      refine Z_iret rfl rfl (by first | rfl | decide | exact narrow_b01 (by omega)) ⟨_, hs, ?_⟩
      try dsimp only
      have eP : P_cnt S a164 = .inr (some (10, 0, 0), a164 + 1) := by
        unfold P_cnt
        rw [if_neg (by omega), if_neg (by omega), if_pos (by omega)]
      obtain ⟨e1, e2, e3⟩ := hn169 (by omega)
      have hc : T_cok 10 0 0 := .inl ⟨by omega, rfl, rfl⟩
      obtain ⟨y1, y2, y3⟩ := N_rep_new g5 g22 hc hm0 (by omega) (z := T_mn (T_gs τ164 i164 + 1)) (by rw [hgs, T_mn_add1 hsp (by omega), T_sz_cnt hc htis, if_neg (by omega)]) (x := 0) (y := 1) rfl
      refine ⟨rfl, pf169, _, _, _, _, _, i169, _, _, rfl, by omega, by omega, hp169, hd169, hz169, by omega, by omega, .inr ⟨by omega, by omega, by omega, by omega, g4.tr ⟨by omega, Int.le_refl _, by rw [e3]; exact y3, fun _ _ _ _ _ _ => Iff.rfl⟩, by omega, T_cnt t 10 0 0, F2, by rw [e1, e2, e3, e9]; exact y1, by rw [e1, e3]; exact y2, by rw [g7, P_aft_ok eP]; rfl, by omega⟩⟩
    · refine Z_swk (f2 := (144, [(3, .int (Zi (T_gs τ164 i164))), (2, .int (Zi i164)), (0, .ref o), (1, .int (Zi kk))], [])) c2 (fun _ => rfl) ?_
      refine Z_go (f2 := (145, [(3, .int (Zi (T_gs τ164 i164))), (2, .int (Zi i164)), (0, .ref o), (1, .int (Zi kk))], [.ref o])) (fun _ => rfl) ?_
      refine Z_go (f2 := (146, [(3, .int (Zi (T_gs τ164 i164))), (2, .int (Zi i164)), (0, .ref o), (1, .int (Zi kk))], [.ref o, .ref o])) (fun _ => rfl) ?_
      refine C_gi rfl hs hp164.1.1 (by decide) (Nat.le_of_ble_eq_true rfl) rfl ?_
      rw [show C_F (v164) o 5 = a164 from (by first | exact hp164.1.2.2.2.2.2.2.2.2.2.1 | exact (if_neg (fun e => absurd e.1 (by assumption))).trans hp164.1.2.2.2.2.2.2.2.2.2.1 | exact (if_neg (fun e => absurd e.2 (by decide))).trans hp164.1.2.2.2.2.2.2.2.2.2.1 | exact (if_neg (fun e => absurd e.2 (by decide))).trans ((if_neg (fun e => absurd e.2 (by decide))).trans hp164.1.2.2.2.2.2.2.2.2.2.1) | exact (if_neg (fun e => absurd e.2 (by decide))).trans ((if_neg (fun e => absurd e.2 (by decide))).trans ((if_neg (fun e => absurd e.2 (by decide))).trans hp164.1.2.2.2.2.2.2.2.2.2.1)))]
      show B_R _ _ (149, [(3, .int (Zi (T_gs τ164 i164))), (2, .int (Zi i164)), (0, .ref o), (1, .int (Zi kk))], [.int (Zi a164), .ref o]) _ _ _
      refine Z_go (f2 := (150, [(3, .int (Zi (T_gs τ164 i164))), (2, .int (Zi i164)), (0, .ref o), (1, .int (Zi kk))], [.int (Zi 1), .int (Zi a164), .ref o])) (fun _ => rfl) ?_
      refine Z_iadd rfl ?_
      refine C_pi rfl hs hp164.1.1 (by decide) (Nat.le_of_ble_eq_true rfl) (.inl rfl) rfl rfl rfl (by first | exact hs.zF _ _ | exact Zor_r _ _ | exact hs.zA _ _ | assumption | exact zA _ _ | exact zS _ | exact Zr_not (hs.zA _ _) | exact hs.1.1 _ _ | exact ⟨by omega, by omega⟩) (fun h hs => ?_)
      refine Z_go (f2 := (155, [(3, .int (Zi (T_gs τ164 i164))), (2, .int (Zi i164)), (0, .ref o), (1, .int (Zi kk))], [.ref o])) (fun _ => rfl) ?_
      refine Z_go (f2 := (156, [(3, .int (Zi (T_gs τ164 i164))), (2, .int (Zi i164)), (0, .ref o), (1, .int (Zi kk))], [.int (Zi i164), .ref o])) (fun _ => rfl) ?_
      have wf170 := hs.1
      refine C_callV (As := [.int (Zi i164)]) (rest := []) rfl (by decide) rfl (by decide) rfl rfl (by decide +kernel) (Nat.le_of_ble_eq_true rfl) hs hp164.1.1 (C_brace _ (hp164.aa (a164 + 1)) (hd164.oF hne) hz164 (by omega) (i0 := i164) (by omega) (by omega) (by omega) (by omega) (by omega) (by rw [show a164 + 1 - 1 = a164 by omega]; omega)) (fun x h v170 n170 hs q => ?_)
      obtain ⟨rfl, pg170, f170, pl170, a170, m170, i170, τ170, rfl, ia170, ib170, hp170, hd170, hz170, ga170, gb170, sy170⟩ := q
      have zi170 : Zr i170 := ⟨by omega, by omega⟩
      have pf170 := (pf164.sF hp164.1.2.1).tr pg170
      have hne := hp170.ne hd170
      obtain ⟨zzf170, zzp170, zza170, _⟩ := hp170.z hs
      show B_R _ _ (159, [(3, .int (Zi (T_gs τ164 i164))), (2, .int (Zi i164)), (0, .ref o), (1, .int (Zi kk))], [.int (Zi i170)]) _ _ _
      refine Z_iret rfl rfl (by first | rfl | decide | exact narrow_b01 (by omega)) ⟨_, hs, ?_⟩
      try dsimp only
      have ea : a164 + 1 - 1 = a164 := by omega
      rw [ea] at sy170
      cases eP : P_cnt S a164 using P_R_el with
      | bad q w =>
        rw [eP] at sy170
        obtain ⟨q1, q2, q3⟩ := (sy170 : _ ∧ _ ∧ _)
        refine ⟨rfl, pf170, _, _, _, _, _, i170, _, _, rfl, by omega, by omega, hp170, hd170, hz170, by omega, by omega, .inl ⟨by omega, by rw [g7, P_aft_no eP, q1, q2]⟩⟩
      | ok e b =>
        rw [eP] at sy170
        obtain ⟨q1, q2, q3, q4, q5, q6, l, h, q7, q8, q9⟩ := (sy170 : _ ∧ _ ∧ _ ∧ _ ∧ _ ∧ _ ∧ _)
        have hlh : 0 ≤ l ∧ (h = -1 ∨ l ≤ h) := by
          rcases q8 with q8 | q8
          · exact absurd q8.1 (by omega)
          · omega
        obtain ⟨y1, y2, y3⟩ := N_rep_new g5 g22 q8 hm0 (by omega) (z := T_mn (T_cz l h (T_gs τ164 i164))) (by rw [hgs, T_cz_mn hlh.1 hlh.2 hsp, T_sz_cnt q8 htis, if_pos rfl]; rfl) (x := l) (y := h) rfl
        refine ⟨rfl, pf170, _, _, _, _, _, i170, _, _, rfl, by omega, by omega, hp170, hd170, hz170, by omega, by omega, .inr ⟨by omega, by omega, by omega, by omega, g4.tr ⟨by omega, Int.le_refl _, by rw [q9]; exact y3, fun _ _ _ _ _ _ => Iff.rfl⟩, by omega, T_cnt t 11 l h, F2, by rw [q5, q6, q9, e9]; exact y1, by rw [q5, q9]; exact y2, by rw [g7, P_aft_ok eP, q2, q7]; rfl, by omega⟩⟩
    · refine Z_lswd rfl (by first | exact hs.zF _ _ | exact Zor_r _ _ | exact hs.zA _ _ | assumption | exact zA _ _ | exact zS _ | exact Zr_not (hs.zA _ _) | exact hs.1.1 _ _ | exact ⟨by omega, by omega⟩) (by decide) (by simp; omega) (by rfl) ?_
      show B_R _ _ (160, [(3, .int (Zi (T_gs τ164 i164))), (2, .int (Zi i164)), (0, .ref o), (1, .int (Zi kk))], []) _ _ _
      refine Z_go (f2 := (161, [(3, .int (Zi (T_gs τ164 i164))), (2, .int (Zi i164)), (0, .ref o), (1, .int (Zi kk))], [.int (Zi i164)])) (fun _ => rfl) ?_
      refine Z_iret rfl rfl (by first | rfl | decide | exact narrow_b01 (by omega)) ⟨_, hs, ?_⟩
      try dsimp only
      have eP : P_cnt S a164 = .inr (none, a164) := by
        unfold P_cnt
        rw [if_neg (by omega), if_neg (by omega), if_neg (by omega), if_pos (by omega)]
      refine ⟨rfl, pf164, _, _, _, _, _, i164, _, _, rfl, by omega, by omega, hp164, hd164, hz164, by omega, by omega, .inr ⟨by omega, by omega, by omega, by omega, g4, by omega, t, F2, N_is.ups g5 (by omega), g6, by rw [g7, P_aft_ok eP]; rfl, by omega⟩⟩
  · refine Z_go (f2 := (14, [(2, .int (Zi i164)), (0, .ref o), (1, .int (Zi kk))], [.int (Zi i164)])) (fun _ => rfl) ?_
    refine Z_iret rfl rfl (by first | rfl | decide | exact narrow_b01 (by omega)) ⟨_, hs, ?_⟩
    try dsimp only
    rcases sy164 with ⟨hf, hE⟩ | ⟨hf, _⟩
    · refine ⟨rfl, pf164, _, _, _, _, _, i164, _, _, rfl, by omega, by omega, hp164, hd164, hz164, by omega, by omega, .inl ⟨hf, hE⟩⟩
    · exact absurd hf (by assumption)
