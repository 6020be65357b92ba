/-! the class: Parser: groups, atoms -/
def E_post (p : List Nat) (o tr src N : Nat) (S : Int → Int) (nn fo : Int) (A : Nat → Nat) (s : C_S) (m sm : Int) (τ : Nat → Int → Int) (β : Int → Int64) (a cap : Int) (R : P_R P_T) (G : Int → Int → Int → (Nat → Int → Int) → (Int → Int64) → Int → Prop) (x : Option Value) (s2 : C_S) (n : Nat) : Prop := n = 0 ∧ D_Pf p s s2 ∧ ∃ (f2 pl2 a2 m2 sm2 i : Int) (τ2 : Nat → Int → Int) (β2 : Int → Int64), x = some (.int (Zi i)) ∧ -1 ≤ i ∧ i < 168 ∧ D_P0 s2 p o tr src N S nn fo f2 pl2 a2 ∧ D_Tr s2 (p ++ [tr]) tr A m2 sm2 τ2 β2 ∧ T_zb τ2 ∧ a ≤ a2 ∧ a2 ≤ cap ∧ (f2 ≠ 0 ∧ R = .inl (f2, pl2) ∨ f2 = 0 ∧ a2 ≤ nn ∧ m2 ≤ 2 * a2 + 2 ∧ sm2 ≤ a2 ∧ N_new τ β m sm τ2 β2 m2 sm2 ∧ G a2 m2 sm2 τ2 β2 i)
def G_a (S : Int → Int) (fold : Prop) (nn a m : Int) (D : Nat) (R : P_R P_T) (o' : Option P_T) (c : P_T) (st : P_K) (a2 m2 sm2 : Int) (τ2 : Nat → Int → Int) (β2 : Int → Int64) (i : Int) : Prop := a < a2 ∧ ∃ (t : P_T) (F2 : Nat), N_is τ2 (T_has β2) sm2 D 0 m m2 i t ∧ τ2 3 i = -1 ∧ R = P_aft S fold F2 t a2 o' c st ∧ nn - a2 < (F2 : Int) ∧ τ2 0 i ≠ 2
def G_r (S : Int → Int) (fold : Prop) (nn a m : Int) (D : Nat) (R : P_R P_T) (o' : Option P_T) (c : P_T) (st : P_K) (a2 m2 sm2 : Int) (τ2 : Nat → Int → Int) (β2 : Int → Int64) (i : Int) : Prop := a < a2 ∧ ∃ (t : P_T) (F2 : Nat), N_is τ2 (T_has β2) sm2 D 0 m m2 i t ∧ τ2 3 i = -1 ∧ R = P_run S fold F2 a2 ((o', T_beh c t) :: st) ∧ nn - a2 < (F2 : Int)
def G_c (S : Int → Int) (fold : Prop) (nn m : Int) (D : Nat) (R : P_R P_T) (o' : Option P_T) (st : P_K) (a2 m2 sm2 : Int) (τ2 : Nat → Int → Int) (β2 : Int → Int64) (i : Int) : Prop := ∃ (c : P_T) (F2 : Nat), N_is τ2 (T_has β2) sm2 D 1 m m2 i c ∧ τ2 3 i = -1 ∧ R = P_run S fold F2 a2 ((o', c) :: st) ∧ nn - a2 < (F2 : Int) ∧ (S a2 = -1 ∨ S a2 = 124 ∨ S a2 = 41)
def G_l (S : Int → Int) (fold : Prop) (nn m : Int) (D : Nat) (R : P_R P_T) (st : P_K) (a2 m2 sm2 : Int) (τ2 : Nat → Int → Int) (β2 : Int → Int64) (i : Int) : Prop := ∃ (o' : Option P_T) (c : P_T) (F2 : Nat), N_is τ2 (T_has β2) sm2 D 2 m m2 i (P_orj o' c) ∧ τ2 3 i = -1 ∧ R = P_run S fold F2 a2 ((o', c) :: st) ∧ nn - a2 < (F2 : Int) ∧ (S a2 = -1 ∨ S a2 = 41)
/-- what readAlt does, at a depth -/
def K_alt (dd : Nat) (kk : Int) : Prop := ∀ {s : C_S} {p : List Nat} {o tr src N : Nat} {S : Int → Int} {nn fo pl a : Int} {A : Nat → Nat} {m sm : Int} {τ : Nat → Int → Int} {β : Int → Int64} {F : Nat} {st : P_K} {R : P_R P_T}, D_P0 s p o tr src N S nn fo 0 pl a → D_Tr s (p ++ [tr]) tr A m sm τ β → T_zb τ → 0 ≤ a → a ≤ nn → m ≤ 2 * a → sm ≤ a → (st.length : Int) = kk → R = P_run S (fo ≠ 0) F a ((none, T_emp) :: st) → nn - a < (F : Int) → C_ok dd 35 [.ref o, .int (Zi kk)] s (E_post p o tr src N S nn fo A s m sm τ β a (nn + 20 - kk) R (G_l S (fo ≠ 0) nn m (48 - 4 * kk.toNat) R st))
theorem P_at_ok {S : Int → Int} {fold : Prop} {a b : Int} {A : P_A} (h : P_atom S fold a = .inr (A, b)) : A_ok A := P_atom_ok h
theorem C_grp (d : Nat) {s : C_S} {p : List Nat} {o tr src N : Nat} {S : Int → Int} {nn fo pl a : Int} {A : Nat → Nat} {m sm : Int} {τ : Nat → Int → Int} {β : Int → Int64} {F : Nat} {st : P_K} {R : P_R P_T} {o' : Option P_T} {c : P_T} {kk : Int} (hp : D_P0 s p o tr src N S nn fo 0 pl a) (hd : D_Tr s (p ++ [tr]) tr A m sm τ β) (hz : T_zb τ) (a0 : 0 ≤ a) (an : a < nn) (hm : m ≤ 2 * a + 2) (hsa : sm ≤ a) (k0 : 0 ≤ kk) (k1 : kk ≤ 10) (hk : (st.length : Int) = kk) (hR : R = P_run S (fo ≠ 0) F a ((o', c) :: st)) (hF : nn - a < (F : Int)) (hS : S a = 40) (hA : kk < 10 → K_alt (d + 5) (kk + 1)) : C_ok (d + 6) 42 [.ref o, .int (Zi kk)] s (fun x s2 n => E_post p o tr src N S nn fo A s m sm τ β a (nn + 20 - kk) R (G_a S (fo ≠ 0) nn a m (45 - 4 * kk.toNat) R o' c st) x s2 n) := by
  refine C_enter (M := E_m42) rfl (Nat.le_of_ble_eq_true rfl) (fun h0 h hs => ?_)
  show B_R (d + 5) _ (0, [(0, .ref o), (1, .int (Zi kk))], []) _ _ _
  have hpz := hp.z hs
  have za := hpz.2.2.1
  have zn := hpz.2.2.2.1
  have zfo := hpz.2.2.2.2
  have nn0 := hp.2.2.2.2.1
  have nn1 := hp.2.2.2.2.2
  have hne := hp.ne hd
  have hm0 := hd.1.2.2.2.2.1
  have hm1 := hd.1.2.2.2.2.2.1
  have hsm0 := hd.1.2.2.2.2.2.2.1
  have hsm1 := hd.1.2.2.2.2.2.2.2
  obtain ⟨F, rfl⟩ : ∃ F2, F = F2 + 1 := ⟨F - 1, by omega⟩
  rw [P_run_open hS] at hR
  refine Z_go (f2 := (1, [(0, .ref o), (1, .int (Zi kk))], [.int (Zi kk)])) (fun _ => rfl) ?_
  refine Z_go (f2 := (3, [(0, .ref o), (1, .int (Zi kk))], [.int (Zi 10), .int (Zi kk)])) (fun _ => rfl) ?_
  refine Z_clt rfl rfl (by first | exact hs.zF _ _ | exact Zor_r _ _ | exact hs.zA _ _ | assumption | exact zA _ _ | exact zS _ | exact Zr_not (hs.zA _ _) | exact hs.1.1 _ _ | exact ⟨by omega, by omega⟩) (by first | exact hs.zF _ _ | exact Zor_r _ _ | exact hs.zA _ _ | assumption | exact zA _ _ | exact zS _ | exact Zr_not (hs.zA _ _) | exact hs.1.1 _ _ | exact ⟨by omega, by omega⟩) (fun c1 => ?_) (fun c1 => ?_)
  · refine Z_go (f2 := (18, [(0, .ref o), (1, .int (Zi kk))], [.ref o])) (fun _ => rfl) ?_
    refine Z_go (f2 := (19, [(0, .ref o), (1, .int (Zi kk))], [.ref o, .ref o])) (fun _ => rfl) ?_
    refine C_gi rfl hs hp.1.1 (by decide) (Nat.le_of_ble_eq_true rfl) rfl ?_
    rw [show C_F (s) o 5 = a from (by first | exact hp.1.2.2.2.2.2.2.2.2.2.1 | exact (if_neg (fun e => absurd e.1 (by assumption))).trans hp.1.2.2.2.2.2.2.2.2.2.1 | exact (if_neg (fun e => absurd e.2 (by decide))).trans hp.1.2.2.2.2.2.2.2.2.2.1 | exact (if_neg (fun e => absurd e.2 (by decide))).trans ((if_neg (fun e => absurd e.2 (by decide))).trans hp.1.2.2.2.2.2.2.2.2.2.1) | exact (if_neg (fun e => absurd e.2 (by decide))).trans ((if_neg (fun e => absurd e.2 (by decide))).trans ((if_neg (fun e => absurd e.2 (by decide))).trans hp.1.2.2.2.2.2.2.2.2.2.1)))]
    show B_R _ _ (22, [(0, .ref o), (1, .int (Zi kk))], [.int (Zi a), .ref o]) _ _ _
    refine Z_go (f2 := (23, [(0, .ref o), (1, .int (Zi kk))], [.int (Zi 1), .int (Zi a), .ref o])) (fun _ => rfl) ?_
    refine Z_iadd rfl ?_
    refine C_pi rfl hs hp.1.1 (by decide) (Nat.le_of_ble_eq_true rfl) (.inl rfl) rfl rfl rfl (by first | exact hs.zF _ _ | exact Zor_r _ _ | exact hs.zA _ _ | assumption | exact zA _ _ | exact zS _ | exact Zr_not (hs.zA _ _) | exact hs.1.1 _ _ | exact ⟨by omega, by omega⟩) (fun h hs => ?_)
    refine Z_go (f2 := (28, [(0, .ref o), (1, .int (Zi kk))], [.ref o])) (fun _ => rfl) ?_
    refine Z_go (f2 := (29, [(0, .ref o), (1, .int (Zi kk))], [.int (Zi kk), .ref o])) (fun _ => rfl) ?_
    refine Z_go (f2 := (30, [(0, .ref o), (1, .int (Zi kk))], [.int (Zi 1), .int (Zi kk), .ref o])) (fun _ => rfl) ?_
    refine Z_iadd rfl ?_
    have wf154 := hs.1
    refine C_callV (As := [.int (Zi (kk + 1))]) (rest := []) rfl (by decide) rfl (by decide) rfl rfl (by decide +kernel) (Nat.le_of_ble_eq_true rfl) hs hp.1.1 (hA (by omega) (hp.aa (a + 1)) (hd.oF hne) hz (by omega) (by omega) (by omega) (by omega) (st := (o', c) :: st) (by rw [List.length_cons]; omega) (F := F) rfl (by omega)) (fun x h v154 n154 hs q => ?_)
    obtain ⟨rfl, pg154, f154, pl154, a154, m154, sm154, i154, τ154, β154, rfl, ia154, ib154, hp154, hd154, hz154, ga154, gb154, sy154⟩ := q
    have zi154 : Zr i154 := ⟨by omega, by omega⟩
    have pf154 := ((D_Pf.refl p s).sF hp.1.2.1).tr pg154
    have hne := hp154.ne hd154
    obtain ⟨zzf154, zzp154, zza154, _⟩ := hp154.z hs
    show B_R _ _ (34, [(0, .ref o), (1, .int (Zi kk))], [.int (Zi i154)]) _ _ _
    refine Z_go (f2 := (35, [(2, .int (Zi i154)), (0, .ref o), (1, .int (Zi kk))], [])) (fun _ => rfl) ?_
    refine Z_go (f2 := (36, [(2, .int (Zi i154)), (0, .ref o), (1, .int (Zi kk))], [.ref o])) (fun _ => rfl) ?_
    refine C_gi rfl hs hp154.1.1 (by decide) (Nat.le_of_ble_eq_true rfl) rfl ?_
    rw [show C_F (v154) o 1 = f154 from (by first | exact hp154.1.2.2.2.2.2.2.1 | exact (if_neg (fun e => absurd e.1 (by assumption))).trans hp154.1.2.2.2.2.2.2.1 | exact (if_neg (fun e => absurd e.2 (by decide))).trans hp154.1.2.2.2.2.2.2.1 | exact (if_neg (fun e => absurd e.2 (by decide))).trans ((if_neg (fun e => absurd e.2 (by decide))).trans hp154.1.2.2.2.2.2.2.1) | exact (if_neg (fun e => absurd e.2 (by decide))).trans ((if_neg (fun e => absurd e.2 (by decide))).trans ((if_neg (fun e => absurd e.2 (by decide))).trans hp154.1.2.2.2.2.2.2.1)))]
    show B_R _ _ (39, [(2, .int (Zi i154)), (0, .ref o), (1, .int (Zi kk))], [.int (Zi f154)]) _ _ _
    refine Z_ine rfl rfl (by first | exact hs.zF _ _ | exact Zor_r _ _ | exact hs.zA _ _ | assumption | exact zA _ _ | exact zS _ | exact Zr_not (hs.zA _ _) | exact hs.1.1 _ _ | exact ⟨by omega, by omega⟩) (fun c2 => ?_) (fun c2 => ?_)
    · refine Z_go (f2 := (61, [(2, .int (Zi i154)), (0, .ref o), (1, .int (Zi kk))], [.ref o])) (fun _ => rfl) ?_
      refine Z_go (f2 := (62, [(2, .int (Zi i154)), (0, .ref o), (1, .int (Zi kk))], [.ref o, .ref o])) (fun _ => rfl) ?_
      refine C_gi rfl hs hp154.1.1 (by decide) (Nat.le_of_ble_eq_true rfl) rfl ?_
      rw [show C_F (v154) o 5 = a154 from (by first | exact hp154.1.2.2.2.2.2.2.2.2.2.1 | exact (if_neg (fun e => absurd e.1 (by assumption))).trans hp154.1.2.2.2.2.2.2.2.2.2.1 | exact (if_neg (fun e => absurd e.2 (by decide))).trans hp154.1.2.2.2.2.2.2.2.2.2.1 | exact (if_neg (fun e => absurd e.2 (by decide))).trans ((if_neg (fun e => absurd e.2 (by decide))).trans hp154.1.2.2.2.2.2.2.2.2.2.1) | exact (if_neg (fun e => absurd e.2 (by decide))).trans ((if_neg (fun e => absurd e.2 (by decide))).trans ((if_neg (fun e => absurd e.2 (by decide))).trans hp154.1.2.2.2.2.2.2.2.2.2.1)))]
      show B_R _ _ (65, [(2, .int (Zi i154)), (0, .ref o), (1, .int (Zi kk))], [.int (Zi a154), .ref o]) _ _ _
      refine Z_go (f2 := (66, [(2, .int (Zi i154)), (0, .ref o), (1, .int (Zi kk))], [.int (Zi 1), .int (Zi a154), .ref o])) (fun _ => rfl) ?_
      refine Z_iadd rfl ?_
      refine C_pi rfl hs hp154.1.1 (by decide) (Nat.le_of_ble_eq_true rfl) (.inl rfl) rfl rfl rfl (by first | exact hs.zF _ _ | exact Zor_r _ _ | exact hs.zA _ _ | assumption | exact zA _ _ | exact zS _ | exact Zr_not (hs.zA _ _) | exact hs.1.1 _ _ | exact ⟨by omega, by omega⟩) (fun h hs => ?_)
      refine Z_go (f2 := (71, [(2, .int (Zi i154)), (0, .ref o), (1, .int (Zi kk))], [.int (Zi i154)])) (fun _ => rfl) ?_
      refine Z_iret rfl rfl (by first | rfl | decide | exact narrow_b01 (by omega)) ⟨_, hs, ?_⟩
      try dsimp only
      rw [if_neg (by omega)] at hR
      rcases sy154 with ⟨hf, hE⟩ | ⟨hf, g1, g2, g3, g4, o2, c2, F2, g5, g6, g7, g8, g9⟩
      · first
        | (exfalso; omega)
        | (refine ⟨rfl, (pf154.sF hp154.1.2.1), _, _, _, _, _, i154, _, _, rfl, by omega, by omega, (hp154.aa (a154 + 1)), (hd154.oF hne), hz154, by omega, by omega, .inl ⟨by omega, ?_⟩⟩
           rw [hR, hE])
      · obtain ⟨F2, rfl⟩ : ∃ F3, F2 = F3 + 1 := ⟨F2 - 1, by omega⟩
        have hra2 := hp154.r a154 (by omega)
        first
        | (exfalso; omega)
        | (refine ⟨rfl, (pf154.sF hp154.1.2.1), _, _, _, _, _, i154, _, _, rfl, by omega, by omega, (hp154.aa (a154 + 1)), (hd154.oF hne), hz154, by omega, by omega, .inl ⟨by omega, ?_⟩⟩
           rw [hR, g7, P_run_end (by omega)])
        | (have e41 : S a154 = 41 := by omega
           refine ⟨rfl, (pf154.sF hp154.1.2.1), _, _, _, _, _, i154, _, _, rfl, by omega, by omega, (hp154.aa (a154 + 1)), (hd154.oF hne), hz154, by omega, by omega, .inr ⟨by omega, by omega, by omega, by omega, g4, by omega, P_orj o2 c2, F2, ?_, g6, by rw [hR, g7, P_run_close e41], by omega, by rw [N_is.k2 g5]; decide⟩⟩
           have hup := N_is.ups (e := 44 - 4 * kk.toNat) g5 (by omega)
           have e9 : 45 - 4 * kk.toNat = (44 - 4 * kk.toNat) + 1 := by omega
           rw [e9]
           exact ⟨(N_is.r hup).1, (N_is.r hup).2, by rw [if_pos rfl]; exact .inr (.inr hup)⟩)
    · obtain rfl : f154 = 0 := by omega
      refine Z_go (f2 := (43, [(2, .int (Zi i154)), (0, .ref o), (1, .int (Zi kk))], [.ref o])) (fun _ => rfl) ?_
      refine C_callVR (As := []) (rest := []) rfl (by decide) rfl (by decide) rfl rfl (by decide +kernel) (Nat.le_of_ble_eq_true rfl) hs hp154.1.1 (C_peek _ hp154 (by omega)) (fun x q => ?_)
      obtain rfl := q
      have zpk155 := hp.r a154 (by omega)
      show B_R _ _ (46, [(2, .int (Zi i154)), (0, .ref o), (1, .int (Zi kk))], [.int (Zi (S a154))]) _ _ _
      refine Z_go (f2 := (48, [(2, .int (Zi i154)), (0, .ref o), (1, .int (Zi kk))], [.int (Zi 41), .int (Zi (S a154))])) (fun _ => rfl) ?_
      refine Z_ceq rfl rfl (by first | exact hs.zF _ _ | exact Zor_r _ _ | exact hs.zA _ _ | assumption | exact zA _ _ | exact zS _ | exact Zr_not (hs.zA _ _) | exact hs.1.1 _ _ | exact ⟨by omega, by omega⟩) (by first | exact hs.zF _ _ | exact Zor_r _ _ | exact hs.zA _ _ | assumption | exact zA _ _ | exact zS _ | exact Zr_not (hs.zA _ _) | exact hs.1.1 _ _ | exact ⟨by omega, by omega⟩) (fun c3 => ?_) (fun c3 => ?_)
      · refine Z_go (f2 := (61, [(2, .int (Zi i154)), (0, .ref o), (1, .int (Zi kk))], [.ref o])) (fun _ => rfl) ?_
        refine Z_go (f2 := (62, [(2, .int (Zi i154)), (0, .ref o), (1, .int (Zi kk))], [.ref o, .ref o])) (fun _ => rfl) ?_
        refine C_gi rfl hs hp154.1.1 (by decide) (Nat.le_of_ble_eq_true rfl) rfl ?_
        rw [show C_F (v154) o 5 = a154 from (by first | exact hp154.1.2.2.2.2.2.2.2.2.2.1 | exact (if_neg (fun e => absurd e.1 (by assumption))).trans hp154.1.2.2.2.2.2.2.2.2.2.1 | exact (if_neg (fun e => absurd e.2 (by decide))).trans hp154.1.2.2.2.2.2.2.2.2.2.1 | exact (if_neg (fun e => absurd e.2 (by decide))).trans ((if_neg (fun e => absurd e.2 (by decide))).trans hp154.1.2.2.2.2.2.2.2.2.2.1) | exact (if_neg (fun e => absurd e.2 (by decide))).trans ((if_neg (fun e => absurd e.2 (by decide))).trans ((if_neg (fun e => absurd e.2 (by decide))).trans hp154.1.2.2.2.2.2.2.2.2.2.1)))]
        show B_R _ _ (65, [(2, .int (Zi i154)), (0, .ref o), (1, .int (Zi kk))], [.int (Zi a154), .ref o]) _ _ _
        refine Z_go (f2 := (66, [(2, .int (Zi i154)), (0, .ref o), (1, .int (Zi kk))], [.int (Zi 1), .int (Zi a154), .ref o])) (fun _ => rfl) ?_
        refine Z_iadd rfl ?_
        refine C_pi rfl hs hp154.1.1 (by decide) (Nat.le_of_ble_eq_true rfl) (.inl rfl) rfl rfl rfl (by first | exact hs.zF _ _ | exact Zor_r _ _ | exact hs.zA _ _ | assumption | exact zA _ _ | exact zS _ | exact Zr_not (hs.zA _ _) | exact hs.1.1 _ _ | exact ⟨by omega, by omega⟩) (fun h hs => ?_)
        refine Z_go (f2 := (71, [(2, .int (Zi i154)), (0, .ref o), (1, .int (Zi kk))], [.int (Zi i154)])) (fun _ => rfl) ?_
        refine Z_iret rfl rfl (by first | rfl | decide | exact narrow_b01 (by omega)) ⟨_, hs, ?_⟩
        try dsimp only
        rw [if_neg (by omega)] at hR
        rcases sy154 with ⟨hf, hE⟩ | ⟨hf, g1, g2, g3, g4, o2, c2, F2, g5, g6, g7, g8, g9⟩
        · first
          | (exfalso; omega)
          | (refine ⟨rfl, (pf154.sF hp154.1.2.1), _, _, _, _, _, i154, _, _, rfl, by omega, by omega, (hp154.aa (a154 + 1)), (hd154.oF hne), hz154, by omega, by omega, .inl ⟨by omega, ?_⟩⟩
             rw [hR, hE])
        · obtain ⟨F2, rfl⟩ : ∃ F3, F2 = F3 + 1 := ⟨F2 - 1, by omega⟩
          have hra2 := hp154.r a154 (by omega)
          first
          | (exfalso; omega)
          | (refine ⟨rfl, (pf154.sF hp154.1.2.1), _, _, _, _, _, i154, _, _, rfl, by omega, by omega, (hp154.aa (a154 + 1)), (hd154.oF hne), hz154, by omega, by omega, .inl ⟨by omega, ?_⟩⟩
             rw [hR, g7, P_run_end (by omega)])
          | (have e41 : S a154 = 41 := by omega
             refine ⟨rfl, (pf154.sF hp154.1.2.1), _, _, _, _, _, i154, _, _, rfl, by omega, by omega, (hp154.aa (a154 + 1)), (hd154.oF hne), hz154, by omega, by omega, .inr ⟨by omega, by omega, by omega, by omega, g4, by omega, P_orj o2 c2, F2, ?_, g6, by rw [hR, g7, P_run_close e41], by omega, by rw [N_is.k2 g5]; decide⟩⟩
             have hup := N_is.ups (e := 44 - 4 * kk.toNat) g5 (by omega)
             have e9 : 45 - 4 * kk.toNat = (44 - 4 * kk.toNat) + 1 := by omega
             rw [e9]
             exact ⟨(N_is.r hup).1, (N_is.r hup).2, by rw [if_pos rfl]; exact .inr (.inr hup)⟩)
      · refine Z_go (f2 := (52, [(2, .int (Zi i154)), (0, .ref o), (1, .int (Zi kk))], [.ref o])) (fun _ => rfl) ?_
        refine Z_go (f2 := (53, [(2, .int (Zi i154)), (0, .ref o), (1, .int (Zi kk))], [.int (Zi 1), .ref o])) (fun _ => rfl) ?_
        refine Z_go (f2 := (54, [(2, .int (Zi i154)), (0, .ref o), (1, .int (Zi kk))], [.ref o, .int (Zi 1), .ref o])) (fun _ => rfl) ?_
        refine C_gi rfl hs hp154.1.1 (by decide) (Nat.le_of_ble_eq_true rfl) rfl ?_
        rw [show C_F (v154) o 5 = a154 from (by first | exact hp154.1.2.2.2.2.2.2.2.2.2.1 | exact (if_neg (fun e => absurd e.1 (by assumption))).trans hp154.1.2.2.2.2.2.2.2.2.2.1 | exact (if_neg (fun e => absurd e.2 (by decide))).trans hp154.1.2.2.2.2.2.2.2.2.2.1 | exact (if_neg (fun e => absurd e.2 (by decide))).trans ((if_neg (fun e => absurd e.2 (by decide))).trans hp154.1.2.2.2.2.2.2.2.2.2.1) | exact (if_neg (fun e => absurd e.2 (by decide))).trans ((if_neg (fun e => absurd e.2 (by decide))).trans ((if_neg (fun e => absurd e.2 (by decide))).trans hp154.1.2.2.2.2.2.2.2.2.2.1)))]
        show B_R _ _ (57, [(2, .int (Zi i154)), (0, .ref o), (1, .int (Zi kk))], [.int (Zi a154), .int (Zi 1), .ref o]) _ _ _
        refine C_callV (As := [.int (Zi 1), .int (Zi a154)]) (rest := []) rfl (by decide) rfl (by decide) rfl rfl (by decide +kernel) (Nat.le_of_ble_eq_true rfl) hs hp154.1.1 (C_fail0 _ hp154 (kd := 1) (wh := a154) (by first | exact hs.zF _ _ | exact Zor_r _ _ | exact hs.zA _ _ | assumption | exact zA _ _ | exact zS _ | exact Zr_not (hs.zA _ _) | exact hs.1.1 _ _ | exact ⟨by omega, by omega⟩) (by first | exact hs.zF _ _ | exact Zor_r _ _ | exact hs.zA _ _ | assumption | exact zA _ _ | exact zS _ | exact Zr_not (hs.zA _ _) | exact hs.1.1 _ _ | exact ⟨by omega, by omega⟩)) (fun x h uf nf hs q => ?_)
        obtain ⟨rfl, rfl, rfl⟩ := q
        show B_R _ _ (60, [(2, .int (Zi i154)), (0, .ref o), (1, .int (Zi kk))], []) _ _ _
        refine Z_go (f2 := (61, [(2, .int (Zi i154)), (0, .ref o), (1, .int (Zi kk))], [.ref o])) (fun _ => rfl) ?_
        refine Z_go (f2 := (62, [(2, .int (Zi i154)), (0, .ref o), (1, .int (Zi kk))], [.ref o, .ref o])) (fun _ => rfl) ?_
        refine C_gi rfl hs hp154.1.1 (by decide) (Nat.le_of_ble_eq_true rfl) rfl ?_
        rw [show C_F (C_sF (C_sF v154 o 1 1) o 2 a154) o 5 = a154 from (by first | exact hp154.1.2.2.2.2.2.2.2.2.2.1 | exact (if_neg (fun e => absurd e.1 (by assumption))).trans hp154.1.2.2.2.2.2.2.2.2.2.1 | exact (if_neg (fun e => absurd e.2 (by decide))).trans hp154.1.2.2.2.2.2.2.2.2.2.1 | exact (if_neg (fun e => absurd e.2 (by decide))).trans ((if_neg (fun e => absurd e.2 (by decide))).trans hp154.1.2.2.2.2.2.2.2.2.2.1) | exact (if_neg (fun e => absurd e.2 (by decide))).trans ((if_neg (fun e => absurd e.2 (by decide))).trans ((if_neg (fun e => absurd e.2 (by decide))).trans hp154.1.2.2.2.2.2.2.2.2.2.1)))]
        show B_R _ _ (65, [(2, .int (Zi i154)), (0, .ref o), (1, .int (Zi kk))], [.int (Zi a154), .ref o]) _ _ _
        refine Z_go (f2 := (66, [(2, .int (Zi i154)), (0, .ref o), (1, .int (Zi kk))], [.int (Zi 1), .int (Zi a154), .ref o])) (fun _ => rfl) ?_
        refine Z_iadd rfl ?_
        refine C_pi rfl hs hp154.1.1 (by decide) (Nat.le_of_ble_eq_true rfl) (.inl rfl) rfl rfl rfl (by first | exact hs.zF _ _ | exact Zor_r _ _ | exact hs.zA _ _ | assumption | exact zA _ _ | exact zS _ | exact Zr_not (hs.zA _ _) | exact hs.1.1 _ _ | exact ⟨by omega, by omega⟩) (fun h hs => ?_)
        refine Z_go (f2 := (71, [(2, .int (Zi i154)), (0, .ref o), (1, .int (Zi kk))], [.int (Zi i154)])) (fun _ => rfl) ?_
        refine Z_iret rfl rfl (by first | rfl | decide | exact narrow_b01 (by omega)) ⟨_, hs, ?_⟩
        try dsimp only
        rw [if_neg (by omega)] at hR
        rcases sy154 with ⟨hf, hE⟩ | ⟨hf, g1, g2, g3, g4, o2, c2, F2, g5, g6, g7, g8, g9⟩
        · first
          | (exfalso; omega)
          | (refine ⟨rfl, (((pf154.sF hp154.1.2.1).sF hp154.1.2.1).sF hp154.1.2.1), _, _, _, _, _, i154, _, _, rfl, by omega, by omega, (((hp154.ff 1 (by decide)).pp a154 (by decide)).aa (a154 + 1)), (((hd154.oF hne).oF hne).oF hne), hz154, by omega, by omega, .inl ⟨by omega, ?_⟩⟩
             rw [hR, hE])
        · obtain ⟨F2, rfl⟩ : ∃ F3, F2 = F3 + 1 := ⟨F2 - 1, by omega⟩
          have hra2 := hp154.r a154 (by omega)
          first
          | (exfalso; omega)
          | (refine ⟨rfl, (((pf154.sF hp154.1.2.1).sF hp154.1.2.1).sF hp154.1.2.1), _, _, _, _, _, i154, _, _, rfl, by omega, by omega, (((hp154.ff 1 (by decide)).pp a154 (by decide)).aa (a154 + 1)), (((hd154.oF hne).oF hne).oF hne), hz154, by omega, by omega, .inl ⟨by omega, ?_⟩⟩
             rw [hR, g7, P_run_end (by omega)])
          | (have e41 : S a154 = 41 := by omega
             refine ⟨rfl, (((pf154.sF hp154.1.2.1).sF hp154.1.2.1).sF hp154.1.2.1), _, _, _, _, _, i154, _, _, rfl, by omega, by omega, (((hp154.ff 1 (by decide)).pp a154 (by decide)).aa (a154 + 1)), (((hd154.oF hne).oF hne).oF hne), hz154, by omega, by omega, .inr ⟨by omega, by omega, by omega, by omega, g4, by omega, P_orj o2 c2, F2, ?_, g6, by rw [hR, g7, P_run_close e41], by omega, by rw [N_is.k2 g5]; decide⟩⟩
             have hup := N_is.ups (e := 44 - 4 * kk.toNat) g5 (by omega)
             have e9 : 45 - 4 * kk.toNat = (44 - 4 * kk.toNat) + 1 := by omega
             rw [e9]
             exact ⟨(N_is.r hup).1, (N_is.r hup).2, by rw [if_pos rfl]; exact .inr (.inr hup)⟩)
  · refine Z_go (f2 := (7, [(0, .ref o), (1, .int (Zi kk))], [.ref o])) (fun _ => rfl) ?_
    refine Z_go (f2 := (8, [(0, .ref o), (1, .int (Zi kk))], [.int (Zi 3), .ref o])) (fun _ => rfl) ?_
    refine Z_go (f2 := (9, [(0, .ref o), (1, .int (Zi kk))], [.ref o, .int (Zi 3), .ref o])) (fun _ => rfl) ?_
    refine C_gi rfl hs hp.1.1 (by decide) (Nat.le_of_ble_eq_true rfl) rfl ?_
    rw [show C_F (s) o 5 = a from (by first | exact hp.1.2.2.2.2.2.2.2.2.2.1 | exact (if_neg (fun e => absurd e.1 (by assumption))).trans hp.1.2.2.2.2.2.2.2.2.2.1 | exact (if_neg (fun e => absurd e.2 (by decide))).trans hp.1.2.2.2.2.2.2.2.2.2.1 | exact (if_neg (fun e => absurd e.2 (by decide))).trans ((if_neg (fun e => absurd e.2 (by decide))).trans hp.1.2.2.2.2.2.2.2.2.2.1) | exact (if_neg (fun e => absurd e.2 (by decide))).trans ((if_neg (fun e => absurd e.2 (by decide))).trans ((if_neg (fun e => absurd e.2 (by decide))).trans hp.1.2.2.2.2.2.2.2.2.2.1)))]
    show B_R _ _ (12, [(0, .ref o), (1, .int (Zi kk))], [.int (Zi a), .int (Zi 3), .ref o]) _ _ _
    refine C_callV (As := [.int (Zi 3), .int (Zi a)]) (rest := []) rfl (by decide) rfl (by decide) rfl rfl (by decide +kernel) (Nat.le_of_ble_eq_true rfl) hs hp.1.1 (C_fail0 _ hp (kd := 3) (wh := a) (by first | exact hs.zF _ _ | exact Zor_r _ _ | exact hs.zA _ _ | assumption | exact zA _ _ | exact zS _ | exact Zr_not (hs.zA _ _) | exact hs.1.1 _ _ | exact ⟨by omega, by omega⟩) (by first | exact hs.zF _ _ | exact Zor_r _ _ | exact hs.zA _ _ | assumption | exact zA _ _ | exact zS _ | exact Zr_not (hs.zA _ _) | exact hs.1.1 _ _ | exact ⟨by omega, by omega⟩)) (fun x h uf nf hs q => ?_)
    obtain ⟨rfl, rfl, rfl⟩ := q
    show B_R _ _ (15, [(0, .ref o), (1, .int (Zi kk))], []) _ _ _
    refine Z_go (f2 := (16, [(0, .ref o), (1, .int (Zi kk))], [.int (Zi (-1))])) (fun _ => rfl) ?_
    refine Z_iret rfl rfl (by first | rfl | decide | exact narrow_b01 (by omega)) ⟨_, hs, ?_⟩
    try dsimp only
    rw [if_pos (by omega)] at hR
    refine ⟨rfl, (((D_Pf.refl p s).sF hp.1.2.1).sF hp.1.2.1), _, _, _, _, _, -1, _, _, rfl, by omega, by omega, ((hp.ff 3 (by decide)).pp a (by decide)), ((hd.oF hne).oF hne), hz, by omega, by omega, .inl ⟨by omega, hR⟩⟩
theorem C_atm (d : Nat) {s : C_S} {p : List Nat} {o tr src N : Nat} {S : Int → Int} {nn fo pl a : Int} {A : Nat → Nat} {m sm : Int} {τ : Nat → Int → Int} {β : Int → Int64} {F : Nat} {st : P_K} {R : P_R P_T} {o' : Option P_T} {c : P_T} {kk : Int} (hp : D_P0 s p o tr src N S nn fo 0 pl a) (hd : D_Tr s (p ++ [tr]) tr A m sm τ β) (hz : T_zb τ) (a0 : 0 ≤ a) (an : a < nn) (hm : m ≤ 2 * a + 2) (hsa : sm ≤ a) (k0 : 0 ≤ kk) (k1 : kk ≤ 10) (hk : (st.length : Int) = kk) (hR : R = P_run S (fo ≠ 0) F a ((o', c) :: st)) (hF : nn - a < (F : Int)) (n2 : S a ≠ 124) (n4 : S a ≠ 41) (hA : kk < 10 → K_alt (d + 5) (kk + 1)) : C_ok (d + 7) 41 [.ref o, .int (Zi kk)] s (fun x s2 n => E_post p o tr src N S nn fo A s m sm τ β a (nn + 20 - kk) R (G_a S (fo ≠ 0) nn a m (45 - 4 * kk.toNat) R o' c st) x s2 n) := by
  refine C_enter (M := E_m41) rfl (Nat.le_of_ble_eq_true rfl) (fun h0 h hs => ?_)
  show B_R (d + 6) _ (0, [(0, .ref o), (1, .int (Zi kk))], []) _ _ _
  have hpz := hp.z hs
  have za := hpz.2.2.1
  have zn := hpz.2.2.2.1
  have zfo := hpz.2.2.2.2
  have nn0 := hp.2.2.2.2.1
  have nn1 := hp.2.2.2.2.2
  have hne := hp.ne hd
  have hm0 := hd.1.2.2.2.2.1
  have hm1 := hd.1.2.2.2.2.2.1
  have hsm0 := hd.1.2.2.2.2.2.2.1
  have hsm1 := hd.1.2.2.2.2.2.2.2
  have hra := hp.r a a0
  refine Z_go (f2 := (1, [(0, .ref o), (1, .int (Zi kk))], [.ref o])) (fun _ => rfl) ?_
  refine C_callVR (As := []) (rest := []) rfl (by decide) rfl (by decide) rfl rfl (by decide +kernel) (Nat.le_of_ble_eq_true rfl) hs hp.1.1 (C_peek _ hp (by omega)) (fun x q => ?_)
  obtain rfl := q
  have zpk156 := hp.r a (by omega)
  show B_R _ _ (4, [(0, .ref o), (1, .int (Zi kk))], [.int (Zi (S a))]) _ _ _
  refine Z_go (f2 := (5, [(2, .int (Zi (S a))), (0, .ref o), (1, .int (Zi kk))], [])) (fun _ => rfl) ?_
  refine Z_go (f2 := (6, [(2, .int (Zi (S a))), (0, .ref o), (1, .int (Zi kk))], [.int (Zi (S a))])) (fun _ => rfl) ?_
  rcases (by omega : S a = 36 ∨ S a = 40 ∨ S a = 46 ∨ S a = 91 ∨ S a = 92 ∨ S a = 94 ∨ (S a ≠ 36 ∧ S a ≠ 40 ∧ S a ≠ 46 ∧ S a ≠ 91 ∧ S a ≠ 92 ∧ S a ≠ 94)) with c1 | c1 | c1 | c1 | c1 | c1 | c1
  · refine Z_swk (f2 := (100, [(2, .int (Zi (S a))), (0, .ref o), (1, .int (Zi kk))], [])) c1 (fun _ => rfl) ?_
    refine Z_go (f2 := (101, [(2, .int (Zi (S a))), (0, .ref o), (1, .int (Zi kk))], [.ref o])) (fun _ => rfl) ?_
    refine Z_go (f2 := (102, [(2, .int (Zi (S a))), (0, .ref o), (1, .int (Zi kk))], [.ref o, .ref o])) (fun _ => rfl) ?_
    refine C_gi rfl hs hp.1.1 (by decide) (Nat.le_of_ble_eq_true rfl) rfl ?_
    rw [show C_F (s) o 5 = a from (by first | exact hp.1.2.2.2.2.2.2.2.2.2.1 | exact (if_neg (fun e => absurd e.1 (by assumption))).trans hp.1.2.2.2.2.2.2.2.2.2.1 | exact (if_neg (fun e => absurd e.2 (by decide))).trans hp.1.2.2.2.2.2.2.2.2.2.1 | exact (if_neg (fun e => absurd e.2 (by decide))).trans ((if_neg (fun e => absurd e.2 (by decide))).trans hp.1.2.2.2.2.2.2.2.2.2.1) | exact (if_neg (fun e => absurd e.2 (by decide))).trans ((if_neg (fun e => absurd e.2 (by decide))).trans ((if_neg (fun e => absurd e.2 (by decide))).trans hp.1.2.2.2.2.2.2.2.2.2.1)))]
    show B_R _ _ (105, [(2, .int (Zi (S a))), (0, .ref o), (1, .int (Zi kk))], [.int (Zi a), .ref o]) _ _ _
    refine Z_go (f2 := (106, [(2, .int (Zi (S a))), (0, .ref o), (1, .int (Zi kk))], [.int (Zi 1), .int (Zi a), .ref o])) (fun _ => rfl) ?_
    refine Z_iadd rfl ?_
    refine C_pi rfl hs hp.1.1 (by decide) (Nat.le_of_ble_eq_true rfl) (.inl rfl) rfl rfl rfl (by first | exact hs.zF _ _ | exact Zor_r _ _ | exact hs.zA _ _ | assumption | exact zA _ _ | exact zS _ | exact Zr_not (hs.zA _ _) | exact hs.1.1 _ _ | exact ⟨by omega, by omega⟩) (fun h hs => ?_)
    refine Z_go (f2 := (111, [(2, .int (Zi (S a))), (0, .ref o), (1, .int (Zi kk))], [.ref o])) (fun _ => rfl) ?_
    refine C_gr rfl hs hp.1.1 (by decide) (Nat.le_of_ble_eq_true rfl) rfl hp.1.2.2.1 ?_
    refine Z_go (f2 := (115, [(2, .int (Zi (S a))), (0, .ref o), (1, .int (Zi kk))], [.int (Zi 5), .ref tr])) (fun _ => rfl) ?_
    refine Z_go (f2 := (116, [(2, .int (Zi (S a))), (0, .ref o), (1, .int (Zi kk))], [.int (Zi 1), .int (Zi 5), .ref tr])) (fun _ => rfl) ?_
    have wf157 := hs.1
    refine C_callV (As := [.int (Zi 5), .int (Zi 1)]) (rest := []) rfl (by decide) rfl (by decide) rfl rfl (by decide +kernel) (Nat.le_of_ble_eq_true rfl) hs hd.1.1 (C_newNode _ (hd.oF hne) hz (k := 5) (z := 1) (by first | exact hs.zF _ _ | exact Zor_r _ _ | exact hs.zA _ _ | assumption | exact zA _ _ | exact zS _ | exact Zr_not (hs.zA _ _) | exact hs.1.1 _ _ | exact ⟨by omega, by omega⟩) (by omega) (by omega)) (fun x h v157 n157 hs q => ?_)
    obtain ⟨rfl, fr157, en157, m157, τ157, i157, rfl, ia157, ib157, hd157, hz157, hn157⟩ := q
    have zi157 : Zr i157 := ⟨by omega, by omega⟩
    have hp157 := (hp.aa (a + 1)).sub wf157 fr157
    have pf157 := ((D_Pf.refl p s).sF hp.1.2.1).on fr157 en157
    have hne := hp157.ne hd157
    show B_R _ _ (119, [(2, .int (Zi (S a))), (0, .ref o), (1, .int (Zi kk))], [.int (Zi i157)]) _ _ _
    refine Z_iret rfl rfl (by first | rfl | decide | exact narrow_b01 (by omega)) ⟨_, hs, ?_⟩
    try dsimp only
    obtain ⟨F, rfl⟩ : ∃ F2, F = F2 + 1 := ⟨F - 1, by omega⟩
    rw [P_run_atom (by omega) n2 (by omega) n4] at hR
    obtain ⟨e1, e2, e3⟩ := hn157 (by omega)
    have eP : P_atom S (fo ≠ 0) a = .inr (.inl 3, a + 1) := by
      unfold P_atom
      rw [if_neg (by omega), if_pos (by omega)]
    rw [eP] at hR
    obtain ⟨y1, y2, y3, y4, y5⟩ := N_at_new (d := 44 - 4 * kk.toNat) (At_ok.op (k := 3) (β := β) (β2 := β) (sm2 := sm) (e3.trans (by rw [show (3 : Int) + 2 = 5 from rfl])) rfl (fun d j _ _ _ _ => Iff.rfl)) (P_at_ok eP) hm0 (by omega) hsm0
    have e9 : 45 - 4 * kk.toNat = (44 - 4 * kk.toNat) + 1 := by omega
    refine ⟨rfl, pf157, _, _, _, _, _, i157, _, _, rfl, by omega, by omega, hp157, hd157, hz157, by omega, by omega, .inr ⟨by omega, by omega, by omega, by omega, by rw [e2]; exact y3, by omega, T_atm (.inl 3), F, by rw [e9, e1, e2]; exact y1, by rw [e1]; exact y2, hR, by omega, by rw [e1]; exact y5⟩⟩
  · refine Z_swk (f2 := (64, [(2, .int (Zi (S a))), (0, .ref o), (1, .int (Zi kk))], [])) c1 (fun _ => rfl) ?_
    have hS : S a = 40 := by omega
    refine Z_go (f2 := (65, [(2, .int (Zi (S a))), (0, .ref o), (1, .int (Zi kk))], [.ref o])) (fun _ => rfl) ?_
    refine Z_go (f2 := (66, [(2, .int (Zi (S a))), (0, .ref o), (1, .int (Zi kk))], [.int (Zi kk), .ref o])) (fun _ => rfl) ?_
    have wf158 := hs.1
    refine C_callV (As := [.int (Zi kk)]) (rest := []) rfl (by decide) rfl (by decide) rfl rfl (by decide +kernel) (Nat.le_of_ble_eq_true rfl) hs hp.1.1 (C_grp _ hp hd hz a0 an hm hsa k0 k1 hk hR hF hS hA) (fun x h v158 n158 hs q => ?_)
    obtain ⟨rfl, pg158, f158, pl158, a158, m158, sm158, i158, τ158, β158, rfl, ia158, ib158, hp158, hd158, hz158, ga158, gb158, sy158⟩ := q
    have zi158 : Zr i158 := ⟨by omega, by omega⟩
    have pf158 := (D_Pf.refl p s).tr pg158
    have hne := hp158.ne hd158
    obtain ⟨zzf158, zzp158, zza158, _⟩ := hp158.z hs
    show B_R _ _ (69, [(2, .int (Zi (S a))), (0, .ref o), (1, .int (Zi kk))], [.int (Zi i158)]) _ _ _
    refine Z_iret rfl rfl (by first | rfl | decide | exact narrow_b01 (by omega)) ⟨_, hs, ?_⟩
    try dsimp only
    exact ⟨rfl, pf158, _, _, _, _, _, _, _, _, rfl, ia158, ib158, hp158, hd158, hz158, by omega, by omega, sy158⟩
  · refine Z_swk (f2 := (120, [(2, .int (Zi (S a))), (0, .ref o), (1, .int (Zi kk))], [])) c1 (fun _ => rfl) ?_
    refine Z_go (f2 := (121, [(2, .int (Zi (S a))), (0, .ref o), (1, .int (Zi kk))], [.ref o])) (fun _ => rfl) ?_
    have wf159 := hs.1
    refine C_callV (As := []) (rest := []) rfl (by decide) rfl (by decide) rfl rfl (by decide +kernel) (Nat.le_of_ble_eq_true rfl) hs hp.1.1 (C_dot _ hp hd hz a0 an (by omega) (by omega) (by omega)) (fun x h v159 n159 hs q => ?_)
    obtain ⟨rfl, pg159, f159, pl159, a159, m159, sm159, i159, τ159, β159, rfl, ia159, ib159, hp159, hd159, hz159, ga159, gb159, sy159⟩ := q
    have zi159 : Zr i159 := ⟨by omega, by omega⟩
    have pf159 := (D_Pf.refl p s).tr pg159
    have hne := hp159.ne hd159
    obtain ⟨zzf159, zzp159, zza159, _⟩ := hp159.z hs
    show B_R _ _ (124, [(2, .int (Zi (S a))), (0, .ref o), (1, .int (Zi kk))], [.int (Zi i159)]) _ _ _
    refine Z_iret rfl rfl (by first | rfl | decide | exact narrow_b01 (by omega)) ⟨_, hs, ?_⟩
    try dsimp only
    obtain ⟨F, rfl⟩ : ∃ F2, F = F2 + 1 := ⟨F - 1, by omega⟩
    rw [P_run_atom (by omega) n2 (by omega) n4] at hR
    cases eP : P_atom S (fo ≠ 0) a using P_R_el with
    | bad k w =>
      rw [eP] at sy159 hR
      obtain ⟨q1, q2, q3⟩ := (sy159 : _ ∧ _ ∧ _)
      refine ⟨rfl, pf159, _, _, _, _, _, i159, _, _, rfl, by omega, by omega, hp159, hd159, hz159, by omega, by omega, .inl ⟨by omega, ?_⟩⟩
      rw [hR, q1, q2]
    | ok At b =>
      rw [eP] at sy159 hR
      obtain ⟨q1, q2, q3, q4, q5, q6, q7⟩ := (sy159 : _ ∧ _ ∧ _ ∧ _ ∧ _ ∧ _ ∧ _)
      obtain ⟨y1, y2, y3, y4, y5⟩ := N_at_new (d := 44 - 4 * kk.toNat) q7 (P_at_ok eP) hm0 (by omega) hsm0
      have e9 : 45 - 4 * kk.toNat = (44 - 4 * kk.toNat) + 1 := by omega
      refine ⟨rfl, pf159, _, _, _, _, _, i159, _, _, rfl, by omega, by omega, hp159, hd159, hz159, by omega, by omega, .inr ⟨by omega, by omega, by omega, by omega, by rw [q6]; exact y3, by omega, T_atm At, F, by rw [e9, q5, q6]; exact y1, by rw [q5]; exact y2, by rw [hR, q2], by omega, by rw [q5]; exact y5⟩⟩
  · refine Z_swk (f2 := (70, [(2, .int (Zi (S a))), (0, .ref o), (1, .int (Zi kk))], [])) c1 (fun _ => rfl) ?_
    refine Z_go (f2 := (71, [(2, .int (Zi (S a))), (0, .ref o), (1, .int (Zi kk))], [.ref o])) (fun _ => rfl) ?_
    have wf160 := hs.1
    refine C_callV (As := []) (rest := []) rfl (by decide) rfl (by decide) rfl rfl (by decide +kernel) (Nat.le_of_ble_eq_true rfl) hs hp.1.1 (C_cls _ hp hd hz a0 an (by omega) (by omega) (by omega)) (fun x h v160 n160 hs q => ?_)
    obtain ⟨rfl, pg160, f160, pl160, a160, m160, sm160, i160, τ160, β160, rfl, ia160, ib160, hp160, hd160, hz160, ga160, gb160, sy160⟩ := q
    have zi160 : Zr i160 := ⟨by omega, by omega⟩
    have pf160 := (D_Pf.refl p s).tr pg160
    have hne := hp160.ne hd160
    obtain ⟨zzf160, zzp160, zza160, _⟩ := hp160.z hs
    show B_R _ _ (74, [(2, .int (Zi (S a))), (0, .ref o), (1, .int (Zi kk))], [.int (Zi i160)]) _ _ _
    refine Z_iret rfl rfl (by first | rfl | decide | exact narrow_b01 (by omega)) ⟨_, hs, ?_⟩
    try dsimp only
    obtain ⟨F, rfl⟩ : ∃ F2, F = F2 + 1 := ⟨F - 1, by omega⟩
    rw [P_run_atom (by omega) n2 (by omega) n4] at hR
    cases eP : P_atom S (fo ≠ 0) a using P_R_el with
    | bad k w =>
      rw [eP] at sy160 hR
      obtain ⟨q1, q2, q3⟩ := (sy160 : _ ∧ _ ∧ _)
      refine ⟨rfl, pf160, _, _, _, _, _, i160, _, _, rfl, by omega, by omega, hp160, hd160, hz160, by omega, by omega, .inl ⟨by omega, ?_⟩⟩
      rw [hR, q1, q2]
    | ok At b =>
      rw [eP] at sy160 hR
      obtain ⟨q1, q2, q3, q4, q5, q6, q7⟩ := (sy160 : _ ∧ _ ∧ _ ∧ _ ∧ _ ∧ _ ∧ _)
      obtain ⟨y1, y2, y3, y4, y5⟩ := N_at_new (d := 44 - 4 * kk.toNat) q7 (P_at_ok eP) hm0 (by omega) hsm0
      have e9 : 45 - 4 * kk.toNat = (44 - 4 * kk.toNat) + 1 := by omega
      refine ⟨rfl, pf160, _, _, _, _, _, i160, _, _, rfl, by omega, by omega, hp160, hd160, hz160, by omega, by omega, .inr ⟨by omega, by omega, by omega, by omega, by rw [q6]; exact y3, by omega, T_atm At, F, by rw [e9, q5, q6]; exact y1, by rw [q5]; exact y2, by rw [hR, q2], by omega, by rw [q5]; exact y5⟩⟩
  · refine Z_swk (f2 := (75, [(2, .int (Zi (S a))), (0, .ref o), (1, .int (Zi kk))], [])) c1 (fun _ => rfl) ?_
    refine Z_go (f2 := (76, [(2, .int (Zi (S a))), (0, .ref o), (1, .int (Zi kk))], [.ref o])) (fun _ => rfl) ?_
    have wf161 := hs.1
    refine C_callV (As := []) (rest := []) rfl (by decide) rfl (by decide) rfl rfl (by decide +kernel) (Nat.le_of_ble_eq_true rfl) hs hp.1.1 (C_esc _ hp hd hz a0 an (by omega) (by omega) (by omega)) (fun x h v161 n161 hs q => ?_)
    obtain ⟨rfl, pg161, f161, pl161, a161, m161, sm161, i161, τ161, β161, rfl, ia161, ib161, hp161, hd161, hz161, ga161, gb161, sy161⟩ := q
    have zi161 : Zr i161 := ⟨by omega, by omega⟩
    have pf161 := (D_Pf.refl p s).tr pg161
    have hne := hp161.ne hd161
    obtain ⟨zzf161, zzp161, zza161, _⟩ := hp161.z hs
    show B_R _ _ (79, [(2, .int (Zi (S a))), (0, .ref o), (1, .int (Zi kk))], [.int (Zi i161)]) _ _ _
    refine Z_iret rfl rfl (by first | rfl | decide | exact narrow_b01 (by omega)) ⟨_, hs, ?_⟩
    try dsimp only
    obtain ⟨F, rfl⟩ : ∃ F2, F = F2 + 1 := ⟨F - 1, by omega⟩
    rw [P_run_atom (by omega) n2 (by omega) n4] at hR
    cases eP : P_atom S (fo ≠ 0) a using P_R_el with
    | bad k w =>
      rw [eP] at sy161 hR
      obtain ⟨q1, q2, q3⟩ := (sy161 : _ ∧ _ ∧ _)
      refine ⟨rfl, pf161, _, _, _, _, _, i161, _, _, rfl, by omega, by omega, hp161, hd161, hz161, by omega, by omega, .inl ⟨by omega, ?_⟩⟩
      rw [hR, q1, q2]
    | ok At b =>
      rw [eP] at sy161 hR
      obtain ⟨q1, q2, q3, q4, q5, q6, q7⟩ := (sy161 : _ ∧ _ ∧ _ ∧ _ ∧ _ ∧ _ ∧ _)
      obtain ⟨y1, y2, y3, y4, y5⟩ := N_at_new (d := 44 - 4 * kk.toNat) q7 (P_at_ok eP) hm0 (by omega) hsm0
      have e9 : 45 - 4 * kk.toNat = (44 - 4 * kk.toNat) + 1 := by omega
      refine ⟨rfl, pf161, _, _, _, _, _, i161, _, _, rfl, by omega, by omega, hp161, hd161, hz161, by omega, by omega, .inr ⟨by omega, by omega, by omega, by omega, by rw [q6]; exact y3, by omega, T_atm At, F, by rw [e9, q5, q6]; exact y1, by rw [q5]; exact y2, by rw [hR, q2], by omega, by rw [q5]; exact y5⟩⟩
  · refine Z_swk (f2 := (80, [(2, .int (Zi (S a))), (0, .ref o), (1, .int (Zi kk))], [])) c1 (fun _ => rfl) ?_
    refine Z_go (f2 := (81, [(2, .int (Zi (S a))), (0, .ref o), (1, .int (Zi kk))], [.ref o])) (fun _ => rfl) ?_
    refine Z_go (f2 := (82, [(2, .int (Zi (S a))), (0, .ref o), (1, .int (Zi kk))], [.ref o, .ref o])) (fun _ => rfl) ?_
    refine C_gi rfl hs hp.1.1 (by decide) (Nat.le_of_ble_eq_true rfl) rfl ?_
    rw [show C_F (s) o 5 = a from (by first | exact hp.1.2.2.2.2.2.2.2.2.2.1 | exact (if_neg (fun e => absurd e.1 (by assumption))).trans hp.1.2.2.2.2.2.2.2.2.2.1 | exact (if_neg (fun e => absurd e.2 (by decide))).trans hp.1.2.2.2.2.2.2.2.2.2.1 | exact (if_neg (fun e => absurd e.2 (by decide))).trans ((if_neg (fun e => absurd e.2 (by decide))).trans hp.1.2.2.2.2.2.2.2.2.2.1) | exact (if_neg (fun e => absurd e.2 (by decide))).trans ((if_neg (fun e => absurd e.2 (by decide))).trans ((if_neg (fun e => absurd e.2 (by decide))).trans hp.1.2.2.2.2.2.2.2.2.2.1)))]
    show B_R _ _ (85, [(2, .int (Zi (S a))), (0, .ref o), (1, .int (Zi kk))], [.int (Zi a), .ref o]) _ _ _
    refine Z_go (f2 := (86, [(2, .int (Zi (S a))), (0, .ref o), (1, .int (Zi kk))], [.int (Zi 1), .int (Zi a), .ref o])) (fun _ => rfl) ?_
    refine Z_iadd rfl ?_
    refine C_pi rfl hs hp.1.1 (by decide) (Nat.le_of_ble_eq_true rfl) (.inl rfl) rfl rfl rfl (by first | exact hs.zF _ _ | exact Zor_r _ _ | exact hs.zA _ _ | assumption | exact zA _ _ | exact zS _ | exact Zr_not (hs.zA _ _) | exact hs.1.1 _ _ | exact ⟨by omega, by omega⟩) (fun h hs => ?_)
    refine Z_go (f2 := (91, [(2, .int (Zi (S a))), (0, .ref o), (1, .int (Zi kk))], [.ref o])) (fun _ => rfl) ?_
    refine C_gr rfl hs hp.1.1 (by decide) (Nat.le_of_ble_eq_true rfl) rfl hp.1.2.2.1 ?_
    refine Z_go (f2 := (95, [(2, .int (Zi (S a))), (0, .ref o), (1, .int (Zi kk))], [.int (Zi 4), .ref tr])) (fun _ => rfl) ?_
    refine Z_go (f2 := (96, [(2, .int (Zi (S a))), (0, .ref o), (1, .int (Zi kk))], [.int (Zi 1), .int (Zi 4), .ref tr])) (fun _ => rfl) ?_
    have wf162 := hs.1
    refine C_callV (As := [.int (Zi 4), .int (Zi 1)]) (rest := []) rfl (by decide) rfl (by decide) rfl rfl (by decide +kernel) (Nat.le_of_ble_eq_true rfl) hs hd.1.1 (C_newNode _ (hd.oF hne) hz (k := 4) (z := 1) (by first | exact hs.zF _ _ | exact Zor_r _ _ | exact hs.zA _ _ | assumption | exact zA _ _ | exact zS _ | exact Zr_not (hs.zA _ _) | exact hs.1.1 _ _ | exact ⟨by omega, by omega⟩) (by omega) (by omega)) (fun x h v162 n162 hs q => ?_)
    obtain ⟨rfl, fr162, en162, m162, τ162, i162, rfl, ia162, ib162, hd162, hz162, hn162⟩ := q
    have zi162 : Zr i162 := ⟨by omega, by omega⟩
    have hp162 := (hp.aa (a + 1)).sub wf162 fr162
    have pf162 := ((D_Pf.refl p s).sF hp.1.2.1).on fr162 en162
    have hne := hp162.ne hd162
    show B_R _ _ (99, [(2, .int (Zi (S a))), (0, .ref o), (1, .int (Zi kk))], [.int (Zi i162)]) _ _ _
    refine Z_iret rfl rfl (by first | rfl | decide | exact narrow_b01 (by omega)) ⟨_, hs, ?_⟩
    try dsimp only
    obtain ⟨F, rfl⟩ : ∃ F2, F = F2 + 1 := ⟨F - 1, by omega⟩
    rw [P_run_atom (by omega) n2 (by omega) n4] at hR
    obtain ⟨e1, e2, e3⟩ := hn162 (by omega)
    have eP : P_atom S (fo ≠ 0) a = .inr (.inl 2, a + 1) := by
      unfold P_atom
      rw [if_pos (by omega)]
    rw [eP] at hR
    obtain ⟨y1, y2, y3, y4, y5⟩ := N_at_new (d := 44 - 4 * kk.toNat) (At_ok.op (k := 2) (β := β) (β2 := β) (sm2 := sm) (e3.trans (by rw [show (2 : Int) + 2 = 4 from rfl])) rfl (fun d j _ _ _ _ => Iff.rfl)) (P_at_ok eP) hm0 (by omega) hsm0
    have e9 : 45 - 4 * kk.toNat = (44 - 4 * kk.toNat) + 1 := by omega
    refine ⟨rfl, pf162, _, _, _, _, _, i162, _, _, rfl, by omega, by omega, hp162, hd162, hz162, by omega, by omega, .inr ⟨by omega, by omega, by omega, by omega, by rw [e2]; exact y3, by omega, T_atm (.inl 2), F, by rw [e9, e1, e2]; exact y1, by rw [e1]; exact y2, hR, by omega, by rw [e1]; exact y5⟩⟩
  · refine Z_lswd rfl (by first | exact hs.zF _ _ | exact Zor_r _ _ | exact hs.zA _ _ | assumption | exact zA _ _ | exact zS _ | exact Zr_not (hs.zA _ _) | exact hs.1.1 _ _ | exact ⟨by omega, by omega⟩) (by decide) (by simp; omega) (by rfl) ?_
    show B_R _ _ (125, [(2, .int (Zi (S a))), (0, .ref o), (1, .int (Zi kk))], []) _ _ _
    refine Z_go (f2 := (126, [(2, .int (Zi (S a))), (0, .ref o), (1, .int (Zi kk))], [.ref o])) (fun _ => rfl) ?_
    refine Z_go (f2 := (127, [(2, .int (Zi (S a))), (0, .ref o), (1, .int (Zi kk))], [.int (Zi (S a)), .ref o])) (fun _ => rfl) ?_
    have wf163 := hs.1
    refine C_callV (As := [.int (Zi (S a))]) (rest := []) rfl (by decide) rfl (by decide) rfl rfl (by decide +kernel) (Nat.le_of_ble_eq_true rfl) hs hp.1.1 (C_plain _ hp hd hz a0 an (by omega) (by omega) (by omega) (by omega) (by omega) (by omega) (by omega) (by omega)) (fun x h v163 n163 hs q => ?_)
    obtain ⟨rfl, pg163, f163, pl163, a163, m163, sm163, i163, τ163, β163, rfl, ia163, ib163, hp163, hd163, hz163, ga163, gb163, sy163⟩ := q
    have zi163 : Zr i163 := ⟨by omega, by omega⟩
    have pf163 := (D_Pf.refl p s).tr pg163
    have hne := hp163.ne hd163
    obtain ⟨zzf163, zzp163, zza163, _⟩ := hp163.z hs
    show B_R _ _ (130, [(2, .int (Zi (S a))), (0, .ref o), (1, .int (Zi kk))], [.int (Zi i163)]) _ _ _
    refine Z_iret rfl rfl (by first | rfl | decide | exact narrow_b01 (by omega)) ⟨_, hs, ?_⟩
    try dsimp only
    obtain ⟨F, rfl⟩ : ∃ F2, F = F2 + 1 := ⟨F - 1, by omega⟩
    rw [P_run_atom (by omega) n2 (by omega) n4] at hR
    cases eP : P_atom S (fo ≠ 0) a using P_R_el with
    | bad k w =>
      rw [eP] at sy163 hR
      obtain ⟨q1, q2, q3⟩ := (sy163 : _ ∧ _ ∧ _)
      refine ⟨rfl, pf163, _, _, _, _, _, i163, _, _, rfl, by omega, by omega, hp163, hd163, hz163, by omega, by omega, .inl ⟨by omega, ?_⟩⟩
      rw [hR, q1, q2]
    | ok At b =>
      rw [eP] at sy163 hR
      obtain ⟨q1, q2, q3, q4, q5, q6, q7⟩ := (sy163 : _ ∧ _ ∧ _ ∧ _ ∧ _ ∧ _ ∧ _)
      obtain ⟨y1, y2, y3, y4, y5⟩ := N_at_new (d := 44 - 4 * kk.toNat) q7 (P_at_ok eP) hm0 (by omega) hsm0
      have e9 : 45 - 4 * kk.toNat = (44 - 4 * kk.toNat) + 1 := by omega
      refine ⟨rfl, pf163, _, _, _, _, _, i163, _, _, rfl, by omega, by omega, hp163, hd163, hz163, by omega, by omega, .inr ⟨by omega, by omega, by omega, by omega, by rw [q6]; exact y3, by omega, T_atm At, F, by rw [e9, q5, q6]; exact y1, by rw [q5]; exact y2, by rw [hR, q2], by omega, by rw [q5]; exact y5⟩⟩
